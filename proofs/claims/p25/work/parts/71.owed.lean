/-! ===== what is owed, by the law ===== -/
theorem u_pick {P : Prop} {d : Decidable P} {x b : Nat} (h : P ∧ b = x ∨ ¬ P ∧ b = 0) : @ite Nat P d x 0 = b := by
  rcases h with ⟨h1, h2⟩ | ⟨h1, h2⟩
  · rw [if_pos h1, h2]
  · rw [if_neg h1, h2]
theorem u_ah_no {L : u_L} {q y k : Nat} (h : ¬ (u_pr L (L 6 k) = q ∧ u_mo L (L 6 k) / 12 = y)) : u_ah L q y (k + 1) = u_ah L q y k := by
  show u_ah L q y k + (if u_pr L (L 6 k) = q ∧ u_mo L (L 6 k) / 12 = y then L 4 (L 6 k) else 0) = _
  rw [if_neg h, Nat.add_zero]
theorem u_ah_yes {L : u_L} {q y k : Nat} (h : u_pr L (L 6 k) = q ∧ u_mo L (L 6 k) / 12 = y) : u_ah L q y (k + 1) = u_ah L q y k + L 4 (L 6 k) := by
  show u_ah L q y k + (if u_pr L (L 6 k) = q ∧ u_mo L (L 6 k) / 12 = y then L 4 (L 6 k) else 0) = _
  rw [if_pos h]
theorem u_ow_no {L : u_L} {q a b k : Nat} {on : Option Nat} (h : ¬ u_in L q a b on (L 6 k)) : u_ow L q a b on (k + 1) = u_ow L q a b on k := by
  show u_ow L q a b on k + (if u_in L q a b on (L 6 k) then u_am L q (a / 12) (L 0 2) k else 0) = _
  rw [if_neg h, Nat.add_zero]
theorem u_ow_b {L : u_L} {q a b k t : Nat} {on : Option Nat} (h : u_in L q a b on (L 6 k) ∧ t = u_am L q (a / 12) (L 0 2) k ∨ ¬ u_in L q a b on (L 6 k) ∧ t = 0) : u_ow L q a b on (k + 1) = u_ow L q a b on k + t := by
  show u_ow L q a b on k + (if u_in L q a b on (L 6 k) then u_am L q (a / 12) (L 0 2) k else 0) = _
  rw [u_pick h]
theorem u_mulb {a b : Nat} (ha : a ≤ 50000000) (hb : b ≤ 10000) : a * b < 9223372036854775808 := by
  have := Nat.mul_le_mul ha hb
  omega
theorem u_cutle {a b : Nat} (hb : b ≤ 10000) : a * b / 10000 ≤ a := Nat.div_le_of_le_mul (by rw [Nat.mul_comm 10000 a]; exact Nat.mul_le_mul_left a hb)
set_option maxHeartbeats 8000000 in
set_option maxRecDepth 100000 in
theorem ct_L_owed0 (l : Launch) {G : va_G} {ca : Nat → ClassId} {A : Nat → Prop} {ua : Nat → Nat} {L : u_L} (q a b : Nat) (hq : q < 16) (ha : a < 100) (hb9 : b < 100) (hab : a / 12 = b / 12) {nf nc : Nat} {r : rh_R} {w : rh_Wm} (hlk : lk nf nc r w L) : rh_M l yL_owed wsL_owed ({ frames := 1, cells := 0, slots := 0, locals := 30 } : Room) G ca A [.ref (ua 0), .ref (ua 2), .ref (ua 3), .ref (ua 4), .ref (ua 5), .ref (ua 6), .ref (ua 8), .int (nI q), .int (nI a), .int (nI b), .int (-1)] (u_W G ca ua L) (fun o H => o = some (.long (lN (u_ow L q a b none (L 0 2))))) rh_no 0 0 := by
  have hub := hlk.1.1
  have hn2 := lk_n2 hlk
  have hnc := hlk.1.2.1.2.1.2
  obtain ⟨-, -, -, -, hg1, hg2⟩ := hlk.1.2.2.2.2.2.2 q hq
  refine rh_enter (cc := cL_owed) (maxL := 23) (ret := (some .long)) (by decide) rfl (Nat.le_of_ble_eq_true rfl) ?_
  intro p e s m below meth c ls hx hb hr hml hown hts hlocks hex hin hE hA hU hl
  have hS : va_S A s.heap s.heap [] := va_S.rf
  have hl : lv_has ls 23 [(0, .ref (ua 0)), (1, .ref (ua 2)), (2, .ref (ua 3)), (3, .ref (ua 4)), (4, .ref (ua 5)), (5, .ref (ua 6)), (6, .ref (ua 8)), (7, .int (nI q)), (8, .int (nI a)), (9, .int (nI b)), (10, .int (-1))] := hl
  refine lv_lconst (v := lN 0) hx hb dL_owed_0 rfl ?_
  refine lv_lstore (lv' := [(11, .long (lN 0)), (0, .ref (ua 0)), (1, .ref (ua 2)), (2, .ref (ua 3)), (3, .ref (ua 4)), (4, .ref (ua 5)), (5, .ref (ua 6)), (6, .ref (ua 8)), (7, .int (nI q)), (8, .int (nI a)), (9, .int (nI b)), (10, .int (-1))]) hx hb dL_owed_1 hl (by decide) rfl (fun ls hl => ?_)
  refine lv_iload hx hb dL_owed_3 (lv_at hl 9 rfl) ?_
  refine lv_bipush (v := nI 12) hx hb dL_owed_5 (by decide) ?_
  refine un_div hx hb dL_owed_7 (by omega) (by decide) (by decide) ?_
  refine lv_istore (lv' := [(13, .int (nI (a / 12))), (11, .long (lN 0)), (0, .ref (ua 0)), (1, .ref (ua 2)), (2, .ref (ua 3)), (3, .ref (ua 4)), (4, .ref (ua 5)), (5, .ref (ua 6)), (6, .ref (ua 8)), (7, .int (nI q)), (8, .int (nI a)), (9, .int (nI b)), (10, .int (-1))]) hx hb dL_owed_8 hl (by decide) rfl (fun ls hl => ?_)
  refine lv_iload hx hb dL_owed_10 (lv_at hl 0 rfl) ?_
  refine lv_iload hx hb dL_owed_12 (lv_at hl 11 rfl) ?_
  refine lv_bipush (v := nI 12) hx hb dL_owed_14 (by decide) ?_
  refine un_div hx hb dL_owed_16 (by omega) (by decide) (by decide) ?_
  refine un_cgt (tgt := 321) hx hb dL_owed_17 (by decide) (by omega) (by omega) (fun c1 => (by exfalso; omega)) (fun c1 => ?_)
  refine lv_iconst (v := nI 0) hx hb dL_owed_20 (by decide) ?_
  refine lv_istore (lv' := [(14, .int (nI 0)), (13, .int (nI (a / 12))), (11, .long (lN 0)), (0, .ref (ua 0)), (1, .ref (ua 2)), (2, .ref (ua 3)), (3, .ref (ua 4)), (4, .ref (ua 5)), (5, .ref (ua 6)), (6, .ref (ua 8)), (7, .int (nI q)), (8, .int (nI a)), (9, .int (nI b)), (10, .int (-1))]) hx hb dL_owed_21 hl (by decide) rfl (fun ls hl => ?_)
  refine lv_iconst (v := nI 0) hx hb dL_owed_23 (by decide) ?_
  refine lv_istore (lv' := [(15, .int (nI 0)), (14, .int (nI 0)), (13, .int (nI (a / 12))), (11, .long (lN 0)), (0, .ref (ua 0)), (1, .ref (ua 2)), (2, .ref (ua 3)), (3, .ref (ua 4)), (4, .ref (ua 5)), (5, .ref (ua 6)), (6, .ref (ua 8)), (7, .int (nI q)), (8, .int (nI a)), (9, .int (nI b)), (10, .int (-1))]) hx hb dL_owed_24 hl (by decide) rfl (fun ls hl => ?_)
  have loop26 : ∀ (n : Nat) (j : Nat) (u : Nat) (H : Heap) (locs : List Loc) (ls : Array Slot), L 0 2 + 1 ≤ j + n → j ≤ L 0 2 → u = u_ah L q (a / 12) j → u_W G ca ua L H → va_S A s.heap H locs → lv_has ls 23 [(0, .ref (ua 0)), (1, .ref (ua 2)), (2, .ref (ua 3)), (3, .ref (ua 4)), (4, .ref (ua 5)), (5, .ref (ua 6)), (6, .ref (ua 8)), (7, .int (nI q)), (8, .int (nI a)), (9, .int (nI b)), (10, .int (-1)), (11, .long (lN 0)), (13, .int (nI (a / 12))), (14, .int (nI u)), (15, .int (nI j))] → W p l e ({ frames := 1, cells := 0, slots := 0, locals := 30 } : Room) s m ([.ref (ua 0), .ref (ua 2), .ref (ua 3), .ref (ua 4), .ref (ua 5), .ref (ua 6), .ref (ua 8), .int (nI q), .int (nI a), .int (nI b), .int (-1)] : List Value).toArray below meth c H locs 0 0 (vx_MQ below (rh_Q A (fun o H => o = some (.long (lN (u_ow L q a b none (L 0 2)))))) (rh_XC A rh_no) ([.ref (ua 0), .ref (ua 2), .ref (ua 3), .ref (ua 4), .ref (ua 5), .ref (ua 6), .ref (ua 8), .int (nI q), .int (nI a), .int (nI b), .int (-1)] : List Value).toArray s 0 0 A) (F0 m 26 ls []) := by
    intro n
    induction n with
    | zero => intro j u H locs ls hn hj hu hU hS hl; exfalso; omega
    | succ n ih26 =>
      intro j u H locs ls hn hj hu hU hS hl
      refine lv_iload hx hb dL_owed_26 (lv_at hl 14 rfl) ?_
      refine lv_aload_n hx hb dL_owed_28 rfl (lv_at hl 0 rfl) ?_
      refine lv_iconst (v := nI 2) hx hb dL_owed_29 (by decide) ?_
      have hb30_24 := hub 0 2
      refine un_ald (L := L) hx hb hE hU 0 (by decide) 2 (show 2 < 4 from (by decide)) dL_owed_30 ?_
      refine un_cge (tgt := 88) hx hb dL_owed_31 (by decide) (by omega) (by omega) (fun c2 => ?_) (fun c2 => ?_)
      · have hjf : j = L 0 2 := by omega
        rw [hjf] at hu
        refine lv_iconst (v := nI 0) hx hb dL_owed_88 (by decide) ?_
        refine lv_istore (lv' := [(15, .int (nI 0)), (0, .ref (ua 0)), (1, .ref (ua 2)), (2, .ref (ua 3)), (3, .ref (ua 4)), (4, .ref (ua 5)), (5, .ref (ua 6)), (6, .ref (ua 8)), (7, .int (nI q)), (8, .int (nI a)), (9, .int (nI b)), (10, .int (-1)), (11, .long (lN 0)), (13, .int (nI (a / 12))), (14, .int (nI u))]) hx hb dL_owed_89 hl (by decide) rfl (fun ls hl => ?_)
        refine lv_iconst (v := nI 0) hx hb dL_owed_91 (by decide) ?_
        refine lv_istore (lv' := [(16, .int (nI 0)), (15, .int (nI 0)), (0, .ref (ua 0)), (1, .ref (ua 2)), (2, .ref (ua 3)), (3, .ref (ua 4)), (4, .ref (ua 5)), (5, .ref (ua 6)), (6, .ref (ua 8)), (7, .int (nI q)), (8, .int (nI a)), (9, .int (nI b)), (10, .int (-1)), (11, .long (lN 0)), (13, .int (nI (a / 12))), (14, .int (nI u))]) hx hb dL_owed_92 hl (by decide) rfl (fun ls hl => ?_)
        have loop94 : ∀ (n : Nat) (k : Nat) (ah : Nat) (S : Nat) (H : Heap) (locs : List Loc) (ls : Array Slot), L 0 2 + 1 ≤ k + n → k ≤ L 0 2 → ah = u_ah L q (a / 12) k → S = u_ow L q a b none k → u_W G ca ua L H → va_S A s.heap H locs → lv_has ls 23 [(0, .ref (ua 0)), (1, .ref (ua 2)), (2, .ref (ua 3)), (3, .ref (ua 4)), (4, .ref (ua 5)), (5, .ref (ua 6)), (6, .ref (ua 8)), (7, .int (nI q)), (8, .int (nI a)), (9, .int (nI b)), (10, .int (-1)), (11, .long (lN S)), (13, .int (nI (a / 12))), (14, .int (nI u)), (15, .int (nI ah)), (16, .int (nI k))] → W p l e ({ frames := 1, cells := 0, slots := 0, locals := 30 } : Room) s m ([.ref (ua 0), .ref (ua 2), .ref (ua 3), .ref (ua 4), .ref (ua 5), .ref (ua 6), .ref (ua 8), .int (nI q), .int (nI a), .int (nI b), .int (-1)] : List Value).toArray below meth c H locs 0 0 (vx_MQ below (rh_Q A (fun o H => o = some (.long (lN (u_ow L q a b none (L 0 2)))))) (rh_XC A rh_no) ([.ref (ua 0), .ref (ua 2), .ref (ua 3), .ref (ua 4), .ref (ua 5), .ref (ua 6), .ref (ua 8), .int (nI q), .int (nI a), .int (nI b), .int (-1)] : List Value).toArray s 0 0 A) (F0 m 94 ls []) := by
          intro n
          induction n with
          | zero => intro k ah S H locs ls hn hkk hah hS9 hU hS hl; exfalso; omega
          | succ n ih94 =>
            intro k ah S H locs ls hn hkk hah hS9 hU hS hl
            refine lv_iload hx hb dL_owed_94 (lv_at hl 15 rfl) ?_
            refine lv_aload_n hx hb dL_owed_96 rfl (lv_at hl 0 rfl) ?_
            refine lv_iconst (v := nI 2) hx hb dL_owed_97 (by decide) ?_
            have hb98_42 := hub 0 2
            refine un_ald (L := L) hx hb hE hU 0 (by decide) 2 (show 2 < 4 from (by decide)) dL_owed_98 ?_
            refine un_cge (tgt := 315) hx hb dL_owed_99 (by decide) (by omega) (by omega) (fun c3 => ?_) (fun c3 => ?_)
            · have hkf : k = L 0 2 := by omega
              refine lv_iinc (v := nI ((a / 12) + 1)) (lv' := [(13, .int (nI ((a / 12) + 1))), (0, .ref (ua 0)), (1, .ref (ua 2)), (2, .ref (ua 3)), (3, .ref (ua 4)), (4, .ref (ua 5)), (5, .ref (ua 6)), (6, .ref (ua 8)), (7, .int (nI q)), (8, .int (nI a)), (9, .int (nI b)), (10, .int (-1)), (11, .long (lN S)), (14, .int (nI u)), (15, .int (nI ah)), (16, .int (nI k))]) hx hb dL_owed_315 hl (k := 12) rfl (nI_add (a / 12) 1) (by decide) rfl (fun ls hl => ?_)
              refine lv_goto (tgt := 10) hx hb dL_owed_318 (by decide) ?_
              refine lv_iload hx hb dL_owed_10 (lv_at hl 0 rfl) ?_
              refine lv_iload hx hb dL_owed_12 (lv_at hl 10 rfl) ?_
              refine lv_bipush (v := nI 12) hx hb dL_owed_14 (by decide) ?_
              refine un_div hx hb dL_owed_16 (by omega) (by decide) (by decide) ?_
              refine un_cgt (tgt := 321) hx hb dL_owed_17 (by decide) (by omega) (by omega) (fun c4 => ?_) (fun c4 => (by exfalso; omega))
              refine lv_lload hx hb dL_owed_321 (lv_at hl 12 rfl) ?_
              exact rh_lret hx hb hr hlocks (by rw [hS9, hkf]) hS (by decide) (by decide) dL_owed_323
            · have hk2 : k < L 0 2 := by omega
              obtain ⟨hk1, hk3, hk4, hk5⟩ := lk_k hlk hk2
              obtain ⟨hcp1, hcp2, hcp3, hcp4, hcp5⟩ := lk_c hlk hk1 hk4
              have hah1 := u_ah_le hlk (q := q) (y := a / 12) (n := k) (by omega)
              have hah2 := u_ah_le hlk (q := q) (y := a / 12) (n := L 0 2) (Nat.le_refl _)
              have hst4 : u_st L (L 6 k) ≤ 4 := (hlk.1.2.2.2.2.1 _ hk1).2.1.2
              have hq5 := (hlk.1.2.2.2.2.1 _ hk1).2.2.2.2.2.2
              refine lv_aload hx hb dL_owed_102 (lv_at hl 5 rfl) ?_
              refine lv_iload hx hb dL_owed_104 (lv_at hl 15 rfl) ?_
              have hb106_64 := hub 6 k
              refine un_ald (L := L) hx hb hE hU 6 (by decide) k (show k < 40 from (by omega)) dL_owed_106 ?_
              refine lv_istore (lv' := [(17, .int (nI (L 6 k))), (0, .ref (ua 0)), (1, .ref (ua 2)), (2, .ref (ua 3)), (3, .ref (ua 4)), (4, .ref (ua 5)), (5, .ref (ua 6)), (6, .ref (ua 8)), (7, .int (nI q)), (8, .int (nI a)), (9, .int (nI b)), (10, .int (-1)), (11, .long (lN S)), (13, .int (nI (a / 12))), (14, .int (nI u)), (15, .int (nI ah)), (16, .int (nI k))]) hx hb dL_owed_107 hl (by decide) rfl (fun ls hl => ?_)
              refine lv_aload_n hx hb dL_owed_109 rfl (lv_at hl 3 rfl) ?_
              refine lv_aload_n hx hb dL_owed_110 rfl (lv_at hl 2 rfl) ?_
              refine lv_iload hx hb dL_owed_111 (lv_at hl 0 rfl) ?_
              have hAn : ∀ q : Nat, H.size ≤ q → A q := fun q h => hA q (Nat.le_trans hS.1 h)
              refine rh_call2 (vx_runS (As := [.ref (ua 3), .ref (ua 2), .int (nI (L 6 k))]) (rest := []) ⟨hx, hb, hml, hown, hts⟩ (ct_L_pair l (L 6 k) (by omega) hub) (va_cwS 3 hts gL_owed_L_pair rfl rfl rfl (by decide +kernel) ⟨by decide, by decide⟩) (rh_pre2 hE hS hAn (fun q h => h) hU) rfl rfl hl.1 rfl (lv_room (Nat.le_of_ble_eq_true rfl)) dL_owed_113 ⟨by decide, by decide⟩) hS hAn (fun _ _ _ _ _ hX9 _ _ _ _ _ _ => hX9.elim) (fun o H locs hN9 hz9 hk9 hS => ?_)
              have hN9 := hN9
              subst hN9
              have hk9 := fun q hq => hk9 q hq (Nat.not_le.mpr hq)
              have hU := hU.grow hk9
              refine W.eq (g2 := F0 m 116 ls [.int (nI (u_pr L (L 6 k)))]) rfl ?_
              refine lv_iload hx hb dL_owed_116 (lv_at hl 8 rfl) ?_
              refine un_cne (tgt := 309) hx hb dL_owed_118 (by decide) (by omega) (by omega) (fun c5 => ?_) (fun c5 => ?_)
              · refine lv_iinc (v := nI (k + 1)) (lv' := [(16, .int (nI (k + 1))), (17, .int (nI (L 6 k))), (0, .ref (ua 0)), (1, .ref (ua 2)), (2, .ref (ua 3)), (3, .ref (ua 4)), (4, .ref (ua 5)), (5, .ref (ua 6)), (6, .ref (ua 8)), (7, .int (nI q)), (8, .int (nI a)), (9, .int (nI b)), (10, .int (-1)), (11, .long (lN S)), (13, .int (nI (a / 12))), (14, .int (nI u)), (15, .int (nI ah))]) hx hb dL_owed_309 hl (k := 16) rfl (nI_add k 1) (by decide) rfl (fun ls hl => ?_)
                refine lv_goto (tgt := 94) hx hb dL_owed_312 (by decide) ?_
                exact ih94 (k + 1) ah S _ _ _ (by omega) (by omega) (hah.trans (u_ah_no (by omega)).symm) (hS9.trans (u_ow_no (fun z => absurd z.1 (by omega))).symm) hU hS (lv_sub hl [2, 3, 4, 5, 6, 7, 8, 9, 10, 11, 12, 13, 14, 15, 16, 0] rfl)
              · refine lv_aload_n hx hb dL_owed_121 rfl (lv_at hl 3 rfl) ?_
                refine lv_iload hx hb dL_owed_122 (lv_at hl 0 rfl) ?_
                have hAn : ∀ q : Nat, H.size ≤ q → A q := fun q h => hA q (Nat.le_trans hS.1 h)
                refine rh_call2 (vx_runS (As := [.ref (ua 3), .int (nI (L 6 k))]) (rest := []) ⟨hx, hb, hml, hown, hts⟩ (ct_L_month l (L 6 k) (by omega) hub) (va_cwS 2 hts gL_owed_L_month rfl rfl rfl (by decide +kernel) ⟨by decide, by decide⟩) (rh_pre2 hE hS hAn (fun q h => h) hU) rfl rfl hl.1 rfl (lv_room (Nat.le_of_ble_eq_true rfl)) dL_owed_124 ⟨by decide, by decide⟩) hS hAn (fun _ _ _ _ _ hX9 _ _ _ _ _ _ => hX9.elim) (fun o H locs hN9 hz9 hk9 hS => ?_)
                have hN9 := hN9
                subst hN9
                have hk9 := fun q hq => hk9 q hq (Nat.not_le.mpr hq)
                have hU := hU.grow hk9
                refine W.eq (g2 := F0 m 127 ls [.int (nI (u_mo L (L 6 k)))]) rfl ?_
                refine lv_bipush (v := nI 12) hx hb dL_owed_127 (by decide) ?_
                refine un_div hx hb dL_owed_129 (by omega) (by decide) (by decide) ?_
                refine lv_iload hx hb dL_owed_130 (lv_at hl 13 rfl) ?_
                refine un_cne (tgt := 309) hx hb dL_owed_132 (by decide) (by omega) (by omega) (fun c6 => ?_) (fun c6 => ?_)
                · refine lv_iinc (v := nI (k + 1)) (lv' := [(16, .int (nI (k + 1))), (17, .int (nI (L 6 k))), (0, .ref (ua 0)), (1, .ref (ua 2)), (2, .ref (ua 3)), (3, .ref (ua 4)), (4, .ref (ua 5)), (5, .ref (ua 6)), (6, .ref (ua 8)), (7, .int (nI q)), (8, .int (nI a)), (9, .int (nI b)), (10, .int (-1)), (11, .long (lN S)), (13, .int (nI (a / 12))), (14, .int (nI u)), (15, .int (nI ah))]) hx hb dL_owed_309 hl (k := 16) rfl (nI_add k 1) (by decide) rfl (fun ls hl => ?_)
                  refine lv_goto (tgt := 94) hx hb dL_owed_312 (by decide) ?_
                  exact ih94 (k + 1) ah S _ _ _ (by omega) (by omega) (hah.trans (u_ah_no (by omega)).symm) (hS9.trans (u_ow_no (fun z => absurd z.1 (by omega))).symm) hU hS (lv_sub hl [2, 3, 4, 5, 6, 7, 8, 9, 10, 11, 12, 13, 14, 15, 16, 0] rfl)
                · have jn154_98 : ∀ (i1 : Nat), (L 8 (16 + q) % 2 = 1 ∧ i1 = 1) ∨ (¬ L 8 (16 + q) % 2 = 1 ∧ i1 = 0) → W p l e ({ frames := 1, cells := 0, slots := 0, locals := 30 } : Room) s m ([.ref (ua 0), .ref (ua 2), .ref (ua 3), .ref (ua 4), .ref (ua 5), .ref (ua 6), .ref (ua 8), .int (nI q), .int (nI a), .int (nI b), .int (-1)] : List Value).toArray below meth c H locs 0 0 (vx_MQ below (rh_Q A (fun o H => o = some (.long (lN (u_ow L q a b none (L 0 2)))))) (rh_XC A rh_no) ([.ref (ua 0), .ref (ua 2), .ref (ua 3), .ref (ua 4), .ref (ua 5), .ref (ua 6), .ref (ua 8), .int (nI q), .int (nI a), .int (nI b), .int (-1)] : List Value).toArray s 0 0 A) (F0 m 154 ls [.int (nI i1)]) := by
                    intro i1 hi1
                    refine lv_istore (lv' := [(18, .int (nI i1)), (17, .int (nI (L 6 k))), (0, .ref (ua 0)), (1, .ref (ua 2)), (2, .ref (ua 3)), (3, .ref (ua 4)), (4, .ref (ua 5)), (5, .ref (ua 6)), (6, .ref (ua 8)), (7, .int (nI q)), (8, .int (nI a)), (9, .int (nI b)), (10, .int (-1)), (11, .long (lN S)), (13, .int (nI (a / 12))), (14, .int (nI u)), (15, .int (nI ah)), (16, .int (nI k))]) hx hb dL_owed_154 hl (by decide) rfl (fun ls hl => ?_)
                    have jn191_101 : ∀ (i2 : Nat), (u_ls L q (a / 12) (L 0 2) k ∧ i2 = 1) ∨ (¬ u_ls L q (a / 12) (L 0 2) k ∧ i2 = 0) → i2 ≤ 1 → W p l e ({ frames := 1, cells := 0, slots := 0, locals := 30 } : Room) s m ([.ref (ua 0), .ref (ua 2), .ref (ua 3), .ref (ua 4), .ref (ua 5), .ref (ua 6), .ref (ua 8), .int (nI q), .int (nI a), .int (nI b), .int (-1)] : List Value).toArray below meth c H locs 0 0 (vx_MQ below (rh_Q A (fun o H => o = some (.long (lN (u_ow L q a b none (L 0 2)))))) (rh_XC A rh_no) ([.ref (ua 0), .ref (ua 2), .ref (ua 3), .ref (ua 4), .ref (ua 5), .ref (ua 6), .ref (ua 8), .int (nI q), .int (nI a), .int (nI b), .int (-1)] : List Value).toArray s 0 0 A) (F0 m 191 ls [.int (nI i2)]) := by
                      intro i2 hi2 hi2b
                      refine lv_istore (lv' := [(19, .int (nI i2)), (18, .int (nI i1)), (17, .int (nI (L 6 k))), (0, .ref (ua 0)), (1, .ref (ua 2)), (2, .ref (ua 3)), (3, .ref (ua 4)), (4, .ref (ua 5)), (5, .ref (ua 6)), (6, .ref (ua 8)), (7, .int (nI q)), (8, .int (nI a)), (9, .int (nI b)), (10, .int (-1)), (11, .long (lN S)), (13, .int (nI (a / 12))), (14, .int (nI u)), (15, .int (nI ah)), (16, .int (nI k))]) hx hb dL_owed_191 hl (by decide) rfl (fun ls hl => ?_)
                      have jn224_104 : ∀ (d : Nat), (i2 = 1 ∧ d = L 5 (L 6 k) * (L 8 (16 + q) / 2) / 10000) ∨ (i2 = 0 ∧ d = 0) → d ≤ L 5 (L 6 k) → W p l e ({ frames := 1, cells := 0, slots := 0, locals := 30 } : Room) s m ([.ref (ua 0), .ref (ua 2), .ref (ua 3), .ref (ua 4), .ref (ua 5), .ref (ua 6), .ref (ua 8), .int (nI q), .int (nI a), .int (nI b), .int (-1)] : List Value).toArray below meth c H locs 0 0 (vx_MQ below (rh_Q A (fun o H => o = some (.long (lN (u_ow L q a b none (L 0 2)))))) (rh_XC A rh_no) ([.ref (ua 0), .ref (ua 2), .ref (ua 3), .ref (ua 4), .ref (ua 5), .ref (ua 6), .ref (ua 8), .int (nI q), .int (nI a), .int (nI b), .int (-1)] : List Value).toArray s 0 0 A) (F0 m 224 ls [.long (lN d)]) := by
                        intro d hd hdle
                        refine lv_lstore (lv' := [(20, .long (lN d)), (19, .int (nI i2)), (18, .int (nI i1)), (17, .int (nI (L 6 k))), (0, .ref (ua 0)), (1, .ref (ua 2)), (2, .ref (ua 3)), (3, .ref (ua 4)), (4, .ref (ua 5)), (5, .ref (ua 6)), (6, .ref (ua 8)), (7, .int (nI q)), (8, .int (nI a)), (9, .int (nI b)), (10, .int (-1)), (11, .long (lN S)), (13, .int (nI (a / 12))), (14, .int (nI u)), (15, .int (nI ah)), (16, .int (nI k))]) hx hb dL_owed_224 hl (by decide) rfl (fun ls hl => ?_)
                        have jn275_107 : ∀ (i3 : Nat), ((u_st L (L 6 k) < 4 ∧ a ≤ u_mo L (L 6 k) ∧ u_mo L (L 6 k) ≤ b ∧ ((none : Option Nat) = none ∨ (none : Option Nat) = some (L 6 k))) ∧ i3 = 1) ∨ (¬ (u_st L (L 6 k) < 4 ∧ a ≤ u_mo L (L 6 k) ∧ u_mo L (L 6 k) ≤ b ∧ ((none : Option Nat) = none ∨ (none : Option Nat) = some (L 6 k))) ∧ i3 = 0) → i3 ≤ 1 → ∀ (H : Heap) (locs : List Loc), u_W G ca ua L H → va_S A s.heap H locs → W p l e ({ frames := 1, cells := 0, slots := 0, locals := 30 } : Room) s m ([.ref (ua 0), .ref (ua 2), .ref (ua 3), .ref (ua 4), .ref (ua 5), .ref (ua 6), .ref (ua 8), .int (nI q), .int (nI a), .int (nI b), .int (-1)] : List Value).toArray below meth c H locs 0 0 (vx_MQ below (rh_Q A (fun o H => o = some (.long (lN (u_ow L q a b none (L 0 2)))))) (rh_XC A rh_no) ([.ref (ua 0), .ref (ua 2), .ref (ua 3), .ref (ua 4), .ref (ua 5), .ref (ua 6), .ref (ua 8), .int (nI q), .int (nI a), .int (nI b), .int (-1)] : List Value).toArray s 0 0 A) (F0 m 275 ls [.int (nI i3)]) := by
                          intro i3 hi3 hi3b H locs hU hS
                          refine lv_istore (lv' := [(22, .int (nI i3)), (20, .long (lN d)), (19, .int (nI i2)), (18, .int (nI i1)), (17, .int (nI (L 6 k))), (0, .ref (ua 0)), (1, .ref (ua 2)), (2, .ref (ua 3)), (3, .ref (ua 4)), (4, .ref (ua 5)), (5, .ref (ua 6)), (6, .ref (ua 8)), (7, .int (nI q)), (8, .int (nI a)), (9, .int (nI b)), (10, .int (-1)), (11, .long (lN S)), (13, .int (nI (a / 12))), (14, .int (nI u)), (15, .int (nI ah)), (16, .int (nI k))]) hx hb dL_owed_275 hl (by decide) rfl (fun ls hl => ?_)
                          refine lv_lload hx hb dL_owed_277 (lv_at hl 16 rfl) ?_
                          have jn297_111 : ∀ (t : Nat), (i3 = 1 ∧ t = L 5 (L 6 k) - d) ∨ (i3 = 0 ∧ t = 0) → W p l e ({ frames := 1, cells := 0, slots := 0, locals := 30 } : Room) s m ([.ref (ua 0), .ref (ua 2), .ref (ua 3), .ref (ua 4), .ref (ua 5), .ref (ua 6), .ref (ua 8), .int (nI q), .int (nI a), .int (nI b), .int (-1)] : List Value).toArray below meth c H locs 0 0 (vx_MQ below (rh_Q A (fun o H => o = some (.long (lN (u_ow L q a b none (L 0 2)))))) (rh_XC A rh_no) ([.ref (ua 0), .ref (ua 2), .ref (ua 3), .ref (ua 4), .ref (ua 5), .ref (ua 6), .ref (ua 8), .int (nI q), .int (nI a), .int (nI b), .int (-1)] : List Value).toArray s 0 0 A) (F0 m 297 ls [.long (lN t), .long (lN S)]) := by
                            intro t ht
                            refine lv_ladd hx hb dL_owed_297 ?_
                            refine un_topl (y := lN (S + t)) (lN_add _ _) ?_
                            refine lv_lstore (lv' := [(11, .long (lN (S + t))), (22, .int (nI i3)), (20, .long (lN d)), (19, .int (nI i2)), (18, .int (nI i1)), (17, .int (nI (L 6 k))), (0, .ref (ua 0)), (1, .ref (ua 2)), (2, .ref (ua 3)), (3, .ref (ua 4)), (4, .ref (ua 5)), (5, .ref (ua 6)), (6, .ref (ua 8)), (7, .int (nI q)), (8, .int (nI a)), (9, .int (nI b)), (10, .int (-1)), (13, .int (nI (a / 12))), (14, .int (nI u)), (15, .int (nI ah)), (16, .int (nI k))]) hx hb dL_owed_298 hl (by decide) rfl (fun ls hl => ?_)
                            refine lv_iload hx hb dL_owed_300 (lv_at hl 19 rfl) ?_
                            refine lv_aload_n hx hb dL_owed_302 rfl (lv_at hl 9 rfl) ?_
                            refine lv_iload hx hb dL_owed_303 (lv_at hl 5 rfl) ?_
                            have hb305_119 := hub 4 (L 6 k)
                            refine un_ald (L := L) hx hb hE hU 4 (by decide) (L 6 k) (show (L 6 k) < 40 from (by omega)) dL_owed_305 ?_
                            refine un_add hx hb dL_owed_306 ?_
                            refine lv_istore (lv' := [(15, .int (nI (ah + (L 4 (L 6 k))))), (11, .long (lN (S + t))), (22, .int (nI i3)), (20, .long (lN d)), (19, .int (nI i2)), (18, .int (nI i1)), (17, .int (nI (L 6 k))), (0, .ref (ua 0)), (1, .ref (ua 2)), (2, .ref (ua 3)), (3, .ref (ua 4)), (4, .ref (ua 5)), (5, .ref (ua 6)), (6, .ref (ua 8)), (7, .int (nI q)), (8, .int (nI a)), (9, .int (nI b)), (10, .int (-1)), (13, .int (nI (a / 12))), (14, .int (nI u)), (16, .int (nI k))]) hx hb dL_owed_307 hl (by decide) rfl (fun ls hl => ?_)
                            refine lv_iinc (v := nI (k + 1)) (lv' := [(16, .int (nI (k + 1))), (15, .int (nI (ah + (L 4 (L 6 k))))), (11, .long (lN (S + t))), (22, .int (nI i3)), (20, .long (lN d)), (19, .int (nI i2)), (18, .int (nI i1)), (17, .int (nI (L 6 k))), (0, .ref (ua 0)), (1, .ref (ua 2)), (2, .ref (ua 3)), (3, .ref (ua 4)), (4, .ref (ua 5)), (5, .ref (ua 6)), (6, .ref (ua 8)), (7, .int (nI q)), (8, .int (nI a)), (9, .int (nI b)), (10, .int (-1)), (13, .int (nI (a / 12))), (14, .int (nI u))]) hx hb dL_owed_309 hl (k := 20) rfl (nI_add k 1) (by decide) rfl (fun ls hl => ?_)
                            refine lv_goto (tgt := 94) hx hb dL_owed_312 (by decide) ?_
                            have hdl : u_ls L q (a / 12) (L 0 2) k ∧ d = L 5 (L 6 k) * (L 8 (16 + q) / 2) / 10000 ∨ ¬ u_ls L q (a / 12) (L 0 2) k ∧ d = 0 := by
                              rcases hi2 with ⟨z1, z2⟩ | ⟨z1, z2⟩
                              · exact Or.inl ⟨z1, by omega⟩
                              · exact Or.inr ⟨z1, by omega⟩
                            have ham : u_am L q (a / 12) (L 0 2) k = L 5 (L 6 k) - d := by unfold u_am; rw [u_pick hdl]
                            have htl : u_in L q a b none (L 6 k) ∧ t = u_am L q (a / 12) (L 0 2) k ∨ ¬ u_in L q a b none (L 6 k) ∧ t = 0 := by
                              rcases hi3 with ⟨z1, z2⟩ | ⟨z1, z2⟩
                              · exact Or.inl ⟨⟨⟨by omega, by omega⟩, z1⟩, by rw [ham]; omega⟩
                              · exact Or.inr ⟨fun z => z1 z.2, by omega⟩
                            exact ih94 (k + 1) (ah + (L 4 (L 6 k))) (S + t) _ _ _ (by omega) (by omega) (by rw [hah]; exact (u_ah_yes ⟨by omega, by omega⟩).symm) (by rw [hS9]; exact (u_ow_b htl).symm) hU hS (lv_sub hl [8, 9, 10, 11, 12, 13, 14, 15, 16, 17, 18, 2, 19, 20, 1, 0] rfl)
                          refine lv_iload hx hb dL_owed_279 (lv_at hl 0 rfl) ?_
                          refine un_ieq (tgt := 296) hx hb dL_owed_281 (by decide) (by omega) (fun c7 => ?_) (fun c7 => ?_)
                          · refine lv_lconst (v := lN 0) hx hb dL_owed_296 rfl ?_
                            exact jn297_111 0 (by omega)
                          · refine lv_aload hx hb dL_owed_284 (lv_at hl 9 rfl) ?_
                            refine lv_iload hx hb dL_owed_286 (lv_at hl 4 rfl) ?_
                            have hb288_141 := hub 5 (L 6 k)
                            refine un_ald (L := L) hx hb hE hU 5 (by decide) (L 6 k) (show (L 6 k) < 40 from (by omega)) dL_owed_288 ?_
                            refine lv_i2l (v := lN (L 5 (L 6 k))) hx hb dL_owed_289 (nI_l (by omega)) ?_
                            refine lv_lload hx hb dL_owed_290 (lv_at hl 1 rfl) ?_
                            refine lv_lsub hx hb dL_owed_292 ?_
                            refine un_topl (y := lN (L 5 (L 6 k) - d)) (lN_sub hdle) ?_
                            refine lv_goto (tgt := 297) hx hb dL_owed_293 (by decide) ?_
                            exact jn297_111 (L 5 (L 6 k) - d) (by omega)
                        refine lv_aload_n hx hb dL_owed_226 rfl (lv_at hl 6 rfl) ?_
                        refine lv_iload hx hb dL_owed_227 (lv_at hl 3 rfl) ?_
                        have hAn : ∀ q : Nat, H.size ≤ q → A q := fun q h => hA q (Nat.le_trans hS.1 h)
                        refine rh_call2 (vx_runS (As := [.ref (ua 3), .int (nI (L 6 k))]) (rest := []) ⟨hx, hb, hml, hown, hts⟩ (ct_L_state l (L 6 k) (by omega) hub) (va_cwS 2 hts gL_owed_L_state rfl rfl rfl (by decide +kernel) ⟨by decide, by decide⟩) (rh_pre2 hE hS hAn (fun q h => h) hU) rfl rfl hl.1 rfl (lv_room (Nat.le_of_ble_eq_true rfl)) dL_owed_229 ⟨by decide, by decide⟩) hS hAn (fun _ _ _ _ _ hX9 _ _ _ _ _ _ => hX9.elim) (fun o H locs hN9 hz9 hk9 hS => ?_)
                        have hN9 := hN9
                        subst hN9
                        have hk9 := fun q hq => hk9 q hq (Nat.not_le.mpr hq)
                        have hU := hU.grow hk9
                        refine W.eq (g2 := F0 m 232 ls [.int (nI (u_st L (L 6 k)))]) rfl ?_
                        refine lv_iconst (v := nI 4) hx hb dL_owed_232 (by decide) ?_
                        refine un_cge (tgt := 274) hx hb dL_owed_233 (by decide) (by omega) (by decide) (fun c8 => ?_) (fun c8 => ?_)
                        · refine lv_iconst (v := nI 0) hx hb dL_owed_274 (by decide) ?_
                          exact jn275_107 0 (Or.inr ⟨fun z => (by rcases z with ⟨z1, z2, z3, z4 | z4⟩ <;> first | omega | (have z5 := Option.some.inj z4; omega) | cases z4), rfl⟩) (by omega) _ _ hU hS
                        · refine lv_aload_n hx hb dL_owed_236 rfl (lv_at hl 6 rfl) ?_
                          refine lv_iload hx hb dL_owed_237 (lv_at hl 3 rfl) ?_
                          have hAn : ∀ q : Nat, H.size ≤ q → A q := fun q h => hA q (Nat.le_trans hS.1 h)
                          refine rh_call2 (vx_runS (As := [.ref (ua 3), .int (nI (L 6 k))]) (rest := []) ⟨hx, hb, hml, hown, hts⟩ (ct_L_month l (L 6 k) (by omega) hub) (va_cwS 2 hts gL_owed_L_month rfl rfl rfl (by decide +kernel) ⟨by decide, by decide⟩) (rh_pre2 hE hS hAn (fun q h => h) hU) rfl rfl hl.1 rfl (lv_room (Nat.le_of_ble_eq_true rfl)) dL_owed_239 ⟨by decide, by decide⟩) hS hAn (fun _ _ _ _ _ hX9 _ _ _ _ _ _ => hX9.elim) (fun o H locs hN9 hz9 hk9 hS => ?_)
                          have hN9 := hN9
                          subst hN9
                          have hk9 := fun q hq => hk9 q hq (Nat.not_le.mpr hq)
                          have hU := hU.grow hk9
                          refine W.eq (g2 := F0 m 242 ls [.int (nI (u_mo L (L 6 k)))]) rfl ?_
                          refine lv_iload hx hb dL_owed_242 (lv_at hl 12 rfl) ?_
                          refine un_clt (tgt := 274) hx hb dL_owed_244 (by decide) (by omega) (by omega) (fun c9 => ?_) (fun c9 => ?_)
                          · refine lv_iconst (v := nI 0) hx hb dL_owed_274 (by decide) ?_
                            exact jn275_107 0 (Or.inr ⟨fun z => (by rcases z with ⟨z1, z2, z3, z4 | z4⟩ <;> first | omega | (have z5 := Option.some.inj z4; omega) | cases z4), rfl⟩) (by omega) _ _ hU hS
                          · refine lv_aload_n hx hb dL_owed_247 rfl (lv_at hl 6 rfl) ?_
                            refine lv_iload hx hb dL_owed_248 (lv_at hl 3 rfl) ?_
                            have hAn : ∀ q : Nat, H.size ≤ q → A q := fun q h => hA q (Nat.le_trans hS.1 h)
                            refine rh_call2 (vx_runS (As := [.ref (ua 3), .int (nI (L 6 k))]) (rest := []) ⟨hx, hb, hml, hown, hts⟩ (ct_L_month l (L 6 k) (by omega) hub) (va_cwS 2 hts gL_owed_L_month rfl rfl rfl (by decide +kernel) ⟨by decide, by decide⟩) (rh_pre2 hE hS hAn (fun q h => h) hU) rfl rfl hl.1 rfl (lv_room (Nat.le_of_ble_eq_true rfl)) dL_owed_250 ⟨by decide, by decide⟩) hS hAn (fun _ _ _ _ _ hX9 _ _ _ _ _ _ => hX9.elim) (fun o H locs hN9 hz9 hk9 hS => ?_)
                            have hN9 := hN9
                            subst hN9
                            have hk9 := fun q hq => hk9 q hq (Nat.not_le.mpr hq)
                            have hU := hU.grow hk9
                            refine W.eq (g2 := F0 m 253 ls [.int (nI (u_mo L (L 6 k)))]) rfl ?_
                            refine lv_iload hx hb dL_owed_253 (lv_at hl 13 rfl) ?_
                            refine un_cgt (tgt := 274) hx hb dL_owed_255 (by decide) (by omega) (by omega) (fun c10 => ?_) (fun c10 => ?_)
                            · refine lv_iconst (v := nI 0) hx hb dL_owed_274 (by decide) ?_
                              exact jn275_107 0 (Or.inr ⟨fun z => (by rcases z with ⟨z1, z2, z3, z4 | z4⟩ <;> first | omega | (have z5 := Option.some.inj z4; omega) | cases z4), rfl⟩) (by omega) _ _ hU hS
                            · refine lv_iload hx hb dL_owed_258 (lv_at hl 14 rfl) ?_
                              refine lv_if_lt (tgt := 270) hx hb dL_owed_260 (by decide) (fun c11 => ?_) (fun c11 => absurd (show (-1 : Int32) < 0 by decide) c11)
                              refine lv_iconst (v := nI 1) hx hb dL_owed_270 (by decide) ?_
                              refine lv_goto (tgt := 275) hx hb dL_owed_271 (by decide) ?_
                              exact jn275_107 1 (Or.inl ⟨⟨by omega, by omega, by omega, Or.inl rfl⟩, rfl⟩) (by omega) _ _ hU hS
                      refine lv_iload hx hb dL_owed_193 (lv_at hl 0 rfl) ?_
                      refine un_ieq (tgt := 223) hx hb dL_owed_195 (by decide) (by omega) (fun c12 => ?_) (fun c12 => ?_)
                      · refine lv_lconst (v := lN 0) hx hb dL_owed_223 rfl ?_
                        exact jn224_104 0 (by omega) (Nat.zero_le _)
                      · refine lv_aload hx hb dL_owed_198 (lv_at hl 7 rfl) ?_
                        refine lv_iload hx hb dL_owed_200 (lv_at hl 2 rfl) ?_
                        have hb202_199 := hub 5 (L 6 k)
                        refine un_ald (L := L) hx hb hE hU 5 (by decide) (L 6 k) (show (L 6 k) < 40 from (by omega)) dL_owed_202 ?_
                        refine lv_i2l (v := lN (L 5 (L 6 k))) hx hb dL_owed_203 (nI_l (by omega)) ?_
                        refine lv_aload hx hb dL_owed_204 (lv_at hl 9 rfl) ?_
                        refine lv_bipush (v := nI 16) hx hb dL_owed_206 (by decide) ?_
                        refine lv_iload hx hb dL_owed_208 (lv_at hl 10 rfl) ?_
                        refine un_add hx hb dL_owed_210 ?_
                        have hb211_206 := hub 8 (16 + q)
                        refine un_ald (L := L) hx hb hE hU 8 (by decide) (16 + q) (show (16 + q) < 48 from (by omega)) dL_owed_211 ?_
                        refine lv_iconst (v := nI 2) hx hb dL_owed_212 (by decide) ?_
                        refine un_div hx hb dL_owed_213 (by omega) (by decide) (by decide) ?_
                        refine lv_i2l (v := lN ((L 8 (16 + q)) / 2)) hx hb dL_owed_214 (nI_l (by omega)) ?_
                        refine lv_lmul hx hb dL_owed_215 ?_
                        refine lv_ldc2 (v := 10000) hx hb hown (hts (.constantLong RL 25 (10000)) (by decide +kernel)) dL_owed_216 ?_
                        refine lv_ldiv hx hb dL_owed_219 (by decide) ?_
                        refine un_topl (y := lN (L 5 (L 6 k) * (L 8 (16 + q) / 2) / 10000)) (by rw [lN_mul, show (10000 : Int64) = lN 10000 from rfl, lN_div (u_mulb hq5 (by omega)) (by decide) (by decide)]) ?_
                        refine lv_goto (tgt := 224) hx hb dL_owed_220 (by decide) ?_
                        exact jn224_104 (L 5 (L 6 k) * (L 8 (16 + q) / 2) / 10000) (by omega) (u_cutle (by omega))
                    refine lv_aload hx hb dL_owed_156 (lv_at hl 8 rfl) ?_
                    refine lv_iload hx hb dL_owed_158 (lv_at hl 9 rfl) ?_
                    have hb160_219 := hub 8 q
                    refine un_ald (L := L) hx hb hE hU 8 (by decide) q (show q < 48 from (by omega)) dL_owed_160 ?_
                    refine un_ile (tgt := 190) hx hb dL_owed_161 (by decide) (by omega) (fun c13 => ?_) (fun c13 => ?_)
                    · refine lv_iconst (v := nI 0) hx hb dL_owed_190 (by decide) ?_
                      exact jn191_101 0 (Or.inr ⟨fun z => (by have z1 := z.1; have z2 := z.2; split at z2 <;> omega), rfl⟩) (by omega)
                    · refine lv_iload hx hb dL_owed_164 (lv_at hl 0 rfl) ?_
                      refine un_ieq (tgt := 174) hx hb dL_owed_166 (by decide) (by omega) (fun c14 => ?_) (fun c14 => ?_)
                      · refine lv_iload hx hb dL_owed_174 (lv_at hl 16 rfl) ?_
                        refine lv_aload hx hb dL_owed_176 (lv_at hl 8 rfl) ?_
                        refine lv_iload hx hb dL_owed_178 (lv_at hl 9 rfl) ?_
                        have hb180_229 := hub 8 q
                        refine un_ald (L := L) hx hb hE hU 8 (by decide) q (show q < 48 from (by omega)) dL_owed_180 ?_
                        refine lv_iconst (v := nI 1) hx hb dL_owed_181 (by decide) ?_
                        refine un_sub hx hb dL_owed_182 (by omega) ?_
                        refine un_clt (tgt := 190) hx hb dL_owed_183 (by decide) (by omega) (by omega) (fun c15 => ?_) (fun c15 => ?_)
                        · refine lv_iconst (v := nI 0) hx hb dL_owed_190 (by decide) ?_
                          exact jn191_101 0 (Or.inr ⟨fun z => (by have z1 := z.1; have z2 := z.2; split at z2 <;> omega), rfl⟩) (by omega)
                        · refine lv_iconst (v := nI 1) hx hb dL_owed_186 (by decide) ?_
                          refine lv_goto (tgt := 191) hx hb dL_owed_187 (by decide) ?_
                          exact jn191_101 1 (Or.inl ⟨⟨by omega, by (split <;> omega)⟩, rfl⟩) (by omega)
                      · refine lv_iload hx hb dL_owed_169 (lv_at hl 15 rfl) ?_
                        refine lv_goto (tgt := 176) hx hb dL_owed_171 (by decide) ?_
                        refine lv_aload hx hb dL_owed_176 (lv_at hl 8 rfl) ?_
                        refine lv_iload hx hb dL_owed_178 (lv_at hl 9 rfl) ?_
                        have hb180_243 := hub 8 q
                        refine un_ald (L := L) hx hb hE hU 8 (by decide) q (show q < 48 from (by omega)) dL_owed_180 ?_
                        refine lv_iconst (v := nI 1) hx hb dL_owed_181 (by decide) ?_
                        refine un_sub hx hb dL_owed_182 (by omega) ?_
                        refine un_clt (tgt := 190) hx hb dL_owed_183 (by decide) (by omega) (by omega) (fun c16 => ?_) (fun c16 => ?_)
                        · refine lv_iconst (v := nI 0) hx hb dL_owed_190 (by decide) ?_
                          exact jn191_101 0 (Or.inr ⟨fun z => (by have z1 := z.1; have z2 := z.2; split at z2 <;> omega), rfl⟩) (by omega)
                        · refine lv_iconst (v := nI 1) hx hb dL_owed_186 (by decide) ?_
                          refine lv_goto (tgt := 191) hx hb dL_owed_187 (by decide) ?_
                          exact jn191_101 1 (Or.inl ⟨⟨by omega, by (split <;> omega)⟩, rfl⟩) (by omega)
                  refine lv_aload hx hb dL_owed_135 (lv_at hl 7 rfl) ?_
                  refine lv_bipush (v := nI 16) hx hb dL_owed_137 (by decide) ?_
                  refine lv_iload hx hb dL_owed_139 (lv_at hl 8 rfl) ?_
                  refine un_add hx hb dL_owed_141 ?_
                  have hb142_257 := hub 8 (16 + q)
                  refine un_ald (L := L) hx hb hE hU 8 (by decide) (16 + q) (show (16 + q) < 48 from (by omega)) dL_owed_142 ?_
                  refine lv_iconst (v := nI 2) hx hb dL_owed_143 (by decide) ?_
                  refine un_rem hx hb dL_owed_144 (by omega) (by decide) (by decide) ?_
                  refine lv_iconst (v := nI 1) hx hb dL_owed_145 (by decide) ?_
                  refine un_cne (tgt := 153) hx hb dL_owed_146 (by decide) (by omega) (by decide) (fun c17 => ?_) (fun c17 => ?_)
                  · refine lv_iconst (v := nI 0) hx hb dL_owed_153 (by decide) ?_
                    exact jn154_98 0 (by omega)
                  · refine lv_iconst (v := nI 1) hx hb dL_owed_149 (by decide) ?_
                    refine lv_goto (tgt := 154) hx hb dL_owed_150 (by decide) ?_
                    exact jn154_98 1 (by omega)
        exact loop94 (L 0 2 + 1) 0 0 0 _ _ _ (by omega) (by omega) rfl rfl hU hS (lv_sub hl [2, 3, 4, 5, 6, 7, 8, 9, 10, 11, 12, 13, 14, 15, 1, 0] rfl)
      · have hj2 : j < L 0 2 := by omega
        obtain ⟨hk1, hk2, hk3, hk4⟩ := lk_k hlk hj2
        obtain ⟨hcp1, hcp2, hcp3, hcp4, hcp5⟩ := lk_c hlk hk1 hk3
        refine lv_iload hx hb dL_owed_34 (lv_at hl 13 rfl) ?_
        have jn79_273 : ∀ (b1 : Nat), (u_pr L (L 6 j) = q ∧ u_mo L (L 6 j) / 12 = a / 12) ∧ b1 = L 4 (L 6 j) ∨ ¬ (u_pr L (L 6 j) = q ∧ u_mo L (L 6 j) / 12 = a / 12) ∧ b1 = 0 → ∀ (H : Heap) (locs : List Loc), u_W G ca ua L H → va_S A s.heap H locs → W p l e ({ frames := 1, cells := 0, slots := 0, locals := 30 } : Room) s m ([.ref (ua 0), .ref (ua 2), .ref (ua 3), .ref (ua 4), .ref (ua 5), .ref (ua 6), .ref (ua 8), .int (nI q), .int (nI a), .int (nI b), .int (-1)] : List Value).toArray below meth c H locs 0 0 (vx_MQ below (rh_Q A (fun o H => o = some (.long (lN (u_ow L q a b none (L 0 2)))))) (rh_XC A rh_no) ([.ref (ua 0), .ref (ua 2), .ref (ua 3), .ref (ua 4), .ref (ua 5), .ref (ua 6), .ref (ua 8), .int (nI q), .int (nI a), .int (nI b), .int (-1)] : List Value).toArray s 0 0 A) (F0 m 79 ls [.int (nI b1), .int (nI u)]) := by
          intro b1 hb1 H locs hU hS
          refine un_add hx hb dL_owed_79 ?_
          refine lv_istore (lv' := [(14, .int (nI (u + b1))), (0, .ref (ua 0)), (1, .ref (ua 2)), (2, .ref (ua 3)), (3, .ref (ua 4)), (4, .ref (ua 5)), (5, .ref (ua 6)), (6, .ref (ua 8)), (7, .int (nI q)), (8, .int (nI a)), (9, .int (nI b)), (10, .int (-1)), (11, .long (lN 0)), (13, .int (nI (a / 12))), (15, .int (nI j))]) hx hb dL_owed_80 hl (by decide) rfl (fun ls hl => ?_)
          refine lv_iinc (v := nI (j + 1)) (lv' := [(15, .int (nI (j + 1))), (14, .int (nI (u + b1))), (0, .ref (ua 0)), (1, .ref (ua 2)), (2, .ref (ua 3)), (3, .ref (ua 4)), (4, .ref (ua 5)), (5, .ref (ua 6)), (6, .ref (ua 8)), (7, .int (nI q)), (8, .int (nI a)), (9, .int (nI b)), (10, .int (-1)), (11, .long (lN 0)), (13, .int (nI (a / 12)))]) hx hb dL_owed_82 hl (k := 14) rfl (nI_add j 1) (by decide) rfl (fun ls hl => ?_)
          refine lv_goto (tgt := 26) hx hb dL_owed_85 (by decide) ?_
          exact ih26 (j + 1) (u + b1) _ _ _ (by omega) (by omega) (by rw [hu, ← u_pick hb1]; rfl) hU hS (lv_sub hl [2, 3, 4, 5, 6, 7, 8, 9, 10, 11, 12, 13, 14, 1, 0] rfl)
        refine lv_aload_n hx hb dL_owed_36 rfl (lv_at hl 2 rfl) ?_
        refine lv_aload_n hx hb dL_owed_37 rfl (lv_at hl 1 rfl) ?_
        refine lv_aload hx hb dL_owed_38 (lv_at hl 5 rfl) ?_
        refine lv_iload hx hb dL_owed_40 (lv_at hl 14 rfl) ?_
        have hb42_284 := hub 6 j
        refine un_ald (L := L) hx hb hE hU 6 (by decide) j (show j < 40 from (by omega)) dL_owed_42 ?_
        have hAn : ∀ q : Nat, H.size ≤ q → A q := fun q h => hA q (Nat.le_trans hS.1 h)
        refine rh_call2 (vx_runS (As := [.ref (ua 3), .ref (ua 2), .int (nI (L 6 j))]) (rest := [.int (nI u)]) ⟨hx, hb, hml, hown, hts⟩ (ct_L_pair l (L 6 j) (by omega) hub) (va_cwS 3 hts gL_owed_L_pair rfl rfl rfl (by decide +kernel) ⟨by decide, by decide⟩) (rh_pre2 hE hS hAn (fun q h => h) hU) rfl rfl hl.1 rfl (lv_room (Nat.le_of_ble_eq_true rfl)) dL_owed_43 ⟨by decide, by decide⟩) hS hAn (fun _ _ _ _ _ hX9 _ _ _ _ _ _ => hX9.elim) (fun o H locs hN9 hz9 hk9 hS => ?_)
        have hN9 := hN9
        subst hN9
        have hk9 := fun q hq => hk9 q hq (Nat.not_le.mpr hq)
        have hU := hU.grow hk9
        refine W.eq (g2 := F0 m 46 ls [.int (nI (u_pr L (L 6 j))), .int (nI u)]) rfl ?_
        refine lv_iload hx hb dL_owed_46 (lv_at hl 7 rfl) ?_
        refine un_cne (tgt := 78) hx hb dL_owed_48 (by decide) (by omega) (by omega) (fun c18 => ?_) (fun c18 => ?_)
        · refine lv_iconst (v := nI 0) hx hb dL_owed_78 (by decide) ?_
          exact jn79_273 0 (by omega) _ _ hU hS
        · refine lv_aload_n hx hb dL_owed_51 rfl (lv_at hl 2 rfl) ?_
          refine lv_aload hx hb dL_owed_52 (lv_at hl 5 rfl) ?_
          refine lv_iload hx hb dL_owed_54 (lv_at hl 14 rfl) ?_
          have hb56_300 := hub 6 j
          refine un_ald (L := L) hx hb hE hU 6 (by decide) j (show j < 40 from (by omega)) dL_owed_56 ?_
          have hAn : ∀ q : Nat, H.size ≤ q → A q := fun q h => hA q (Nat.le_trans hS.1 h)
          refine rh_call2 (vx_runS (As := [.ref (ua 3), .int (nI (L 6 j))]) (rest := [.int (nI u)]) ⟨hx, hb, hml, hown, hts⟩ (ct_L_month l (L 6 j) (by omega) hub) (va_cwS 2 hts gL_owed_L_month rfl rfl rfl (by decide +kernel) ⟨by decide, by decide⟩) (rh_pre2 hE hS hAn (fun q h => h) hU) rfl rfl hl.1 rfl (lv_room (Nat.le_of_ble_eq_true rfl)) dL_owed_57 ⟨by decide, by decide⟩) hS hAn (fun _ _ _ _ _ hX9 _ _ _ _ _ _ => hX9.elim) (fun o H locs hN9 hz9 hk9 hS => ?_)
          have hN9 := hN9
          subst hN9
          have hk9 := fun q hq => hk9 q hq (Nat.not_le.mpr hq)
          have hU := hU.grow hk9
          refine W.eq (g2 := F0 m 60 ls [.int (nI (u_mo L (L 6 j))), .int (nI u)]) rfl ?_
          refine lv_bipush (v := nI 12) hx hb dL_owed_60 (by decide) ?_
          refine un_div hx hb dL_owed_62 (by omega) (by decide) (by decide) ?_
          refine lv_iload hx hb dL_owed_63 (lv_at hl 12 rfl) ?_
          refine un_cne (tgt := 78) hx hb dL_owed_65 (by decide) (by omega) (by omega) (fun c19 => ?_) (fun c19 => ?_)
          · refine lv_iconst (v := nI 0) hx hb dL_owed_78 (by decide) ?_
            exact jn79_273 0 (by omega) _ _ hU hS
          · refine lv_aload_n hx hb dL_owed_68 rfl (lv_at hl 3 rfl) ?_
            refine lv_aload hx hb dL_owed_69 (lv_at hl 5 rfl) ?_
            refine lv_iload hx hb dL_owed_71 (lv_at hl 14 rfl) ?_
            have hb73_318 := hub 6 j
            refine un_ald (L := L) hx hb hE hU 6 (by decide) j (show j < 40 from (by omega)) dL_owed_73 ?_
            have hb74_320 := hub 4 (L 6 j)
            refine un_ald (L := L) hx hb hE hU 4 (by decide) (L 6 j) (show (L 6 j) < 40 from (by omega)) dL_owed_74 ?_
            refine lv_goto (tgt := 79) hx hb dL_owed_75 (by decide) ?_
            exact jn79_273 (L 4 (L 6 j)) (by omega) _ _ hU hS
  exact loop26 (L 0 2 + 1) 0 0 _ _ _ (by omega) (by omega) rfl hU hS (lv_sub hl [4, 5, 6, 7, 8, 9, 10, 11, 12, 13, 14, 3, 2, 1, 0] rfl)
set_option maxHeartbeats 8000000 in
set_option maxRecDepth 100000 in
theorem ct_L_owed1 (l : Launch) {G : va_G} {ca : Nat → ClassId} {A : Nat → Prop} {ua : Nat → Nat} {L : u_L} (q a b : Nat) (j0 : Nat) (hq : q < 16) (ha : a < 100) (hb9 : b < 100) (hab : a / 12 = b / 12) (hj0 : j0 < 40) {nf nc : Nat} {r : rh_R} {w : rh_Wm} (hlk : lk nf nc r w L) : rh_M l yL_owed wsL_owed ({ frames := 1, cells := 0, slots := 0, locals := 30 } : Room) G ca A [.ref (ua 0), .ref (ua 2), .ref (ua 3), .ref (ua 4), .ref (ua 5), .ref (ua 6), .ref (ua 8), .int (nI q), .int (nI a), .int (nI b), .int (nI j0)] (u_W G ca ua L) (fun o H => o = some (.long (lN (u_ow L q a b (some j0) (L 0 2))))) rh_no 0 0 := by
  have hub := hlk.1.1
  have hn2 := lk_n2 hlk
  have hnc := hlk.1.2.1.2.1.2
  obtain ⟨-, -, -, -, hg1, hg2⟩ := hlk.1.2.2.2.2.2.2 q hq
  refine rh_enter (cc := cL_owed) (maxL := 23) (ret := (some .long)) (by decide) rfl (Nat.le_of_ble_eq_true rfl) ?_
  intro p e s m below meth c ls hx hb hr hml hown hts hlocks hex hin hE hA hU hl
  have hS : va_S A s.heap s.heap [] := va_S.rf
  have hl : lv_has ls 23 [(0, .ref (ua 0)), (1, .ref (ua 2)), (2, .ref (ua 3)), (3, .ref (ua 4)), (4, .ref (ua 5)), (5, .ref (ua 6)), (6, .ref (ua 8)), (7, .int (nI q)), (8, .int (nI a)), (9, .int (nI b)), (10, .int (nI j0))] := hl
  refine lv_lconst (v := lN 0) hx hb dL_owed_0 rfl ?_
  refine lv_lstore (lv' := [(11, .long (lN 0)), (0, .ref (ua 0)), (1, .ref (ua 2)), (2, .ref (ua 3)), (3, .ref (ua 4)), (4, .ref (ua 5)), (5, .ref (ua 6)), (6, .ref (ua 8)), (7, .int (nI q)), (8, .int (nI a)), (9, .int (nI b)), (10, .int (nI j0))]) hx hb dL_owed_1 hl (by decide) rfl (fun ls hl => ?_)
  refine lv_iload hx hb dL_owed_3 (lv_at hl 9 rfl) ?_
  refine lv_bipush (v := nI 12) hx hb dL_owed_5 (by decide) ?_
  refine un_div hx hb dL_owed_7 (by omega) (by decide) (by decide) ?_
  refine lv_istore (lv' := [(13, .int (nI (a / 12))), (11, .long (lN 0)), (0, .ref (ua 0)), (1, .ref (ua 2)), (2, .ref (ua 3)), (3, .ref (ua 4)), (4, .ref (ua 5)), (5, .ref (ua 6)), (6, .ref (ua 8)), (7, .int (nI q)), (8, .int (nI a)), (9, .int (nI b)), (10, .int (nI j0))]) hx hb dL_owed_8 hl (by decide) rfl (fun ls hl => ?_)
  refine lv_iload hx hb dL_owed_10 (lv_at hl 0 rfl) ?_
  refine lv_iload hx hb dL_owed_12 (lv_at hl 11 rfl) ?_
  refine lv_bipush (v := nI 12) hx hb dL_owed_14 (by decide) ?_
  refine un_div hx hb dL_owed_16 (by omega) (by decide) (by decide) ?_
  refine un_cgt (tgt := 321) hx hb dL_owed_17 (by decide) (by omega) (by omega) (fun c1 => (by exfalso; omega)) (fun c1 => ?_)
  refine lv_iconst (v := nI 0) hx hb dL_owed_20 (by decide) ?_
  refine lv_istore (lv' := [(14, .int (nI 0)), (13, .int (nI (a / 12))), (11, .long (lN 0)), (0, .ref (ua 0)), (1, .ref (ua 2)), (2, .ref (ua 3)), (3, .ref (ua 4)), (4, .ref (ua 5)), (5, .ref (ua 6)), (6, .ref (ua 8)), (7, .int (nI q)), (8, .int (nI a)), (9, .int (nI b)), (10, .int (nI j0))]) hx hb dL_owed_21 hl (by decide) rfl (fun ls hl => ?_)
  refine lv_iconst (v := nI 0) hx hb dL_owed_23 (by decide) ?_
  refine lv_istore (lv' := [(15, .int (nI 0)), (14, .int (nI 0)), (13, .int (nI (a / 12))), (11, .long (lN 0)), (0, .ref (ua 0)), (1, .ref (ua 2)), (2, .ref (ua 3)), (3, .ref (ua 4)), (4, .ref (ua 5)), (5, .ref (ua 6)), (6, .ref (ua 8)), (7, .int (nI q)), (8, .int (nI a)), (9, .int (nI b)), (10, .int (nI j0))]) hx hb dL_owed_24 hl (by decide) rfl (fun ls hl => ?_)
  have loop26 : ∀ (n : Nat) (j : Nat) (u : Nat) (H : Heap) (locs : List Loc) (ls : Array Slot), L 0 2 + 1 ≤ j + n → j ≤ L 0 2 → u = u_ah L q (a / 12) j → u_W G ca ua L H → va_S A s.heap H locs → lv_has ls 23 [(0, .ref (ua 0)), (1, .ref (ua 2)), (2, .ref (ua 3)), (3, .ref (ua 4)), (4, .ref (ua 5)), (5, .ref (ua 6)), (6, .ref (ua 8)), (7, .int (nI q)), (8, .int (nI a)), (9, .int (nI b)), (10, .int (nI j0)), (11, .long (lN 0)), (13, .int (nI (a / 12))), (14, .int (nI u)), (15, .int (nI j))] → W p l e ({ frames := 1, cells := 0, slots := 0, locals := 30 } : Room) s m ([.ref (ua 0), .ref (ua 2), .ref (ua 3), .ref (ua 4), .ref (ua 5), .ref (ua 6), .ref (ua 8), .int (nI q), .int (nI a), .int (nI b), .int (nI j0)] : List Value).toArray below meth c H locs 0 0 (vx_MQ below (rh_Q A (fun o H => o = some (.long (lN (u_ow L q a b (some j0) (L 0 2)))))) (rh_XC A rh_no) ([.ref (ua 0), .ref (ua 2), .ref (ua 3), .ref (ua 4), .ref (ua 5), .ref (ua 6), .ref (ua 8), .int (nI q), .int (nI a), .int (nI b), .int (nI j0)] : List Value).toArray s 0 0 A) (F0 m 26 ls []) := by
    intro n
    induction n with
    | zero => intro j u H locs ls hn hj hu hU hS hl; exfalso; omega
    | succ n ih26 =>
      intro j u H locs ls hn hj hu hU hS hl
      refine lv_iload hx hb dL_owed_26 (lv_at hl 14 rfl) ?_
      refine lv_aload_n hx hb dL_owed_28 rfl (lv_at hl 0 rfl) ?_
      refine lv_iconst (v := nI 2) hx hb dL_owed_29 (by decide) ?_
      have hb30_24 := hub 0 2
      refine un_ald (L := L) hx hb hE hU 0 (by decide) 2 (show 2 < 4 from (by decide)) dL_owed_30 ?_
      refine un_cge (tgt := 88) hx hb dL_owed_31 (by decide) (by omega) (by omega) (fun c2 => ?_) (fun c2 => ?_)
      · have hjf : j = L 0 2 := by omega
        rw [hjf] at hu
        refine lv_iconst (v := nI 0) hx hb dL_owed_88 (by decide) ?_
        refine lv_istore (lv' := [(15, .int (nI 0)), (0, .ref (ua 0)), (1, .ref (ua 2)), (2, .ref (ua 3)), (3, .ref (ua 4)), (4, .ref (ua 5)), (5, .ref (ua 6)), (6, .ref (ua 8)), (7, .int (nI q)), (8, .int (nI a)), (9, .int (nI b)), (10, .int (nI j0)), (11, .long (lN 0)), (13, .int (nI (a / 12))), (14, .int (nI u))]) hx hb dL_owed_89 hl (by decide) rfl (fun ls hl => ?_)
        refine lv_iconst (v := nI 0) hx hb dL_owed_91 (by decide) ?_
        refine lv_istore (lv' := [(16, .int (nI 0)), (15, .int (nI 0)), (0, .ref (ua 0)), (1, .ref (ua 2)), (2, .ref (ua 3)), (3, .ref (ua 4)), (4, .ref (ua 5)), (5, .ref (ua 6)), (6, .ref (ua 8)), (7, .int (nI q)), (8, .int (nI a)), (9, .int (nI b)), (10, .int (nI j0)), (11, .long (lN 0)), (13, .int (nI (a / 12))), (14, .int (nI u))]) hx hb dL_owed_92 hl (by decide) rfl (fun ls hl => ?_)
        have loop94 : ∀ (n : Nat) (k : Nat) (ah : Nat) (S : Nat) (H : Heap) (locs : List Loc) (ls : Array Slot), L 0 2 + 1 ≤ k + n → k ≤ L 0 2 → ah = u_ah L q (a / 12) k → S = u_ow L q a b (some j0) k → u_W G ca ua L H → va_S A s.heap H locs → lv_has ls 23 [(0, .ref (ua 0)), (1, .ref (ua 2)), (2, .ref (ua 3)), (3, .ref (ua 4)), (4, .ref (ua 5)), (5, .ref (ua 6)), (6, .ref (ua 8)), (7, .int (nI q)), (8, .int (nI a)), (9, .int (nI b)), (10, .int (nI j0)), (11, .long (lN S)), (13, .int (nI (a / 12))), (14, .int (nI u)), (15, .int (nI ah)), (16, .int (nI k))] → W p l e ({ frames := 1, cells := 0, slots := 0, locals := 30 } : Room) s m ([.ref (ua 0), .ref (ua 2), .ref (ua 3), .ref (ua 4), .ref (ua 5), .ref (ua 6), .ref (ua 8), .int (nI q), .int (nI a), .int (nI b), .int (nI j0)] : List Value).toArray below meth c H locs 0 0 (vx_MQ below (rh_Q A (fun o H => o = some (.long (lN (u_ow L q a b (some j0) (L 0 2)))))) (rh_XC A rh_no) ([.ref (ua 0), .ref (ua 2), .ref (ua 3), .ref (ua 4), .ref (ua 5), .ref (ua 6), .ref (ua 8), .int (nI q), .int (nI a), .int (nI b), .int (nI j0)] : List Value).toArray s 0 0 A) (F0 m 94 ls []) := by
          intro n
          induction n with
          | zero => intro k ah S H locs ls hn hkk hah hS9 hU hS hl; exfalso; omega
          | succ n ih94 =>
            intro k ah S H locs ls hn hkk hah hS9 hU hS hl
            refine lv_iload hx hb dL_owed_94 (lv_at hl 15 rfl) ?_
            refine lv_aload_n hx hb dL_owed_96 rfl (lv_at hl 0 rfl) ?_
            refine lv_iconst (v := nI 2) hx hb dL_owed_97 (by decide) ?_
            have hb98_42 := hub 0 2
            refine un_ald (L := L) hx hb hE hU 0 (by decide) 2 (show 2 < 4 from (by decide)) dL_owed_98 ?_
            refine un_cge (tgt := 315) hx hb dL_owed_99 (by decide) (by omega) (by omega) (fun c3 => ?_) (fun c3 => ?_)
            · have hkf : k = L 0 2 := by omega
              refine lv_iinc (v := nI ((a / 12) + 1)) (lv' := [(13, .int (nI ((a / 12) + 1))), (0, .ref (ua 0)), (1, .ref (ua 2)), (2, .ref (ua 3)), (3, .ref (ua 4)), (4, .ref (ua 5)), (5, .ref (ua 6)), (6, .ref (ua 8)), (7, .int (nI q)), (8, .int (nI a)), (9, .int (nI b)), (10, .int (nI j0)), (11, .long (lN S)), (14, .int (nI u)), (15, .int (nI ah)), (16, .int (nI k))]) hx hb dL_owed_315 hl (k := 12) rfl (nI_add (a / 12) 1) (by decide) rfl (fun ls hl => ?_)
              refine lv_goto (tgt := 10) hx hb dL_owed_318 (by decide) ?_
              refine lv_iload hx hb dL_owed_10 (lv_at hl 0 rfl) ?_
              refine lv_iload hx hb dL_owed_12 (lv_at hl 10 rfl) ?_
              refine lv_bipush (v := nI 12) hx hb dL_owed_14 (by decide) ?_
              refine un_div hx hb dL_owed_16 (by omega) (by decide) (by decide) ?_
              refine un_cgt (tgt := 321) hx hb dL_owed_17 (by decide) (by omega) (by omega) (fun c4 => ?_) (fun c4 => (by exfalso; omega))
              refine lv_lload hx hb dL_owed_321 (lv_at hl 12 rfl) ?_
              exact rh_lret hx hb hr hlocks (by rw [hS9, hkf]) hS (by decide) (by decide) dL_owed_323
            · have hk2 : k < L 0 2 := by omega
              obtain ⟨hk1, hk3, hk4, hk5⟩ := lk_k hlk hk2
              obtain ⟨hcp1, hcp2, hcp3, hcp4, hcp5⟩ := lk_c hlk hk1 hk4
              have hah1 := u_ah_le hlk (q := q) (y := a / 12) (n := k) (by omega)
              have hah2 := u_ah_le hlk (q := q) (y := a / 12) (n := L 0 2) (Nat.le_refl _)
              have hst4 : u_st L (L 6 k) ≤ 4 := (hlk.1.2.2.2.2.1 _ hk1).2.1.2
              have hq5 := (hlk.1.2.2.2.2.1 _ hk1).2.2.2.2.2.2
              refine lv_aload hx hb dL_owed_102 (lv_at hl 5 rfl) ?_
              refine lv_iload hx hb dL_owed_104 (lv_at hl 15 rfl) ?_
              have hb106_64 := hub 6 k
              refine un_ald (L := L) hx hb hE hU 6 (by decide) k (show k < 40 from (by omega)) dL_owed_106 ?_
              refine lv_istore (lv' := [(17, .int (nI (L 6 k))), (0, .ref (ua 0)), (1, .ref (ua 2)), (2, .ref (ua 3)), (3, .ref (ua 4)), (4, .ref (ua 5)), (5, .ref (ua 6)), (6, .ref (ua 8)), (7, .int (nI q)), (8, .int (nI a)), (9, .int (nI b)), (10, .int (nI j0)), (11, .long (lN S)), (13, .int (nI (a / 12))), (14, .int (nI u)), (15, .int (nI ah)), (16, .int (nI k))]) hx hb dL_owed_107 hl (by decide) rfl (fun ls hl => ?_)
              refine lv_aload_n hx hb dL_owed_109 rfl (lv_at hl 3 rfl) ?_
              refine lv_aload_n hx hb dL_owed_110 rfl (lv_at hl 2 rfl) ?_
              refine lv_iload hx hb dL_owed_111 (lv_at hl 0 rfl) ?_
              have hAn : ∀ q : Nat, H.size ≤ q → A q := fun q h => hA q (Nat.le_trans hS.1 h)
              refine rh_call2 (vx_runS (As := [.ref (ua 3), .ref (ua 2), .int (nI (L 6 k))]) (rest := []) ⟨hx, hb, hml, hown, hts⟩ (ct_L_pair l (L 6 k) (by omega) hub) (va_cwS 3 hts gL_owed_L_pair rfl rfl rfl (by decide +kernel) ⟨by decide, by decide⟩) (rh_pre2 hE hS hAn (fun q h => h) hU) rfl rfl hl.1 rfl (lv_room (Nat.le_of_ble_eq_true rfl)) dL_owed_113 ⟨by decide, by decide⟩) hS hAn (fun _ _ _ _ _ hX9 _ _ _ _ _ _ => hX9.elim) (fun o H locs hN9 hz9 hk9 hS => ?_)
              have hN9 := hN9
              subst hN9
              have hk9 := fun q hq => hk9 q hq (Nat.not_le.mpr hq)
              have hU := hU.grow hk9
              refine W.eq (g2 := F0 m 116 ls [.int (nI (u_pr L (L 6 k)))]) rfl ?_
              refine lv_iload hx hb dL_owed_116 (lv_at hl 8 rfl) ?_
              refine un_cne (tgt := 309) hx hb dL_owed_118 (by decide) (by omega) (by omega) (fun c5 => ?_) (fun c5 => ?_)
              · refine lv_iinc (v := nI (k + 1)) (lv' := [(16, .int (nI (k + 1))), (17, .int (nI (L 6 k))), (0, .ref (ua 0)), (1, .ref (ua 2)), (2, .ref (ua 3)), (3, .ref (ua 4)), (4, .ref (ua 5)), (5, .ref (ua 6)), (6, .ref (ua 8)), (7, .int (nI q)), (8, .int (nI a)), (9, .int (nI b)), (10, .int (nI j0)), (11, .long (lN S)), (13, .int (nI (a / 12))), (14, .int (nI u)), (15, .int (nI ah))]) hx hb dL_owed_309 hl (k := 16) rfl (nI_add k 1) (by decide) rfl (fun ls hl => ?_)
                refine lv_goto (tgt := 94) hx hb dL_owed_312 (by decide) ?_
                exact ih94 (k + 1) ah S _ _ _ (by omega) (by omega) (hah.trans (u_ah_no (by omega)).symm) (hS9.trans (u_ow_no (fun z => absurd z.1 (by omega))).symm) hU hS (lv_sub hl [2, 3, 4, 5, 6, 7, 8, 9, 10, 11, 12, 13, 14, 15, 16, 0] rfl)
              · refine lv_aload_n hx hb dL_owed_121 rfl (lv_at hl 3 rfl) ?_
                refine lv_iload hx hb dL_owed_122 (lv_at hl 0 rfl) ?_
                have hAn : ∀ q : Nat, H.size ≤ q → A q := fun q h => hA q (Nat.le_trans hS.1 h)
                refine rh_call2 (vx_runS (As := [.ref (ua 3), .int (nI (L 6 k))]) (rest := []) ⟨hx, hb, hml, hown, hts⟩ (ct_L_month l (L 6 k) (by omega) hub) (va_cwS 2 hts gL_owed_L_month rfl rfl rfl (by decide +kernel) ⟨by decide, by decide⟩) (rh_pre2 hE hS hAn (fun q h => h) hU) rfl rfl hl.1 rfl (lv_room (Nat.le_of_ble_eq_true rfl)) dL_owed_124 ⟨by decide, by decide⟩) hS hAn (fun _ _ _ _ _ hX9 _ _ _ _ _ _ => hX9.elim) (fun o H locs hN9 hz9 hk9 hS => ?_)
                have hN9 := hN9
                subst hN9
                have hk9 := fun q hq => hk9 q hq (Nat.not_le.mpr hq)
                have hU := hU.grow hk9
                refine W.eq (g2 := F0 m 127 ls [.int (nI (u_mo L (L 6 k)))]) rfl ?_
                refine lv_bipush (v := nI 12) hx hb dL_owed_127 (by decide) ?_
                refine un_div hx hb dL_owed_129 (by omega) (by decide) (by decide) ?_
                refine lv_iload hx hb dL_owed_130 (lv_at hl 13 rfl) ?_
                refine un_cne (tgt := 309) hx hb dL_owed_132 (by decide) (by omega) (by omega) (fun c6 => ?_) (fun c6 => ?_)
                · refine lv_iinc (v := nI (k + 1)) (lv' := [(16, .int (nI (k + 1))), (17, .int (nI (L 6 k))), (0, .ref (ua 0)), (1, .ref (ua 2)), (2, .ref (ua 3)), (3, .ref (ua 4)), (4, .ref (ua 5)), (5, .ref (ua 6)), (6, .ref (ua 8)), (7, .int (nI q)), (8, .int (nI a)), (9, .int (nI b)), (10, .int (nI j0)), (11, .long (lN S)), (13, .int (nI (a / 12))), (14, .int (nI u)), (15, .int (nI ah))]) hx hb dL_owed_309 hl (k := 16) rfl (nI_add k 1) (by decide) rfl (fun ls hl => ?_)
                  refine lv_goto (tgt := 94) hx hb dL_owed_312 (by decide) ?_
                  exact ih94 (k + 1) ah S _ _ _ (by omega) (by omega) (hah.trans (u_ah_no (by omega)).symm) (hS9.trans (u_ow_no (fun z => absurd z.1 (by omega))).symm) hU hS (lv_sub hl [2, 3, 4, 5, 6, 7, 8, 9, 10, 11, 12, 13, 14, 15, 16, 0] rfl)
                · have jn154_98 : ∀ (i1 : Nat), (L 8 (16 + q) % 2 = 1 ∧ i1 = 1) ∨ (¬ L 8 (16 + q) % 2 = 1 ∧ i1 = 0) → W p l e ({ frames := 1, cells := 0, slots := 0, locals := 30 } : Room) s m ([.ref (ua 0), .ref (ua 2), .ref (ua 3), .ref (ua 4), .ref (ua 5), .ref (ua 6), .ref (ua 8), .int (nI q), .int (nI a), .int (nI b), .int (nI j0)] : List Value).toArray below meth c H locs 0 0 (vx_MQ below (rh_Q A (fun o H => o = some (.long (lN (u_ow L q a b (some j0) (L 0 2)))))) (rh_XC A rh_no) ([.ref (ua 0), .ref (ua 2), .ref (ua 3), .ref (ua 4), .ref (ua 5), .ref (ua 6), .ref (ua 8), .int (nI q), .int (nI a), .int (nI b), .int (nI j0)] : List Value).toArray s 0 0 A) (F0 m 154 ls [.int (nI i1)]) := by
                    intro i1 hi1
                    refine lv_istore (lv' := [(18, .int (nI i1)), (17, .int (nI (L 6 k))), (0, .ref (ua 0)), (1, .ref (ua 2)), (2, .ref (ua 3)), (3, .ref (ua 4)), (4, .ref (ua 5)), (5, .ref (ua 6)), (6, .ref (ua 8)), (7, .int (nI q)), (8, .int (nI a)), (9, .int (nI b)), (10, .int (nI j0)), (11, .long (lN S)), (13, .int (nI (a / 12))), (14, .int (nI u)), (15, .int (nI ah)), (16, .int (nI k))]) hx hb dL_owed_154 hl (by decide) rfl (fun ls hl => ?_)
                    have jn191_101 : ∀ (i2 : Nat), (u_ls L q (a / 12) (L 0 2) k ∧ i2 = 1) ∨ (¬ u_ls L q (a / 12) (L 0 2) k ∧ i2 = 0) → i2 ≤ 1 → W p l e ({ frames := 1, cells := 0, slots := 0, locals := 30 } : Room) s m ([.ref (ua 0), .ref (ua 2), .ref (ua 3), .ref (ua 4), .ref (ua 5), .ref (ua 6), .ref (ua 8), .int (nI q), .int (nI a), .int (nI b), .int (nI j0)] : List Value).toArray below meth c H locs 0 0 (vx_MQ below (rh_Q A (fun o H => o = some (.long (lN (u_ow L q a b (some j0) (L 0 2)))))) (rh_XC A rh_no) ([.ref (ua 0), .ref (ua 2), .ref (ua 3), .ref (ua 4), .ref (ua 5), .ref (ua 6), .ref (ua 8), .int (nI q), .int (nI a), .int (nI b), .int (nI j0)] : List Value).toArray s 0 0 A) (F0 m 191 ls [.int (nI i2)]) := by
                      intro i2 hi2 hi2b
                      refine lv_istore (lv' := [(19, .int (nI i2)), (18, .int (nI i1)), (17, .int (nI (L 6 k))), (0, .ref (ua 0)), (1, .ref (ua 2)), (2, .ref (ua 3)), (3, .ref (ua 4)), (4, .ref (ua 5)), (5, .ref (ua 6)), (6, .ref (ua 8)), (7, .int (nI q)), (8, .int (nI a)), (9, .int (nI b)), (10, .int (nI j0)), (11, .long (lN S)), (13, .int (nI (a / 12))), (14, .int (nI u)), (15, .int (nI ah)), (16, .int (nI k))]) hx hb dL_owed_191 hl (by decide) rfl (fun ls hl => ?_)
                      have jn224_104 : ∀ (d : Nat), (i2 = 1 ∧ d = L 5 (L 6 k) * (L 8 (16 + q) / 2) / 10000) ∨ (i2 = 0 ∧ d = 0) → d ≤ L 5 (L 6 k) → W p l e ({ frames := 1, cells := 0, slots := 0, locals := 30 } : Room) s m ([.ref (ua 0), .ref (ua 2), .ref (ua 3), .ref (ua 4), .ref (ua 5), .ref (ua 6), .ref (ua 8), .int (nI q), .int (nI a), .int (nI b), .int (nI j0)] : List Value).toArray below meth c H locs 0 0 (vx_MQ below (rh_Q A (fun o H => o = some (.long (lN (u_ow L q a b (some j0) (L 0 2)))))) (rh_XC A rh_no) ([.ref (ua 0), .ref (ua 2), .ref (ua 3), .ref (ua 4), .ref (ua 5), .ref (ua 6), .ref (ua 8), .int (nI q), .int (nI a), .int (nI b), .int (nI j0)] : List Value).toArray s 0 0 A) (F0 m 224 ls [.long (lN d)]) := by
                        intro d hd hdle
                        refine lv_lstore (lv' := [(20, .long (lN d)), (19, .int (nI i2)), (18, .int (nI i1)), (17, .int (nI (L 6 k))), (0, .ref (ua 0)), (1, .ref (ua 2)), (2, .ref (ua 3)), (3, .ref (ua 4)), (4, .ref (ua 5)), (5, .ref (ua 6)), (6, .ref (ua 8)), (7, .int (nI q)), (8, .int (nI a)), (9, .int (nI b)), (10, .int (nI j0)), (11, .long (lN S)), (13, .int (nI (a / 12))), (14, .int (nI u)), (15, .int (nI ah)), (16, .int (nI k))]) hx hb dL_owed_224 hl (by decide) rfl (fun ls hl => ?_)
                        have jn275_107 : ∀ (i3 : Nat), ((u_st L (L 6 k) < 4 ∧ a ≤ u_mo L (L 6 k) ∧ u_mo L (L 6 k) ≤ b ∧ ((some j0) = none ∨ (some j0) = some (L 6 k))) ∧ i3 = 1) ∨ (¬ (u_st L (L 6 k) < 4 ∧ a ≤ u_mo L (L 6 k) ∧ u_mo L (L 6 k) ≤ b ∧ ((some j0) = none ∨ (some j0) = some (L 6 k))) ∧ i3 = 0) → i3 ≤ 1 → ∀ (H : Heap) (locs : List Loc), u_W G ca ua L H → va_S A s.heap H locs → W p l e ({ frames := 1, cells := 0, slots := 0, locals := 30 } : Room) s m ([.ref (ua 0), .ref (ua 2), .ref (ua 3), .ref (ua 4), .ref (ua 5), .ref (ua 6), .ref (ua 8), .int (nI q), .int (nI a), .int (nI b), .int (nI j0)] : List Value).toArray below meth c H locs 0 0 (vx_MQ below (rh_Q A (fun o H => o = some (.long (lN (u_ow L q a b (some j0) (L 0 2)))))) (rh_XC A rh_no) ([.ref (ua 0), .ref (ua 2), .ref (ua 3), .ref (ua 4), .ref (ua 5), .ref (ua 6), .ref (ua 8), .int (nI q), .int (nI a), .int (nI b), .int (nI j0)] : List Value).toArray s 0 0 A) (F0 m 275 ls [.int (nI i3)]) := by
                          intro i3 hi3 hi3b H locs hU hS
                          refine lv_istore (lv' := [(22, .int (nI i3)), (20, .long (lN d)), (19, .int (nI i2)), (18, .int (nI i1)), (17, .int (nI (L 6 k))), (0, .ref (ua 0)), (1, .ref (ua 2)), (2, .ref (ua 3)), (3, .ref (ua 4)), (4, .ref (ua 5)), (5, .ref (ua 6)), (6, .ref (ua 8)), (7, .int (nI q)), (8, .int (nI a)), (9, .int (nI b)), (10, .int (nI j0)), (11, .long (lN S)), (13, .int (nI (a / 12))), (14, .int (nI u)), (15, .int (nI ah)), (16, .int (nI k))]) hx hb dL_owed_275 hl (by decide) rfl (fun ls hl => ?_)
                          refine lv_lload hx hb dL_owed_277 (lv_at hl 16 rfl) ?_
                          have jn297_111 : ∀ (t : Nat), (i3 = 1 ∧ t = L 5 (L 6 k) - d) ∨ (i3 = 0 ∧ t = 0) → W p l e ({ frames := 1, cells := 0, slots := 0, locals := 30 } : Room) s m ([.ref (ua 0), .ref (ua 2), .ref (ua 3), .ref (ua 4), .ref (ua 5), .ref (ua 6), .ref (ua 8), .int (nI q), .int (nI a), .int (nI b), .int (nI j0)] : List Value).toArray below meth c H locs 0 0 (vx_MQ below (rh_Q A (fun o H => o = some (.long (lN (u_ow L q a b (some j0) (L 0 2)))))) (rh_XC A rh_no) ([.ref (ua 0), .ref (ua 2), .ref (ua 3), .ref (ua 4), .ref (ua 5), .ref (ua 6), .ref (ua 8), .int (nI q), .int (nI a), .int (nI b), .int (nI j0)] : List Value).toArray s 0 0 A) (F0 m 297 ls [.long (lN t), .long (lN S)]) := by
                            intro t ht
                            refine lv_ladd hx hb dL_owed_297 ?_
                            refine un_topl (y := lN (S + t)) (lN_add _ _) ?_
                            refine lv_lstore (lv' := [(11, .long (lN (S + t))), (22, .int (nI i3)), (20, .long (lN d)), (19, .int (nI i2)), (18, .int (nI i1)), (17, .int (nI (L 6 k))), (0, .ref (ua 0)), (1, .ref (ua 2)), (2, .ref (ua 3)), (3, .ref (ua 4)), (4, .ref (ua 5)), (5, .ref (ua 6)), (6, .ref (ua 8)), (7, .int (nI q)), (8, .int (nI a)), (9, .int (nI b)), (10, .int (nI j0)), (13, .int (nI (a / 12))), (14, .int (nI u)), (15, .int (nI ah)), (16, .int (nI k))]) hx hb dL_owed_298 hl (by decide) rfl (fun ls hl => ?_)
                            refine lv_iload hx hb dL_owed_300 (lv_at hl 19 rfl) ?_
                            refine lv_aload_n hx hb dL_owed_302 rfl (lv_at hl 9 rfl) ?_
                            refine lv_iload hx hb dL_owed_303 (lv_at hl 5 rfl) ?_
                            have hb305_119 := hub 4 (L 6 k)
                            refine un_ald (L := L) hx hb hE hU 4 (by decide) (L 6 k) (show (L 6 k) < 40 from (by omega)) dL_owed_305 ?_
                            refine un_add hx hb dL_owed_306 ?_
                            refine lv_istore (lv' := [(15, .int (nI (ah + (L 4 (L 6 k))))), (11, .long (lN (S + t))), (22, .int (nI i3)), (20, .long (lN d)), (19, .int (nI i2)), (18, .int (nI i1)), (17, .int (nI (L 6 k))), (0, .ref (ua 0)), (1, .ref (ua 2)), (2, .ref (ua 3)), (3, .ref (ua 4)), (4, .ref (ua 5)), (5, .ref (ua 6)), (6, .ref (ua 8)), (7, .int (nI q)), (8, .int (nI a)), (9, .int (nI b)), (10, .int (nI j0)), (13, .int (nI (a / 12))), (14, .int (nI u)), (16, .int (nI k))]) hx hb dL_owed_307 hl (by decide) rfl (fun ls hl => ?_)
                            refine lv_iinc (v := nI (k + 1)) (lv' := [(16, .int (nI (k + 1))), (15, .int (nI (ah + (L 4 (L 6 k))))), (11, .long (lN (S + t))), (22, .int (nI i3)), (20, .long (lN d)), (19, .int (nI i2)), (18, .int (nI i1)), (17, .int (nI (L 6 k))), (0, .ref (ua 0)), (1, .ref (ua 2)), (2, .ref (ua 3)), (3, .ref (ua 4)), (4, .ref (ua 5)), (5, .ref (ua 6)), (6, .ref (ua 8)), (7, .int (nI q)), (8, .int (nI a)), (9, .int (nI b)), (10, .int (nI j0)), (13, .int (nI (a / 12))), (14, .int (nI u))]) hx hb dL_owed_309 hl (k := 20) rfl (nI_add k 1) (by decide) rfl (fun ls hl => ?_)
                            refine lv_goto (tgt := 94) hx hb dL_owed_312 (by decide) ?_
                            have hdl : u_ls L q (a / 12) (L 0 2) k ∧ d = L 5 (L 6 k) * (L 8 (16 + q) / 2) / 10000 ∨ ¬ u_ls L q (a / 12) (L 0 2) k ∧ d = 0 := by
                              rcases hi2 with ⟨z1, z2⟩ | ⟨z1, z2⟩
                              · exact Or.inl ⟨z1, by omega⟩
                              · exact Or.inr ⟨z1, by omega⟩
                            have ham : u_am L q (a / 12) (L 0 2) k = L 5 (L 6 k) - d := by unfold u_am; rw [u_pick hdl]
                            have htl : u_in L q a b (some j0) (L 6 k) ∧ t = u_am L q (a / 12) (L 0 2) k ∨ ¬ u_in L q a b (some j0) (L 6 k) ∧ t = 0 := by
                              rcases hi3 with ⟨z1, z2⟩ | ⟨z1, z2⟩
                              · exact Or.inl ⟨⟨⟨by omega, by omega⟩, z1⟩, by rw [ham]; omega⟩
                              · exact Or.inr ⟨fun z => z1 z.2, by omega⟩
                            exact ih94 (k + 1) (ah + (L 4 (L 6 k))) (S + t) _ _ _ (by omega) (by omega) (by rw [hah]; exact (u_ah_yes ⟨by omega, by omega⟩).symm) (by rw [hS9]; exact (u_ow_b htl).symm) hU hS (lv_sub hl [8, 9, 10, 11, 12, 13, 14, 15, 16, 17, 18, 2, 19, 20, 1, 0] rfl)
                          refine lv_iload hx hb dL_owed_279 (lv_at hl 0 rfl) ?_
                          refine un_ieq (tgt := 296) hx hb dL_owed_281 (by decide) (by omega) (fun c7 => ?_) (fun c7 => ?_)
                          · refine lv_lconst (v := lN 0) hx hb dL_owed_296 rfl ?_
                            exact jn297_111 0 (by omega)
                          · refine lv_aload hx hb dL_owed_284 (lv_at hl 9 rfl) ?_
                            refine lv_iload hx hb dL_owed_286 (lv_at hl 4 rfl) ?_
                            have hb288_141 := hub 5 (L 6 k)
                            refine un_ald (L := L) hx hb hE hU 5 (by decide) (L 6 k) (show (L 6 k) < 40 from (by omega)) dL_owed_288 ?_
                            refine lv_i2l (v := lN (L 5 (L 6 k))) hx hb dL_owed_289 (nI_l (by omega)) ?_
                            refine lv_lload hx hb dL_owed_290 (lv_at hl 1 rfl) ?_
                            refine lv_lsub hx hb dL_owed_292 ?_
                            refine un_topl (y := lN (L 5 (L 6 k) - d)) (lN_sub hdle) ?_
                            refine lv_goto (tgt := 297) hx hb dL_owed_293 (by decide) ?_
                            exact jn297_111 (L 5 (L 6 k) - d) (by omega)
                        refine lv_aload_n hx hb dL_owed_226 rfl (lv_at hl 6 rfl) ?_
                        refine lv_iload hx hb dL_owed_227 (lv_at hl 3 rfl) ?_
                        have hAn : ∀ q : Nat, H.size ≤ q → A q := fun q h => hA q (Nat.le_trans hS.1 h)
                        refine rh_call2 (vx_runS (As := [.ref (ua 3), .int (nI (L 6 k))]) (rest := []) ⟨hx, hb, hml, hown, hts⟩ (ct_L_state l (L 6 k) (by omega) hub) (va_cwS 2 hts gL_owed_L_state rfl rfl rfl (by decide +kernel) ⟨by decide, by decide⟩) (rh_pre2 hE hS hAn (fun q h => h) hU) rfl rfl hl.1 rfl (lv_room (Nat.le_of_ble_eq_true rfl)) dL_owed_229 ⟨by decide, by decide⟩) hS hAn (fun _ _ _ _ _ hX9 _ _ _ _ _ _ => hX9.elim) (fun o H locs hN9 hz9 hk9 hS => ?_)
                        have hN9 := hN9
                        subst hN9
                        have hk9 := fun q hq => hk9 q hq (Nat.not_le.mpr hq)
                        have hU := hU.grow hk9
                        refine W.eq (g2 := F0 m 232 ls [.int (nI (u_st L (L 6 k)))]) rfl ?_
                        refine lv_iconst (v := nI 4) hx hb dL_owed_232 (by decide) ?_
                        refine un_cge (tgt := 274) hx hb dL_owed_233 (by decide) (by omega) (by decide) (fun c8 => ?_) (fun c8 => ?_)
                        · refine lv_iconst (v := nI 0) hx hb dL_owed_274 (by decide) ?_
                          exact jn275_107 0 (Or.inr ⟨fun z => (by rcases z with ⟨z1, z2, z3, z4 | z4⟩ <;> first | omega | (have z5 := Option.some.inj z4; omega) | cases z4), rfl⟩) (by omega) _ _ hU hS
                        · refine lv_aload_n hx hb dL_owed_236 rfl (lv_at hl 6 rfl) ?_
                          refine lv_iload hx hb dL_owed_237 (lv_at hl 3 rfl) ?_
                          have hAn : ∀ q : Nat, H.size ≤ q → A q := fun q h => hA q (Nat.le_trans hS.1 h)
                          refine rh_call2 (vx_runS (As := [.ref (ua 3), .int (nI (L 6 k))]) (rest := []) ⟨hx, hb, hml, hown, hts⟩ (ct_L_month l (L 6 k) (by omega) hub) (va_cwS 2 hts gL_owed_L_month rfl rfl rfl (by decide +kernel) ⟨by decide, by decide⟩) (rh_pre2 hE hS hAn (fun q h => h) hU) rfl rfl hl.1 rfl (lv_room (Nat.le_of_ble_eq_true rfl)) dL_owed_239 ⟨by decide, by decide⟩) hS hAn (fun _ _ _ _ _ hX9 _ _ _ _ _ _ => hX9.elim) (fun o H locs hN9 hz9 hk9 hS => ?_)
                          have hN9 := hN9
                          subst hN9
                          have hk9 := fun q hq => hk9 q hq (Nat.not_le.mpr hq)
                          have hU := hU.grow hk9
                          refine W.eq (g2 := F0 m 242 ls [.int (nI (u_mo L (L 6 k)))]) rfl ?_
                          refine lv_iload hx hb dL_owed_242 (lv_at hl 12 rfl) ?_
                          refine un_clt (tgt := 274) hx hb dL_owed_244 (by decide) (by omega) (by omega) (fun c9 => ?_) (fun c9 => ?_)
                          · refine lv_iconst (v := nI 0) hx hb dL_owed_274 (by decide) ?_
                            exact jn275_107 0 (Or.inr ⟨fun z => (by rcases z with ⟨z1, z2, z3, z4 | z4⟩ <;> first | omega | (have z5 := Option.some.inj z4; omega) | cases z4), rfl⟩) (by omega) _ _ hU hS
                          · refine lv_aload_n hx hb dL_owed_247 rfl (lv_at hl 6 rfl) ?_
                            refine lv_iload hx hb dL_owed_248 (lv_at hl 3 rfl) ?_
                            have hAn : ∀ q : Nat, H.size ≤ q → A q := fun q h => hA q (Nat.le_trans hS.1 h)
                            refine rh_call2 (vx_runS (As := [.ref (ua 3), .int (nI (L 6 k))]) (rest := []) ⟨hx, hb, hml, hown, hts⟩ (ct_L_month l (L 6 k) (by omega) hub) (va_cwS 2 hts gL_owed_L_month rfl rfl rfl (by decide +kernel) ⟨by decide, by decide⟩) (rh_pre2 hE hS hAn (fun q h => h) hU) rfl rfl hl.1 rfl (lv_room (Nat.le_of_ble_eq_true rfl)) dL_owed_250 ⟨by decide, by decide⟩) hS hAn (fun _ _ _ _ _ hX9 _ _ _ _ _ _ => hX9.elim) (fun o H locs hN9 hz9 hk9 hS => ?_)
                            have hN9 := hN9
                            subst hN9
                            have hk9 := fun q hq => hk9 q hq (Nat.not_le.mpr hq)
                            have hU := hU.grow hk9
                            refine W.eq (g2 := F0 m 253 ls [.int (nI (u_mo L (L 6 k)))]) rfl ?_
                            refine lv_iload hx hb dL_owed_253 (lv_at hl 13 rfl) ?_
                            refine un_cgt (tgt := 274) hx hb dL_owed_255 (by decide) (by omega) (by omega) (fun c10 => ?_) (fun c10 => ?_)
                            · refine lv_iconst (v := nI 0) hx hb dL_owed_274 (by decide) ?_
                              exact jn275_107 0 (Or.inr ⟨fun z => (by rcases z with ⟨z1, z2, z3, z4 | z4⟩ <;> first | omega | (have z5 := Option.some.inj z4; omega) | cases z4), rfl⟩) (by omega) _ _ hU hS
                            · refine lv_iload hx hb dL_owed_258 (lv_at hl 14 rfl) ?_
                              refine un_ilt (tgt := 270) hx hb dL_owed_260 (by decide) (by omega) ?_
                              refine lv_iload hx hb dL_owed_263 (lv_at hl 14 rfl) ?_
                              refine lv_iload hx hb dL_owed_265 (lv_at hl 3 rfl) ?_
                              refine un_cne (tgt := 274) hx hb dL_owed_267 (by decide) (by omega) (by omega) (fun c12 => ?_) (fun c12 => ?_)
                              · refine lv_iconst (v := nI 0) hx hb dL_owed_274 (by decide) ?_
                                exact jn275_107 0 (Or.inr ⟨fun z => (by rcases z with ⟨z1, z2, z3, z4 | z4⟩ <;> first | omega | (have z5 := Option.some.inj z4; omega) | cases z4), rfl⟩) (by omega) _ _ hU hS
                              · refine lv_iconst (v := nI 1) hx hb dL_owed_270 (by decide) ?_
                                refine lv_goto (tgt := 275) hx hb dL_owed_271 (by decide) ?_
                                exact jn275_107 1 (Or.inl ⟨⟨by omega, by omega, by omega, Or.inr (congrArg some (by omega))⟩, rfl⟩) (by omega) _ _ hU hS
                      refine lv_iload hx hb dL_owed_193 (lv_at hl 0 rfl) ?_
                      refine un_ieq (tgt := 223) hx hb dL_owed_195 (by decide) (by omega) (fun c13 => ?_) (fun c13 => ?_)
                      · refine lv_lconst (v := lN 0) hx hb dL_owed_223 rfl ?_
                        exact jn224_104 0 (by omega) (Nat.zero_le _)
                      · refine lv_aload hx hb dL_owed_198 (lv_at hl 7 rfl) ?_
                        refine lv_iload hx hb dL_owed_200 (lv_at hl 2 rfl) ?_
                        have hb202_204 := hub 5 (L 6 k)
                        refine un_ald (L := L) hx hb hE hU 5 (by decide) (L 6 k) (show (L 6 k) < 40 from (by omega)) dL_owed_202 ?_
                        refine lv_i2l (v := lN (L 5 (L 6 k))) hx hb dL_owed_203 (nI_l (by omega)) ?_
                        refine lv_aload hx hb dL_owed_204 (lv_at hl 9 rfl) ?_
                        refine lv_bipush (v := nI 16) hx hb dL_owed_206 (by decide) ?_
                        refine lv_iload hx hb dL_owed_208 (lv_at hl 10 rfl) ?_
                        refine un_add hx hb dL_owed_210 ?_
                        have hb211_211 := hub 8 (16 + q)
                        refine un_ald (L := L) hx hb hE hU 8 (by decide) (16 + q) (show (16 + q) < 48 from (by omega)) dL_owed_211 ?_
                        refine lv_iconst (v := nI 2) hx hb dL_owed_212 (by decide) ?_
                        refine un_div hx hb dL_owed_213 (by omega) (by decide) (by decide) ?_
                        refine lv_i2l (v := lN ((L 8 (16 + q)) / 2)) hx hb dL_owed_214 (nI_l (by omega)) ?_
                        refine lv_lmul hx hb dL_owed_215 ?_
                        refine lv_ldc2 (v := 10000) hx hb hown (hts (.constantLong RL 25 (10000)) (by decide +kernel)) dL_owed_216 ?_
                        refine lv_ldiv hx hb dL_owed_219 (by decide) ?_
                        refine un_topl (y := lN (L 5 (L 6 k) * (L 8 (16 + q) / 2) / 10000)) (by rw [lN_mul, show (10000 : Int64) = lN 10000 from rfl, lN_div (u_mulb hq5 (by omega)) (by decide) (by decide)]) ?_
                        refine lv_goto (tgt := 224) hx hb dL_owed_220 (by decide) ?_
                        exact jn224_104 (L 5 (L 6 k) * (L 8 (16 + q) / 2) / 10000) (by omega) (u_cutle (by omega))
                    refine lv_aload hx hb dL_owed_156 (lv_at hl 8 rfl) ?_
                    refine lv_iload hx hb dL_owed_158 (lv_at hl 9 rfl) ?_
                    have hb160_224 := hub 8 q
                    refine un_ald (L := L) hx hb hE hU 8 (by decide) q (show q < 48 from (by omega)) dL_owed_160 ?_
                    refine un_ile (tgt := 190) hx hb dL_owed_161 (by decide) (by omega) (fun c14 => ?_) (fun c14 => ?_)
                    · refine lv_iconst (v := nI 0) hx hb dL_owed_190 (by decide) ?_
                      exact jn191_101 0 (Or.inr ⟨fun z => (by have z1 := z.1; have z2 := z.2; split at z2 <;> omega), rfl⟩) (by omega)
                    · refine lv_iload hx hb dL_owed_164 (lv_at hl 0 rfl) ?_
                      refine un_ieq (tgt := 174) hx hb dL_owed_166 (by decide) (by omega) (fun c15 => ?_) (fun c15 => ?_)
                      · refine lv_iload hx hb dL_owed_174 (lv_at hl 16 rfl) ?_
                        refine lv_aload hx hb dL_owed_176 (lv_at hl 8 rfl) ?_
                        refine lv_iload hx hb dL_owed_178 (lv_at hl 9 rfl) ?_
                        have hb180_234 := hub 8 q
                        refine un_ald (L := L) hx hb hE hU 8 (by decide) q (show q < 48 from (by omega)) dL_owed_180 ?_
                        refine lv_iconst (v := nI 1) hx hb dL_owed_181 (by decide) ?_
                        refine un_sub hx hb dL_owed_182 (by omega) ?_
                        refine un_clt (tgt := 190) hx hb dL_owed_183 (by decide) (by omega) (by omega) (fun c16 => ?_) (fun c16 => ?_)
                        · refine lv_iconst (v := nI 0) hx hb dL_owed_190 (by decide) ?_
                          exact jn191_101 0 (Or.inr ⟨fun z => (by have z1 := z.1; have z2 := z.2; split at z2 <;> omega), rfl⟩) (by omega)
                        · refine lv_iconst (v := nI 1) hx hb dL_owed_186 (by decide) ?_
                          refine lv_goto (tgt := 191) hx hb dL_owed_187 (by decide) ?_
                          exact jn191_101 1 (Or.inl ⟨⟨by omega, by (split <;> omega)⟩, rfl⟩) (by omega)
                      · refine lv_iload hx hb dL_owed_169 (lv_at hl 15 rfl) ?_
                        refine lv_goto (tgt := 176) hx hb dL_owed_171 (by decide) ?_
                        refine lv_aload hx hb dL_owed_176 (lv_at hl 8 rfl) ?_
                        refine lv_iload hx hb dL_owed_178 (lv_at hl 9 rfl) ?_
                        have hb180_248 := hub 8 q
                        refine un_ald (L := L) hx hb hE hU 8 (by decide) q (show q < 48 from (by omega)) dL_owed_180 ?_
                        refine lv_iconst (v := nI 1) hx hb dL_owed_181 (by decide) ?_
                        refine un_sub hx hb dL_owed_182 (by omega) ?_
                        refine un_clt (tgt := 190) hx hb dL_owed_183 (by decide) (by omega) (by omega) (fun c17 => ?_) (fun c17 => ?_)
                        · refine lv_iconst (v := nI 0) hx hb dL_owed_190 (by decide) ?_
                          exact jn191_101 0 (Or.inr ⟨fun z => (by have z1 := z.1; have z2 := z.2; split at z2 <;> omega), rfl⟩) (by omega)
                        · refine lv_iconst (v := nI 1) hx hb dL_owed_186 (by decide) ?_
                          refine lv_goto (tgt := 191) hx hb dL_owed_187 (by decide) ?_
                          exact jn191_101 1 (Or.inl ⟨⟨by omega, by (split <;> omega)⟩, rfl⟩) (by omega)
                  refine lv_aload hx hb dL_owed_135 (lv_at hl 7 rfl) ?_
                  refine lv_bipush (v := nI 16) hx hb dL_owed_137 (by decide) ?_
                  refine lv_iload hx hb dL_owed_139 (lv_at hl 8 rfl) ?_
                  refine un_add hx hb dL_owed_141 ?_
                  have hb142_262 := hub 8 (16 + q)
                  refine un_ald (L := L) hx hb hE hU 8 (by decide) (16 + q) (show (16 + q) < 48 from (by omega)) dL_owed_142 ?_
                  refine lv_iconst (v := nI 2) hx hb dL_owed_143 (by decide) ?_
                  refine un_rem hx hb dL_owed_144 (by omega) (by decide) (by decide) ?_
                  refine lv_iconst (v := nI 1) hx hb dL_owed_145 (by decide) ?_
                  refine un_cne (tgt := 153) hx hb dL_owed_146 (by decide) (by omega) (by decide) (fun c18 => ?_) (fun c18 => ?_)
                  · refine lv_iconst (v := nI 0) hx hb dL_owed_153 (by decide) ?_
                    exact jn154_98 0 (by omega)
                  · refine lv_iconst (v := nI 1) hx hb dL_owed_149 (by decide) ?_
                    refine lv_goto (tgt := 154) hx hb dL_owed_150 (by decide) ?_
                    exact jn154_98 1 (by omega)
        exact loop94 (L 0 2 + 1) 0 0 0 _ _ _ (by omega) (by omega) rfl rfl hU hS (lv_sub hl [2, 3, 4, 5, 6, 7, 8, 9, 10, 11, 12, 13, 14, 15, 1, 0] rfl)
      · have hj2 : j < L 0 2 := by omega
        obtain ⟨hk1, hk2, hk3, hk4⟩ := lk_k hlk hj2
        obtain ⟨hcp1, hcp2, hcp3, hcp4, hcp5⟩ := lk_c hlk hk1 hk3
        refine lv_iload hx hb dL_owed_34 (lv_at hl 13 rfl) ?_
        have jn79_278 : ∀ (b1 : Nat), (u_pr L (L 6 j) = q ∧ u_mo L (L 6 j) / 12 = a / 12) ∧ b1 = L 4 (L 6 j) ∨ ¬ (u_pr L (L 6 j) = q ∧ u_mo L (L 6 j) / 12 = a / 12) ∧ b1 = 0 → ∀ (H : Heap) (locs : List Loc), u_W G ca ua L H → va_S A s.heap H locs → W p l e ({ frames := 1, cells := 0, slots := 0, locals := 30 } : Room) s m ([.ref (ua 0), .ref (ua 2), .ref (ua 3), .ref (ua 4), .ref (ua 5), .ref (ua 6), .ref (ua 8), .int (nI q), .int (nI a), .int (nI b), .int (nI j0)] : List Value).toArray below meth c H locs 0 0 (vx_MQ below (rh_Q A (fun o H => o = some (.long (lN (u_ow L q a b (some j0) (L 0 2)))))) (rh_XC A rh_no) ([.ref (ua 0), .ref (ua 2), .ref (ua 3), .ref (ua 4), .ref (ua 5), .ref (ua 6), .ref (ua 8), .int (nI q), .int (nI a), .int (nI b), .int (nI j0)] : List Value).toArray s 0 0 A) (F0 m 79 ls [.int (nI b1), .int (nI u)]) := by
          intro b1 hb1 H locs hU hS
          refine un_add hx hb dL_owed_79 ?_
          refine lv_istore (lv' := [(14, .int (nI (u + b1))), (0, .ref (ua 0)), (1, .ref (ua 2)), (2, .ref (ua 3)), (3, .ref (ua 4)), (4, .ref (ua 5)), (5, .ref (ua 6)), (6, .ref (ua 8)), (7, .int (nI q)), (8, .int (nI a)), (9, .int (nI b)), (10, .int (nI j0)), (11, .long (lN 0)), (13, .int (nI (a / 12))), (15, .int (nI j))]) hx hb dL_owed_80 hl (by decide) rfl (fun ls hl => ?_)
          refine lv_iinc (v := nI (j + 1)) (lv' := [(15, .int (nI (j + 1))), (14, .int (nI (u + b1))), (0, .ref (ua 0)), (1, .ref (ua 2)), (2, .ref (ua 3)), (3, .ref (ua 4)), (4, .ref (ua 5)), (5, .ref (ua 6)), (6, .ref (ua 8)), (7, .int (nI q)), (8, .int (nI a)), (9, .int (nI b)), (10, .int (nI j0)), (11, .long (lN 0)), (13, .int (nI (a / 12)))]) hx hb dL_owed_82 hl (k := 14) rfl (nI_add j 1) (by decide) rfl (fun ls hl => ?_)
          refine lv_goto (tgt := 26) hx hb dL_owed_85 (by decide) ?_
          exact ih26 (j + 1) (u + b1) _ _ _ (by omega) (by omega) (by rw [hu, ← u_pick hb1]; rfl) hU hS (lv_sub hl [2, 3, 4, 5, 6, 7, 8, 9, 10, 11, 12, 13, 14, 1, 0] rfl)
        refine lv_aload_n hx hb dL_owed_36 rfl (lv_at hl 2 rfl) ?_
        refine lv_aload_n hx hb dL_owed_37 rfl (lv_at hl 1 rfl) ?_
        refine lv_aload hx hb dL_owed_38 (lv_at hl 5 rfl) ?_
        refine lv_iload hx hb dL_owed_40 (lv_at hl 14 rfl) ?_
        have hb42_289 := hub 6 j
        refine un_ald (L := L) hx hb hE hU 6 (by decide) j (show j < 40 from (by omega)) dL_owed_42 ?_
        have hAn : ∀ q : Nat, H.size ≤ q → A q := fun q h => hA q (Nat.le_trans hS.1 h)
        refine rh_call2 (vx_runS (As := [.ref (ua 3), .ref (ua 2), .int (nI (L 6 j))]) (rest := [.int (nI u)]) ⟨hx, hb, hml, hown, hts⟩ (ct_L_pair l (L 6 j) (by omega) hub) (va_cwS 3 hts gL_owed_L_pair rfl rfl rfl (by decide +kernel) ⟨by decide, by decide⟩) (rh_pre2 hE hS hAn (fun q h => h) hU) rfl rfl hl.1 rfl (lv_room (Nat.le_of_ble_eq_true rfl)) dL_owed_43 ⟨by decide, by decide⟩) hS hAn (fun _ _ _ _ _ hX9 _ _ _ _ _ _ => hX9.elim) (fun o H locs hN9 hz9 hk9 hS => ?_)
        have hN9 := hN9
        subst hN9
        have hk9 := fun q hq => hk9 q hq (Nat.not_le.mpr hq)
        have hU := hU.grow hk9
        refine W.eq (g2 := F0 m 46 ls [.int (nI (u_pr L (L 6 j))), .int (nI u)]) rfl ?_
        refine lv_iload hx hb dL_owed_46 (lv_at hl 7 rfl) ?_
        refine un_cne (tgt := 78) hx hb dL_owed_48 (by decide) (by omega) (by omega) (fun c19 => ?_) (fun c19 => ?_)
        · refine lv_iconst (v := nI 0) hx hb dL_owed_78 (by decide) ?_
          exact jn79_278 0 (by omega) _ _ hU hS
        · refine lv_aload_n hx hb dL_owed_51 rfl (lv_at hl 2 rfl) ?_
          refine lv_aload hx hb dL_owed_52 (lv_at hl 5 rfl) ?_
          refine lv_iload hx hb dL_owed_54 (lv_at hl 14 rfl) ?_
          have hb56_305 := hub 6 j
          refine un_ald (L := L) hx hb hE hU 6 (by decide) j (show j < 40 from (by omega)) dL_owed_56 ?_
          have hAn : ∀ q : Nat, H.size ≤ q → A q := fun q h => hA q (Nat.le_trans hS.1 h)
          refine rh_call2 (vx_runS (As := [.ref (ua 3), .int (nI (L 6 j))]) (rest := [.int (nI u)]) ⟨hx, hb, hml, hown, hts⟩ (ct_L_month l (L 6 j) (by omega) hub) (va_cwS 2 hts gL_owed_L_month rfl rfl rfl (by decide +kernel) ⟨by decide, by decide⟩) (rh_pre2 hE hS hAn (fun q h => h) hU) rfl rfl hl.1 rfl (lv_room (Nat.le_of_ble_eq_true rfl)) dL_owed_57 ⟨by decide, by decide⟩) hS hAn (fun _ _ _ _ _ hX9 _ _ _ _ _ _ => hX9.elim) (fun o H locs hN9 hz9 hk9 hS => ?_)
          have hN9 := hN9
          subst hN9
          have hk9 := fun q hq => hk9 q hq (Nat.not_le.mpr hq)
          have hU := hU.grow hk9
          refine W.eq (g2 := F0 m 60 ls [.int (nI (u_mo L (L 6 j))), .int (nI u)]) rfl ?_
          refine lv_bipush (v := nI 12) hx hb dL_owed_60 (by decide) ?_
          refine un_div hx hb dL_owed_62 (by omega) (by decide) (by decide) ?_
          refine lv_iload hx hb dL_owed_63 (lv_at hl 12 rfl) ?_
          refine un_cne (tgt := 78) hx hb dL_owed_65 (by decide) (by omega) (by omega) (fun c20 => ?_) (fun c20 => ?_)
          · refine lv_iconst (v := nI 0) hx hb dL_owed_78 (by decide) ?_
            exact jn79_278 0 (by omega) _ _ hU hS
          · refine lv_aload_n hx hb dL_owed_68 rfl (lv_at hl 3 rfl) ?_
            refine lv_aload hx hb dL_owed_69 (lv_at hl 5 rfl) ?_
            refine lv_iload hx hb dL_owed_71 (lv_at hl 14 rfl) ?_
            have hb73_323 := hub 6 j
            refine un_ald (L := L) hx hb hE hU 6 (by decide) j (show j < 40 from (by omega)) dL_owed_73 ?_
            have hb74_325 := hub 4 (L 6 j)
            refine un_ald (L := L) hx hb hE hU 4 (by decide) (L 6 j) (show (L 6 j) < 40 from (by omega)) dL_owed_74 ?_
            refine lv_goto (tgt := 79) hx hb dL_owed_75 (by decide) ?_
            exact jn79_278 (L 4 (L 6 j)) (by omega) _ _ hU hS
  exact loop26 (L 0 2 + 1) 0 0 _ _ _ (by omega) (by omega) rfl hU hS (lv_sub hl [4, 5, 6, 7, 8, 9, 10, 11, 12, 13, 14, 3, 2, 1, 0] rfl)
