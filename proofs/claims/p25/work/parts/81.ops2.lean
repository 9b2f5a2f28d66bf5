/-! ===== more deeds ===== -/
set_option maxHeartbeats 8000000 in
set_option maxRecDepth 100000 in
theorem op_enter {p : Program} {l : Launch} {e : Env} {s : State} {m : MethodId} {below : List Frame} {meth : Method} {c : Code} {G : va_G} {ca : Nat → ClassId} {A : Nat → Prop} {ua : Nat → Nat} {b Ls : Nat} {xs : Nat → Int32} {h1 t y : Nat} {cells slots : Nat} {Q : State → Prop} {ad : Nat → Nat → Nat} {nf nc : Nat} {r : rh_R} {v : rh_V} {w : rh_Wm} {L : u_L} {H : Heap} {locs : List Loc} {ls : Array Slot} {kd ho hm pr fi ci : Nat} (C : lwC p l s m c G ca A ua b Ls xs) (hLS : lwS G ca A ua h1 ad nf nc r v w L H) (hS : va_S A s.heap H locs) (hl : lv_has ls 24 [(0, .ref b), (1, .ref h1), (2, .ref (ua 0)), (3, .ref (ua 1)), (4, .ref (ua 2)), (5, .ref (ua 3)), (6, .ref (ua 4)), (7, .ref (ua 5)), (8, .ref (ua 6)), (9, .ref (ua 7)), (10, .ref (ua 8)), (11, .int (nI 1)), (12, .int (nI t)), (14, .int (nI kd)), (15, .int (nI y)), (16, .int (nI ho)), (17, .int (nI hm)), (18, .int (nI pr)), (19, .int (nI fi)), (20, .int (nI ci))]) (hyb : y < 100000000) (hho : ho < 4) (hhm : hm < 4) (hne : ho ≠ hm) (hpr : pr = ho + 4 * hm) (hfi : (nf = 0 ∧ fi = 0) ∨ fi < nf) (hci : (nc = 0 ∧ ci = 0) ∨ ci < nc) (hnc4 : nc < 40) (hcl : cells + 10 ≤ 665269) (hsl : slots + 80 ≤ 7105890) (hK : lwK p l e s m below meth c G ca A ua b h1 t y cells slots Q) : W p l e room_1 s m #[Value.ref b] below meth c H locs cells slots Q (F0 m 699 ls []) := by
  obtain ⟨hx, hb, hml, hown, hts, hE, hnc9, hlf, hA, hbA, hbl, hX, hLm, hUD⟩ := C
  obtain ⟨rfl, hW, hU, hinv, hlr, h7, hD⟩ := hLS
  have hub := hlr.1
  have hla := hlr.2.2.1
  have hn00 := hlr.2.1.1.1
  have hn16 := hlr.2.1.1.2
  have hn01 := hlr.2.1.2.1.1
  have hn40 := hlr.2.1.2.1.2
  have hn36 := hlr.2.1.2.2.2.1
  have hlk := o_lk hinv hlr
  have hnow := o_now hinv hlr
  have hl : lv_has ls 24 [(0, .ref b), (1, .ref (ad 0 0)), (2, .ref (ua 0)), (3, .ref (ua 1)), (4, .ref (ua 2)), (5, .ref (ua 3)), (6, .ref (ua 4)), (7, .ref (ua 5)), (8, .ref (ua 6)), (9, .ref (ua 7)), (10, .ref (ua 8)), (11, .int (nI 1)), (12, .int (nI t)), (14, .int (nI kd)), (15, .int (nI y)), (16, .int (nI ho)), (17, .int (nI hm)), (18, .int (nI pr)), (19, .int (nI fi)), (20, .int (nI ci))] := hl
  refine lv_iconst (v := nI 1) hx hb dL_law_699 (by decide) ?_
  refine lv_iload hx hb dL_law_700 (lv_at hl 14 rfl) ?_
  refine lv_bipush (v := nI 16) hx hb dL_law_702 (by decide) ?_
  refine un_div hx hb dL_law_704 (by omega) (by decide) (by decide) ?_
  have jn720_18 : ∀ (m1 : Nat), (y % 3 = 0 ∧ m1 = 36000) ∨ (¬ y % 3 = 0 ∧ m1 = 400) → W p l e room_1 s m #[Value.ref b] below meth c H locs cells slots (Q) (F0 m 720 ls [.int (nI m1), .int (nI (y / 16)), .int (nI 1)]) := by
    intro m1 hm1
    refine un_rem hx hb dL_law_720 (by omega) (by omega) (by omega) ?_
    refine un_add hx hb dL_law_721 ?_
    obtain ⟨se, hsev⟩ : ∃ z : Nat, z = (1 + ((y / 16) % m1)) := ⟨_, rfl⟩
    refine un_top (y := nI se) (congrArg nI hsev.symm) ?_
    have hse1 : 1 ≤ se := by omega
    have hse2 : se ≤ 36000 := by have := Nat.mod_lt (y / 16) (show m1 > 0 by omega); omega
    refine lv_istore (lv' := [(21, .int (nI se)), (0, .ref b), (1, .ref (ad 0 0)), (2, .ref (ua 0)), (3, .ref (ua 1)), (4, .ref (ua 2)), (5, .ref (ua 3)), (6, .ref (ua 4)), (7, .ref (ua 5)), (8, .ref (ua 6)), (9, .ref (ua 7)), (10, .ref (ua 8)), (11, .int (nI 1)), (12, .int (nI t)), (14, .int (nI kd)), (15, .int (nI y)), (16, .int (nI ho)), (17, .int (nI hm)), (18, .int (nI pr)), (19, .int (nI fi)), (20, .int (nI ci))]) hx hb dL_law_722 hl (by decide) rfl (fun ls hl => ?_)
    have jn765_27 : ∀ (to : Nat), to ≤ 50000000 → ∀ (H : Heap) (locs : List Loc), rh_W G ca ad nf nc r v H → u_W G ca ua L H → va_S A s.heap H locs → W p l e room_1 s m #[Value.ref b] below meth c H locs cells slots (Q) (F0 m 765 ls [.int (nI to)]) := by
      intro to hto H locs hW hU hS
      refine lv_istore (lv' := [(22, .int (nI to)), (21, .int (nI se)), (0, .ref b), (1, .ref (ad 0 0)), (2, .ref (ua 0)), (3, .ref (ua 1)), (4, .ref (ua 2)), (5, .ref (ua 3)), (6, .ref (ua 4)), (7, .ref (ua 5)), (8, .ref (ua 6)), (9, .ref (ua 7)), (10, .ref (ua 8)), (11, .int (nI 1)), (12, .int (nI t)), (14, .int (nI kd)), (15, .int (nI y)), (16, .int (nI ho)), (17, .int (nI hm)), (18, .int (nI pr)), (19, .int (nI fi)), (20, .int (nI ci))]) hx hb dL_law_765 hl (by decide) rfl (fun ls hl => ?_)
      refine lv_aload_n hx hb dL_law_767 rfl (lv_at hl 4 rfl) ?_
      refine lv_iconst (v := nI 0) hx hb dL_law_768 (by decide) ?_
      have hb769_32 := hub 0 0
      refine un_ald (L := L) hx hb hE hU 0 (by decide) 0 (show 0 < 4 from (by decide)) dL_law_769 ?_
      refine un_top (y := nI nf) (congrArg nI hn00) ?_
      refine un_ine (tgt := 778) hx hb dL_law_770 (by decide) (by omega) (fun c1 => ?_) (fun c1 => ?_)
      · have hfl : fi < nf := by omega
        refine lv_aload hx hb dL_law_778 (lv_at hl 6 rfl) ?_
        refine lv_iconst (v := nI 4) hx hb dL_law_780 (by decide) ?_
        refine lv_iload hx hb dL_law_781 (lv_at hl 20 rfl) ?_
        refine un_mul hx hb dL_law_783 ?_
        refine lv_iconst (v := nI 2) hx hb dL_law_784 (by decide) ?_
        refine un_add hx hb dL_law_785 ?_
        have hb786_43 := hub 2 ((4 * fi) + 2)
        refine un_ald (L := L) hx hb hE hU 2 (by decide) ((4 * fi) + 2) (show ((4 * fi) + 2) < 64 from (by omega)) dL_law_786 ?_
        refine un_ile (tgt := 795) hx hb dL_law_787 (by decide) (by omega) (fun c2 => ?_) (fun c2 => ?_)
        · have hst0 : L 2 (4 * fi + 2) = 0 := c2
          refine lv_aload_n hx hb dL_law_795 rfl (lv_at hl 4 rfl) ?_
          refine lv_iconst (v := nI 1) hx hb dL_law_796 (by decide) ?_
          have hb797_49 := hub 0 1
          refine un_ald (L := L) hx hb hE hU 0 (by decide) 1 (show 1 < 4 from (by decide)) dL_law_797 ?_
          refine un_top (y := nI nc) (congrArg nI hn01) ?_
          refine lv_istore (lv' := [(23, .int (nI nc)), (22, .int (nI to)), (21, .int (nI se)), (0, .ref b), (1, .ref (ad 0 0)), (2, .ref (ua 0)), (3, .ref (ua 1)), (4, .ref (ua 2)), (5, .ref (ua 3)), (6, .ref (ua 4)), (7, .ref (ua 5)), (8, .ref (ua 6)), (9, .ref (ua 7)), (10, .ref (ua 8)), (11, .int (nI 1)), (12, .int (nI t)), (14, .int (nI kd)), (15, .int (nI y)), (16, .int (nI ho)), (17, .int (nI hm)), (18, .int (nI pr)), (19, .int (nI fi)), (20, .int (nI ci))]) hx hb dL_law_798 hl (by decide) rfl (fun ls hl => ?_)
          refine lv_iload hx hb dL_law_800 (lv_at hl 0 rfl) ?_
          refine un_ilt (tgt := 833) hx hb dL_law_802 (by decide) (by omega) ?_
          refine lv_aload hx hb dL_law_805 (lv_at hl 8 rfl) ?_
          refine lv_iload hx hb dL_law_807 (lv_at hl 0 rfl) ?_
          refine lv_iload hx hb dL_law_809 (lv_at hl 21 rfl) ?_
          refine un_ast (L := L) (x := fi) hx hb hE hU hUD hS 3 (by decide) nc (show nc < 40 from (by omega)) dL_law_811 (fun H locs hU hz9 ho9 hS => ?_)
          have hW := hW.keptU hD (k := 3) (by decide) ho9
          refine lv_aload hx hb dL_law_812 (lv_at hl 9 rfl) ?_
          refine lv_iload hx hb dL_law_814 (lv_at hl 0 rfl) ?_
          refine lv_iload hx hb dL_law_816 (lv_at hl 2 rfl) ?_
          refine un_ast (L := (un L 3 nc fi)) (x := se) hx hb hE hU hUD hS 4 (by decide) nc (show nc < 40 from (by omega)) dL_law_818 (fun H locs hU hz9 ho9 hS => ?_)
          have hW := hW.keptU hD (k := 4) (by decide) ho9
          refine lv_aload hx hb dL_law_819 (lv_at hl 10 rfl) ?_
          refine lv_iload hx hb dL_law_821 (lv_at hl 0 rfl) ?_
          refine lv_iload hx hb dL_law_823 (lv_at hl 1 rfl) ?_
          refine un_ast (L := (un (un L 3 nc fi) 4 nc se)) (x := to) hx hb hE hU hUD hS 5 (by decide) nc (show nc < 40 from (by omega)) dL_law_825 (fun H locs hU hz9 ho9 hS => ?_)
          have hW := hW.keptU hD (k := 5) (by decide) ho9
          refine lv_aload_n hx hb dL_law_826 rfl (lv_at hl 5 rfl) ?_
          refine lv_iconst (v := nI 1) hx hb dL_law_827 (by decide) ?_
          refine lv_dup2_11 hx hb dL_law_828 rfl rfl ?_
          have hb829_73 := hub 0 1
          refine un_ald (L := (un (un (un L 3 nc fi) 4 nc se) 5 nc to)) hx hb hE hU 0 (by decide) 1 (show 1 < 4 from (by decide)) dL_law_829 ?_
          refine un_top (y := nI (L 0 1)) (congrArg nI (by simp [un])) ?_
          refine un_top (y := nI nc) (congrArg nI hn01) ?_
          refine lv_iconst (v := nI 1) hx hb dL_law_830 (by decide) ?_
          refine un_add hx hb dL_law_831 ?_
          refine un_ast (L := (un (un (un L 3 nc fi) 4 nc se) 5 nc to)) (x := (nc + 1)) hx hb hE hU hUD hS 0 (by decide) 1 (show 1 < 4 from (by decide)) dL_law_832 (fun H locs hU hz9 ho9 hS => ?_)
          have hW := hW.keptU hD (k := 0) (by decide) ho9
          refine lv_aload_n hx hb dL_law_833 rfl (lv_at hl 4 rfl) ?_
          refine lv_iconst (v := nI 1) hx hb dL_law_834 (by decide) ?_
          refine lv_iload hx hb dL_law_835 (lv_at hl 21 rfl) ?_
          refine lv_iload hx hb dL_law_837 (lv_at hl 2 rfl) ?_
          refine lv_iload hx hb dL_law_839 (lv_at hl 1 rfl) ?_
          have hA19 : ∀ q, lH A ua q → A q := fun q h => h.1
          have hB19 := lH_up hA hS.1 hU
          refine rh_call2 (vx_runSX (As := [.ref (ad 0 0), .int (nI 1), .int (nI fi), .int (nI se), .int (nI to)]) (rest := []) ⟨hx, hb, hml, hown, hts⟩ (hl_does1 l hlf hD hinv.1 fi se to) (vx_cwSW 5 hts gL_law_L_does rfl rfl rfl (by decide +kernel) ⟨by decide, by decide⟩) (rh_prel hE hnc9 hS hA19 hB19 hW) rfl rfl hl.1 rfl (lv_room (Nat.le_of_ble_eq_true rfl)) dL_law_841 ⟨show cells + 5 ≤ 665269 by omega, show slots + 40 ≤ 7105890 by omega⟩) hS hA19 (fun _ _ _ _ _ hX9 _ _ _ _ _ _ => hX9.elim) (fun o H locs hN9 hz9 hk9 hS => ?_)
          have hU := hU.kept (fun k hk => hk9 _ (hU.lt hk) (fun z => z.2 k hk rfl))
          rcases hN9 with ⟨i9, hi9, e9, hr0, hr1, hs0, hcl6, rfl, q8, hW, hD8⟩ | ⟨hz, rfl, hW⟩ | ⟨⟨hz0, hz⟩, rfl, hW⟩ | ⟨⟨i9, hi9, e9, hr0, hr1, hz⟩, rfl, hW⟩
          · obtain rfl : fi = i9 := m_inj (by omega) (by omega) e9
            have hD := hD8
            refine W.eq (g2 := F0 m 844 ls [.int (nI nc)]) rfl ?_
            refine un_top (y := nI nc) rfl ?_
            refine lv_iload hx hb dL_law_844 (lv_at hl 0 rfl) ?_
            refine un_cne (tgt := 853) hx hb dL_law_846 (by decide) (by omega) (by omega) (fun c4 => absurd rfl c4) (fun c4 => ?_)
            refine lv_iconst (v := nI 1) hx hb dL_law_849 (by decide) ?_
            refine lv_goto (tgt := 854) hx hb dL_law_850 (by decide) ?_
            refine lv_istore (lv' := [(11, .int (nI 1)), (23, .int (nI nc)), (22, .int (nI to)), (21, .int (nI se)), (0, .ref b), (1, .ref (ad 0 0)), (2, .ref (ua 0)), (3, .ref (ua 1)), (4, .ref (ua 2)), (5, .ref (ua 3)), (6, .ref (ua 4)), (7, .ref (ua 5)), (8, .ref (ua 6)), (9, .ref (ua 7)), (10, .ref (ua 8)), (12, .int (nI t)), (14, .int (nI kd)), (15, .int (nI y)), (16, .int (nI ho)), (17, .int (nI hm)), (18, .int (nI pr)), (19, .int (nI fi)), (20, .int (nI ci))]) hx hb dL_law_854 hl (by decide) rfl (fun ls hl => ?_)
            refine lv_goto (tgt := 1624) hx hb dL_law_856 (by decide) ?_
            exact hK (ad2 ad 9 nc q8) nf (nc + 1) (ad2 r 9 nc fi) (wr (wr (c_call v nc (nI se) (nI to)) 0 0 5 (nI (nc + 1))) 8 fi 3 (v 8 fi 3 + 1)) (wm (wm (wm (wm (wm w 10 nc (nI fi)) 11 nc (nI se)) 12 nc (nI to)) 13 nc 0) 26 9 (nI (nc + 1))) (un (un (un (un L 3 nc fi) 4 nc se) 5 nc to) 0 1 (nc + 1)) H _ _ ⟨rfl, hW, hU, i_enter hinv (by omega) hfl ((o_wst hlr hfl 0 (by decide)).mpr hst0) _ _, lr_enter hlr hnc4 hfl hse1 hse2 hto, (le7_eq h7 rfl (fun _ => rfl)), hD⟩ hS (lv_sub hl [4, 5, 6, 7, 8, 9, 10, 11, 12, 13, 14, 0, 15, 17] rfl)
          · exact absurd (ix_nI hfl (by omega)) hz
          · exact absurd ⟨u_rg (a := 1) (b := 36000) hse1 hse2 (by decide), u_rg (a := 0) (b := 50000000) (Nat.zero_le _) hto (by decide)⟩ hz
          · obtain rfl : fi = i9 := m_inj (by omega) (by omega) e9
            exact absurd (by rw [o_state hinv hlr hfl, hst0]; rfl) (hz.resolve_right (by omega))
        · have hst0 : ¬ L 2 (4 * fi + 2) = 0 := c2
          refine lv_bipush (v := -13) hx hb dL_law_790 (by decide) ?_
          refine lv_goto (tgt := 798) hx hb dL_law_792 (by decide) ?_
          refine lv_istore (lv' := [(23, .int (-13)), (22, .int (nI to)), (21, .int (nI se)), (0, .ref b), (1, .ref (ad 0 0)), (2, .ref (ua 0)), (3, .ref (ua 1)), (4, .ref (ua 2)), (5, .ref (ua 3)), (6, .ref (ua 4)), (7, .ref (ua 5)), (8, .ref (ua 6)), (9, .ref (ua 7)), (10, .ref (ua 8)), (11, .int (nI 1)), (12, .int (nI t)), (14, .int (nI kd)), (15, .int (nI y)), (16, .int (nI ho)), (17, .int (nI hm)), (18, .int (nI pr)), (19, .int (nI fi)), (20, .int (nI ci))]) hx hb dL_law_798 hl (by decide) rfl (fun ls hl => ?_)
          refine lv_iload hx hb dL_law_800 (lv_at hl 0 rfl) ?_
          refine lv_if_lt (tgt := 833) hx hb dL_law_802 (by decide) (fun c5 => ?_) (fun c5 => absurd (show (-13 : Int32) < 0 by decide) c5)
          refine lv_aload_n hx hb dL_law_833 rfl (lv_at hl 4 rfl) ?_
          refine lv_iconst (v := nI 1) hx hb dL_law_834 (by decide) ?_
          refine lv_iload hx hb dL_law_835 (lv_at hl 21 rfl) ?_
          refine lv_iload hx hb dL_law_837 (lv_at hl 2 rfl) ?_
          refine lv_iload hx hb dL_law_839 (lv_at hl 1 rfl) ?_
          have hA19 : ∀ q, lH A ua q → A q := fun q h => h.1
          have hB19 := lH_up hA hS.1 hU
          refine rh_call2 (vx_runSX (As := [.ref (ad 0 0), .int (nI 1), .int (nI fi), .int (nI se), .int (nI to)]) (rest := []) ⟨hx, hb, hml, hown, hts⟩ (hl_does1 l hlf hD hinv.1 fi se to) (vx_cwSW 5 hts gL_law_L_does rfl rfl rfl (by decide +kernel) ⟨by decide, by decide⟩) (rh_prel hE hnc9 hS hA19 hB19 hW) rfl rfl hl.1 rfl (lv_room (Nat.le_of_ble_eq_true rfl)) dL_law_841 ⟨show cells + 5 ≤ 665269 by omega, show slots + 40 ≤ 7105890 by omega⟩) hS hA19 (fun _ _ _ _ _ hX9 _ _ _ _ _ _ => hX9.elim) (fun o H locs hN9 hz9 hk9 hS => ?_)
          have hU := hU.kept (fun k hk => hk9 _ (hU.lt hk) (fun z => z.2 k hk rfl))
          rcases hN9 with ⟨i9, hi9, e9, hr0, hr1, hs0, hcl6, rfl, q8, hW, hD8⟩ | ⟨hz, rfl, hW⟩ | ⟨⟨hz0, hz⟩, rfl, hW⟩ | ⟨⟨i9, hi9, e9, hr0, hr1, hz⟩, rfl, hW⟩
          · obtain rfl : fi = i9 := m_inj (by omega) (by omega) e9
            exact absurd (m_inj (b := 0) (by have := hub 2 (4 * fi + 2); omega) (by decide) ((o_state hinv hlr hfl).symm.trans hs0)) hst0
          · exact absurd (ix_nI hfl (by omega)) hz
          · exact absurd ⟨u_rg (a := 1) (b := 36000) hse1 hse2 (by decide), u_rg (a := 0) (b := 50000000) (Nat.zero_le _) hto (by decide)⟩ hz
          · refine W.eq (g2 := F0 m 844 ls [.int (-13)]) rfl ?_
            refine lv_iload hx hb dL_law_844 (lv_at hl 0 rfl) ?_
            refine lv_icmp_ne (tgt := 853) hx hb dL_law_846 (by decide) (fun c6 => absurd rfl c6) (fun c6 => ?_)
            refine lv_iconst (v := nI 1) hx hb dL_law_849 (by decide) ?_
            refine lv_goto (tgt := 854) hx hb dL_law_850 (by decide) ?_
            refine lv_istore (lv' := [(11, .int (nI 1)), (23, .int (-13)), (22, .int (nI to)), (21, .int (nI se)), (0, .ref b), (1, .ref (ad 0 0)), (2, .ref (ua 0)), (3, .ref (ua 1)), (4, .ref (ua 2)), (5, .ref (ua 3)), (6, .ref (ua 4)), (7, .ref (ua 5)), (8, .ref (ua 6)), (9, .ref (ua 7)), (10, .ref (ua 8)), (12, .int (nI t)), (14, .int (nI kd)), (15, .int (nI y)), (16, .int (nI ho)), (17, .int (nI hm)), (18, .int (nI pr)), (19, .int (nI fi)), (20, .int (nI ci))]) hx hb dL_law_854 hl (by decide) rfl (fun ls hl => ?_)
            refine lv_goto (tgt := 1624) hx hb dL_law_856 (by decide) ?_
            exact hK ad nf nc r v w L H _ _ ⟨rfl, hW, hU, hinv, hlr, h7, hD⟩ hS (lv_sub hl [4, 5, 6, 7, 8, 9, 10, 11, 12, 13, 14, 0, 15, 17] rfl)
      · refine lv_bipush (v := -11) hx hb dL_law_773 (by decide) ?_
        refine lv_goto (tgt := 798) hx hb dL_law_775 (by decide) ?_
        refine lv_istore (lv' := [(23, .int (-11)), (22, .int (nI to)), (21, .int (nI se)), (0, .ref b), (1, .ref (ad 0 0)), (2, .ref (ua 0)), (3, .ref (ua 1)), (4, .ref (ua 2)), (5, .ref (ua 3)), (6, .ref (ua 4)), (7, .ref (ua 5)), (8, .ref (ua 6)), (9, .ref (ua 7)), (10, .ref (ua 8)), (11, .int (nI 1)), (12, .int (nI t)), (14, .int (nI kd)), (15, .int (nI y)), (16, .int (nI ho)), (17, .int (nI hm)), (18, .int (nI pr)), (19, .int (nI fi)), (20, .int (nI ci))]) hx hb dL_law_798 hl (by decide) rfl (fun ls hl => ?_)
        refine lv_iload hx hb dL_law_800 (lv_at hl 0 rfl) ?_
        refine lv_if_lt (tgt := 833) hx hb dL_law_802 (by decide) (fun c7 => ?_) (fun c7 => absurd (show (-11 : Int32) < 0 by decide) c7)
        refine lv_aload_n hx hb dL_law_833 rfl (lv_at hl 4 rfl) ?_
        refine lv_iconst (v := nI 1) hx hb dL_law_834 (by decide) ?_
        refine lv_iload hx hb dL_law_835 (lv_at hl 21 rfl) ?_
        refine lv_iload hx hb dL_law_837 (lv_at hl 2 rfl) ?_
        refine lv_iload hx hb dL_law_839 (lv_at hl 1 rfl) ?_
        have hA19 : ∀ q, lH A ua q → A q := fun q h => h.1
        have hB19 := lH_up hA hS.1 hU
        refine rh_call2 (vx_runSX (As := [.ref (ad 0 0), .int (nI 1), .int (nI fi), .int (nI se), .int (nI to)]) (rest := []) ⟨hx, hb, hml, hown, hts⟩ (hl_does1 l hlf hD hinv.1 fi se to) (vx_cwSW 5 hts gL_law_L_does rfl rfl rfl (by decide +kernel) ⟨by decide, by decide⟩) (rh_prel hE hnc9 hS hA19 hB19 hW) rfl rfl hl.1 rfl (lv_room (Nat.le_of_ble_eq_true rfl)) dL_law_841 ⟨show cells + 5 ≤ 665269 by omega, show slots + 40 ≤ 7105890 by omega⟩) hS hA19 (fun _ _ _ _ _ hX9 _ _ _ _ _ _ => hX9.elim) (fun o H locs hN9 hz9 hk9 hS => ?_)
        have hU := hU.kept (fun k hk => hk9 _ (hU.lt hk) (fun z => z.2 k hk rfl))
        rcases hN9 with ⟨i9, hi9, e9, hr0, hr1, hs0, hcl6, rfl, q8, hW, hD8⟩ | ⟨hz, rfl, hW⟩ | ⟨⟨hz0, hz⟩, rfl, hW⟩ | ⟨⟨i9, hi9, e9, hr0, hr1, hz⟩, rfl, hW⟩
        · exact absurd hi9 (by omega)
        · refine W.eq (g2 := F0 m 844 ls [.int (-11)]) rfl ?_
          refine lv_iload hx hb dL_law_844 (lv_at hl 0 rfl) ?_
          refine lv_icmp_ne (tgt := 853) hx hb dL_law_846 (by decide) (fun c8 => absurd rfl c8) (fun c8 => ?_)
          refine lv_iconst (v := nI 1) hx hb dL_law_849 (by decide) ?_
          refine lv_goto (tgt := 854) hx hb dL_law_850 (by decide) ?_
          refine lv_istore (lv' := [(11, .int (nI 1)), (23, .int (-11)), (22, .int (nI to)), (21, .int (nI se)), (0, .ref b), (1, .ref (ad 0 0)), (2, .ref (ua 0)), (3, .ref (ua 1)), (4, .ref (ua 2)), (5, .ref (ua 3)), (6, .ref (ua 4)), (7, .ref (ua 5)), (8, .ref (ua 6)), (9, .ref (ua 7)), (10, .ref (ua 8)), (12, .int (nI t)), (14, .int (nI kd)), (15, .int (nI y)), (16, .int (nI ho)), (17, .int (nI hm)), (18, .int (nI pr)), (19, .int (nI fi)), (20, .int (nI ci))]) hx hb dL_law_854 hl (by decide) rfl (fun ls hl => ?_)
          refine lv_goto (tgt := 1624) hx hb dL_law_856 (by decide) ?_
          exact hK ad nf nc r v w L H _ _ ⟨rfl, hW, hU, hinv, hlr, h7, hD⟩ hS (lv_sub hl [4, 5, 6, 7, 8, 9, 10, 11, 12, 13, 14, 0, 15, 17] rfl)
        · exact absurd hz0.2 (by have := hz0.1; omega)
        · exact absurd hi9 (by omega)
    refine lv_aload_n hx hb dL_law_724 rfl (lv_at hl 3 rfl) ?_
    refine lv_iconst (v := nI 0) hx hb dL_law_725 (by decide) ?_
    have hb726_162 := hub 0 0
    refine un_ald (L := L) hx hb hE hU 0 (by decide) 0 (show 0 < 4 from (by decide)) dL_law_726 ?_
    refine un_top (y := nI nf) (congrArg nI hn00) ?_
    refine un_ieq (tgt := 738) hx hb dL_law_727 (by decide) (by omega) (fun c9 => ?_) (fun c9 => ?_)
    · refine lv_iload hx hb dL_law_738 (lv_at hl 15 rfl) ?_
      refine lv_bipush (v := nI 11) hx hb dL_law_740 (by decide) ?_
      refine un_div hx hb dL_law_742 (by omega) (by decide) (by decide) ?_
      refine lv_sipush (v := nI 5000) hx hb dL_law_743 (by decide) ?_
      refine un_rem hx hb dL_law_746 (by omega) (by decide) (by decide) ?_
      refine lv_goto (tgt := 765) hx hb dL_law_747 (by decide) ?_
      exact jn765_27 ((y / 11) % 5000) (by omega) _ _ hW hU hS
    · refine lv_iload hx hb dL_law_730 (lv_at hl 15 rfl) ?_
      refine lv_bipush (v := nI 6) hx hb dL_law_732 (by decide) ?_
      refine un_rem hx hb dL_law_734 (by omega) (by decide) (by decide) ?_
      refine un_ine (tgt := 750) hx hb dL_law_735 (by decide) (by omega) (fun c10 => ?_) (fun c10 => ?_)
      · refine lv_aload_n hx hb dL_law_750 rfl (lv_at hl 4 rfl) ?_
        refine lv_aload hx hb dL_law_751 (lv_at hl 5 rfl) ?_
        refine lv_iconst (v := nI 4) hx hb dL_law_753 (by decide) ?_
        refine lv_iload hx hb dL_law_754 (lv_at hl 19 rfl) ?_
        refine un_mul hx hb dL_law_756 ?_
        have hb757_182 := hub 2 (4 * fi)
        refine un_ald (L := L) hx hb hE hU 2 (by decide) (4 * fi) (show (4 * fi) < 64 from (by omega)) dL_law_757 ?_
        refine lv_iconst (v := nI 4) hx hb dL_law_758 (by decide) ?_
        refine un_rem hx hb dL_law_759 (by omega) (by decide) (by decide) ?_
        refine lv_iload hx hb dL_law_760 (lv_at hl 0 rfl) ?_
        have hAn : ∀ q : Nat, H.size ≤ q → A q := fun q h => hA q (Nat.le_trans hS.1 h)
        refine rh_call2 (vx_runS (As := [.ref (ua 1), .int (nI ((L 2 (4 * fi)) % 4)), .int (nI se)]) (rest := []) ⟨hx, hb, hml, hown, hts⟩ (ct_L_charge l ((L 2 (4 * fi)) % 4) (by omega) se (by omega) hub hla) (va_cwS 3 hts gL_law_L_charge rfl rfl rfl (by decide +kernel) ⟨by decide, by decide⟩) (rh_pre2 hE hS hAn (fun q h => h) hU) rfl rfl hl.1 rfl (lv_room (Nat.le_of_ble_eq_true rfl)) dL_law_762 ⟨show cells + 0 ≤ 665269 by omega, show slots + 0 ≤ 7105890 by omega⟩) hS hAn (fun _ _ _ _ _ hX9 _ _ _ _ _ _ => hX9.elim) (fun o H locs hN9 hz9 hk9 hS => ?_)
        have hN9 := hN9
        subst hN9
        have hk9 := fun q hq => hk9 q hq (Nat.not_le.mpr hq)
        have hW := hW.grow hk9
        have hU := hU.grow hk9
        refine W.eq (g2 := F0 m 765 ls [.int (nI (u_ch L ((L 2 (4 * fi)) % 4) se))]) rfl ?_
        have huc := u_ch_le hla (i := L 2 (4 * fi) % 4) (s := se) (by omega) hse2
        exact jn765_27 (u_ch L ((L 2 (4 * fi)) % 4) se) (by omega) _ _ hW hU hS
      · refine lv_iload hx hb dL_law_738 (lv_at hl 15 rfl) ?_
        refine lv_bipush (v := nI 11) hx hb dL_law_740 (by decide) ?_
        refine un_div hx hb dL_law_742 (by omega) (by decide) (by decide) ?_
        refine lv_sipush (v := nI 5000) hx hb dL_law_743 (by decide) ?_
        refine un_rem hx hb dL_law_746 (by omega) (by decide) (by decide) ?_
        refine lv_goto (tgt := 765) hx hb dL_law_747 (by decide) ?_
        exact jn765_27 ((y / 11) % 5000) (by omega) _ _ hW hU hS
  refine lv_iload hx hb dL_law_705 (lv_at hl 14 rfl) ?_
  refine lv_iconst (v := nI 3) hx hb dL_law_707 (by decide) ?_
  refine un_rem hx hb dL_law_708 (by omega) (by decide) (by decide) ?_
  refine un_ine (tgt := 717) hx hb dL_law_709 (by decide) (by omega) (fun c11 => ?_) (fun c11 => ?_)
  · refine lv_sipush (v := nI 400) hx hb dL_law_717 (by decide) ?_
    exact jn720_18 400 (by omega)
  · refine lv_ldc (v := 36000) hx hb hown (hts (.constant RL 110 (36000)) (by decide +kernel)) dL_law_712 ?_
    refine un_top (y := nI 36000) rfl ?_
    refine lv_goto (tgt := 720) hx hb dL_law_714 (by decide) ?_
    exact jn720_18 36000 (by omega)
set_option maxHeartbeats 8000000 in
set_option maxRecDepth 100000 in
theorem op_send {p : Program} {l : Launch} {e : Env} {s : State} {m : MethodId} {below : List Frame} {meth : Method} {c : Code} {G : va_G} {ca : Nat → ClassId} {A : Nat → Prop} {ua : Nat → Nat} {b Ls : Nat} {xs : Nat → Int32} {h1 t y : Nat} {cells slots : Nat} {Q : State → Prop} {ad : Nat → Nat → Nat} {nf nc : Nat} {r : rh_R} {v : rh_V} {w : rh_Wm} {L : u_L} {H : Heap} {locs : List Loc} {ls : Array Slot} {kd ho hm pr fi ci : Nat} (C : lwC p l s m c G ca A ua b Ls xs) (hLS : lwS G ca A ua h1 ad nf nc r v w L H) (hS : va_S A s.heap H locs) (hl : lv_has ls 24 [(0, .ref b), (1, .ref h1), (2, .ref (ua 0)), (3, .ref (ua 1)), (4, .ref (ua 2)), (5, .ref (ua 3)), (6, .ref (ua 4)), (7, .ref (ua 5)), (8, .ref (ua 6)), (9, .ref (ua 7)), (10, .ref (ua 8)), (11, .int (nI 1)), (12, .int (nI t)), (14, .int (nI kd)), (15, .int (nI y)), (16, .int (nI ho)), (17, .int (nI hm)), (18, .int (nI pr)), (19, .int (nI fi)), (20, .int (nI ci))]) (hyb : y < 100000000) (hho : ho < 4) (hhm : hm < 4) (hne : ho ≠ hm) (hpr : pr = ho + 4 * hm) (hfi : (nf = 0 ∧ fi = 0) ∨ fi < nf) (hci : (nc = 0 ∧ ci = 0) ∨ ci < nc) (hcl : cells + 10 ≤ 665269) (hsl : slots + 80 ≤ 7105890) (hK : lwK p l e s m below meth c G ca A ua b h1 t y cells slots Q) : W p l e room_1 s m #[Value.ref b] below meth c H locs cells slots Q (F0 m 866 ls []) := by
  obtain ⟨hx, hb, hml, hown, hts, hE, hnc9, hlf, hA, hbA, hbl, hX, hLm, hUD⟩ := C
  obtain ⟨rfl, hW, hU, hinv, hlr, h7, hD⟩ := hLS
  have hub := hlr.1
  have hla := hlr.2.2.1
  have hn00 := hlr.2.1.1.1
  have hn16 := hlr.2.1.1.2
  have hn01 := hlr.2.1.2.1.1
  have hn40 := hlr.2.1.2.1.2
  have hn36 := hlr.2.1.2.2.2.1
  have hlk := o_lk hinv hlr
  have hnow := o_now hinv hlr
  have hl : lv_has ls 24 [(0, .ref b), (1, .ref (ad 0 0)), (2, .ref (ua 0)), (3, .ref (ua 1)), (4, .ref (ua 2)), (5, .ref (ua 3)), (6, .ref (ua 4)), (7, .ref (ua 5)), (8, .ref (ua 6)), (9, .ref (ua 7)), (10, .ref (ua 8)), (11, .int (nI 1)), (12, .int (nI t)), (14, .int (nI kd)), (15, .int (nI y)), (16, .int (nI ho)), (17, .int (nI hm)), (18, .int (nI pr)), (19, .int (nI fi)), (20, .int (nI ci))] := hl
  have jn910_14 : ∀ (nm : Nat), nm ≤ 20 → W p l e room_1 s m #[Value.ref b] below meth c H locs cells slots (Q) (F0 m 910 ls [.int (nI nm)]) := by
    intro nm hnm
    refine lv_istore (lv' := [(21, .int (nI nm)), (0, .ref b), (1, .ref (ad 0 0)), (2, .ref (ua 0)), (3, .ref (ua 1)), (4, .ref (ua 2)), (5, .ref (ua 3)), (6, .ref (ua 4)), (7, .ref (ua 5)), (8, .ref (ua 6)), (9, .ref (ua 7)), (10, .ref (ua 8)), (11, .int (nI 1)), (12, .int (nI t)), (14, .int (nI kd)), (15, .int (nI y)), (16, .int (nI ho)), (17, .int (nI hm)), (18, .int (nI pr)), (19, .int (nI fi)), (20, .int (nI ci))]) hx hb dL_law_910 hl (by decide) rfl (fun ls hl => ?_)
    have jn924_17 : ∀ (ny : Nat), 1 ≤ ny → ny ≤ 20 → W p l e room_1 s m #[Value.ref b] below meth c H locs cells slots (Q) (F0 m 924 ls [.int (nI ny)]) := by
      intro ny hny1 hny2
      refine lv_istore (lv' := [(21, .int (nI ny)), (0, .ref b), (1, .ref (ad 0 0)), (2, .ref (ua 0)), (3, .ref (ua 1)), (4, .ref (ua 2)), (5, .ref (ua 3)), (6, .ref (ua 4)), (7, .ref (ua 5)), (8, .ref (ua 6)), (9, .ref (ua 7)), (10, .ref (ua 8)), (11, .int (nI 1)), (12, .int (nI t)), (14, .int (nI kd)), (15, .int (nI y)), (16, .int (nI ho)), (17, .int (nI hm)), (18, .int (nI pr)), (19, .int (nI fi)), (20, .int (nI ci))]) hx hb dL_law_924 hl (by decide) rfl (fun ls hl => ?_)
      refine lv_iconst (v := nI 0) hx hb dL_law_926 (by decide) ?_
      refine lv_istore (lv' := [(22, .int (nI 0)), (21, .int (nI ny)), (0, .ref b), (1, .ref (ad 0 0)), (2, .ref (ua 0)), (3, .ref (ua 1)), (4, .ref (ua 2)), (5, .ref (ua 3)), (6, .ref (ua 4)), (7, .ref (ua 5)), (8, .ref (ua 6)), (9, .ref (ua 7)), (10, .ref (ua 8)), (11, .int (nI 1)), (12, .int (nI t)), (14, .int (nI kd)), (15, .int (nI y)), (16, .int (nI ho)), (17, .int (nI hm)), (18, .int (nI pr)), (19, .int (nI fi)), (20, .int (nI ci))]) hx hb dL_law_927 hl (by decide) rfl (fun ls hl => ?_)
      refine lv_iconst (v := nI 0) hx hb dL_law_929 (by decide) ?_
      refine lv_istore (lv' := [(23, .int (nI 0)), (22, .int (nI 0)), (21, .int (nI ny)), (0, .ref b), (1, .ref (ad 0 0)), (2, .ref (ua 0)), (3, .ref (ua 1)), (4, .ref (ua 2)), (5, .ref (ua 3)), (6, .ref (ua 4)), (7, .ref (ua 5)), (8, .ref (ua 6)), (9, .ref (ua 7)), (10, .ref (ua 8)), (11, .int (nI 1)), (12, .int (nI t)), (14, .int (nI kd)), (15, .int (nI y)), (16, .int (nI ho)), (17, .int (nI hm)), (18, .int (nI pr)), (19, .int (nI fi)), (20, .int (nI ci))]) hx hb dL_law_930 hl (by decide) rfl (fun ls hl => ?_)
      have loop932 : ∀ (n : Nat) (j : Nat) (cn : Nat) (H : Heap) (locs : List Loc) (ls : Array Slot), nc + 1 ≤ j + n → j ≤ nc → cn = u_all L fi j → rh_W G ca ad nf nc r v H → u_W G ca ua L H → va_S A s.heap H locs → lv_has ls 24 [(0, .ref b), (1, .ref (ad 0 0)), (2, .ref (ua 0)), (3, .ref (ua 1)), (4, .ref (ua 2)), (5, .ref (ua 3)), (6, .ref (ua 4)), (7, .ref (ua 5)), (8, .ref (ua 6)), (9, .ref (ua 7)), (10, .ref (ua 8)), (11, .int (nI 1)), (12, .int (nI t)), (15, .int (nI y)), (19, .int (nI fi)), (21, .int (nI ny)), (22, .int (nI cn)), (23, .int (nI j))] → W p l e room_1 s m #[Value.ref b] below meth c H locs cells slots (Q) (F0 m 932 ls []) := by
        intro n
        induction n with
        | zero => intro j cn H locs ls hn hj hcn hW hU hS hl; exfalso; omega
        | succ n ih932 =>
          intro j cn H locs ls hn hj hcn hW hU hS hl
          refine lv_iload hx hb dL_law_932 (lv_at hl 17 rfl) ?_
          refine lv_aload_n hx hb dL_law_934 rfl (lv_at hl 2 rfl) ?_
          refine lv_iconst (v := nI 1) hx hb dL_law_935 (by decide) ?_
          have hb936_33 := hub 0 1
          refine un_ald (L := L) hx hb hE hU 0 (by decide) 1 (show 1 < 4 from (by decide)) dL_law_936 ?_
          refine un_top (y := nI nc) (congrArg nI hn01) ?_
          refine un_cge (tgt := 969) hx hb dL_law_937 (by decide) (by omega) (by omega) (fun c1 => ?_) (fun c1 => ?_)
          · have hjf : j = nc := by omega
            rw [hjf] at hcn
            have hcl := u_all_le L fi nc
            refine lv_aload_n hx hb dL_law_969 rfl (lv_at hl 2 rfl) ?_
            refine lv_iconst (v := nI 0) hx hb dL_law_970 (by decide) ?_
            have hb971_42 := hub 0 0
            refine un_ald (L := L) hx hb hE hU 0 (by decide) 0 (show 0 < 4 from (by decide)) dL_law_971 ?_
            refine un_top (y := nI nf) (congrArg nI hn00) ?_
            refine un_ine (tgt := 980) hx hb dL_law_972 (by decide) (by omega) (fun c2 => ?_) (fun c2 => ?_)
            · have hfl : fi < nf := by omega
              refine lv_aload hx hb dL_law_980 (lv_at hl 4 rfl) ?_
              refine lv_iconst (v := nI 4) hx hb dL_law_982 (by decide) ?_
              refine lv_iload hx hb dL_law_983 (lv_at hl 14 rfl) ?_
              refine un_mul hx hb dL_law_985 ?_
              refine lv_iconst (v := nI 2) hx hb dL_law_986 (by decide) ?_
              refine un_add hx hb dL_law_987 ?_
              have hb988_53 := hub 2 ((4 * fi) + 2)
              refine un_ald (L := L) hx hb hE hU 2 (by decide) ((4 * fi) + 2) (show ((4 * fi) + 2) < 64 from (by omega)) dL_law_988 ?_
              refine un_igt (tgt := 997) hx hb dL_law_989 (by decide) (by omega) (fun c3 => ?_) (fun c3 => ?_)
              · have hbad : ¬ L 2 (4 * fi + 2) = 0 ∨ cn = 0 := Or.inl (by omega)
                refine lv_bipush (v := -13) hx hb dL_law_997 (by decide) ?_
                refine lv_goto (tgt := 1023) hx hb dL_law_999 (by decide) ?_
                refine lv_istore (lv' := [(23, .int (-13)), (0, .ref b), (1, .ref (ad 0 0)), (2, .ref (ua 0)), (3, .ref (ua 1)), (4, .ref (ua 2)), (5, .ref (ua 3)), (6, .ref (ua 4)), (7, .ref (ua 5)), (8, .ref (ua 6)), (9, .ref (ua 7)), (10, .ref (ua 8)), (11, .int (nI 1)), (12, .int (nI t)), (15, .int (nI y)), (19, .int (nI fi)), (21, .int (nI ny)), (22, .int (nI cn))]) hx hb dL_law_1023 hl (by decide) rfl (fun ls hl => ?_)
                refine lv_aload_n hx hb dL_law_1025 rfl (lv_at hl 2 rfl) ?_
                refine lv_iconst (v := nI 2) hx hb dL_law_1026 (by decide) ?_
                refine lv_iload hx hb dL_law_1027 (lv_at hl 15 rfl) ?_
                refine lv_iload hx hb dL_law_1029 (lv_at hl 16 rfl) ?_
                refine lv_iconst (v := nI 0) hx hb dL_law_1031 (by decide) ?_
                have hA19 : ∀ q, lH A ua q → A q := fun q h => h.1
                have hB19 := lH_up hA hS.1 hU
                refine rh_call2 (vx_runSX (As := [.ref (ad 0 0), .int (nI 2), .int (nI fi), .int (nI ny), .int (nI 0)]) (rest := []) ⟨hx, hb, hml, hown, hts⟩ (hl_does2 l hlf hD hinv.1 fi ny) (vx_cwSW 5 hts gL_law_L_does rfl rfl rfl (by decide +kernel) ⟨by decide, by decide⟩) (rh_prel hE hnc9 hS hA19 hB19 hW) rfl rfl hl.1 rfl (lv_room (Nat.le_of_ble_eq_true rfl)) dL_law_1032 ⟨show cells + 5 ≤ 665269 by omega, show slots + 40 ≤ 7105890 by omega⟩) hS hA19 (fun _ _ _ _ _ hX9 _ _ _ _ _ _ => hX9.elim) (fun o H locs hN9 hz9 hk9 hS => ?_)
                have hU := hU.kept (fun k hk => hk9 _ (hU.lt hk) (fun z => z.2 k hk rfl))
                rcases hN9 with ⟨i9, hi9, e9, hr0, hs0, hs3, rfl, hW⟩ | ⟨hz, rfl, hW⟩ | ⟨⟨hz0, hz⟩, rfl, hW⟩ | ⟨⟨i9, hi9, e9, hr0, hz⟩, rfl, hW⟩
                · obtain rfl : fi = i9 := m_inj (by omega) (by omega) e9
                  exact hbad.elim (fun z => absurd (m_inj (b := 0) (by have := hub 2 (4 * fi + 2); omega) (by decide) ((o_state hinv hlr hfl).symm.trans hs0)) z) (fun z => absurd (by rw [o_size hinv hlr hfl, ← hcn, z]; rfl) hs3)
                · exact absurd (ix_nI hfl (by omega)) hz
                · exact absurd (u_rg (a := 1) (b := 99) hny1 (by omega) (by decide)) hz
                · refine W.eq (g2 := F0 m 1035 ls [.int (-13)]) rfl ?_
                  refine lv_iload hx hb dL_law_1035 (lv_at hl 0 rfl) ?_
                  refine lv_icmp_ne (tgt := 1044) hx hb dL_law_1037 (by decide) (fun c4 => absurd rfl c4) (fun c4 => ?_)
                  refine lv_iconst (v := nI 1) hx hb dL_law_1040 (by decide) ?_
                  refine lv_goto (tgt := 1045) hx hb dL_law_1041 (by decide) ?_
                  refine lv_istore (lv' := [(11, .int (nI 1)), (23, .int (-13)), (0, .ref b), (1, .ref (ad 0 0)), (2, .ref (ua 0)), (3, .ref (ua 1)), (4, .ref (ua 2)), (5, .ref (ua 3)), (6, .ref (ua 4)), (7, .ref (ua 5)), (8, .ref (ua 6)), (9, .ref (ua 7)), (10, .ref (ua 8)), (12, .int (nI t)), (15, .int (nI y)), (19, .int (nI fi)), (21, .int (nI ny)), (22, .int (nI cn))]) hx hb dL_law_1045 hl (by decide) rfl (fun ls hl => ?_)
                  refine lv_goto (tgt := 1624) hx hb dL_law_1047 (by decide) ?_
                  exact hK ad nf nc r v w L H _ _ ⟨rfl, hW, hU, hinv, hlr, h7, hD⟩ hS (lv_sub hl [2, 3, 4, 5, 6, 7, 8, 9, 10, 11, 12, 0, 13, 14] rfl)
              · have hst0 : L 2 (4 * fi + 2) = 0 := by omega
                refine lv_iload hx hb dL_law_992 (lv_at hl 16 rfl) ?_
                refine un_ine (tgt := 1002) hx hb dL_law_994 (by decide) (by omega) (fun c5 => ?_) (fun c5 => ?_)
                · have hcn0 : ¬ cn = 0 := c5
                  refine lv_aload_n hx hb dL_law_1002 rfl (lv_at hl 2 rfl) ?_
                  refine lv_aload_n hx hb dL_law_1003 rfl (lv_at hl 3 rfl) ?_
                  refine lv_aload hx hb dL_law_1004 (lv_at hl 4 rfl) ?_
                  refine lv_aload hx hb dL_law_1006 (lv_at hl 5 rfl) ?_
                  refine lv_aload hx hb dL_law_1008 (lv_at hl 6 rfl) ?_
                  refine lv_aload hx hb dL_law_1010 (lv_at hl 7 rfl) ?_
                  refine lv_aload hx hb dL_law_1012 (lv_at hl 8 rfl) ?_
                  refine lv_aload hx hb dL_law_1014 (lv_at hl 9 rfl) ?_
                  refine lv_iload hx hb dL_law_1016 (lv_at hl 14 rfl) ?_
                  refine lv_iload hx hb dL_law_1018 (lv_at hl 15 rfl) ?_
                  have hAn : ∀ q : Nat, ((∃ k, k < 9 ∧ ua k = q) ∨ H.size ≤ q) → A q := fun q h => h.elim (fun ⟨k, hk, e⟩ => e ▸ hUD.2 k hk) (fun h => hA q (Nat.le_trans hS.1 h))
                  have hUD1 : u_D (fun q => (∃ k, k < 9 ∧ ua k = q) ∨ H.size ≤ q) ua := ⟨hUD.1, fun k hk => Or.inl ⟨k, hk, rfl⟩⟩
                  refine rh_call2 (vx_runS (As := [.ref (ua 0), .ref (ua 1), .ref (ua 2), .ref (ua 3), .ref (ua 4), .ref (ua 5), .ref (ua 6), .ref (ua 7), .int (nI fi), .int (nI ny)]) (rest := []) ⟨hx, hb, hml, hown, hts⟩ (ct_L_sends l fi ny hfl hny1 (by omega) hinv hlr h7 hst0 hUD1) (va_cwS 10 hts gL_law_L_sends rfl rfl rfl (by decide +kernel) ⟨by decide, by decide⟩) (rh_pre2 hE hS hAn (fun q h => Or.inr h) hU) rfl rfl hl.1 rfl (lv_room (Nat.le_of_ble_eq_true rfl)) dL_law_1020 ⟨show cells + 0 ≤ 665269 by omega, show slots + 0 ≤ 7105890 by omega⟩) hS hAn (fun _ _ _ _ _ hX9 _ _ _ _ _ _ => hX9.elim) (fun o H locs hN9 hz9 hk9 hS => ?_)
                  obtain ⟨L9, rfl, hU, hlr9, h79⟩ := hN9
                  have hW := hW.keep (fun k i hi => hk9 _ (hW.at k i hi).lt (fun z => z.elim (fun ⟨k9, hk8, e9⟩ => (hD.2 k i hi).2 k9 hk8 e9) (fun z => absurd z (Nat.not_le.mpr (hW.at k i hi).lt))))
                  refine W.eq (g2 := F0 m 1023 ls [.int (nI (L9 2 (4 * fi + 2)))]) rfl ?_
                  have hb99 := hlr9.1 2 (4 * fi + 2)
                  have hinv2 := i_send hinv hfl ((o_wst hlr hfl 0 (by decide)).mpr hst0) (u_rg (a := 1) (b := 99) hny1 (by omega) (by decide))
                  refine lv_istore (lv' := [(23, .int (nI (L9 2 (4 * fi + 2)))), (0, .ref b), (1, .ref (ad 0 0)), (2, .ref (ua 0)), (3, .ref (ua 1)), (4, .ref (ua 2)), (5, .ref (ua 3)), (6, .ref (ua 4)), (7, .ref (ua 5)), (8, .ref (ua 6)), (9, .ref (ua 7)), (10, .ref (ua 8)), (11, .int (nI 1)), (12, .int (nI t)), (15, .int (nI y)), (19, .int (nI fi)), (21, .int (nI ny)), (22, .int (nI cn))]) hx hb dL_law_1023 hl (by decide) rfl (fun ls hl => ?_)
                  refine lv_aload_n hx hb dL_law_1025 rfl (lv_at hl 2 rfl) ?_
                  refine lv_iconst (v := nI 2) hx hb dL_law_1026 (by decide) ?_
                  refine lv_iload hx hb dL_law_1027 (lv_at hl 15 rfl) ?_
                  refine lv_iload hx hb dL_law_1029 (lv_at hl 16 rfl) ?_
                  refine lv_iconst (v := nI 0) hx hb dL_law_1031 (by decide) ?_
                  have hA19 : ∀ q, lH A ua q → A q := fun q h => h.1
                  have hB19 := lH_up hA hS.1 hU
                  refine rh_call2 (vx_runSX (As := [.ref (ad 0 0), .int (nI 2), .int (nI fi), .int (nI ny), .int (nI 0)]) (rest := []) ⟨hx, hb, hml, hown, hts⟩ (hl_does2 l hlf hD hinv.1 fi ny) (vx_cwSW 5 hts gL_law_L_does rfl rfl rfl (by decide +kernel) ⟨by decide, by decide⟩) (rh_prel hE hnc9 hS hA19 hB19 hW) rfl rfl hl.1 rfl (lv_room (Nat.le_of_ble_eq_true rfl)) dL_law_1032 ⟨show cells + 5 ≤ 665269 by omega, show slots + 40 ≤ 7105890 by omega⟩) hS hA19 (fun _ _ _ _ _ hX9 _ _ _ _ _ _ => hX9.elim) (fun o H locs hN9 hz9 hk9 hS => ?_)
                  have hU := hU.kept (fun k hk => hk9 _ (hU.lt hk) (fun z => z.2 k hk rfl))
                  rcases hN9 with ⟨i9, hi9, e9, hr0, hs0, hs3, rfl, hW⟩ | ⟨hz, rfl, hW⟩ | ⟨⟨hz0, hz⟩, rfl, hW⟩ | ⟨⟨i9, hi9, e9, hr0, hz⟩, rfl, hW⟩
                  · obtain rfl : fi = i9 := m_inj (by omega) (by omega) e9
                    refine W.eq (g2 := F0 m 1035 ls [.int (c_send r v nf nc fi (nI ny) 8 fi 2)]) rfl ?_
                    refine un_top (y := nI (L9 2 (4 * fi + 2))) (o_state hinv2 hlr9 hfl) ?_
                    refine lv_iload hx hb dL_law_1035 (lv_at hl 0 rfl) ?_
                    refine un_cne (tgt := 1044) hx hb dL_law_1037 (by decide) (by omega) (by omega) (fun c6 => absurd rfl c6) (fun c6 => ?_)
                    refine lv_iconst (v := nI 1) hx hb dL_law_1040 (by decide) ?_
                    refine lv_goto (tgt := 1045) hx hb dL_law_1041 (by decide) ?_
                    refine lv_istore (lv' := [(11, .int (nI 1)), (23, .int (nI (L9 2 (4 * fi + 2)))), (0, .ref b), (1, .ref (ad 0 0)), (2, .ref (ua 0)), (3, .ref (ua 1)), (4, .ref (ua 2)), (5, .ref (ua 3)), (6, .ref (ua 4)), (7, .ref (ua 5)), (8, .ref (ua 6)), (9, .ref (ua 7)), (10, .ref (ua 8)), (12, .int (nI t)), (15, .int (nI y)), (19, .int (nI fi)), (21, .int (nI ny)), (22, .int (nI cn))]) hx hb dL_law_1045 hl (by decide) rfl (fun ls hl => ?_)
                    refine lv_goto (tgt := 1624) hx hb dL_law_1047 (by decide) ?_
                    exact hK ad nf nc r (c_send r v nf nc fi (nI ny)) (m_send r w nf nc fi (nI ny)) L9 H _ _ ⟨rfl, hW, hU, hinv2, hlr9, h79, hD⟩ hS (lv_sub hl [2, 3, 4, 5, 6, 7, 8, 9, 10, 11, 12, 0, 13, 14] rfl)
                  · exact absurd (ix_nI hfl (by omega)) hz
                  · exact absurd (u_rg (a := 1) (b := 99) hny1 (by omega) (by decide)) hz
                  · obtain rfl : fi = i9 := m_inj (by omega) (by omega) e9
                    exact hz.elim (fun z => absurd (by rw [o_state hinv hlr hfl, hst0]; rfl) z) (fun z => absurd (m_inj (b := 0) (by have := u_all_le L fi nc; omega) (by decide) ((o_size hinv hlr hfl).symm.trans z)) (by rw [← hcn]; exact hcn0))
                · have hbad : ¬ L 2 (4 * fi + 2) = 0 ∨ cn = 0 := Or.inr c5
                  refine lv_bipush (v := -13) hx hb dL_law_997 (by decide) ?_
                  refine lv_goto (tgt := 1023) hx hb dL_law_999 (by decide) ?_
                  refine lv_istore (lv' := [(23, .int (-13)), (0, .ref b), (1, .ref (ad 0 0)), (2, .ref (ua 0)), (3, .ref (ua 1)), (4, .ref (ua 2)), (5, .ref (ua 3)), (6, .ref (ua 4)), (7, .ref (ua 5)), (8, .ref (ua 6)), (9, .ref (ua 7)), (10, .ref (ua 8)), (11, .int (nI 1)), (12, .int (nI t)), (15, .int (nI y)), (19, .int (nI fi)), (21, .int (nI ny)), (22, .int (nI cn))]) hx hb dL_law_1023 hl (by decide) rfl (fun ls hl => ?_)
                  refine lv_aload_n hx hb dL_law_1025 rfl (lv_at hl 2 rfl) ?_
                  refine lv_iconst (v := nI 2) hx hb dL_law_1026 (by decide) ?_
                  refine lv_iload hx hb dL_law_1027 (lv_at hl 15 rfl) ?_
                  refine lv_iload hx hb dL_law_1029 (lv_at hl 16 rfl) ?_
                  refine lv_iconst (v := nI 0) hx hb dL_law_1031 (by decide) ?_
                  have hA19 : ∀ q, lH A ua q → A q := fun q h => h.1
                  have hB19 := lH_up hA hS.1 hU
                  refine rh_call2 (vx_runSX (As := [.ref (ad 0 0), .int (nI 2), .int (nI fi), .int (nI ny), .int (nI 0)]) (rest := []) ⟨hx, hb, hml, hown, hts⟩ (hl_does2 l hlf hD hinv.1 fi ny) (vx_cwSW 5 hts gL_law_L_does rfl rfl rfl (by decide +kernel) ⟨by decide, by decide⟩) (rh_prel hE hnc9 hS hA19 hB19 hW) rfl rfl hl.1 rfl (lv_room (Nat.le_of_ble_eq_true rfl)) dL_law_1032 ⟨show cells + 5 ≤ 665269 by omega, show slots + 40 ≤ 7105890 by omega⟩) hS hA19 (fun _ _ _ _ _ hX9 _ _ _ _ _ _ => hX9.elim) (fun o H locs hN9 hz9 hk9 hS => ?_)
                  have hU := hU.kept (fun k hk => hk9 _ (hU.lt hk) (fun z => z.2 k hk rfl))
                  rcases hN9 with ⟨i9, hi9, e9, hr0, hs0, hs3, rfl, hW⟩ | ⟨hz, rfl, hW⟩ | ⟨⟨hz0, hz⟩, rfl, hW⟩ | ⟨⟨i9, hi9, e9, hr0, hz⟩, rfl, hW⟩
                  · obtain rfl : fi = i9 := m_inj (by omega) (by omega) e9
                    exact hbad.elim (fun z => absurd (m_inj (b := 0) (by have := hub 2 (4 * fi + 2); omega) (by decide) ((o_state hinv hlr hfl).symm.trans hs0)) z) (fun z => absurd (by rw [o_size hinv hlr hfl, ← hcn, z]; rfl) hs3)
                  · exact absurd (ix_nI hfl (by omega)) hz
                  · exact absurd (u_rg (a := 1) (b := 99) hny1 (by omega) (by decide)) hz
                  · refine W.eq (g2 := F0 m 1035 ls [.int (-13)]) rfl ?_
                    refine lv_iload hx hb dL_law_1035 (lv_at hl 0 rfl) ?_
                    refine lv_icmp_ne (tgt := 1044) hx hb dL_law_1037 (by decide) (fun c7 => absurd rfl c7) (fun c7 => ?_)
                    refine lv_iconst (v := nI 1) hx hb dL_law_1040 (by decide) ?_
                    refine lv_goto (tgt := 1045) hx hb dL_law_1041 (by decide) ?_
                    refine lv_istore (lv' := [(11, .int (nI 1)), (23, .int (-13)), (0, .ref b), (1, .ref (ad 0 0)), (2, .ref (ua 0)), (3, .ref (ua 1)), (4, .ref (ua 2)), (5, .ref (ua 3)), (6, .ref (ua 4)), (7, .ref (ua 5)), (8, .ref (ua 6)), (9, .ref (ua 7)), (10, .ref (ua 8)), (12, .int (nI t)), (15, .int (nI y)), (19, .int (nI fi)), (21, .int (nI ny)), (22, .int (nI cn))]) hx hb dL_law_1045 hl (by decide) rfl (fun ls hl => ?_)
                    refine lv_goto (tgt := 1624) hx hb dL_law_1047 (by decide) ?_
                    exact hK ad nf nc r v w L H _ _ ⟨rfl, hW, hU, hinv, hlr, h7, hD⟩ hS (lv_sub hl [2, 3, 4, 5, 6, 7, 8, 9, 10, 11, 12, 0, 13, 14] rfl)
            · refine lv_bipush (v := -11) hx hb dL_law_975 (by decide) ?_
              refine lv_goto (tgt := 1023) hx hb dL_law_977 (by decide) ?_
              refine lv_istore (lv' := [(23, .int (-11)), (0, .ref b), (1, .ref (ad 0 0)), (2, .ref (ua 0)), (3, .ref (ua 1)), (4, .ref (ua 2)), (5, .ref (ua 3)), (6, .ref (ua 4)), (7, .ref (ua 5)), (8, .ref (ua 6)), (9, .ref (ua 7)), (10, .ref (ua 8)), (11, .int (nI 1)), (12, .int (nI t)), (15, .int (nI y)), (19, .int (nI fi)), (21, .int (nI ny)), (22, .int (nI cn))]) hx hb dL_law_1023 hl (by decide) rfl (fun ls hl => ?_)
              refine lv_aload_n hx hb dL_law_1025 rfl (lv_at hl 2 rfl) ?_
              refine lv_iconst (v := nI 2) hx hb dL_law_1026 (by decide) ?_
              refine lv_iload hx hb dL_law_1027 (lv_at hl 15 rfl) ?_
              refine lv_iload hx hb dL_law_1029 (lv_at hl 16 rfl) ?_
              refine lv_iconst (v := nI 0) hx hb dL_law_1031 (by decide) ?_
              have hA19 : ∀ q, lH A ua q → A q := fun q h => h.1
              have hB19 := lH_up hA hS.1 hU
              refine rh_call2 (vx_runSX (As := [.ref (ad 0 0), .int (nI 2), .int (nI fi), .int (nI ny), .int (nI 0)]) (rest := []) ⟨hx, hb, hml, hown, hts⟩ (hl_does2 l hlf hD hinv.1 fi ny) (vx_cwSW 5 hts gL_law_L_does rfl rfl rfl (by decide +kernel) ⟨by decide, by decide⟩) (rh_prel hE hnc9 hS hA19 hB19 hW) rfl rfl hl.1 rfl (lv_room (Nat.le_of_ble_eq_true rfl)) dL_law_1032 ⟨show cells + 5 ≤ 665269 by omega, show slots + 40 ≤ 7105890 by omega⟩) hS hA19 (fun _ _ _ _ _ hX9 _ _ _ _ _ _ => hX9.elim) (fun o H locs hN9 hz9 hk9 hS => ?_)
              have hU := hU.kept (fun k hk => hk9 _ (hU.lt hk) (fun z => z.2 k hk rfl))
              rcases hN9 with ⟨i9, hi9, e9, hr0, hs0, hs3, rfl, hW⟩ | ⟨hz, rfl, hW⟩ | ⟨⟨hz0, hz⟩, rfl, hW⟩ | ⟨⟨i9, hi9, e9, hr0, hz⟩, rfl, hW⟩
              · exact absurd hi9 (by omega)
              · refine W.eq (g2 := F0 m 1035 ls [.int (-11)]) rfl ?_
                refine lv_iload hx hb dL_law_1035 (lv_at hl 0 rfl) ?_
                refine lv_icmp_ne (tgt := 1044) hx hb dL_law_1037 (by decide) (fun c8 => absurd rfl c8) (fun c8 => ?_)
                refine lv_iconst (v := nI 1) hx hb dL_law_1040 (by decide) ?_
                refine lv_goto (tgt := 1045) hx hb dL_law_1041 (by decide) ?_
                refine lv_istore (lv' := [(11, .int (nI 1)), (23, .int (-11)), (0, .ref b), (1, .ref (ad 0 0)), (2, .ref (ua 0)), (3, .ref (ua 1)), (4, .ref (ua 2)), (5, .ref (ua 3)), (6, .ref (ua 4)), (7, .ref (ua 5)), (8, .ref (ua 6)), (9, .ref (ua 7)), (10, .ref (ua 8)), (12, .int (nI t)), (15, .int (nI y)), (19, .int (nI fi)), (21, .int (nI ny)), (22, .int (nI cn))]) hx hb dL_law_1045 hl (by decide) rfl (fun ls hl => ?_)
                refine lv_goto (tgt := 1624) hx hb dL_law_1047 (by decide) ?_
                exact hK ad nf nc r v w L H _ _ ⟨rfl, hW, hU, hinv, hlr, h7, hD⟩ hS (lv_sub hl [2, 3, 4, 5, 6, 7, 8, 9, 10, 11, 12, 0, 13, 14] rfl)
              · exact absurd hz0.2 (by have := hz0.1; omega)
              · exact absurd hi9 (by omega)
          · have hjl : j < nc := by omega
            refine lv_iload hx hb dL_law_940 (lv_at hl 16 rfl) ?_
            have jn960_181 : ∀ (b1 : Nat), (L 3 j % 16 = fi ∧ b1 = 1) ∨ (¬ L 3 j % 16 = fi ∧ b1 = 0) → W p l e room_1 s m #[Value.ref b] below meth c H locs cells slots (Q) (F0 m 960 ls [.int (nI b1), .int (nI cn)]) := by
              intro b1 hb1
              refine un_add hx hb dL_law_960 ?_
              refine lv_istore (lv' := [(22, .int (nI (cn + b1))), (0, .ref b), (1, .ref (ad 0 0)), (2, .ref (ua 0)), (3, .ref (ua 1)), (4, .ref (ua 2)), (5, .ref (ua 3)), (6, .ref (ua 4)), (7, .ref (ua 5)), (8, .ref (ua 6)), (9, .ref (ua 7)), (10, .ref (ua 8)), (11, .int (nI 1)), (12, .int (nI t)), (15, .int (nI y)), (19, .int (nI fi)), (21, .int (nI ny)), (23, .int (nI j))]) hx hb dL_law_961 hl (by decide) rfl (fun ls hl => ?_)
              refine lv_iinc (v := nI (j + 1)) (lv' := [(23, .int (nI (j + 1))), (22, .int (nI (cn + b1))), (0, .ref b), (1, .ref (ad 0 0)), (2, .ref (ua 0)), (3, .ref (ua 1)), (4, .ref (ua 2)), (5, .ref (ua 3)), (6, .ref (ua 4)), (7, .ref (ua 5)), (8, .ref (ua 6)), (9, .ref (ua 7)), (10, .ref (ua 8)), (11, .int (nI 1)), (12, .int (nI t)), (15, .int (nI y)), (19, .int (nI fi)), (21, .int (nI ny))]) hx hb dL_law_963 hl (k := 17) rfl (nI_add j 1) (by decide) rfl (fun ls hl => ?_)
              refine lv_goto (tgt := 932) hx hb dL_law_966 (by decide) ?_
              exact ih932 (j + 1) (cn + b1) _ _ _ (by omega) (by omega) (by rw [hcn, ← u_pick hb1]; rfl) hW hU hS (lv_sub hl [2, 3, 4, 5, 6, 7, 8, 9, 10, 11, 12, 13, 14, 15, 16, 17, 1, 0] rfl)
            refine lv_aload hx hb dL_law_942 (lv_at hl 5 rfl) ?_
            refine lv_iload hx hb dL_law_944 (lv_at hl 17 rfl) ?_
            have hb946_190 := hub 3 j
            refine un_ald (L := L) hx hb hE hU 3 (by decide) j (show j < 40 from (by omega)) dL_law_946 ?_
            refine lv_bipush (v := nI 16) hx hb dL_law_947 (by decide) ?_
            refine un_rem hx hb dL_law_949 (by omega) (by decide) (by decide) ?_
            refine lv_iload hx hb dL_law_950 (lv_at hl 14 rfl) ?_
            refine un_cne (tgt := 959) hx hb dL_law_952 (by decide) (by omega) (by omega) (fun c9 => ?_) (fun c9 => ?_)
            · refine lv_iconst (v := nI 0) hx hb dL_law_959 (by decide) ?_
              exact jn960_181 0 (by omega)
            · refine lv_iconst (v := nI 1) hx hb dL_law_955 (by decide) ?_
              refine lv_goto (tgt := 960) hx hb dL_law_956 (by decide) ?_
              exact jn960_181 1 (by omega)
      exact loop932 (nc + 1) 0 0 _ _ _ (by omega) (by omega) rfl hW hU hS (lv_sub hl [3, 4, 5, 6, 7, 8, 9, 10, 11, 12, 13, 14, 15, 17, 21, 2, 1, 0] rfl)
    refine lv_iload hx hb dL_law_912 (lv_at hl 0 rfl) ?_
    refine lv_iconst (v := nI 1) hx hb dL_law_914 (by decide) ?_
    refine un_cge (tgt := 922) hx hb dL_law_915 (by decide) (by omega) (by decide) (fun c10 => ?_) (fun c10 => ?_)
    · refine lv_iload hx hb dL_law_922 (lv_at hl 0 rfl) ?_
      exact jn924_17 nm (by omega) (by omega)
    · refine lv_iconst (v := nI 1) hx hb dL_law_918 (by decide) ?_
      refine lv_goto (tgt := 924) hx hb dL_law_919 (by decide) ?_
      exact jn924_17 1 (by omega) (by omega)
  refine lv_aload_n hx hb dL_law_866 rfl (lv_at hl 2 rfl) ?_
  refine lv_iconst (v := nI 0) hx hb dL_law_867 (by decide) ?_
  have hb868_212 := hub 0 0
  refine un_ald (L := L) hx hb hE hU 0 (by decide) 0 (show 0 < 4 from (by decide)) dL_law_868 ?_
  refine un_top (y := nI nf) (congrArg nI hn00) ?_
  refine un_ine (tgt := 876) hx hb dL_law_869 (by decide) (by omega) (fun c11 => ?_) (fun c11 => ?_)
  · have hfl : fi < nf := by omega
    have hq16 := (hlr.2.2.2.1.1 fi hfl).1.1
    have he17 := le7_le h7 hn16 hq16
    have he1 := (hlr.2.2.2.2.2.2 _ hq16).1.2
    refine lv_aload hx hb dL_law_876 (lv_at hl 9 rfl) ?_
    refine lv_aload hx hb dL_law_878 (lv_at hl 4 rfl) ?_
    refine lv_iconst (v := nI 4) hx hb dL_law_880 (by decide) ?_
    refine lv_iload hx hb dL_law_881 (lv_at hl 18 rfl) ?_
    refine un_mul hx hb dL_law_883 ?_
    have hb884_225 := hub 2 (4 * fi)
    refine un_ald (L := L) hx hb hE hU 2 (by decide) (4 * fi) (show (4 * fi) < 64 from (by omega)) dL_law_884 ?_
    have hb885_227 := hub 7 (L 2 (4 * fi))
    refine un_ald (L := L) hx hb hE hU 7 (by decide) (L 2 (4 * fi)) (show (L 2 (4 * fi)) < 16 from (by omega)) dL_law_885 ?_
    refine lv_iload hx hb dL_law_886 (lv_at hl 14 rfl) ?_
    refine lv_bipush (v := nI 16) hx hb dL_law_888 (by decide) ?_
    refine un_div hx hb dL_law_890 (by omega) (by decide) (by decide) ?_
    refine lv_iconst (v := nI 3) hx hb dL_law_891 (by decide) ?_
    refine un_rem hx hb dL_law_892 (by omega) (by decide) (by decide) ?_
    refine un_ine (tgt := 908) hx hb dL_law_893 (by decide) (by omega) (fun c12 => ?_) (fun c12 => ?_)
    · refine lv_iconst (v := nI 0) hx hb dL_law_908 (by decide) ?_
      refine un_add hx hb dL_law_909 ?_
      exact jn910_14 ((L 7 (L 2 (4 * fi))) + 0) (by omega)
    · refine lv_iload hx hb dL_law_896 (lv_at hl 14 rfl) ?_
      refine lv_bipush (v := nI 48) hx hb dL_law_898 (by decide) ?_
      refine un_div hx hb dL_law_900 (by omega) (by decide) (by decide) ?_
      refine lv_iconst (v := nI 4) hx hb dL_law_901 (by decide) ?_
      refine un_rem hx hb dL_law_902 (by omega) (by decide) (by decide) ?_
      refine lv_iconst (v := nI 1) hx hb dL_law_903 (by decide) ?_
      refine lv_isub hx hb dL_law_904 ?_
      refine lv_goto (tgt := 909) hx hb dL_law_905 (by decide) ?_
      refine lv_iadd hx hb dL_law_909 ?_
      refine un_top (y := nI ((L 7 (L 2 (4 * fi))) + (y / 48 % 4) - 1)) (u_addsub he1) ?_
      exact jn910_14 ((L 7 (L 2 (4 * fi))) + (y / 48 % 4) - 1) (by omega)
  · refine lv_iconst (v := nI 1) hx hb dL_law_872 (by decide) ?_
    refine lv_goto (tgt := 910) hx hb dL_law_873 (by decide) ?_
    exact jn910_14 1 (by omega)
set_option maxHeartbeats 8000000 in
set_option maxRecDepth 100000 in
theorem op_dispute {p : Program} {l : Launch} {e : Env} {s : State} {m : MethodId} {below : List Frame} {meth : Method} {c : Code} {G : va_G} {ca : Nat → ClassId} {A : Nat → Prop} {ua : Nat → Nat} {b Ls : Nat} {xs : Nat → Int32} {h1 t y : Nat} {cells slots : Nat} {Q : State → Prop} {ad : Nat → Nat → Nat} {nf nc : Nat} {r : rh_R} {v : rh_V} {w : rh_Wm} {L : u_L} {H : Heap} {locs : List Loc} {ls : Array Slot} {kd ho hm pr fi ci : Nat} (C : lwC p l s m c G ca A ua b Ls xs) (hLS : lwS G ca A ua h1 ad nf nc r v w L H) (hS : va_S A s.heap H locs) (hl : lv_has ls 24 [(0, .ref b), (1, .ref h1), (2, .ref (ua 0)), (3, .ref (ua 1)), (4, .ref (ua 2)), (5, .ref (ua 3)), (6, .ref (ua 4)), (7, .ref (ua 5)), (8, .ref (ua 6)), (9, .ref (ua 7)), (10, .ref (ua 8)), (11, .int (nI 1)), (12, .int (nI t)), (14, .int (nI kd)), (15, .int (nI y)), (16, .int (nI ho)), (17, .int (nI hm)), (18, .int (nI pr)), (19, .int (nI fi)), (20, .int (nI ci))]) (hyb : y < 100000000) (hho : ho < 4) (hhm : hm < 4) (hne : ho ≠ hm) (hpr : pr = ho + 4 * hm) (hfi : (nf = 0 ∧ fi = 0) ∨ fi < nf) (hci : (nc = 0 ∧ ci = 0) ∨ ci < nc) (hnc0 : 0 < nc) (hcl : cells + 10 ≤ 665269) (hsl : slots + 80 ≤ 7105890) (hK : lwK p l e s m below meth c G ca A ua b h1 t y cells slots Q) : W p l e room_1 s m #[Value.ref b] below meth c H locs cells slots Q (F0 m 1063 ls []) := by
  obtain ⟨hx, hb, hml, hown, hts, hE, hnc9, hlf, hA, hbA, hbl, hX, hLm, hUD⟩ := C
  obtain ⟨rfl, hW, hU, hinv, hlr, h7, hD⟩ := hLS
  have hub := hlr.1
  have hla := hlr.2.2.1
  have hn00 := hlr.2.1.1.1
  have hn16 := hlr.2.1.1.2
  have hn01 := hlr.2.1.2.1.1
  have hn40 := hlr.2.1.2.1.2
  have hn36 := hlr.2.1.2.2.2.1
  have hlk := o_lk hinv hlr
  have hnow := o_now hinv hlr
  have hcl9 : ci < nc := by omega
  have hst4 := (o_call hinv hlr hcl9).2
  have hl : lv_has ls 24 [(0, .ref b), (1, .ref (ad 0 0)), (2, .ref (ua 0)), (3, .ref (ua 1)), (4, .ref (ua 2)), (5, .ref (ua 3)), (6, .ref (ua 4)), (7, .ref (ua 5)), (8, .ref (ua 6)), (9, .ref (ua 7)), (10, .ref (ua 8)), (11, .int (nI 1)), (12, .int (nI t)), (14, .int (nI kd)), (15, .int (nI y)), (16, .int (nI ho)), (17, .int (nI hm)), (18, .int (nI pr)), (19, .int (nI fi)), (20, .int (nI ci))] := hl
  have jn1094_16 : ∀ (ca1 : Nat), ((u_st L ci = 1 ∧ L 0 3 - u_mo L ci < 2) ∧ ca1 = 1) ∨ (¬ (u_st L ci = 1 ∧ L 0 3 - u_mo L ci < 2) ∧ ca1 = 0) → ∀ (H : Heap) (locs : List Loc), rh_W G ca ad nf nc r v H → u_W G ca ua L H → va_S A s.heap H locs → W p l e room_1 s m #[Value.ref b] below meth c H locs cells slots (Q) (F0 m 1094 ls [.int (nI ca1)]) := by
    intro ca1 hca1 H locs hW hU hS
    refine lv_istore (lv' := [(21, .int (nI ca1)), (0, .ref b), (1, .ref (ad 0 0)), (2, .ref (ua 0)), (3, .ref (ua 1)), (4, .ref (ua 2)), (5, .ref (ua 3)), (6, .ref (ua 4)), (7, .ref (ua 5)), (8, .ref (ua 6)), (9, .ref (ua 7)), (10, .ref (ua 8)), (11, .int (nI 1)), (12, .int (nI t)), (14, .int (nI kd)), (15, .int (nI y)), (16, .int (nI ho)), (17, .int (nI hm)), (18, .int (nI pr)), (19, .int (nI fi)), (20, .int (nI ci))]) hx hb dL_law_1094 hl (by decide) rfl (fun ls hl => ?_)
    refine lv_aload_n hx hb dL_law_1096 rfl (lv_at hl 2 rfl) ?_
    refine lv_iload hx hb dL_law_1097 (lv_at hl 20 rfl) ?_
    have hA19 : ∀ q, lH A ua q → A q := fun q h => h.1
    have hB19 := lH_up hA hS.1 hU
    refine rh_call2 (vx_runSX (As := [.ref (ad 0 0), .int (nI ci)]) (rest := []) ⟨hx, hb, hml, hown, hts⟩ (hl_isDisputed l hlf hD hinv.1 ci hcl9) (vx_cwSW 2 hts gL_law_L_isDisputed rfl rfl rfl (by decide +kernel) ⟨by decide, by decide⟩) (rh_prel hE hnc9 hS hA19 hB19 hW) rfl rfl hl.1 rfl (lv_room (Nat.le_of_ble_eq_true rfl)) dL_law_1099 ⟨show cells + 5 ≤ 665269 by omega, show slots + 40 ≤ 7105890 by omega⟩) hS hA19 (fun _ _ _ _ _ hX9 _ _ _ _ _ _ => hX9.elim) (fun o H locs hN9 hz9 hk9 hS => ?_)
    have hU := hU.kept (fun k hk => hk9 _ (hU.lt hk) (fun z => z.2 k hk rfl))
    rcases hN9 with ⟨i9, hi9, e9, hz1, hz2, rfl, hW⟩ | ⟨⟨i9, hi9, e9, hz⟩, rfl, hW⟩
    · obtain rfl : ci = i9 := m_inj (by omega) (by omega) e9
      have hcan := (o_can hinv hlr hcl9).mp ⟨hz1, hz2⟩
      have hc1 : ca1 = 1 := by omega
      refine W.eq (g2 := F0 m 1102 ls [.int 1]) rfl ?_
      refine un_top (y := nI 1) rfl ?_
      refine lv_iload hx hb dL_law_1102 (lv_at hl 0 rfl) ?_
      refine un_cne (tgt := 1111) hx hb dL_law_1104 (by decide) (by decide) (by omega) (fun c1 => (by exfalso; omega)) (fun c1 => ?_)
      refine lv_iconst (v := nI 1) hx hb dL_law_1107 (by decide) ?_
      refine lv_goto (tgt := 1112) hx hb dL_law_1108 (by decide) ?_
      refine lv_istore (lv' := [(11, .int (nI 1)), (21, .int (nI ca1)), (0, .ref b), (1, .ref (ad 0 0)), (2, .ref (ua 0)), (3, .ref (ua 1)), (4, .ref (ua 2)), (5, .ref (ua 3)), (6, .ref (ua 4)), (7, .ref (ua 5)), (8, .ref (ua 6)), (9, .ref (ua 7)), (10, .ref (ua 8)), (12, .int (nI t)), (14, .int (nI kd)), (15, .int (nI y)), (16, .int (nI ho)), (17, .int (nI hm)), (18, .int (nI pr)), (19, .int (nI fi)), (20, .int (nI ci))]) hx hb dL_law_1112 hl (by decide) rfl (fun ls hl => ?_)
      refine lv_aload hx hb dL_law_1114 (lv_at hl 7 rfl) ?_
      refine lv_iload hx hb dL_law_1116 (lv_at hl 20 rfl) ?_
      refine lv_iload hx hb dL_law_1118 (lv_at hl 1 rfl) ?_
      refine un_ieq (tgt := 1157) hx hb dL_law_1120 (by decide) (by omega) (fun c2 => (by exfalso; omega)) (fun c2 => ?_)
      refine lv_aload hx hb dL_law_1123 (lv_at hl 7 rfl) ?_
      refine lv_iload hx hb dL_law_1125 (lv_at hl 20 rfl) ?_
      have hb1127_42 := hub 3 ci
      refine un_ald (L := L) hx hb hE hU 3 (by decide) ci (show ci < 40 from (by omega)) dL_law_1127 ?_
      refine lv_bipush (v := nI 16) hx hb dL_law_1128 (by decide) ?_
      refine un_rem hx hb dL_law_1130 (by omega) (by decide) (by decide) ?_
      refine lv_bipush (v := nI 32) hx hb dL_law_1131 (by decide) ?_
      refine un_add hx hb dL_law_1133 ?_
      refine lv_sipush (v := nI 128) hx hb dL_law_1134 (by decide) ?_
      refine lv_aload hx hb dL_law_1137 (lv_at hl 7 rfl) ?_
      refine lv_iload hx hb dL_law_1139 (lv_at hl 20 rfl) ?_
      have hAn : ∀ q : Nat, H.size ≤ q → A q := fun q h => hA q (Nat.le_trans hS.1 h)
      refine rh_call2 (vx_runS (As := [.ref (ua 3), .int (nI ci)]) (rest := [.int (nI 128), .int (nI (((L 3 ci) % 16) + 32)), .int (nI ci), .ref (ua 3)]) ⟨hx, hb, hml, hown, hts⟩ (ct_L_month l ci (by omega) hub) (va_cwS 2 hts gL_law_L_month rfl rfl rfl (by decide +kernel) ⟨by decide, by decide⟩) (rh_pre2 hE hS hAn (fun q h => h) hU) rfl rfl hl.1 rfl (lv_room (Nat.le_of_ble_eq_true rfl)) dL_law_1141 ⟨show (cells + 5) + 0 ≤ 665269 by omega, show (slots + 40) + 0 ≤ 7105890 by omega⟩) hS hAn (fun _ _ _ _ _ hX9 _ _ _ _ _ _ => hX9.elim) (fun o H locs hN9 hz9 hk9 hS => ?_)
      have hN9 := hN9
      subst hN9
      have hk9 := fun q hq => hk9 q hq (Nat.not_le.mpr hq)
      have hW := hW.grow hk9
      have hU := hU.grow hk9
      refine W.eq (g2 := F0 m 1144 ls [.int (nI (u_mo L ci)), .int (nI 128), .int (nI (((L 3 ci) % 16) + 32)), .int (nI ci), .ref (ua 3)]) rfl ?_
      refine un_mul hx hb dL_law_1144 ?_
      refine un_add hx hb dL_law_1145 ?_
      refine lv_sipush (v := nI 8192) hx hb dL_law_1146 (by decide) ?_
      refine lv_aload_n hx hb dL_law_1149 rfl (lv_at hl 4 rfl) ?_
      refine lv_iconst (v := nI 3) hx hb dL_law_1150 (by decide) ?_
      have hb1151_64 := hub 0 3
      refine un_ald (L := L) hx hb hE hU 0 (by decide) 3 (show 3 < 4 from (by decide)) dL_law_1151 ?_
      refine un_mul hx hb dL_law_1152 ?_
      refine un_add hx hb dL_law_1153 ?_
      refine lv_goto (tgt := 1162) hx hb dL_law_1154 (by decide) ?_
      refine un_ast (L := L) (x := (((((L 3 ci) % 16) + 32) + (128 * (u_mo L ci))) + (8192 * (L 0 3)))) hx hb hE hU hUD hS 3 (by decide) ci (show ci < 40 from (by omega)) dL_law_1162 (fun H locs hU hz9 ho9 hS => ?_)
      have hW := hW.keptU hD (k := 3) (by decide) ho9
      refine lv_goto (tgt := 1624) hx hb dL_law_1163 (by decide) ?_
      have hlr2 : lr nf nc r (wm (wm w 13 ci 2) 15 ci (w 26 24)) (un L 3 ci (L 3 ci % 16 + 32 + 128 * u_mo L ci + 8192 * L 0 3)) := by
        have hus : u_st L ci = L 3 ci / 16 % 8 := rfl
        have hum : u_mo L ci = L 3 ci / 128 % 64 := rfl
        have hx8 : (L 3 ci % 16 + 32 + 128 * u_mo L ci + 8192 * L 0 3) / 16 % 8 = 2 := by omega
        refine lr_cst hlr hcl9 (by omega) (by omega) (by omega) (by omega) (by omega) (fun q j h1 h2 => ?_) (fun j => ?_) (fun j hj => ?_) (fun z => ?_)
        · rw [wm_other _ _ _ _ h2, wm_other _ _ _ _ h1]
        · rw [wm_other _ _ _ _ (by decide), wm_at]
          by_cases e : j = ci
          · subst e; rw [if_pos ⟨rfl, rfl⟩, if_pos rfl, hx8]; rfl
          · rw [if_neg (fun y => e y.2), if_neg e]
        · rw [wm_at, if_neg (fun y => hj y.2)]; rfl
        · rw [wm_at, if_pos ⟨rfl, rfl⟩, hlr.2.1.2.2.2.2]
          exact ⟨congrArg nI (by omega), by omega⟩
      exact hK ad nf nc r (wr (wr v 9 ci 3 2) 9 ci 5 (v 0 0 6)) (wm (wm w 13 ci 2) 15 ci (w 26 24)) (un L 3 ci (((((L 3 ci) % 16) + 32) + (128 * (u_mo L ci))) + (8192 * (L 0 3)))) H _ _ ⟨rfl, hW, hU, i_dispute hinv hcl9 ((o_cst hlr hcl9 1 (by decide)).mpr hcan.1), hlr2, (le7_eq h7 rfl (fun _ => rfl)), hD⟩ hS (lv_sub hl [2, 3, 4, 5, 6, 7, 8, 9, 10, 11, 12, 0, 13, 15] rfl)
    · obtain rfl : ci = i9 := m_inj (by omega) (by omega) e9
      have hcan : ¬ (u_st L ci = 1 ∧ L 0 3 - u_mo L ci < 2) := fun z => hz ((o_can hinv hlr hcl9).mpr z)
      have hc1 : ca1 = 0 := by omega
      refine W.eq (g2 := F0 m 1102 ls [.int 0]) rfl ?_
      refine un_top (y := nI 0) rfl ?_
      refine lv_iload hx hb dL_law_1102 (lv_at hl 0 rfl) ?_
      refine un_cne (tgt := 1111) hx hb dL_law_1104 (by decide) (by decide) (by omega) (fun c3 => (by exfalso; omega)) (fun c3 => ?_)
      refine lv_iconst (v := nI 1) hx hb dL_law_1107 (by decide) ?_
      refine lv_goto (tgt := 1112) hx hb dL_law_1108 (by decide) ?_
      refine lv_istore (lv' := [(11, .int (nI 1)), (21, .int (nI ca1)), (0, .ref b), (1, .ref (ad 0 0)), (2, .ref (ua 0)), (3, .ref (ua 1)), (4, .ref (ua 2)), (5, .ref (ua 3)), (6, .ref (ua 4)), (7, .ref (ua 5)), (8, .ref (ua 6)), (9, .ref (ua 7)), (10, .ref (ua 8)), (12, .int (nI t)), (14, .int (nI kd)), (15, .int (nI y)), (16, .int (nI ho)), (17, .int (nI hm)), (18, .int (nI pr)), (19, .int (nI fi)), (20, .int (nI ci))]) hx hb dL_law_1112 hl (by decide) rfl (fun ls hl => ?_)
      refine lv_aload hx hb dL_law_1114 (lv_at hl 7 rfl) ?_
      refine lv_iload hx hb dL_law_1116 (lv_at hl 20 rfl) ?_
      refine lv_iload hx hb dL_law_1118 (lv_at hl 1 rfl) ?_
      refine un_ieq (tgt := 1157) hx hb dL_law_1120 (by decide) (by omega) (fun c4 => ?_) (fun c4 => (by exfalso; omega))
      refine lv_aload hx hb dL_law_1157 (lv_at hl 7 rfl) ?_
      refine lv_iload hx hb dL_law_1159 (lv_at hl 20 rfl) ?_
      have hb1161_102 := hub 3 ci
      refine un_ald (L := L) hx hb hE hU 3 (by decide) ci (show ci < 40 from (by omega)) dL_law_1161 ?_
      refine un_ast (L := L) (x := (L 3 ci)) hx hb hE hU hUD hS 3 (by decide) ci (show ci < 40 from (by omega)) dL_law_1162 (fun H locs hU hz9 ho9 hS => ?_)
      have hW := hW.keptU hD (k := 3) (by decide) ho9
      refine lv_goto (tgt := 1624) hx hb dL_law_1163 (by decide) ?_
      rw [un_id] at hU
      exact hK ad nf nc r v w L H _ _ ⟨rfl, hW, hU, hinv, hlr, h7, hD⟩ hS (lv_sub hl [2, 3, 4, 5, 6, 7, 8, 9, 10, 11, 12, 0, 13, 15] rfl)
  refine lv_aload hx hb dL_law_1063 (lv_at hl 5 rfl) ?_
  refine lv_iload hx hb dL_law_1065 (lv_at hl 19 rfl) ?_
  have hAn : ∀ q : Nat, H.size ≤ q → A q := fun q h => hA q (Nat.le_trans hS.1 h)
  refine rh_call2 (vx_runS (As := [.ref (ua 3), .int (nI ci)]) (rest := []) ⟨hx, hb, hml, hown, hts⟩ (ct_L_state l ci (by omega) hub) (va_cwS 2 hts gL_law_L_state rfl rfl rfl (by decide +kernel) ⟨by decide, by decide⟩) (rh_pre2 hE hS hAn (fun q h => h) hU) rfl rfl hl.1 rfl (lv_room (Nat.le_of_ble_eq_true rfl)) dL_law_1067 ⟨show cells + 0 ≤ 665269 by omega, show slots + 0 ≤ 7105890 by omega⟩) hS hAn (fun _ _ _ _ _ hX9 _ _ _ _ _ _ => hX9.elim) (fun o H locs hN9 hz9 hk9 hS => ?_)
  have hN9 := hN9
  subst hN9
  have hk9 := fun q hq => hk9 q hq (Nat.not_le.mpr hq)
  have hW := hW.grow hk9
  have hU := hU.grow hk9
  refine W.eq (g2 := F0 m 1070 ls [.int (nI (u_st L ci))]) rfl ?_
  refine lv_iconst (v := nI 1) hx hb dL_law_1070 (by decide) ?_
  refine un_cne (tgt := 1093) hx hb dL_law_1071 (by decide) (by omega) (by decide) (fun c5 => ?_) (fun c5 => ?_)
  · refine lv_iconst (v := nI 0) hx hb dL_law_1093 (by decide) ?_
    exact jn1094_16 0 (by omega) _ _ hW hU hS
  · obtain ⟨-, -, -, hm1, -⟩ := lk_c hlk hcl9 (by omega)
    refine lv_aload_n hx hb dL_law_1074 rfl (lv_at hl 2 rfl) ?_
    refine lv_iconst (v := nI 3) hx hb dL_law_1075 (by decide) ?_
    have hb1076_126 := hub 0 3
    refine un_ald (L := L) hx hb hE hU 0 (by decide) 3 (show 3 < 4 from (by decide)) dL_law_1076 ?_
    refine lv_aload hx hb dL_law_1077 (lv_at hl 5 rfl) ?_
    refine lv_iload hx hb dL_law_1079 (lv_at hl 19 rfl) ?_
    have hAn : ∀ q : Nat, H.size ≤ q → A q := fun q h => hA q (Nat.le_trans hS.1 h)
    refine rh_call2 (vx_runS (As := [.ref (ua 3), .int (nI ci)]) (rest := [.int (nI (L 0 3))]) ⟨hx, hb, hml, hown, hts⟩ (ct_L_month l ci (by omega) hub) (va_cwS 2 hts gL_law_L_month rfl rfl rfl (by decide +kernel) ⟨by decide, by decide⟩) (rh_pre2 hE hS hAn (fun q h => h) hU) rfl rfl hl.1 rfl (lv_room (Nat.le_of_ble_eq_true rfl)) dL_law_1081 ⟨show cells + 0 ≤ 665269 by omega, show slots + 0 ≤ 7105890 by omega⟩) hS hAn (fun _ _ _ _ _ hX9 _ _ _ _ _ _ => hX9.elim) (fun o H locs hN9 hz9 hk9 hS => ?_)
    have hN9 := hN9
    subst hN9
    have hk9 := fun q hq => hk9 q hq (Nat.not_le.mpr hq)
    have hW := hW.grow hk9
    have hU := hU.grow hk9
    refine W.eq (g2 := F0 m 1084 ls [.int (nI (u_mo L ci)), .int (nI (L 0 3))]) rfl ?_
    refine un_sub hx hb dL_law_1084 (by omega) ?_
    refine lv_iconst (v := nI 2) hx hb dL_law_1085 (by decide) ?_
    refine un_cge (tgt := 1093) hx hb dL_law_1086 (by decide) (by omega) (by decide) (fun c6 => ?_) (fun c6 => ?_)
    · refine lv_iconst (v := nI 0) hx hb dL_law_1093 (by decide) ?_
      exact jn1094_16 0 (by omega) _ _ hW hU hS
    · refine lv_iconst (v := nI 1) hx hb dL_law_1089 (by decide) ?_
      refine lv_goto (tgt := 1094) hx hb dL_law_1090 (by decide) ?_
      exact jn1094_16 1 (by omega) _ _ hW hU hS
set_option maxHeartbeats 8000000 in
set_option maxRecDepth 100000 in
theorem op_answer {p : Program} {l : Launch} {e : Env} {s : State} {m : MethodId} {below : List Frame} {meth : Method} {c : Code} {G : va_G} {ca : Nat → ClassId} {A : Nat → Prop} {ua : Nat → Nat} {b Ls : Nat} {xs : Nat → Int32} {h1 t y : Nat} {cells slots : Nat} {Q : State → Prop} {ad : Nat → Nat → Nat} {nf nc : Nat} {r : rh_R} {v : rh_V} {w : rh_Wm} {L : u_L} {H : Heap} {locs : List Loc} {ls : Array Slot} {kd ho hm pr fi ci : Nat} (C : lwC p l s m c G ca A ua b Ls xs) (hLS : lwS G ca A ua h1 ad nf nc r v w L H) (hS : va_S A s.heap H locs) (hl : lv_has ls 24 [(0, .ref b), (1, .ref h1), (2, .ref (ua 0)), (3, .ref (ua 1)), (4, .ref (ua 2)), (5, .ref (ua 3)), (6, .ref (ua 4)), (7, .ref (ua 5)), (8, .ref (ua 6)), (9, .ref (ua 7)), (10, .ref (ua 8)), (11, .int (nI 1)), (12, .int (nI t)), (14, .int (nI kd)), (15, .int (nI y)), (16, .int (nI ho)), (17, .int (nI hm)), (18, .int (nI pr)), (19, .int (nI fi)), (20, .int (nI ci))]) (hyb : y < 100000000) (hho : ho < 4) (hhm : hm < 4) (hne : ho ≠ hm) (hpr : pr = ho + 4 * hm) (hfi : (nf = 0 ∧ fi = 0) ∨ fi < nf) (hci : (nc = 0 ∧ ci = 0) ∨ ci < nc) (hnc0 : 0 < nc) (hcl : cells + 10 ≤ 665269) (hsl : slots + 80 ≤ 7105890) (hK : lwK p l e s m below meth c G ca A ua b h1 t y cells slots Q) : W p l e room_1 s m #[Value.ref b] below meth c H locs cells slots Q (F0 m 1179 ls []) := by
  obtain ⟨hx, hb, hml, hown, hts, hE, hnc9, hlf, hA, hbA, hbl, hX, hLm, hUD⟩ := C
  obtain ⟨rfl, hW, hU, hinv, hlr, h7, hD⟩ := hLS
  have hub := hlr.1
  have hla := hlr.2.2.1
  have hn00 := hlr.2.1.1.1
  have hn16 := hlr.2.1.1.2
  have hn01 := hlr.2.1.2.1.1
  have hn40 := hlr.2.1.2.1.2
  have hn36 := hlr.2.1.2.2.2.1
  have hlk := o_lk hinv hlr
  have hnow := o_now hinv hlr
  have hcl9 : ci < nc := by omega
  have hst4 := (o_call hinv hlr hcl9).2
  have hl : lv_has ls 24 [(0, .ref b), (1, .ref (ad 0 0)), (2, .ref (ua 0)), (3, .ref (ua 1)), (4, .ref (ua 2)), (5, .ref (ua 3)), (6, .ref (ua 4)), (7, .ref (ua 5)), (8, .ref (ua 6)), (9, .ref (ua 7)), (10, .ref (ua 8)), (11, .int (nI 1)), (12, .int (nI t)), (14, .int (nI kd)), (15, .int (nI y)), (16, .int (nI ho)), (17, .int (nI hm)), (18, .int (nI pr)), (19, .int (nI fi)), (20, .int (nI ci))] := hl
  have jn1195_16 : ∀ (ca1 : Nat), (u_st L ci = 2 ∧ ca1 = 1) ∨ (¬ u_st L ci = 2 ∧ ca1 = 0) → ∀ (H : Heap) (locs : List Loc), rh_W G ca ad nf nc r v H → u_W G ca ua L H → va_S A s.heap H locs → W p l e room_1 s m #[Value.ref b] below meth c H locs cells slots (Q) (F0 m 1195 ls [.int (nI ca1)]) := by
    intro ca1 hca1 H locs hW hU hS
    refine lv_istore (lv' := [(21, .int (nI ca1)), (0, .ref b), (1, .ref (ad 0 0)), (2, .ref (ua 0)), (3, .ref (ua 1)), (4, .ref (ua 2)), (5, .ref (ua 3)), (6, .ref (ua 4)), (7, .ref (ua 5)), (8, .ref (ua 6)), (9, .ref (ua 7)), (10, .ref (ua 8)), (11, .int (nI 1)), (12, .int (nI t)), (14, .int (nI kd)), (15, .int (nI y)), (16, .int (nI ho)), (17, .int (nI hm)), (18, .int (nI pr)), (19, .int (nI fi)), (20, .int (nI ci))]) hx hb dL_law_1195 hl (by decide) rfl (fun ls hl => ?_)
    have jn1209_19 : ∀ (up : Nat), up ≤ 1 → W p l e room_1 s m #[Value.ref b] below meth c H locs cells slots (Q) (F0 m 1209 ls [.int (nI up)]) := by
      intro up hup1
      refine lv_istore (lv' := [(22, .int (nI up)), (21, .int (nI ca1)), (0, .ref b), (1, .ref (ad 0 0)), (2, .ref (ua 0)), (3, .ref (ua 1)), (4, .ref (ua 2)), (5, .ref (ua 3)), (6, .ref (ua 4)), (7, .ref (ua 5)), (8, .ref (ua 6)), (9, .ref (ua 7)), (10, .ref (ua 8)), (11, .int (nI 1)), (12, .int (nI t)), (14, .int (nI kd)), (15, .int (nI y)), (16, .int (nI ho)), (17, .int (nI hm)), (18, .int (nI pr)), (19, .int (nI fi)), (20, .int (nI ci))]) hx hb dL_law_1209 hl (by decide) rfl (fun ls hl => ?_)
      refine lv_aload_n hx hb dL_law_1211 rfl (lv_at hl 3 rfl) ?_
      refine lv_iload hx hb dL_law_1212 (lv_at hl 21 rfl) ?_
      refine lv_iload hx hb dL_law_1214 (lv_at hl 0 rfl) ?_
      have hA19 : ∀ q, lH A ua q → A q := fun q h => h.1
      have hB19 := lH_up hA hS.1 hU
      refine rh_call2 (vx_runSX (As := [.ref (ad 0 0), .int (nI ci), .int (nI up)]) (rest := []) ⟨hx, hb, hml, hown, hts⟩ (hl_isAnswered l hlf hD hinv.1 ci up hcl9) (vx_cwSW 3 hts gL_law_L_isAnswered rfl rfl rfl (by decide +kernel) ⟨by decide, by decide⟩) (rh_prel hE hnc9 hS hA19 hB19 hW) rfl rfl hl.1 rfl (lv_room (Nat.le_of_ble_eq_true rfl)) dL_law_1216 ⟨show cells + 5 ≤ 665269 by omega, show slots + 40 ≤ 7105890 by omega⟩) hS hA19 (fun _ _ _ _ _ hX9 _ _ _ _ _ _ => hX9.elim) (fun o H locs hN9 hz9 hk9 hS => ?_)
      have hU := hU.kept (fun k hk => hk9 _ (hU.lt hk) (fun z => z.2 k hk rfl))
      rcases hN9 with ⟨i9, hi9, e9, hz1, rfl, hW⟩ | ⟨⟨i9, hi9, e9, hz⟩, rfl, hW⟩
      · obtain rfl : ci = i9 := m_inj (by omega) (by omega) e9
        have hcan : u_st L ci = 2 := m_inj (b := 2) (by omega) (by decide) ((o_call hinv hlr hcl9).1.symm.trans hz1)
        have hc1 : ca1 = 1 := by omega
        refine W.eq (g2 := F0 m 1219 ls [.int 1]) rfl ?_
        refine un_top (y := nI 1) rfl ?_
        refine lv_iload hx hb dL_law_1219 (lv_at hl 1 rfl) ?_
        refine un_cne (tgt := 1228) hx hb dL_law_1221 (by decide) (by decide) (by omega) (fun c1 => (by exfalso; omega)) (fun c1 => ?_)
        refine lv_iconst (v := nI 1) hx hb dL_law_1224 (by decide) ?_
        refine lv_goto (tgt := 1229) hx hb dL_law_1225 (by decide) ?_
        refine lv_istore (lv' := [(11, .int (nI 1)), (22, .int (nI up)), (21, .int (nI ca1)), (0, .ref b), (1, .ref (ad 0 0)), (2, .ref (ua 0)), (3, .ref (ua 1)), (4, .ref (ua 2)), (5, .ref (ua 3)), (6, .ref (ua 4)), (7, .ref (ua 5)), (8, .ref (ua 6)), (9, .ref (ua 7)), (10, .ref (ua 8)), (12, .int (nI t)), (14, .int (nI kd)), (15, .int (nI y)), (16, .int (nI ho)), (17, .int (nI hm)), (18, .int (nI pr)), (19, .int (nI fi)), (20, .int (nI ci))]) hx hb dL_law_1229 hl (by decide) rfl (fun ls hl => ?_)
        refine lv_aload hx hb dL_law_1231 (lv_at hl 8 rfl) ?_
        refine lv_iload hx hb dL_law_1233 (lv_at hl 21 rfl) ?_
        refine lv_iload hx hb dL_law_1235 (lv_at hl 2 rfl) ?_
        refine un_ieq (tgt := 1276) hx hb dL_law_1237 (by decide) (by omega) (fun c2 => (by exfalso; omega)) (fun c2 => ?_)
        refine lv_aload hx hb dL_law_1240 (lv_at hl 8 rfl) ?_
        refine lv_iload hx hb dL_law_1242 (lv_at hl 21 rfl) ?_
        have hb1244_46 := hub 3 ci
        refine un_ald (L := L) hx hb hE hU 3 (by decide) ci (show ci < 40 from (by omega)) dL_law_1244 ?_
        refine lv_bipush (v := nI 16) hx hb dL_law_1245 (by decide) ?_
        refine un_rem hx hb dL_law_1247 (by omega) (by decide) (by decide) ?_
        refine lv_iload hx hb dL_law_1248 (lv_at hl 1 rfl) ?_
        refine un_ieq (tgt := 1258) hx hb dL_law_1250 (by decide) (by omega) (fun c3 => ?_) (fun c3 => ?_)
        · have hup : up = 0 := c3
          refine lv_bipush (v := nI 64) hx hb dL_law_1258 (by decide) ?_
          refine un_add hx hb dL_law_1260 ?_
          refine lv_sipush (v := nI 128) hx hb dL_law_1261 (by decide) ?_
          refine lv_aload hx hb dL_law_1264 (lv_at hl 8 rfl) ?_
          refine lv_iload hx hb dL_law_1266 (lv_at hl 21 rfl) ?_
          have hAn : ∀ q : Nat, H.size ≤ q → A q := fun q h => hA q (Nat.le_trans hS.1 h)
          refine rh_call2 (vx_runS (As := [.ref (ua 3), .int (nI ci)]) (rest := [.int (nI 128), .int (nI (((L 3 ci) % 16) + 64)), .int (nI ci), .ref (ua 3)]) ⟨hx, hb, hml, hown, hts⟩ (ct_L_month l ci (by omega) hub) (va_cwS 2 hts gL_law_L_month rfl rfl rfl (by decide +kernel) ⟨by decide, by decide⟩) (rh_pre2 hE hS hAn (fun q h => h) hU) rfl rfl hl.1 rfl (lv_room (Nat.le_of_ble_eq_true rfl)) dL_law_1268 ⟨show (cells + 5) + 0 ≤ 665269 by omega, show (slots + 40) + 0 ≤ 7105890 by omega⟩) hS hAn (fun _ _ _ _ _ hX9 _ _ _ _ _ _ => hX9.elim) (fun o H locs hN9 hz9 hk9 hS => ?_)
          have hN9 := hN9
          subst hN9
          have hk9 := fun q hq => hk9 q hq (Nat.not_le.mpr hq)
          have hW := hW.grow hk9
          have hU := hU.grow hk9
          refine W.eq (g2 := F0 m 1271 ls [.int (nI (u_mo L ci)), .int (nI 128), .int (nI (((L 3 ci) % 16) + 64)), .int (nI ci), .ref (ua 3)]) rfl ?_
          refine un_mul hx hb dL_law_1271 ?_
          refine un_add hx hb dL_law_1272 ?_
          refine lv_goto (tgt := 1281) hx hb dL_law_1273 (by decide) ?_
          refine un_ast (L := L) (x := ((((L 3 ci) % 16) + 64) + (128 * (u_mo L ci)))) hx hb hE hU hUD hS 3 (by decide) ci (show ci < 40 from (by omega)) dL_law_1281 (fun H locs hU hz9 ho9 hS => ?_)
          have hW := hW.keptU hD (k := 3) (by decide) ho9
          refine lv_goto (tgt := 1624) hx hb dL_law_1282 (by decide) ?_
          have hsx : (if nI up = 0 then (4 : Int32) else 3) = 4 := if_pos (congrArg nI hup)
          rw [hsx] at hW
          have hlr2 : lr nf nc r (wm w 13 ci 4) (un L 3 ci (L 3 ci % 16 + 64 + 128 * u_mo L ci)) := by
            have hus : u_st L ci = L 3 ci / 16 % 8 := rfl
            have hum : u_mo L ci = L 3 ci / 128 % 64 := rfl
            have hx8 : (L 3 ci % 16 + 64 + 128 * u_mo L ci) / 16 % 8 = 4 := by omega
            refine lr_cst hlr hcl9 (by omega) (by omega) (by omega) (by omega) (by omega) (fun q j h1 h2 => ?_) (fun j => ?_) (fun j hj => ?_) (fun z => ?_)
            · exact wm_other _ _ _ _ h1 ▸ rfl
            · rw [wm_at]
              by_cases e : j = ci
              · subst e; rw [if_pos ⟨rfl, rfl⟩, if_pos rfl, hx8]; rfl
              · rw [if_neg (fun y => e y.2), if_neg e]
            · rfl
            · exact absurd (hx8.symm.trans z) (by decide)
          exact hK ad nf nc r (wr v 9 ci 3 4) (wm w 13 ci 4) (un L 3 ci ((((L 3 ci) % 16) + 64) + (128 * (u_mo L ci)))) H _ _ ⟨rfl, hW, hU, i_answer hinv hcl9 ((o_cst hlr hcl9 2 (by decide)).mpr hcan) (Or.inr rfl), hlr2, (le7_eq h7 rfl (fun _ => rfl)), hD⟩ hS (lv_sub hl [3, 4, 5, 6, 7, 8, 9, 10, 11, 12, 13, 0, 14, 16] rfl)
        · have hup : ¬ up = 0 := c3
          refine lv_bipush (v := nI 48) hx hb dL_law_1253 (by decide) ?_
          refine lv_goto (tgt := 1260) hx hb dL_law_1255 (by decide) ?_
          refine un_add hx hb dL_law_1260 ?_
          refine lv_sipush (v := nI 128) hx hb dL_law_1261 (by decide) ?_
          refine lv_aload hx hb dL_law_1264 (lv_at hl 8 rfl) ?_
          refine lv_iload hx hb dL_law_1266 (lv_at hl 21 rfl) ?_
          have hAn : ∀ q : Nat, H.size ≤ q → A q := fun q h => hA q (Nat.le_trans hS.1 h)
          refine rh_call2 (vx_runS (As := [.ref (ua 3), .int (nI ci)]) (rest := [.int (nI 128), .int (nI (((L 3 ci) % 16) + 48)), .int (nI ci), .ref (ua 3)]) ⟨hx, hb, hml, hown, hts⟩ (ct_L_month l ci (by omega) hub) (va_cwS 2 hts gL_law_L_month rfl rfl rfl (by decide +kernel) ⟨by decide, by decide⟩) (rh_pre2 hE hS hAn (fun q h => h) hU) rfl rfl hl.1 rfl (lv_room (Nat.le_of_ble_eq_true rfl)) dL_law_1268 ⟨show (cells + 5) + 0 ≤ 665269 by omega, show (slots + 40) + 0 ≤ 7105890 by omega⟩) hS hAn (fun _ _ _ _ _ hX9 _ _ _ _ _ _ => hX9.elim) (fun o H locs hN9 hz9 hk9 hS => ?_)
          have hN9 := hN9
          subst hN9
          have hk9 := fun q hq => hk9 q hq (Nat.not_le.mpr hq)
          have hW := hW.grow hk9
          have hU := hU.grow hk9
          refine W.eq (g2 := F0 m 1271 ls [.int (nI (u_mo L ci)), .int (nI 128), .int (nI (((L 3 ci) % 16) + 48)), .int (nI ci), .ref (ua 3)]) rfl ?_
          refine un_mul hx hb dL_law_1271 ?_
          refine un_add hx hb dL_law_1272 ?_
          refine lv_goto (tgt := 1281) hx hb dL_law_1273 (by decide) ?_
          refine un_ast (L := L) (x := ((((L 3 ci) % 16) + 48) + (128 * (u_mo L ci)))) hx hb hE hU hUD hS 3 (by decide) ci (show ci < 40 from (by omega)) dL_law_1281 (fun H locs hU hz9 ho9 hS => ?_)
          have hW := hW.keptU hD (k := 3) (by decide) ho9
          refine lv_goto (tgt := 1624) hx hb dL_law_1282 (by decide) ?_
          have hsx : (if nI up = 0 then (4 : Int32) else 3) = 3 := if_neg (fun z => hup (m_inj (b := 0) (by omega) (by decide) z))
          rw [hsx] at hW
          have hlr2 : lr nf nc r (wm w 13 ci 3) (un L 3 ci (L 3 ci % 16 + 48 + 128 * u_mo L ci)) := by
            have hus : u_st L ci = L 3 ci / 16 % 8 := rfl
            have hum : u_mo L ci = L 3 ci / 128 % 64 := rfl
            have hx8 : (L 3 ci % 16 + 48 + 128 * u_mo L ci) / 16 % 8 = 3 := by omega
            refine lr_cst hlr hcl9 (by omega) (by omega) (by omega) (by omega) (by omega) (fun q j h1 h2 => ?_) (fun j => ?_) (fun j hj => ?_) (fun z => ?_)
            · exact wm_other _ _ _ _ h1 ▸ rfl
            · rw [wm_at]
              by_cases e : j = ci
              · subst e; rw [if_pos ⟨rfl, rfl⟩, if_pos rfl, hx8]; rfl
              · rw [if_neg (fun y => e y.2), if_neg e]
            · rfl
            · exact absurd (hx8.symm.trans z) (by decide)
          exact hK ad nf nc r (wr v 9 ci 3 3) (wm w 13 ci 3) (un L 3 ci ((((L 3 ci) % 16) + 48) + (128 * (u_mo L ci)))) H _ _ ⟨rfl, hW, hU, i_answer hinv hcl9 ((o_cst hlr hcl9 2 (by decide)).mpr hcan) (Or.inl rfl), hlr2, (le7_eq h7 rfl (fun _ => rfl)), hD⟩ hS (lv_sub hl [3, 4, 5, 6, 7, 8, 9, 10, 11, 12, 13, 0, 14, 16] rfl)
      · obtain rfl : ci = i9 := m_inj (by omega) (by omega) e9
        have hcan : ¬ u_st L ci = 2 := fun z => hz ((o_call hinv hlr hcl9).1.trans (congrArg nI z))
        have hc1 : ca1 = 0 := by omega
        refine W.eq (g2 := F0 m 1219 ls [.int 0]) rfl ?_
        refine un_top (y := nI 0) rfl ?_
        refine lv_iload hx hb dL_law_1219 (lv_at hl 1 rfl) ?_
        refine un_cne (tgt := 1228) hx hb dL_law_1221 (by decide) (by decide) (by omega) (fun c4 => (by exfalso; omega)) (fun c4 => ?_)
        refine lv_iconst (v := nI 1) hx hb dL_law_1224 (by decide) ?_
        refine lv_goto (tgt := 1229) hx hb dL_law_1225 (by decide) ?_
        refine lv_istore (lv' := [(11, .int (nI 1)), (22, .int (nI up)), (21, .int (nI ca1)), (0, .ref b), (1, .ref (ad 0 0)), (2, .ref (ua 0)), (3, .ref (ua 1)), (4, .ref (ua 2)), (5, .ref (ua 3)), (6, .ref (ua 4)), (7, .ref (ua 5)), (8, .ref (ua 6)), (9, .ref (ua 7)), (10, .ref (ua 8)), (12, .int (nI t)), (14, .int (nI kd)), (15, .int (nI y)), (16, .int (nI ho)), (17, .int (nI hm)), (18, .int (nI pr)), (19, .int (nI fi)), (20, .int (nI ci))]) hx hb dL_law_1229 hl (by decide) rfl (fun ls hl => ?_)
        refine lv_aload hx hb dL_law_1231 (lv_at hl 8 rfl) ?_
        refine lv_iload hx hb dL_law_1233 (lv_at hl 21 rfl) ?_
        refine lv_iload hx hb dL_law_1235 (lv_at hl 2 rfl) ?_
        refine un_ieq (tgt := 1276) hx hb dL_law_1237 (by decide) (by omega) (fun c5 => ?_) (fun c5 => (by exfalso; omega))
        refine lv_aload hx hb dL_law_1276 (lv_at hl 8 rfl) ?_
        refine lv_iload hx hb dL_law_1278 (lv_at hl 21 rfl) ?_
        have hb1280_139 := hub 3 ci
        refine un_ald (L := L) hx hb hE hU 3 (by decide) ci (show ci < 40 from (by omega)) dL_law_1280 ?_
        refine un_ast (L := L) (x := (L 3 ci)) hx hb hE hU hUD hS 3 (by decide) ci (show ci < 40 from (by omega)) dL_law_1281 (fun H locs hU hz9 ho9 hS => ?_)
        have hW := hW.keptU hD (k := 3) (by decide) ho9
        refine lv_goto (tgt := 1624) hx hb dL_law_1282 (by decide) ?_
        rw [un_id] at hU
        exact hK ad nf nc r v w L H _ _ ⟨rfl, hW, hU, hinv, hlr, h7, hD⟩ hS (lv_sub hl [3, 4, 5, 6, 7, 8, 9, 10, 11, 12, 13, 0, 14, 16] rfl)
    refine lv_iload hx hb dL_law_1197 (lv_at hl 15 rfl) ?_
    refine lv_iconst (v := nI 3) hx hb dL_law_1199 (by decide) ?_
    refine un_rem hx hb dL_law_1200 (by omega) (by decide) (by decide) ?_
    refine un_ile (tgt := 1208) hx hb dL_law_1201 (by decide) (by omega) (fun c6 => ?_) (fun c6 => ?_)
    · refine lv_iconst (v := nI 0) hx hb dL_law_1208 (by decide) ?_
      exact jn1209_19 0 (by omega)
    · refine lv_iconst (v := nI 1) hx hb dL_law_1204 (by decide) ?_
      refine lv_goto (tgt := 1209) hx hb dL_law_1205 (by decide) ?_
      exact jn1209_19 1 (by omega)
  refine lv_aload hx hb dL_law_1179 (lv_at hl 5 rfl) ?_
  refine lv_iload hx hb dL_law_1181 (lv_at hl 19 rfl) ?_
  have hAn : ∀ q : Nat, H.size ≤ q → A q := fun q h => hA q (Nat.le_trans hS.1 h)
  refine rh_call2 (vx_runS (As := [.ref (ua 3), .int (nI ci)]) (rest := []) ⟨hx, hb, hml, hown, hts⟩ (ct_L_state l ci (by omega) hub) (va_cwS 2 hts gL_law_L_state rfl rfl rfl (by decide +kernel) ⟨by decide, by decide⟩) (rh_pre2 hE hS hAn (fun q h => h) hU) rfl rfl hl.1 rfl (lv_room (Nat.le_of_ble_eq_true rfl)) dL_law_1183 ⟨show cells + 0 ≤ 665269 by omega, show slots + 0 ≤ 7105890 by omega⟩) hS hAn (fun _ _ _ _ _ hX9 _ _ _ _ _ _ => hX9.elim) (fun o H locs hN9 hz9 hk9 hS => ?_)
  have hN9 := hN9
  subst hN9
  have hk9 := fun q hq => hk9 q hq (Nat.not_le.mpr hq)
  have hW := hW.grow hk9
  have hU := hU.grow hk9
  refine W.eq (g2 := F0 m 1186 ls [.int (nI (u_st L ci))]) rfl ?_
  refine lv_iconst (v := nI 2) hx hb dL_law_1186 (by decide) ?_
  refine un_cne (tgt := 1194) hx hb dL_law_1187 (by decide) (by omega) (by decide) (fun c7 => ?_) (fun c7 => ?_)
  · refine lv_iconst (v := nI 0) hx hb dL_law_1194 (by decide) ?_
    exact jn1195_16 0 (by omega) _ _ hW hU hS
  · refine lv_iconst (v := nI 1) hx hb dL_law_1190 (by decide) ?_
    refine lv_goto (tgt := 1195) hx hb dL_law_1191 (by decide) ?_
    exact jn1195_16 1 (by omega) _ _ hW hU hS
