/-! ===== a month goes by ===== -/
theorem ub_gb {L : u_L} (h : ub L) (n : Nat) : ub (u_gb L n) := by
  intro k a
  unfold u_gb
  split
  · omega
  · exact h k a
set_option maxHeartbeats 8000000 in
set_option maxRecDepth 100000 in
theorem op_next {p : Program} {l : Launch} {e : Env} {s : State} {m : MethodId} {below : List Frame} {meth : Method} {c : Code} {G : va_G} {ca : Nat → ClassId} {A : Nat → Prop} {ua : Nat → Nat} {b Ls : Nat} {xs : Nat → Int32} {h1 t y : Nat} {cells slots : Nat} {Q : State → Prop} {ad : Nat → Nat → Nat} {nf nc : Nat} {r : rh_R} {v : rh_V} {w : rh_Wm} {L : u_L} {H : Heap} {locs : List Loc} {ls : Array Slot} {kd ho hm pr fi ci : Nat} (C : lwC p l s m c G ca A ua b Ls xs) (hLS : lwS G ca A ua h1 ad nf nc r v w L H) (hS : va_S A s.heap H locs) (hl : lv_has ls 24 [(0, .ref b), (1, .ref h1), (2, .ref (ua 0)), (3, .ref (ua 1)), (4, .ref (ua 2)), (5, .ref (ua 3)), (6, .ref (ua 4)), (7, .ref (ua 5)), (8, .ref (ua 6)), (9, .ref (ua 7)), (10, .ref (ua 8)), (11, .int (nI 1)), (12, .int (nI t)), (14, .int (nI kd)), (15, .int (nI y)), (16, .int (nI ho)), (17, .int (nI hm)), (18, .int (nI pr)), (19, .int (nI fi)), (20, .int (nI ci))]) (hyb : y < 100000000) (hho : ho < 4) (hhm : hm < 4) (hne : ho ≠ hm) (hpr : pr = ho + 4 * hm) (hfi : (nf = 0 ∧ fi = 0) ∨ fi < nf) (hci : (nc = 0 ∧ ci = 0) ∨ ci < nc) (hcl : cells + 10 ≤ 665269) (hsl : slots + 80 ≤ 7105890) (hK : lwK p l e s m below meth c G ca A ua b h1 t y cells slots Q) : W p l e room_1 s m #[Value.ref b] below meth c H locs cells slots Q (F0 m 1460 ls []) := by
  obtain ⟨hx, hb, hml, hown, hts, hE, hnc9, hlf, hA, hbA, hbl, hX, hLm, hUD⟩ := C
  obtain ⟨rfl, hW, hU, hinv, hlr, h7, hD⟩ := hLS
  have hub := hlr.1
  have hla := hlr.2.2.1
  have hn00 := hlr.2.1.1.1
  have hn16 := hlr.2.1.1.2
  have hn01 := hlr.2.1.2.1.1
  have hn40 := hlr.2.1.2.1.2
  have hn36 := hlr.2.1.2.2.2.1
  have hlk := o_lk hinv hlr
  have hnow := o_now hinv hlr
  have hl : lv_has ls 24 [(0, .ref b), (1, .ref (ad 0 0)), (2, .ref (ua 0)), (3, .ref (ua 1)), (4, .ref (ua 2)), (5, .ref (ua 3)), (6, .ref (ua 4)), (7, .ref (ua 5)), (8, .ref (ua 6)), (9, .ref (ua 7)), (10, .ref (ua 8)), (11, .int (nI 1)), (12, .int (nI t)), (14, .int (nI kd)), (15, .int (nI y)), (16, .int (nI ho)), (17, .int (nI hm)), (18, .int (nI pr)), (19, .int (nI fi)), (20, .int (nI ci))] := hl
  have jn1476_14 : W p l e room_1 s m #[Value.ref b] below meth c H locs cells slots (Q) (F0 m 1476 ls []) := by
    refine lv_aload_n hx hb dL_law_1476 rfl (lv_at hl 2 rfl) ?_
    refine lv_iconst (v := nI 3) hx hb dL_law_1477 (by decide) ?_
    have hb1478_17 := hub 0 3
    refine un_ald (L := L) hx hb hE hU 0 (by decide) 3 (show 3 < 4 from (by decide)) dL_law_1478 ?_
    refine lv_bipush (v := nI 35) hx hb dL_law_1479 (by decide) ?_
    refine un_cne (tgt := 1489) hx hb dL_law_1481 (by decide) (by omega) (by decide) (fun c1 => ?_) (fun c1 => ?_)
    · have hlt : L 0 3 < 35 := by omega
      refine lv_aload_n hx hb dL_law_1489 rfl (lv_at hl 2 rfl) ?_
      refine lv_iconst (v := nI 3) hx hb dL_law_1490 (by decide) ?_
      have hb1491_24 := hub 0 3
      refine un_ald (L := L) hx hb hE hU 0 (by decide) 3 (show 3 < 4 from (by decide)) dL_law_1491 ?_
      refine lv_iconst (v := nI 1) hx hb dL_law_1492 (by decide) ?_
      refine un_add hx hb dL_law_1493 ?_
      refine lv_istore (lv' := [(21, .int (nI ((L 0 3) + 1))), (0, .ref b), (1, .ref (ad 0 0)), (2, .ref (ua 0)), (3, .ref (ua 1)), (4, .ref (ua 2)), (5, .ref (ua 3)), (6, .ref (ua 4)), (7, .ref (ua 5)), (8, .ref (ua 6)), (9, .ref (ua 7)), (10, .ref (ua 8)), (11, .int (nI 1)), (12, .int (nI t)), (14, .int (nI kd)), (15, .int (nI y)), (16, .int (nI ho)), (17, .int (nI hm)), (18, .int (nI pr)), (19, .int (nI fi)), (20, .int (nI ci))]) hx hb dL_law_1494 hl (by decide) rfl (fun ls hl => ?_)
      refine lv_aload_n hx hb dL_law_1496 rfl (lv_at hl 3 rfl) ?_
      refine lv_iconst (v := nI 3) hx hb dL_law_1497 (by decide) ?_
      refine lv_iload hx hb dL_law_1498 (lv_at hl 0 rfl) ?_
      refine un_ige (tgt := 1508) hx hb dL_law_1500 (by decide) (by omega) ?_
      refine lv_iload hx hb dL_law_1508 (lv_at hl 0 rfl) ?_
      refine un_ast (L := L) (x := ((L 0 3) + 1)) hx hb hE hU hUD hS 0 (by decide) 3 (show 3 < 4 from (by decide)) dL_law_1510 (fun H locs hU hz9 ho9 hS => ?_)
      have hW := hW.keptU hD (k := 0) (by decide) ho9
      refine lv_iconst (v := nI 0) hx hb dL_law_1511 (by decide) ?_
      refine lv_istore (lv' := [(22, .int (nI 0)), (21, .int (nI ((L 0 3) + 1))), (0, .ref b), (1, .ref (ad 0 0)), (2, .ref (ua 0)), (3, .ref (ua 1)), (4, .ref (ua 2)), (5, .ref (ua 3)), (6, .ref (ua 4)), (7, .ref (ua 5)), (8, .ref (ua 6)), (9, .ref (ua 7)), (10, .ref (ua 8)), (11, .int (nI 1)), (12, .int (nI t)), (14, .int (nI kd)), (15, .int (nI y)), (16, .int (nI ho)), (17, .int (nI hm)), (18, .int (nI pr)), (19, .int (nI fi)), (20, .int (nI ci))]) hx hb dL_law_1512 hl (by decide) rfl (fun ls hl => ?_)
      have loop1514 : ∀ (n : Nat) (j : Nat) (H : Heap) (locs : List Loc) (ls : Array Slot), nc + 1 ≤ j + n → j ≤ nc → rh_W G ca ad nf nc r v H → u_W G ca ua (u_gb (un L 0 3 (L 0 3 + 1)) j) H → va_S A s.heap H locs → lv_has ls 24 [(0, .ref b), (1, .ref (ad 0 0)), (2, .ref (ua 0)), (3, .ref (ua 1)), (4, .ref (ua 2)), (5, .ref (ua 3)), (6, .ref (ua 4)), (7, .ref (ua 5)), (8, .ref (ua 6)), (9, .ref (ua 7)), (10, .ref (ua 8)), (11, .int (nI 1)), (12, .int (nI t)), (15, .int (nI y)), (21, .int (nI ((L 0 3) + 1))), (22, .int (nI j))] → W p l e room_1 s m #[Value.ref b] below meth c H locs cells slots (Q) (F0 m 1514 ls []) := by
        intro n
        induction n with
        | zero => intro j H locs ls hn hj hW hU hS hl; exfalso; omega
        | succ n ih1514 =>
          intro j H locs ls hn hj hW hU hS hl
          have hubL := hub
          have hub : ub (u_gb (un L 0 3 (L 0 3 + 1)) j) := ub_gb (hub.upd (by omega)) j
          have hg3 : (u_gb (un L 0 3 (L 0 3 + 1)) j) 3 j = L 3 j := (u_gb_at (un L 0 3 (L 0 3 + 1)) j).2
          have hg01 : (u_gb (un L 0 3 (L 0 3 + 1)) j) 0 1 = nc := ((u_gb_at (un L 0 3 (L 0 3 + 1)) j).1 0 1 (by decide)).trans hn01
          have hg03 : (u_gb (un L 0 3 (L 0 3 + 1)) j) 0 3 = (L 0 3 + 1) := (u_gb_at (un L 0 3 (L 0 3 + 1)) j).1 0 3 (by decide)
          have hbL3 := hubL 3 j
          refine lv_iload hx hb dL_law_1514 (lv_at hl 15 rfl) ?_
          refine lv_aload_n hx hb dL_law_1516 rfl (lv_at hl 2 rfl) ?_
          refine lv_iconst (v := nI 1) hx hb dL_law_1517 (by decide) ?_
          have hb1518_53 := hub 0 1
          refine un_ald (L := (u_gb (un L 0 3 (L 0 3 + 1)) j)) hx hb hE hU 0 (by decide) 1 (show 1 < 4 from (by decide)) dL_law_1518 ?_
          refine un_top (y := nI nc) (congrArg nI hg01) ?_
          refine un_cge (tgt := 1604) hx hb dL_law_1519 (by decide) (by omega) (by omega) (fun c3 => ?_) (fun c3 => ?_)
          · have hjf : j = nc := by omega
            refine lv_aload_n hx hb dL_law_1604 rfl (lv_at hl 1 rfl) ?_
            refine lv_iconst (v := nI 3) hx hb dL_law_1605 (by decide) ?_
            refine lv_iconst (v := nI 0) hx hb dL_law_1606 (by decide) ?_
            refine lv_iconst (v := nI 0) hx hb dL_law_1607 (by decide) ?_
            refine lv_iconst (v := nI 0) hx hb dL_law_1608 (by decide) ?_
            have hA19 : ∀ q, lH A ua q → A q := fun q h => h.1
            have hB19 := lH_up hA hS.1 hU
            refine rh_call2 (vx_runSX (As := [.ref (ad 0 0), .int (nI 3), .int (nI 0), .int (nI 0), .int (nI 0)]) (rest := []) ⟨hx, hb, hml, hown, hts⟩ (hl_does3 l hlf hD hinv.1 ) (vx_cwSW 5 hts gL_law_L_does rfl rfl rfl (by decide +kernel) ⟨by decide, by decide⟩) (rh_prel hE hnc9 hS hA19 hB19 hW) rfl rfl hl.1 rfl (lv_room (Nat.le_of_ble_eq_true rfl)) dL_law_1609 ⟨show cells + 5 ≤ 665269 by omega, show slots + 40 ≤ 7105890 by omega⟩) hS hA19 (fun _ _ _ _ _ hX9 _ _ _ _ _ _ => hX9.elim) (fun o H locs hN9 hz9 hk9 hS => ?_)
            have hU := hU.kept (fun k hk => hk9 _ (hU.lt hk) (fun z => z.2 k hk rfl))
            rcases hN9 with ⟨hz, rfl, hW⟩ | ⟨hz, rfl, hW⟩
            · refine W.eq (g2 := F0 m 1612 ls [.int (v 0 0 6 + 1)]) rfl ?_
              refine un_top (y := nI (L 0 3 + 1)) (by rw [hnow.1, nI_1]) ?_
              refine lv_iload hx hb dL_law_1612 (lv_at hl 14 rfl) ?_
              refine un_cne (tgt := 1621) hx hb dL_law_1614 (by decide) (by omega) (by omega) (fun c4 => absurd rfl c4) (fun c4 => ?_)
              refine lv_iconst (v := nI 1) hx hb dL_law_1617 (by decide) ?_
              refine lv_goto (tgt := 1622) hx hb dL_law_1618 (by decide) ?_
              refine lv_istore (lv' := [(11, .int (nI 1)), (0, .ref b), (1, .ref (ad 0 0)), (2, .ref (ua 0)), (3, .ref (ua 1)), (4, .ref (ua 2)), (5, .ref (ua 3)), (6, .ref (ua 4)), (7, .ref (ua 5)), (8, .ref (ua 6)), (9, .ref (ua 7)), (10, .ref (ua 8)), (12, .int (nI t)), (15, .int (nI y)), (21, .int (nI ((L 0 3) + 1))), (22, .int (nI j))]) hx hb dL_law_1622 hl (by decide) rfl (fun ls hl => ?_)
              rw [hjf] at hU
              exact hK ad nf nc r (c_gb (wr v 0 0 6 (v 0 0 6 + 1)) nc) (m_gb (wm w 26 24 (w 26 24 + 1)) nc) (u_gb (un L 0 3 (L 0 3 + 1)) nc) H _ _ ⟨rfl, hW, hU, i_next hinv hz, lr_next hlr hlt (fun c hc hs => (o_late hinv hlr c hc hs).1), (le7_eq h7 (funext (fun a => (u_gb_at _ _).1 7 a (by decide))) (fun g => (u_gb_at _ _).1 2 _ (by decide))), hD⟩ hS (lv_sub hl [1, 2, 3, 4, 5, 6, 7, 8, 9, 10, 11, 0, 12, 13] rfl)
            · exact absurd (by rw [hnow.1]; exact nI_lt (b := 35) hlt (by decide)) hz
          · have hjl : j < nc := by omega
            have jn1555_79 : ∀ (ov : Nat), ((L 3 j / 16 % 8 = 2 ∧ 1 < (L 0 3 + 1) - L 3 j / 8192) ∧ ov = 1) ∨ (¬ (L 3 j / 16 % 8 = 2 ∧ 1 < (L 0 3 + 1) - L 3 j / 8192) ∧ ov = 0) → ∀ (H : Heap) (locs : List Loc), rh_W G ca ad nf nc r v H → u_W G ca ua (u_gb (un L 0 3 (L 0 3 + 1)) j) H → va_S A s.heap H locs → W p l e room_1 s m #[Value.ref b] below meth c H locs cells slots (Q) (F0 m 1555 ls [.int (nI ov)]) := by
              intro ov hov H locs hW hU hS
              refine lv_istore (lv' := [(23, .int (nI ov)), (0, .ref b), (1, .ref (ad 0 0)), (2, .ref (ua 0)), (3, .ref (ua 1)), (4, .ref (ua 2)), (5, .ref (ua 3)), (6, .ref (ua 4)), (7, .ref (ua 5)), (8, .ref (ua 6)), (9, .ref (ua 7)), (10, .ref (ua 8)), (11, .int (nI 1)), (12, .int (nI t)), (15, .int (nI y)), (21, .int (nI ((L 0 3) + 1))), (22, .int (nI j))]) hx hb dL_law_1555 hl (by decide) rfl (fun ls hl => ?_)
              refine lv_aload hx hb dL_law_1557 (lv_at hl 6 rfl) ?_
              refine lv_iload hx hb dL_law_1559 (lv_at hl 16 rfl) ?_
              refine lv_iload hx hb dL_law_1561 (lv_at hl 0 rfl) ?_
              refine un_ieq (tgt := 1592) hx hb dL_law_1563 (by decide) (by omega) (fun c5 => ?_) (fun c5 => ?_)
              · refine lv_aload hx hb dL_law_1592 (lv_at hl 6 rfl) ?_
                refine lv_iload hx hb dL_law_1594 (lv_at hl 16 rfl) ?_
                have hb1596_88 := hub 3 j
                refine un_ald (L := (u_gb (un L 0 3 (L 0 3 + 1)) j)) hx hb hE hU 3 (by decide) j (show j < 40 from (by omega)) dL_law_1596 ?_
                refine un_top (y := nI (L 3 j)) (congrArg nI hg3) ?_
                refine un_ast (L := (u_gb (un L 0 3 (L 0 3 + 1)) j)) (x := (L 3 j)) hx hb hE hU hUD hS 3 (by decide) j (show j < 40 from (by omega)) dL_law_1597 (fun H locs hU hz9 ho9 hS => ?_)
                have hW := hW.keptU hD (k := 3) (by decide) ho9
                refine lv_iinc (v := nI (j + 1)) (lv' := [(22, .int (nI (j + 1))), (23, .int (nI ov)), (0, .ref b), (1, .ref (ad 0 0)), (2, .ref (ua 0)), (3, .ref (ua 1)), (4, .ref (ua 2)), (5, .ref (ua 3)), (6, .ref (ua 4)), (7, .ref (ua 5)), (8, .ref (ua 6)), (9, .ref (ua 7)), (10, .ref (ua 8)), (11, .int (nI 1)), (12, .int (nI t)), (15, .int (nI y)), (21, .int (nI ((L 0 3) + 1)))]) hx hb dL_law_1598 hl (k := 16) rfl (nI_add j 1) (by decide) rfl (fun ls hl => ?_)
                refine lv_goto (tgt := 1514) hx hb dL_law_1601 (by decide) ?_
                have e9 : un (u_gb (un L 0 3 (L 0 3 + 1)) j) 3 j (L 3 j) = u_gb (un L 0 3 (L 0 3 + 1)) (j + 1) := (congrArg (un (u_gb (un L 0 3 (L 0 3 + 1)) j) 3 j) (Eq.symm (if_neg (show ¬ ((un L 0 3 (L 0 3 + 1)) 3 j / 16 % 8 = 2 ∧ 1 < (un L 0 3 (L 0 3 + 1)) 0 3 - (un L 0 3 (L 0 3 + 1)) 3 j / 8192) from (show ¬ (L 3 j / 16 % 8 = 2 ∧ 1 < (L 0 3 + 1) - L 3 j / 8192) by omega))))).trans (u_gb_s (un L 0 3 (L 0 3 + 1)) j)
                rw [e9] at hU
                exact ih1514 (j + 1) _ _ _ (by omega) (by omega) hW hU hS (lv_sub hl [2, 3, 4, 5, 6, 7, 8, 9, 10, 11, 12, 13, 14, 15, 16, 0] rfl)
              · refine lv_aload hx hb dL_law_1566 (lv_at hl 6 rfl) ?_
                refine lv_iload hx hb dL_law_1568 (lv_at hl 16 rfl) ?_
                have hb1570_100 := hub 3 j
                refine un_ald (L := (u_gb (un L 0 3 (L 0 3 + 1)) j)) hx hb hE hU 3 (by decide) j (show j < 40 from (by omega)) dL_law_1570 ?_
                refine un_top (y := nI (L 3 j)) (congrArg nI hg3) ?_
                refine lv_bipush (v := nI 16) hx hb dL_law_1571 (by decide) ?_
                refine un_rem hx hb dL_law_1573 (by omega) (by decide) (by decide) ?_
                refine lv_bipush (v := nI 64) hx hb dL_law_1574 (by decide) ?_
                refine un_add hx hb dL_law_1576 ?_
                refine lv_sipush (v := nI 128) hx hb dL_law_1577 (by decide) ?_
                refine lv_aload hx hb dL_law_1580 (lv_at hl 6 rfl) ?_
                refine lv_iload hx hb dL_law_1582 (lv_at hl 16 rfl) ?_
                have hAn : ∀ q : Nat, H.size ≤ q → A q := fun q h => hA q (Nat.le_trans hS.1 h)
                refine rh_call2 (vx_runS (As := [.ref (ua 3), .int (nI j)]) (rest := [.int (nI 128), .int (nI (((L 3 j) % 16) + 64)), .int (nI j), .ref (ua 3)]) ⟨hx, hb, hml, hown, hts⟩ (ct_L_month l j (by omega) hub) (va_cwS 2 hts gL_law_L_month rfl rfl rfl (by decide +kernel) ⟨by decide, by decide⟩) (rh_pre2 hE hS hAn (fun q h => h) hU) rfl rfl hl.1 rfl (lv_room (Nat.le_of_ble_eq_true rfl)) dL_law_1584 ⟨show cells + 0 ≤ 665269 by omega, show slots + 0 ≤ 7105890 by omega⟩) hS hAn (fun _ _ _ _ _ hX9 _ _ _ _ _ _ => hX9.elim) (fun o H locs hN9 hz9 hk9 hS => ?_)
                have hN9 := hN9
                subst hN9
                have hk9 := fun q hq => hk9 q hq (Nat.not_le.mpr hq)
                have hW := hW.grow hk9
                have hU := hU.grow hk9
                refine W.eq (g2 := F0 m 1587 ls [.int (nI (u_mo (u_gb (un L 0 3 (L 0 3 + 1)) j) j)), .int (nI 128), .int (nI (((L 3 j) % 16) + 64)), .int (nI j), .ref (ua 3)]) rfl ?_
                refine un_top (y := nI (L 3 j / 128 % 64)) (congrArg nI (by unfold u_mo; rw [hg3])) ?_
                refine un_mul hx hb dL_law_1587 ?_
                refine un_add hx hb dL_law_1588 ?_
                refine lv_goto (tgt := 1597) hx hb dL_law_1589 (by decide) ?_
                refine un_ast (L := (u_gb (un L 0 3 (L 0 3 + 1)) j)) (x := ((((L 3 j) % 16) + 64) + (128 * (L 3 j / 128 % 64)))) hx hb hE hU hUD hS 3 (by decide) j (show j < 40 from (by omega)) dL_law_1597 (fun H locs hU hz9 ho9 hS => ?_)
                have hW := hW.keptU hD (k := 3) (by decide) ho9
                refine lv_iinc (v := nI (j + 1)) (lv' := [(22, .int (nI (j + 1))), (23, .int (nI ov)), (0, .ref b), (1, .ref (ad 0 0)), (2, .ref (ua 0)), (3, .ref (ua 1)), (4, .ref (ua 2)), (5, .ref (ua 3)), (6, .ref (ua 4)), (7, .ref (ua 5)), (8, .ref (ua 6)), (9, .ref (ua 7)), (10, .ref (ua 8)), (11, .int (nI 1)), (12, .int (nI t)), (15, .int (nI y)), (21, .int (nI ((L 0 3) + 1)))]) hx hb dL_law_1598 hl (k := 16) rfl (nI_add j 1) (by decide) rfl (fun ls hl => ?_)
                refine lv_goto (tgt := 1514) hx hb dL_law_1601 (by decide) ?_
                have e9 : un (u_gb (un L 0 3 (L 0 3 + 1)) j) 3 j ((((L 3 j) % 16) + 64) + (128 * (L 3 j / 128 % 64))) = u_gb (un L 0 3 (L 0 3 + 1)) (j + 1) := (congrArg (un (u_gb (un L 0 3 (L 0 3 + 1)) j) 3 j) (Eq.symm (if_pos (show (un L 0 3 (L 0 3 + 1)) 3 j / 16 % 8 = 2 ∧ 1 < (un L 0 3 (L 0 3 + 1)) 0 3 - (un L 0 3 (L 0 3 + 1)) 3 j / 8192 from (show L 3 j / 16 % 8 = 2 ∧ 1 < (L 0 3 + 1) - L 3 j / 8192 by omega))))).trans (u_gb_s (un L 0 3 (L 0 3 + 1)) j)
                rw [e9] at hU
                exact ih1514 (j + 1) _ _ _ (by omega) (by omega) hW hU hS (lv_sub hl [2, 3, 4, 5, 6, 7, 8, 9, 10, 11, 12, 13, 14, 15, 16, 0] rfl)
            refine lv_aload hx hb dL_law_1522 (lv_at hl 5 rfl) ?_
            refine lv_iload hx hb dL_law_1524 (lv_at hl 15 rfl) ?_
            have hAn : ∀ q : Nat, H.size ≤ q → A q := fun q h => hA q (Nat.le_trans hS.1 h)
            refine rh_call2 (vx_runS (As := [.ref (ua 3), .int (nI j)]) (rest := []) ⟨hx, hb, hml, hown, hts⟩ (ct_L_state l j (by omega) hub) (va_cwS 2 hts gL_law_L_state rfl rfl rfl (by decide +kernel) ⟨by decide, by decide⟩) (rh_pre2 hE hS hAn (fun q h => h) hU) rfl rfl hl.1 rfl (lv_room (Nat.le_of_ble_eq_true rfl)) dL_law_1526 ⟨show cells + 0 ≤ 665269 by omega, show slots + 0 ≤ 7105890 by omega⟩) hS hAn (fun _ _ _ _ _ hX9 _ _ _ _ _ _ => hX9.elim) (fun o H locs hN9 hz9 hk9 hS => ?_)
            have hN9 := hN9
            subst hN9
            have hk9 := fun q hq => hk9 q hq (Nat.not_le.mpr hq)
            have hW := hW.grow hk9
            have hU := hU.grow hk9
            refine W.eq (g2 := F0 m 1529 ls [.int (nI (u_st (u_gb (un L 0 3 (L 0 3 + 1)) j) j))]) rfl ?_
            refine un_top (y := nI (L 3 j / 16 % 8)) (congrArg nI (by unfold u_st; rw [hg3])) ?_
            refine lv_iconst (v := nI 2) hx hb dL_law_1529 (by decide) ?_
            refine un_cne (tgt := 1554) hx hb dL_law_1530 (by decide) (by omega) (by decide) (fun c6 => ?_) (fun c6 => ?_)
            · refine lv_iconst (v := nI 0) hx hb dL_law_1554 (by decide) ?_
              exact jn1555_79 0 (by omega) _ _ hW hU hS
            · have hlt9 := (o_late hinv hlr j hjl (by omega)).2
              refine lv_aload_n hx hb dL_law_1533 rfl (lv_at hl 2 rfl) ?_
              refine lv_iconst (v := nI 3) hx hb dL_law_1534 (by decide) ?_
              have hb1535_147 := hub 0 3
              refine un_ald (L := (u_gb (un L 0 3 (L 0 3 + 1)) j)) hx hb hE hU 0 (by decide) 3 (show 3 < 4 from (by decide)) dL_law_1535 ?_
              refine un_top (y := nI (L 0 3 + 1)) (congrArg nI hg03) ?_
              refine lv_aload hx hb dL_law_1536 (lv_at hl 5 rfl) ?_
              refine lv_iload hx hb dL_law_1538 (lv_at hl 15 rfl) ?_
              have hb1540_152 := hub 3 j
              refine un_ald (L := (u_gb (un L 0 3 (L 0 3 + 1)) j)) hx hb hE hU 3 (by decide) j (show j < 40 from (by omega)) dL_law_1540 ?_
              refine un_top (y := nI (L 3 j)) (congrArg nI hg3) ?_
              refine lv_sipush (v := nI 8192) hx hb dL_law_1541 (by decide) ?_
              refine un_div hx hb dL_law_1544 (by omega) (by decide) (by decide) ?_
              refine un_sub hx hb dL_law_1545 (by omega) ?_
              refine lv_iconst (v := nI 1) hx hb dL_law_1546 (by decide) ?_
              refine un_cle (tgt := 1554) hx hb dL_law_1547 (by decide) (by omega) (by decide) (fun c7 => ?_) (fun c7 => ?_)
              · refine lv_iconst (v := nI 0) hx hb dL_law_1554 (by decide) ?_
                exact jn1555_79 0 (by omega) _ _ hW hU hS
              · refine lv_iconst (v := nI 1) hx hb dL_law_1550 (by decide) ?_
                refine lv_goto (tgt := 1555) hx hb dL_law_1551 (by decide) ?_
                exact jn1555_79 1 (by omega) _ _ hW hU hS
      have hU : u_W G ca ua (u_gb (un L 0 3 (L 0 3 + 1)) 0) H := by rw [u_gb_0]; exact hU
      exact loop1514 (nc + 1) 0 _ _ _ (by omega) (by omega) hW hU hS (lv_sub hl [2, 3, 4, 5, 6, 7, 8, 9, 10, 11, 12, 13, 14, 16, 1, 0] rfl)
    · have h35 : L 0 3 = 35 := by omega
      refine lv_bipush (v := -13) hx hb dL_law_1484 (by decide) ?_
      refine lv_goto (tgt := 1494) hx hb dL_law_1486 (by decide) ?_
      refine lv_istore (lv' := [(21, .int (-13)), (0, .ref b), (1, .ref (ad 0 0)), (2, .ref (ua 0)), (3, .ref (ua 1)), (4, .ref (ua 2)), (5, .ref (ua 3)), (6, .ref (ua 4)), (7, .ref (ua 5)), (8, .ref (ua 6)), (9, .ref (ua 7)), (10, .ref (ua 8)), (11, .int (nI 1)), (12, .int (nI t)), (14, .int (nI kd)), (15, .int (nI y)), (16, .int (nI ho)), (17, .int (nI hm)), (18, .int (nI pr)), (19, .int (nI fi)), (20, .int (nI ci))]) hx hb dL_law_1494 hl (by decide) rfl (fun ls hl => ?_)
      refine lv_aload_n hx hb dL_law_1496 rfl (lv_at hl 3 rfl) ?_
      refine lv_iconst (v := nI 3) hx hb dL_law_1497 (by decide) ?_
      refine lv_iload hx hb dL_law_1498 (lv_at hl 0 rfl) ?_
      refine lv_if_ge (tgt := 1508) hx hb dL_law_1500 (by decide) (fun c8 => absurd c8 (show ¬ (0 : Int32) ≤ -13 by decide)) (fun c8 => ?_)
      refine lv_bipush (v := nI 35) hx hb dL_law_1503 (by decide) ?_
      refine lv_goto (tgt := 1510) hx hb dL_law_1505 (by decide) ?_
      refine un_ast (L := L) (x := 35) hx hb hE hU hUD hS 0 (by decide) 3 (show 3 < 4 from (by decide)) dL_law_1510 (fun H locs hU hz9 ho9 hS => ?_)
      have hW := hW.keptU hD (k := 0) (by decide) ho9
      refine lv_iconst (v := nI 0) hx hb dL_law_1511 (by decide) ?_
      refine lv_istore (lv' := [(22, .int (nI 0)), (21, .int (-13)), (0, .ref b), (1, .ref (ad 0 0)), (2, .ref (ua 0)), (3, .ref (ua 1)), (4, .ref (ua 2)), (5, .ref (ua 3)), (6, .ref (ua 4)), (7, .ref (ua 5)), (8, .ref (ua 6)), (9, .ref (ua 7)), (10, .ref (ua 8)), (11, .int (nI 1)), (12, .int (nI t)), (14, .int (nI kd)), (15, .int (nI y)), (16, .int (nI ho)), (17, .int (nI hm)), (18, .int (nI pr)), (19, .int (nI fi)), (20, .int (nI ci))]) hx hb dL_law_1512 hl (by decide) rfl (fun ls hl => ?_)
      have loop1514 : ∀ (n : Nat) (j : Nat) (H : Heap) (locs : List Loc) (ls : Array Slot), nc + 1 ≤ j + n → j ≤ nc → rh_W G ca ad nf nc r v H → u_W G ca ua (u_gb L j) H → va_S A s.heap H locs → lv_has ls 24 [(0, .ref b), (1, .ref (ad 0 0)), (2, .ref (ua 0)), (3, .ref (ua 1)), (4, .ref (ua 2)), (5, .ref (ua 3)), (6, .ref (ua 4)), (7, .ref (ua 5)), (8, .ref (ua 6)), (9, .ref (ua 7)), (10, .ref (ua 8)), (11, .int (nI 1)), (12, .int (nI t)), (15, .int (nI y)), (21, .int (-13)), (22, .int (nI j))] → W p l e room_1 s m #[Value.ref b] below meth c H locs cells slots (Q) (F0 m 1514 ls []) := by
        intro n
        induction n with
        | zero => intro j H locs ls hn hj hW hU hS hl; exfalso; omega
        | succ n ih1514 =>
          intro j H locs ls hn hj hW hU hS hl
          have hubL := hub
          have hub : ub (u_gb L j) := ub_gb hub j
          have hg3 : (u_gb L j) 3 j = L 3 j := (u_gb_at L j).2
          have hg01 : (u_gb L j) 0 1 = nc := ((u_gb_at L j).1 0 1 (by decide)).trans hn01
          have hg03 : (u_gb L j) 0 3 = (L 0 3) := (u_gb_at L j).1 0 3 (by decide)
          have hbL3 := hubL 3 j
          refine lv_iload hx hb dL_law_1514 (lv_at hl 15 rfl) ?_
          refine lv_aload_n hx hb dL_law_1516 rfl (lv_at hl 2 rfl) ?_
          refine lv_iconst (v := nI 1) hx hb dL_law_1517 (by decide) ?_
          have hb1518_196 := hub 0 1
          refine un_ald (L := (u_gb L j)) hx hb hE hU 0 (by decide) 1 (show 1 < 4 from (by decide)) dL_law_1518 ?_
          refine un_top (y := nI nc) (congrArg nI hg01) ?_
          refine un_cge (tgt := 1604) hx hb dL_law_1519 (by decide) (by omega) (by omega) (fun c9 => ?_) (fun c9 => ?_)
          · have hjf : j = nc := by omega
            refine lv_aload_n hx hb dL_law_1604 rfl (lv_at hl 1 rfl) ?_
            refine lv_iconst (v := nI 3) hx hb dL_law_1605 (by decide) ?_
            refine lv_iconst (v := nI 0) hx hb dL_law_1606 (by decide) ?_
            refine lv_iconst (v := nI 0) hx hb dL_law_1607 (by decide) ?_
            refine lv_iconst (v := nI 0) hx hb dL_law_1608 (by decide) ?_
            have hA19 : ∀ q, lH A ua q → A q := fun q h => h.1
            have hB19 := lH_up hA hS.1 hU
            refine rh_call2 (vx_runSX (As := [.ref (ad 0 0), .int (nI 3), .int (nI 0), .int (nI 0), .int (nI 0)]) (rest := []) ⟨hx, hb, hml, hown, hts⟩ (hl_does3 l hlf hD hinv.1 ) (vx_cwSW 5 hts gL_law_L_does rfl rfl rfl (by decide +kernel) ⟨by decide, by decide⟩) (rh_prel hE hnc9 hS hA19 hB19 hW) rfl rfl hl.1 rfl (lv_room (Nat.le_of_ble_eq_true rfl)) dL_law_1609 ⟨show cells + 5 ≤ 665269 by omega, show slots + 40 ≤ 7105890 by omega⟩) hS hA19 (fun _ _ _ _ _ hX9 _ _ _ _ _ _ => hX9.elim) (fun o H locs hN9 hz9 hk9 hS => ?_)
            have hU := hU.kept (fun k hk => hk9 _ (hU.lt hk) (fun z => z.2 k hk rfl))
            rcases hN9 with ⟨hz, rfl, hW⟩ | ⟨hz, rfl, hW⟩
            · exact absurd hz (by rw [hnow.1, h35]; decide)
            · refine W.eq (g2 := F0 m 1612 ls [.int (-13)]) rfl ?_
              refine lv_iload hx hb dL_law_1612 (lv_at hl 14 rfl) ?_
              refine lv_icmp_ne (tgt := 1621) hx hb dL_law_1614 (by decide) (fun c10 => absurd rfl c10) (fun c10 => ?_)
              refine lv_iconst (v := nI 1) hx hb dL_law_1617 (by decide) ?_
              refine lv_goto (tgt := 1622) hx hb dL_law_1618 (by decide) ?_
              refine lv_istore (lv' := [(11, .int (nI 1)), (0, .ref b), (1, .ref (ad 0 0)), (2, .ref (ua 0)), (3, .ref (ua 1)), (4, .ref (ua 2)), (5, .ref (ua 3)), (6, .ref (ua 4)), (7, .ref (ua 5)), (8, .ref (ua 6)), (9, .ref (ua 7)), (10, .ref (ua 8)), (12, .int (nI t)), (15, .int (nI y)), (21, .int (-13)), (22, .int (nI j))]) hx hb dL_law_1622 hl (by decide) rfl (fun ls hl => ?_)
              rw [hjf, u_gb_same (fun c hc hs => (o_late hinv hlr c hc hs).1)] at hU
              exact hK ad nf nc r v w L H _ _ ⟨rfl, hW, hU, hinv, hlr, h7, hD⟩ hS (lv_sub hl [1, 2, 3, 4, 5, 6, 7, 8, 9, 10, 11, 0, 12, 13] rfl)
          · have hjl : j < nc := by omega
            have jn1555_221 : ∀ (ov : Nat), ((L 3 j / 16 % 8 = 2 ∧ 1 < (L 0 3) - L 3 j / 8192) ∧ ov = 1) ∨ (¬ (L 3 j / 16 % 8 = 2 ∧ 1 < (L 0 3) - L 3 j / 8192) ∧ ov = 0) → ∀ (H : Heap) (locs : List Loc), rh_W G ca ad nf nc r v H → u_W G ca ua (u_gb L j) H → va_S A s.heap H locs → W p l e room_1 s m #[Value.ref b] below meth c H locs cells slots (Q) (F0 m 1555 ls [.int (nI ov)]) := by
              intro ov hov H locs hW hU hS
              refine lv_istore (lv' := [(23, .int (nI ov)), (0, .ref b), (1, .ref (ad 0 0)), (2, .ref (ua 0)), (3, .ref (ua 1)), (4, .ref (ua 2)), (5, .ref (ua 3)), (6, .ref (ua 4)), (7, .ref (ua 5)), (8, .ref (ua 6)), (9, .ref (ua 7)), (10, .ref (ua 8)), (11, .int (nI 1)), (12, .int (nI t)), (15, .int (nI y)), (21, .int (-13)), (22, .int (nI j))]) hx hb dL_law_1555 hl (by decide) rfl (fun ls hl => ?_)
              refine lv_aload hx hb dL_law_1557 (lv_at hl 6 rfl) ?_
              refine lv_iload hx hb dL_law_1559 (lv_at hl 16 rfl) ?_
              refine lv_iload hx hb dL_law_1561 (lv_at hl 0 rfl) ?_
              refine un_ieq (tgt := 1592) hx hb dL_law_1563 (by decide) (by omega) (fun c11 => ?_) (fun c11 => ?_)
              · refine lv_aload hx hb dL_law_1592 (lv_at hl 6 rfl) ?_
                refine lv_iload hx hb dL_law_1594 (lv_at hl 16 rfl) ?_
                have hb1596_230 := hub 3 j
                refine un_ald (L := (u_gb L j)) hx hb hE hU 3 (by decide) j (show j < 40 from (by omega)) dL_law_1596 ?_
                refine un_top (y := nI (L 3 j)) (congrArg nI hg3) ?_
                refine un_ast (L := (u_gb L j)) (x := (L 3 j)) hx hb hE hU hUD hS 3 (by decide) j (show j < 40 from (by omega)) dL_law_1597 (fun H locs hU hz9 ho9 hS => ?_)
                have hW := hW.keptU hD (k := 3) (by decide) ho9
                refine lv_iinc (v := nI (j + 1)) (lv' := [(22, .int (nI (j + 1))), (23, .int (nI ov)), (0, .ref b), (1, .ref (ad 0 0)), (2, .ref (ua 0)), (3, .ref (ua 1)), (4, .ref (ua 2)), (5, .ref (ua 3)), (6, .ref (ua 4)), (7, .ref (ua 5)), (8, .ref (ua 6)), (9, .ref (ua 7)), (10, .ref (ua 8)), (11, .int (nI 1)), (12, .int (nI t)), (15, .int (nI y)), (21, .int (-13))]) hx hb dL_law_1598 hl (k := 16) rfl (nI_add j 1) (by decide) rfl (fun ls hl => ?_)
                refine lv_goto (tgt := 1514) hx hb dL_law_1601 (by decide) ?_
                have e9 : un (u_gb L j) 3 j (L 3 j) = u_gb L (j + 1) := (congrArg (un (u_gb L j) 3 j) (Eq.symm (if_neg (show ¬ (L 3 j / 16 % 8 = 2 ∧ 1 < L 0 3 - L 3 j / 8192) from (show ¬ (L 3 j / 16 % 8 = 2 ∧ 1 < (L 0 3) - L 3 j / 8192) by omega))))).trans (u_gb_s L j)
                rw [e9] at hU
                exact ih1514 (j + 1) _ _ _ (by omega) (by omega) hW hU hS (lv_sub hl [2, 3, 4, 5, 6, 7, 8, 9, 10, 11, 12, 13, 14, 15, 16, 0] rfl)
              · refine lv_aload hx hb dL_law_1566 (lv_at hl 6 rfl) ?_
                refine lv_iload hx hb dL_law_1568 (lv_at hl 16 rfl) ?_
                have hb1570_242 := hub 3 j
                refine un_ald (L := (u_gb L j)) hx hb hE hU 3 (by decide) j (show j < 40 from (by omega)) dL_law_1570 ?_
                refine un_top (y := nI (L 3 j)) (congrArg nI hg3) ?_
                refine lv_bipush (v := nI 16) hx hb dL_law_1571 (by decide) ?_
                refine un_rem hx hb dL_law_1573 (by omega) (by decide) (by decide) ?_
                refine lv_bipush (v := nI 64) hx hb dL_law_1574 (by decide) ?_
                refine un_add hx hb dL_law_1576 ?_
                refine lv_sipush (v := nI 128) hx hb dL_law_1577 (by decide) ?_
                refine lv_aload hx hb dL_law_1580 (lv_at hl 6 rfl) ?_
                refine lv_iload hx hb dL_law_1582 (lv_at hl 16 rfl) ?_
                have hAn : ∀ q : Nat, H.size ≤ q → A q := fun q h => hA q (Nat.le_trans hS.1 h)
                refine rh_call2 (vx_runS (As := [.ref (ua 3), .int (nI j)]) (rest := [.int (nI 128), .int (nI (((L 3 j) % 16) + 64)), .int (nI j), .ref (ua 3)]) ⟨hx, hb, hml, hown, hts⟩ (ct_L_month l j (by omega) hub) (va_cwS 2 hts gL_law_L_month rfl rfl rfl (by decide +kernel) ⟨by decide, by decide⟩) (rh_pre2 hE hS hAn (fun q h => h) hU) rfl rfl hl.1 rfl (lv_room (Nat.le_of_ble_eq_true rfl)) dL_law_1584 ⟨show cells + 0 ≤ 665269 by omega, show slots + 0 ≤ 7105890 by omega⟩) hS hAn (fun _ _ _ _ _ hX9 _ _ _ _ _ _ => hX9.elim) (fun o H locs hN9 hz9 hk9 hS => ?_)
                have hN9 := hN9
                subst hN9
                have hk9 := fun q hq => hk9 q hq (Nat.not_le.mpr hq)
                have hW := hW.grow hk9
                have hU := hU.grow hk9
                refine W.eq (g2 := F0 m 1587 ls [.int (nI (u_mo (u_gb L j) j)), .int (nI 128), .int (nI (((L 3 j) % 16) + 64)), .int (nI j), .ref (ua 3)]) rfl ?_
                refine un_top (y := nI (L 3 j / 128 % 64)) (congrArg nI (by unfold u_mo; rw [hg3])) ?_
                refine un_mul hx hb dL_law_1587 ?_
                refine un_add hx hb dL_law_1588 ?_
                refine lv_goto (tgt := 1597) hx hb dL_law_1589 (by decide) ?_
                refine un_ast (L := (u_gb L j)) (x := ((((L 3 j) % 16) + 64) + (128 * (L 3 j / 128 % 64)))) hx hb hE hU hUD hS 3 (by decide) j (show j < 40 from (by omega)) dL_law_1597 (fun H locs hU hz9 ho9 hS => ?_)
                have hW := hW.keptU hD (k := 3) (by decide) ho9
                refine lv_iinc (v := nI (j + 1)) (lv' := [(22, .int (nI (j + 1))), (23, .int (nI ov)), (0, .ref b), (1, .ref (ad 0 0)), (2, .ref (ua 0)), (3, .ref (ua 1)), (4, .ref (ua 2)), (5, .ref (ua 3)), (6, .ref (ua 4)), (7, .ref (ua 5)), (8, .ref (ua 6)), (9, .ref (ua 7)), (10, .ref (ua 8)), (11, .int (nI 1)), (12, .int (nI t)), (15, .int (nI y)), (21, .int (-13))]) hx hb dL_law_1598 hl (k := 16) rfl (nI_add j 1) (by decide) rfl (fun ls hl => ?_)
                refine lv_goto (tgt := 1514) hx hb dL_law_1601 (by decide) ?_
                have e9 : un (u_gb L j) 3 j ((((L 3 j) % 16) + 64) + (128 * (L 3 j / 128 % 64))) = u_gb L (j + 1) := (congrArg (un (u_gb L j) 3 j) (Eq.symm (if_pos (show L 3 j / 16 % 8 = 2 ∧ 1 < L 0 3 - L 3 j / 8192 from (show L 3 j / 16 % 8 = 2 ∧ 1 < (L 0 3) - L 3 j / 8192 by omega))))).trans (u_gb_s L j)
                rw [e9] at hU
                exact ih1514 (j + 1) _ _ _ (by omega) (by omega) hW hU hS (lv_sub hl [2, 3, 4, 5, 6, 7, 8, 9, 10, 11, 12, 13, 14, 15, 16, 0] rfl)
            refine lv_aload hx hb dL_law_1522 (lv_at hl 5 rfl) ?_
            refine lv_iload hx hb dL_law_1524 (lv_at hl 15 rfl) ?_
            have hAn : ∀ q : Nat, H.size ≤ q → A q := fun q h => hA q (Nat.le_trans hS.1 h)
            refine rh_call2 (vx_runS (As := [.ref (ua 3), .int (nI j)]) (rest := []) ⟨hx, hb, hml, hown, hts⟩ (ct_L_state l j (by omega) hub) (va_cwS 2 hts gL_law_L_state rfl rfl rfl (by decide +kernel) ⟨by decide, by decide⟩) (rh_pre2 hE hS hAn (fun q h => h) hU) rfl rfl hl.1 rfl (lv_room (Nat.le_of_ble_eq_true rfl)) dL_law_1526 ⟨show cells + 0 ≤ 665269 by omega, show slots + 0 ≤ 7105890 by omega⟩) hS hAn (fun _ _ _ _ _ hX9 _ _ _ _ _ _ => hX9.elim) (fun o H locs hN9 hz9 hk9 hS => ?_)
            have hN9 := hN9
            subst hN9
            have hk9 := fun q hq => hk9 q hq (Nat.not_le.mpr hq)
            have hW := hW.grow hk9
            have hU := hU.grow hk9
            refine W.eq (g2 := F0 m 1529 ls [.int (nI (u_st (u_gb L j) j))]) rfl ?_
            refine un_top (y := nI (L 3 j / 16 % 8)) (congrArg nI (by unfold u_st; rw [hg3])) ?_
            refine lv_iconst (v := nI 2) hx hb dL_law_1529 (by decide) ?_
            refine un_cne (tgt := 1554) hx hb dL_law_1530 (by decide) (by omega) (by decide) (fun c12 => ?_) (fun c12 => ?_)
            · refine lv_iconst (v := nI 0) hx hb dL_law_1554 (by decide) ?_
              exact jn1555_221 0 (by omega) _ _ hW hU hS
            · have hlt9 := (o_late hinv hlr j hjl (by omega)).2
              refine lv_aload_n hx hb dL_law_1533 rfl (lv_at hl 2 rfl) ?_
              refine lv_iconst (v := nI 3) hx hb dL_law_1534 (by decide) ?_
              have hb1535_289 := hub 0 3
              refine un_ald (L := (u_gb L j)) hx hb hE hU 0 (by decide) 3 (show 3 < 4 from (by decide)) dL_law_1535 ?_
              refine un_top (y := nI (L 0 3)) (congrArg nI hg03) ?_
              refine lv_aload hx hb dL_law_1536 (lv_at hl 5 rfl) ?_
              refine lv_iload hx hb dL_law_1538 (lv_at hl 15 rfl) ?_
              have hb1540_294 := hub 3 j
              refine un_ald (L := (u_gb L j)) hx hb hE hU 3 (by decide) j (show j < 40 from (by omega)) dL_law_1540 ?_
              refine un_top (y := nI (L 3 j)) (congrArg nI hg3) ?_
              refine lv_sipush (v := nI 8192) hx hb dL_law_1541 (by decide) ?_
              refine un_div hx hb dL_law_1544 (by omega) (by decide) (by decide) ?_
              refine un_sub hx hb dL_law_1545 (by omega) ?_
              refine lv_iconst (v := nI 1) hx hb dL_law_1546 (by decide) ?_
              refine un_cle (tgt := 1554) hx hb dL_law_1547 (by decide) (by omega) (by decide) (fun c13 => ?_) (fun c13 => ?_)
              · refine lv_iconst (v := nI 0) hx hb dL_law_1554 (by decide) ?_
                exact jn1555_221 0 (by omega) _ _ hW hU hS
              · refine lv_iconst (v := nI 1) hx hb dL_law_1550 (by decide) ?_
                refine lv_goto (tgt := 1555) hx hb dL_law_1551 (by decide) ?_
                exact jn1555_221 1 (by omega) _ _ hW hU hS
      have hU : u_W G ca ua (u_gb L 0) H := by
        rw [show (35 : Nat) = L 0 3 from h35.symm, un_id] at hU
        rw [u_gb_0]; exact hU
      exact loop1514 (nc + 1) 0 _ _ _ (by omega) (by omega) hW hU hS (lv_sub hl [2, 3, 4, 5, 6, 7, 8, 9, 10, 11, 12, 13, 14, 16, 1, 0] rfl)
  refine lv_aload_n hx hb dL_law_1460 rfl (lv_at hl 2 rfl) ?_
  refine lv_iconst (v := nI 3) hx hb dL_law_1461 (by decide) ?_
  have hb1462_313 := hub 0 3
  refine un_ald (L := L) hx hb hE hU 0 (by decide) 3 (show 3 < 4 from (by decide)) dL_law_1462 ?_
  refine lv_bipush (v := nI 35) hx hb dL_law_1463 (by decide) ?_
  refine un_clt (tgt := 1476) hx hb dL_law_1465 (by decide) (by omega) (by decide) (fun c14 => ?_) (fun c14 => ?_)
  · exact jn1476_14  
  · refine lv_iload hx hb dL_law_1468 (lv_at hl 14 rfl) ?_
    refine lv_bipush (v := nI 9) hx hb dL_law_1470 (by decide) ?_
    refine un_rem hx hb dL_law_1472 (by omega) (by decide) (by decide) ?_
    refine un_ine (tgt := 1624) hx hb dL_law_1473 (by decide) (by omega) (fun c15 => ?_) (fun c15 => ?_)
    · refine W.widen (k := cells + 5) (n := slots + 40) (by omega) (by omega) ?_
      exact hK ad nf nc r v w L H _ _ ⟨rfl, hW, hU, hinv, hlr, h7, hD⟩ hS (lv_sub hl [0, 1, 2, 3, 4, 5, 6, 7, 8, 9, 10, 11, 12, 14] rfl)
    · exact jn1476_14  
