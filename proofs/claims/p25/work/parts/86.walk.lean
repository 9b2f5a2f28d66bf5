/-! ===== the law's walk ===== -/
set_option maxHeartbeats 16000000 in
set_option maxRecDepth 100000 in
/-- the law's loop -/
theorem l_loop {p : Program} {e : Env} {s : State} {m : MethodId} {below : List Frame} {meth : Method} {c : Code} {l : Launch} {G : va_G} {ca : Nat → ClassId} {ua : Nat → Nat} {b Ls : Nat} {xs : Nat → Int32} (C : lwC p l s m c G ca (fun q => s.heap.size ≤ q) ua b Ls xs) (hr : meth.sig.returnType = ret) (hlocks : meth.locks = false) : ∀ (n t h1 : Nat) (ad : Nat → Nat → Nat) (nf nc : Nat) (r : rh_R) (v : rh_V) (w : rh_Wm) (L : u_L) (H : Heap) (locs : List Loc) (ls : Array Slot), 121 ≤ t + n → t ≤ 120 → lwS G ca (fun q => s.heap.size ≤ q) ua h1 ad nf nc r v w L H → va_S (fun q => s.heap.size ≤ q) s.heap H locs → lv_has ls 24 [(0, .ref b), (1, .ref h1), (2, .ref (ua 0)), (3, .ref (ua 1)), (4, .ref (ua 2)), (5, .ref (ua 3)), (6, .ref (ua 4)), (7, .ref (ua 5)), (8, .ref (ua 6)), (9, .ref (ua 7)), (10, .ref (ua 8)), (11, .int (nI 1)), (12, .int (nI t))] → W p l e room_1 s m #[Value.ref b] below meth c H locs (1300 + 1105 * t) (9700 + 9040 * t) (lw_Z below #[Value.ref b] s) (F0 m 151 ls []) := by
  obtain ⟨hx, hb, hml, hown, hts, hE, hnc9, hlf, hA, hbA, hbl, hX, hLm, hUD⟩ := id C
  intro n
  induction n with
  | zero => intro t h1 ad nf nc r v w L H locs ls hn ht hLS hS hl; exfalso; omega
  | succ n ih =>
    intro t h1 ad nf nc r v w L H locs ls hn ht hLS hS hl
    have hK : t < 120 → ∀ y : Nat, y < 100000000 → lwK p l e s m below meth c G ca (fun q => s.heap.size ≤ q) ua b h1 t y (1300 + 1105 * t) (9700 + 9040 * t) (lw_Z below #[Value.ref b] s) := by
      intro ht2 y hyb ad nf nc r v w L H locs ls hLS hS hl
      obtain ⟨rfl, hW, hU, hinv, hlr, h7, hD⟩ := hLS
      have hl : lv_has ls 24 [(0, .ref b), (1, .ref (ad 0 0)), (2, .ref (ua 0)), (3, .ref (ua 1)), (4, .ref (ua 2)), (5, .ref (ua 3)), (6, .ref (ua 4)), (7, .ref (ua 5)), (8, .ref (ua 6)), (9, .ref (ua 7)), (10, .ref (ua 8)), (11, .int (nI 1)), (12, .int (nI t)), (15, .int (nI y))] := hl
      refine lv_iload hx hb dL_law_1624 (lv_at hl 11 rfl) ?_
      refine un_ieq (tgt := 1666) hx hb dL_law_1626 (by decide) (by decide) (fun c1 => absurd (show (1 : Nat) = 0 from c1) (by decide)) (fun c1 => ?_)
      refine lv_iload hx hb dL_law_1629 (lv_at hl 12 rfl) ?_
      refine lv_iconst (v := nI 5) hx hb dL_law_1631 (by decide) ?_
      refine un_rem hx hb dL_law_1632 (by omega) (by decide) (by decide) ?_
      refine lv_iconst (v := nI 4) hx hb dL_law_1633 (by decide) ?_
      refine un_clt (tgt := 1662) hx hb dL_law_1634 (by decide) (by omega) (by decide) (fun c2 => ?_) (fun c2 => ?_)
      · refine lv_iconst (v := nI 1) hx hb dL_law_1662 (by decide) ?_
        refine lv_goto (tgt := 1667) hx hb dL_law_1663 (by decide) ?_
        refine lv_istore (lv' := [(11, .int (nI 1)), (0, .ref b), (1, .ref (ad 0 0)), (2, .ref (ua 0)), (3, .ref (ua 1)), (4, .ref (ua 2)), (5, .ref (ua 3)), (6, .ref (ua 4)), (7, .ref (ua 5)), (8, .ref (ua 6)), (9, .ref (ua 7)), (10, .ref (ua 8)), (12, .int (nI t)), (15, .int (nI y))]) hx hb dL_law_1667 hl (by decide) rfl (fun ls hl => ?_)
        refine lv_iinc (v := nI (t + 1)) (lv' := [(12, .int (nI (t + 1))), (11, .int (nI 1)), (0, .ref b), (1, .ref (ad 0 0)), (2, .ref (ua 0)), (3, .ref (ua 1)), (4, .ref (ua 2)), (5, .ref (ua 3)), (6, .ref (ua 4)), (7, .ref (ua 5)), (8, .ref (ua 6)), (9, .ref (ua 7)), (10, .ref (ua 8)), (15, .int (nI y))]) hx hb dL_law_1669 hl (k := 12) rfl (nI_add t 1) (by decide) rfl (fun ls hl => ?_)
        refine lv_goto (tgt := 151) hx hb dL_law_1672 (by decide) ?_
        exact W.widen (by omega) (by omega) (ih (t + 1) (ad 0 0) ad nf nc r v w L H _ _ (by omega) (by omega) ⟨rfl, hW, hU, hinv, hlr, h7, hD⟩ hS (lv_sub hl [2, 3, 4, 5, 6, 7, 8, 9, 10, 11, 12, 1, 0] rfl))
      · refine lv_aload_n hx hb dL_law_1637 rfl (lv_at hl 1 rfl) ?_
        refine lv_aload_n hx hb dL_law_1638 rfl (lv_at hl 2 rfl) ?_
        refine lv_aload_n hx hb dL_law_1639 rfl (lv_at hl 3 rfl) ?_
        refine lv_aload hx hb dL_law_1640 (lv_at hl 4 rfl) ?_
        refine lv_aload hx hb dL_law_1642 (lv_at hl 5 rfl) ?_
        refine lv_aload hx hb dL_law_1644 (lv_at hl 6 rfl) ?_
        refine lv_aload hx hb dL_law_1646 (lv_at hl 7 rfl) ?_
        refine lv_aload hx hb dL_law_1648 (lv_at hl 8 rfl) ?_
        refine lv_aload hx hb dL_law_1650 (lv_at hl 9 rfl) ?_
        refine lv_aload hx hb dL_law_1652 (lv_at hl 10 rfl) ?_
        refine lv_iload hx hb dL_law_1654 (lv_at hl 13 rfl) ?_
        refine rh_call2 (vx_runS (As := [.ref (ad 0 0), .ref (ua 0), .ref (ua 1), .ref (ua 2), .ref (ua 3), .ref (ua 4), .ref (ua 5), .ref (ua 6), .ref (ua 7), .ref (ua 8), .int (nI y)]) (rest := []) ⟨hx, hb, hml, hown, hts⟩ (ct_L_isHouse l hlf y (by omega) hD (fun k hk z => z.2 k hk rfl) hinv hlr h7) (va_cwS 11 hts gL_law_L_isHouse rfl rfl rfl (by decide +kernel) ⟨by decide, by decide⟩) (rh_prel hE hnc9 hS (fun q h => h.1) (lH_up hA hS.1 hU) ⟨hW, hU⟩) rfl rfl hl.1 rfl (lv_room (Nat.le_of_ble_eq_true rfl)) dL_law_1656 ⟨show ((1300 + 1105 * t) + 5) + 1100 ≤ 665269 by omega, show ((9700 + 9040 * t) + 40) + 9000 ≤ 7105890 by omega⟩) hS (fun q h => h.1) (fun _ _ _ _ _ hX9 _ _ _ _ _ _ => hX9.elim) (fun o H locs hN9 hz9 hk9 hS => ?_)
        obtain ⟨rfl, hW⟩ := hN9
        have hU := hU.kept (fun k hk => hk9 _ (hU.lt hk) (fun z => z.2 k hk rfl))
        refine W.eq (g2 := F0 m 1659 ls [.int 1]) rfl ?_
        refine un_top (y := nI 1) rfl ?_
        refine un_ieq (tgt := 1666) hx hb dL_law_1659 (by decide) (by decide) (fun c3 => absurd (show (1 : Nat) = 0 from c3) (by decide)) (fun c3 => ?_)
        refine lv_iconst (v := nI 1) hx hb dL_law_1662 (by decide) ?_
        refine lv_goto (tgt := 1667) hx hb dL_law_1663 (by decide) ?_
        refine lv_istore (lv' := [(11, .int (nI 1)), (0, .ref b), (1, .ref (ad 0 0)), (2, .ref (ua 0)), (3, .ref (ua 1)), (4, .ref (ua 2)), (5, .ref (ua 3)), (6, .ref (ua 4)), (7, .ref (ua 5)), (8, .ref (ua 6)), (9, .ref (ua 7)), (10, .ref (ua 8)), (12, .int (nI t)), (15, .int (nI y))]) hx hb dL_law_1667 hl (by decide) rfl (fun ls hl => ?_)
        refine lv_iinc (v := nI (t + 1)) (lv' := [(12, .int (nI (t + 1))), (11, .int (nI 1)), (0, .ref b), (1, .ref (ad 0 0)), (2, .ref (ua 0)), (3, .ref (ua 1)), (4, .ref (ua 2)), (5, .ref (ua 3)), (6, .ref (ua 4)), (7, .ref (ua 5)), (8, .ref (ua 6)), (9, .ref (ua 7)), (10, .ref (ua 8)), (15, .int (nI y))]) hx hb dL_law_1669 hl (k := 12) rfl (nI_add t 1) (by decide) rfl (fun ls hl => ?_)
        refine lv_goto (tgt := 151) hx hb dL_law_1672 (by decide) ?_
        exact W.widen (by omega) (by omega) (ih (t + 1) (ad 0 0) ad nf nc r v w L H _ _ (by omega) (by omega) ⟨rfl, hW, hU, hinv, hlr, h7, hD⟩ hS (lv_sub hl [2, 3, 4, 5, 6, 7, 8, 9, 10, 11, 12, 1, 0] rfl))
    have hLS9 := hLS
    obtain ⟨rfl, hW, hU, hinv, hlr, h7, hD⟩ := hLS
    have hl : lv_has ls 24 [(0, .ref b), (1, .ref (ad 0 0)), (2, .ref (ua 0)), (3, .ref (ua 1)), (4, .ref (ua 2)), (5, .ref (ua 3)), (6, .ref (ua 4)), (7, .ref (ua 5)), (8, .ref (ua 6)), (9, .ref (ua 7)), (10, .ref (ua 8)), (11, .int (nI 1)), (12, .int (nI t))] := hl
    refine lv_iload hx hb dL_law_151 (lv_at hl 12 rfl) ?_
    refine lv_bipush (v := nI 120) hx hb dL_law_153 (by decide) ?_
    refine un_cge (tgt := 1675) hx hb dL_law_155 (by decide) (by omega) (by decide) (fun c1 => ?_) (fun c1 => ?_)
    · have htf : t = 120 := by omega
      refine lv_iload hx hb dL_law_1675 (lv_at hl 11 rfl) ?_
      refine un_ieq (tgt := 1709) hx hb dL_law_1677 (by decide) (by decide) (fun c2 => absurd (show (1 : Nat) = 0 from c2) (by decide)) (fun c2 => ?_)
      refine lv_aload_n hx hb dL_law_1680 rfl (lv_at hl 1 rfl) ?_
      refine lv_aload_n hx hb dL_law_1681 rfl (lv_at hl 2 rfl) ?_
      refine lv_aload_n hx hb dL_law_1682 rfl (lv_at hl 3 rfl) ?_
      refine lv_aload hx hb dL_law_1683 (lv_at hl 4 rfl) ?_
      refine lv_aload hx hb dL_law_1685 (lv_at hl 5 rfl) ?_
      refine lv_aload hx hb dL_law_1687 (lv_at hl 6 rfl) ?_
      refine lv_aload hx hb dL_law_1689 (lv_at hl 7 rfl) ?_
      refine lv_aload hx hb dL_law_1691 (lv_at hl 8 rfl) ?_
      refine lv_aload hx hb dL_law_1693 (lv_at hl 9 rfl) ?_
      refine lv_aload hx hb dL_law_1695 (lv_at hl 10 rfl) ?_
      refine lv_bipush (v := nI 11) hx hb dL_law_1697 (by decide) ?_
      refine rh_call2 (vx_runS (As := [.ref (ad 0 0), .ref (ua 0), .ref (ua 1), .ref (ua 2), .ref (ua 3), .ref (ua 4), .ref (ua 5), .ref (ua 6), .ref (ua 7), .ref (ua 8), .int (nI 11)]) (rest := []) ⟨hx, hb, hml, hown, hts⟩ (ct_L_isHouse l hlf 11 (by decide) hD (fun k hk z => z.2 k hk rfl) hinv hlr h7) (va_cwS 11 hts gL_law_L_isHouse rfl rfl rfl (by decide +kernel) ⟨by decide, by decide⟩) (rh_prel hE hnc9 hS (fun q h => h.1) (lH_up hA hS.1 hU) ⟨hW, hU⟩) rfl rfl hl.1 rfl (lv_room (Nat.le_of_ble_eq_true rfl)) dL_law_1699 ⟨show (1300 + 1105 * t) + 1100 ≤ 665269 by omega, show (9700 + 9040 * t) + 9000 ≤ 7105890 by omega⟩) hS (fun q h => h.1) (fun _ _ _ _ _ hX9 _ _ _ _ _ _ => hX9.elim) (fun o H locs hN9 hz9 hk9 hS => ?_)
      obtain ⟨rfl, hW⟩ := hN9
      have hU := hU.kept (fun k hk => hk9 _ (hU.lt hk) (fun z => z.2 k hk rfl))
      refine W.eq (g2 := F0 m 1702 ls [.int 1]) rfl ?_
      refine un_top (y := nI 1) rfl ?_
      refine un_ieq (tgt := 1709) hx hb dL_law_1702 (by decide) (by decide) (fun c3 => absurd (show (1 : Nat) = 0 from c3) (by decide)) (fun c3 => ?_)
      refine lv_iconst (v := nI 1) hx hb dL_law_1705 (by decide) ?_
      refine lv_goto (tgt := 1710) hx hb dL_law_1706 (by decide) ?_
      refine va_forget (fun q hq => hS.2.2 q hq) ?_
      refine W.widen (k := 665269) (n := 7105890) (by omega) (by omega) ?_
      exact lw_ret hx hb hr hlocks dL_law_1710
    · have ht2 : t < 120 := by omega
      refine lv_iload hx hb dL_law_158 (lv_at hl 11 rfl) ?_
      refine un_ieq (tgt := 1675) hx hb dL_law_160 (by decide) (by decide) (fun c4 => absurd (show (1 : Nat) = 0 from c4) (by decide)) (fun c4 => ?_)
      exact l_turn C ⟨rfl, hW, hU, hinv, hlr, h7, hD⟩ hS (lv_sub hl [0, 1, 2, 3, 4, 5, 6, 7, 8, 9, 10, 11, 12] rfl) ht2 (by omega) (by omega) (hK ht2)
set_option maxHeartbeats 16000000 in
set_option maxRecDepth 100000 in
/-- from where the rows are made -/
theorem l_begin {p : Program} {e : Env} {s : State} {m : MethodId} {below : List Frame} {meth : Method} {c : Code} {l : Launch} {G : va_G} {ca : Nat → ClassId} {ua : Nat → Nat} {b Ls : Nat} {xs : Nat → Int32} (C : lwC p l s m c G ca (fun q => s.heap.size ≤ q) ua b Ls xs) (hr : meth.sig.returnType = ret) (hlocks : meth.locks = false) {h1 : Nat} {ad : Nat → Nat → Nat} {r : rh_R} {H : Heap} {locs : List Loc} {ls : Array Slot} (h00 : ad 0 0 = h1) (hW : rh_W G ca ad 0 0 r v_init H) (hU : u_W G ca ua (u_Li 0) H) (hD : rh_D (lH (fun q => s.heap.size ≤ q) ua) ad (fun k i => i < rh_n 0 0 k)) (hS : va_S (fun q => s.heap.size ≤ q) s.heap H locs) (hl : lv_has ls 24 [(0, .ref b), (1, .ref h1), (2, .ref (ua 0)), (3, .ref (ua 1)), (4, .ref (ua 2)), (5, .ref (ua 3)), (6, .ref (ua 4)), (7, .ref (ua 5)), (8, .ref (ua 6)), (9, .ref (ua 7)), (10, .ref (ua 8))]) : W p l e room_1 s m #[Value.ref b] below meth c H locs 100 700 (lw_Z below #[Value.ref b] s) (F0 m 59 ls []) := by
  obtain ⟨hx, hb, hml, hown, hts, hE, hnc9, hlf, hA, hbA, hbl, hX, hLm, hUD⟩ := id C
  subst h00
  have hl : lv_has ls 24 [(0, .ref b), (1, .ref (ad 0 0)), (2, .ref (ua 0)), (3, .ref (ua 1)), (4, .ref (ua 2)), (5, .ref (ua 3)), (6, .ref (ua 4)), (7, .ref (ua 5)), (8, .ref (ua 6)), (9, .ref (ua 7)), (10, .ref (ua 8))] := hl
  refine lv_iconst (v := nI 0) hx hb dL_law_59 (by decide) ?_
  refine lv_istore (lv' := [(11, .int (nI 0)), (0, .ref b), (1, .ref (ad 0 0)), (2, .ref (ua 0)), (3, .ref (ua 1)), (4, .ref (ua 2)), (5, .ref (ua 3)), (6, .ref (ua 4)), (7, .ref (ua 5)), (8, .ref (ua 6)), (9, .ref (ua 7)), (10, .ref (ua 8))]) hx hb dL_law_60 hl (by decide) rfl (fun ls hl => ?_)
  have loop62 : ∀ (n : Nat) (i : Nat) (H : Heap) (locs : List Loc) (ls : Array Slot), 17 ≤ i + n → i ≤ 16 → rh_W G ca ad 0 0 r v_init H → u_W G ca ua (u_Li i) H → va_S (fun q => s.heap.size ≤ q) s.heap H locs → lv_has ls 24 [(0, .ref b), (1, .ref (ad 0 0)), (2, .ref (ua 0)), (3, .ref (ua 1)), (4, .ref (ua 2)), (5, .ref (ua 3)), (6, .ref (ua 4)), (7, .ref (ua 5)), (8, .ref (ua 6)), (9, .ref (ua 7)), (10, .ref (ua 8)), (11, .int (nI i))] → W p l e room_1 s m #[Value.ref b] below meth c H locs 100 700 (lw_Z below #[Value.ref b] s) (F0 m 62 ls []) := by
    intro n
    induction n with
    | zero => intro i H locs ls hn hi hW hU hS hl; exfalso; omega
    | succ n ih62 =>
      intro i H locs ls hn hi hW hU hS hl
      refine lv_iload hx hb dL_law_62 (lv_at hl 11 rfl) ?_
      refine lv_bipush (v := nI 16) hx hb dL_law_64 (by decide) ?_
      refine un_cge (tgt := 125) hx hb dL_law_66 (by decide) (by omega) (by decide) (fun c1 => ?_) (fun c1 => ?_)
      · have hif : i = 16 := by omega
        have hU : u_W G ca ua u_L0 H := by
          show u_W G ca ua (u_Li 16) H
          rw [← hif]; exact hU
        have hinv := i_init r
        have hlr := (lr_init r).1
        have h7 := (lr_init r).2
        refine lv_aload_n hx hb dL_law_125 rfl (lv_at hl 1 rfl) ?_
        refine lv_aload_n hx hb dL_law_126 rfl (lv_at hl 2 rfl) ?_
        refine lv_aload_n hx hb dL_law_127 rfl (lv_at hl 3 rfl) ?_
        refine lv_aload hx hb dL_law_128 (lv_at hl 4 rfl) ?_
        refine lv_aload hx hb dL_law_130 (lv_at hl 5 rfl) ?_
        refine lv_aload hx hb dL_law_132 (lv_at hl 6 rfl) ?_
        refine lv_aload hx hb dL_law_134 (lv_at hl 7 rfl) ?_
        refine lv_aload hx hb dL_law_136 (lv_at hl 8 rfl) ?_
        refine lv_aload hx hb dL_law_138 (lv_at hl 9 rfl) ?_
        refine lv_aload hx hb dL_law_140 (lv_at hl 10 rfl) ?_
        refine lv_iconst (v := nI 5) hx hb dL_law_142 (by decide) ?_
        refine rh_call2 (vx_runS (As := [.ref (ad 0 0), .ref (ua 0), .ref (ua 1), .ref (ua 2), .ref (ua 3), .ref (ua 4), .ref (ua 5), .ref (ua 6), .ref (ua 7), .ref (ua 8), .int (nI 5)]) (rest := []) ⟨hx, hb, hml, hown, hts⟩ (ct_L_isHouse l hlf 5 (by decide) hD (fun k hk z => z.2 k hk rfl) hinv hlr h7) (va_cwS 11 hts gL_law_L_isHouse rfl rfl rfl (by decide +kernel) ⟨by decide, by decide⟩) (rh_prel hE hnc9 hS (fun q h => h.1) (lH_up hA hS.1 hU) ⟨hW, hU⟩) rfl rfl hl.1 rfl (lv_room (Nat.le_of_ble_eq_true rfl)) dL_law_143 ⟨show 100 + 1100 ≤ 665269 by omega, show 700 + 9000 ≤ 7105890 by omega⟩) hS (fun q h => h.1) (fun _ _ _ _ _ hX9 _ _ _ _ _ _ => hX9.elim) (fun o H locs hN9 hz9 hk9 hS => ?_)
        obtain ⟨rfl, hW⟩ := hN9
        have hU := hU.kept (fun k hk => hk9 _ (hU.lt hk) (fun z => z.2 k hk rfl))
        refine W.eq (g2 := F0 m 146 ls [.int 1]) rfl ?_
        refine un_top (y := nI 1) rfl ?_
        refine lv_istore (lv' := [(11, .int (nI 1)), (0, .ref b), (1, .ref (ad 0 0)), (2, .ref (ua 0)), (3, .ref (ua 1)), (4, .ref (ua 2)), (5, .ref (ua 3)), (6, .ref (ua 4)), (7, .ref (ua 5)), (8, .ref (ua 6)), (9, .ref (ua 7)), (10, .ref (ua 8))]) hx hb dL_law_146 hl (by decide) rfl (fun ls hl => ?_)
        refine lv_iconst (v := nI 0) hx hb dL_law_148 (by decide) ?_
        refine lv_istore (lv' := [(12, .int (nI 0)), (11, .int (nI 1)), (0, .ref b), (1, .ref (ad 0 0)), (2, .ref (ua 0)), (3, .ref (ua 1)), (4, .ref (ua 2)), (5, .ref (ua 3)), (6, .ref (ua 4)), (7, .ref (ua 5)), (8, .ref (ua 6)), (9, .ref (ua 7)), (10, .ref (ua 8))]) hx hb dL_law_149 hl (by decide) rfl (fun ls hl => ?_)
        exact W.widen (by decide) (by decide) (l_loop C hr hlocks 121 0 (ad 0 0) ad 0 0 r v_init (m_w2 16) u_L0 H _ _ (by omega) (by omega) ⟨rfl, hW, hU, hinv, hlr, h7, hD⟩ hS (lv_sub hl [2, 3, 4, 5, 6, 7, 8, 9, 10, 11, 12, 1, 0] rfl))
      · refine lv_aload_n hx hb dL_law_69 rfl (lv_at hl 3 rfl) ?_
        refine lv_iload hx hb dL_law_70 (lv_at hl 11 rfl) ?_
        have jn112_46 : ∀ (av : Nat), av = u_av i → W p l e room_1 s m #[Value.ref b] below meth c H locs 100 700 (lw_Z below #[Value.ref b] s) (F0 m 112 ls [.int (nI av), .int (nI i), .ref (ua 1)]) := by
          intro av hav
          refine un_ast (L := (u_Li i)) (x := av) hx hb hE hU hUD hS 1 (by decide) i (show i < 16 from (by omega)) dL_law_112 (fun H locs hU hz9 ho9 hS => ?_)
          have hW := hW.keptU hD (k := 1) (by decide) ho9
          refine lv_aload hx hb dL_law_113 (lv_at hl 9 rfl) ?_
          refine lv_iload hx hb dL_law_115 (lv_at hl 11 rfl) ?_
          refine lv_iconst (v := nI 1) hx hb dL_law_117 (by decide) ?_
          refine un_ast (L := (un (u_Li i) 1 i av)) (x := 1) hx hb hE hU hUD hS 7 (by decide) i (show i < 16 from (by omega)) dL_law_118 (fun H locs hU hz9 ho9 hS => ?_)
          have hW := hW.keptU hD (k := 7) (by decide) ho9
          refine lv_iinc (v := nI (i + 1)) (lv' := [(11, .int (nI (i + 1))), (0, .ref b), (1, .ref (ad 0 0)), (2, .ref (ua 0)), (3, .ref (ua 1)), (4, .ref (ua 2)), (5, .ref (ua 3)), (6, .ref (ua 4)), (7, .ref (ua 5)), (8, .ref (ua 6)), (9, .ref (ua 7)), (10, .ref (ua 8))]) hx hb dL_law_119 hl (k := 11) rfl (nI_add i 1) (by decide) rfl (fun ls hl => ?_)
          refine lv_goto (tgt := 62) hx hb dL_law_122 (by decide) ?_
          rw [hav, u_Li_s] at hU
          exact ih62 (i + 1) _ _ _ (by omega) (by omega) hW hU hS (lv_sub hl [1, 2, 3, 4, 5, 6, 7, 8, 9, 10, 11, 0] rfl)
        refine lv_iload hx hb dL_law_72 (lv_at hl 11 rfl) ?_
        refine lv_iconst (v := nI 4) hx hb dL_law_74 (by decide) ?_
        refine un_rem hx hb dL_law_75 (by omega) (by decide) (by decide) ?_
        refine un_ine (tgt := 84) hx hb dL_law_76 (by decide) (by omega) (fun c2 => ?_) (fun c2 => ?_)
        · refine lv_iload hx hb dL_law_84 (lv_at hl 11 rfl) ?_
          refine lv_iconst (v := nI 4) hx hb dL_law_86 (by decide) ?_
          refine un_rem hx hb dL_law_87 (by omega) (by decide) (by decide) ?_
          refine lv_iconst (v := nI 1) hx hb dL_law_88 (by decide) ?_
          refine un_cne (tgt := 97) hx hb dL_law_89 (by decide) (by omega) (by decide) (fun c3 => ?_) (fun c3 => ?_)
          · refine lv_iload hx hb dL_law_97 (lv_at hl 11 rfl) ?_
            refine lv_iconst (v := nI 4) hx hb dL_law_99 (by decide) ?_
            refine un_rem hx hb dL_law_100 (by omega) (by decide) (by decide) ?_
            refine lv_iconst (v := nI 2) hx hb dL_law_101 (by decide) ?_
            refine un_cne (tgt := 109) hx hb dL_law_102 (by decide) (by omega) (by decide) (fun c4 => ?_) (fun c4 => ?_)
            · refine lv_sipush (v := nI 1000) hx hb dL_law_109 (by decide) ?_
              exact jn112_46 1000 (by unfold u_av; (repeat' split) <;> omega)
            · refine lv_iconst (v := nI 0) hx hb dL_law_105 (by decide) ?_
              refine lv_goto (tgt := 112) hx hb dL_law_106 (by decide) ?_
              exact jn112_46 0 (by unfold u_av; (repeat' split) <;> omega)
          · refine lv_bipush (v := nI 10) hx hb dL_law_92 (by decide) ?_
            refine lv_goto (tgt := 112) hx hb dL_law_94 (by decide) ?_
            exact jn112_46 10 (by unfold u_av; (repeat' split) <;> omega)
        · refine lv_bipush (v := nI 60) hx hb dL_law_79 (by decide) ?_
          refine lv_goto (tgt := 112) hx hb dL_law_81 (by decide) ?_
          exact jn112_46 60 (by unfold u_av; (repeat' split) <;> omega)
  exact loop62 (17) 0 _ _ _ (by omega) (by omega) hW hU hS (lv_sub hl [1, 2, 3, 4, 5, 6, 7, 8, 9, 10, 11, 0] rfl)
set_option maxHeartbeats 8000000 in
set_option maxRecDepth 100000 in
/-- from the entry, for every script of at most 260 ints, the law comes to its end with true -/
theorem whole_start {p : Program} {e : Env} {s : State} {m : MethodId} {below : List Frame} {meth : Method} {c : Code} (l : Launch) (hflags : l.flags = flags0) {b L : Nat} {xs : Nat → Int32} (hL : L ≤ 260) (C0 : lw_At p s m meth c b L xs) : W p l e room_1 s m #[Value.ref b] below meth c s.heap [] 0 0 (lw_Z below #[Value.ref b] s) (entryFrame m ([Value.ref b] : List Value).toArray 24) := by
  obtain ⟨-, -, hr, -, -, -, -, -, hlocks, -⟩ := id C0
  obtain ⟨G, ca, C9⟩ := l_start l hflags hL C0
  obtain ⟨hx, hb, hml, hown, htsL, hE, hnc9, hlf, hA0, hbA, hbl, hX, hLm, -⟩ := C9 (fun k => s.heap.size + k) ⟨fun k k' _ _ h => by have h : s.heap.size + k = s.heap.size + k' := h; omega, fun k _ => by show s.heap.size ≤ s.heap.size + k; omega⟩
  have hl := lv_entry ([.ref b]) (n := 24) (Nat.le_of_ble_eq_true rfl)
  rw [lg_entry_eq]
  generalize (lg_sl ([.ref b]) ++ List.replicate (24 - (lg_sl ([.ref b])).length) Slot.unset).toArray = ls at hl ⊢
  have hl : lv_has ls 24 [(0, .ref b)] := hl
  have hS : va_S (fun q => s.heap.size ≤ q) s.heap s.heap [] := va_S.rf
  refine rh_new0 (ci := 4) (C := RX4) (T := TX4) (N := 7) hx hb htsL inlX4 tyX4 tyX4_ok hown (htsL (.classLink RL 31 RX4) (by decide +kernel)) (htsL (.instantiable RX4 7) (by decide +kernel)) (htsL (.initialized RX4) (by decide +kernel)) hE hS rfl [.null, .null, .null, .int 0, .null, .int 0, .int 0] (fun j hj => by rcases (show j = 0 ∨ j = 1 ∨ j = 2 ∨ j = 3 ∨ j = 4 ∨ j = 5 ∨ j = 6 by omega) with rfl | rfl | rfl | rfl | rfl | rfl | rfl <;> rfl) (by decide) (by decide) dL_law_0 (fun q1 H1 hq1 hat1 hz1 ho1 hS => ?_)
  have hA1 : ∀ z : Nat, (z = q1 ∨ H1.size ≤ z) → s.heap.size ≤ z := fun z hz9 => hz9.elim (fun e => by omega) (fun e => by omega)
  refine lv_dup hx hb dL_law_3 rfl ?_
  refine rh_callm2 (A1 := fun z => z = q1 ∨ H1.size ≤ z) (va_runI (As := []) (rest := [.ref q1]) ⟨hx, hb, hml, hown, htsL⟩ (ci_X4_init l q1 (Or.inl rfl) (fun _ _ => 0)) (cwI 0 htsL gL_law_X4_init rfl rfl rfl (htsL (.initialized RX4) (by decide +kernel)) (htsL (.methodLink RL 113 yX4_init) (by decide +kernel)) (htsL (.instanceMethod yX4_init) (by decide +kernel)) rfl (by decide +kernel) ⟨by decide, by decide⟩) (rh_pre2 hE hS hA1 (fun z hz9 => Or.inr hz9) hat1) rfl rfl hl.1 rfl (lv_room (Nat.le_of_ble_eq_true rfl)) dL_law_4 ⟨by decide, by decide⟩) hS hA1 (fun o H2 locs hN hz2 ho2 hS => ?_)
  obtain ⟨rfl, ad, had, hW, hD⟩ := hN
  refine W.eq (g2 := F0 m 7 ls [.ref q1]) rfl ?_
  refine lv_astore_n (lv' := [(1, .ref q1), (0, .ref b)]) hx hb dL_law_7 rfl hl (by decide) rfl (fun ls hl => ?_)
  have hlt2 : ∀ k i : Nat, i < rh_n 0 0 k → ad k i < H2.size := fun k i hi => (hW.at k i hi).lt
  have hs2 : s.heap.size ≤ H2.size := hS.1
  refine lv_iconst (v := nI 4) hx hb dL_law_8 (by decide) ?_
  refine rh_newa0 hx hb (htsL (.arrayClass .int) (by decide +kernel)) hE hS 4 (by decide) (by decide) (by decide) (by decide) (by decide) dL_law_9 (fun p0 H3 hq0 ha0 hz0 ho0 hS => ?_)
  obtain rfl : p0 = H2.size + 0 := by omega
  have hW := hW.grow ho0
  refine lv_astore_n (lv' := [(2, .ref (H2.size + 0)), (1, .ref q1), (0, .ref b)]) hx hb dL_law_11 rfl hl (by decide) rfl (fun ls hl => ?_)
  refine lv_bipush (v := nI 16) hx hb dL_law_12 (by decide) ?_
  refine rh_newa0 hx hb (htsL (.arrayClass .int) (by decide +kernel)) hE hS 16 (by decide) (by decide) (by decide) (by decide) (by decide) dL_law_14 (fun p1 H4 hq1 ha1 hz1 ho1 hS => ?_)
  obtain rfl : p1 = H2.size + 1 := by omega
  have hW := hW.grow ho1
  have ha0 := va_at.kept ha0 (ho1 _ (va_at.lt ha0))
  refine lv_astore_n (lv' := [(3, .ref (H2.size + 1)), (2, .ref (H2.size + 0)), (1, .ref q1), (0, .ref b)]) hx hb dL_law_16 rfl hl (by decide) rfl (fun ls hl => ?_)
  refine lv_bipush (v := nI 64) hx hb dL_law_17 (by decide) ?_
  refine rh_newa0 hx hb (htsL (.arrayClass .int) (by decide +kernel)) hE hS 64 (by decide) (by decide) (by decide) (by decide) (by decide) dL_law_19 (fun p2 H5 hq2 ha2 hz2 ho2 hS => ?_)
  obtain rfl : p2 = H2.size + 2 := by omega
  have hW := hW.grow ho2
  have ha0 := va_at.kept ha0 (ho2 _ (va_at.lt ha0))
  have ha1 := va_at.kept ha1 (ho2 _ (va_at.lt ha1))
  refine lv_astore (lv' := [(4, .ref (H2.size + 2)), (3, .ref (H2.size + 1)), (2, .ref (H2.size + 0)), (1, .ref q1), (0, .ref b)]) hx hb dL_law_21 hl (by decide) rfl (fun ls hl => ?_)
  refine lv_bipush (v := nI 40) hx hb dL_law_23 (by decide) ?_
  refine rh_newa0 hx hb (htsL (.arrayClass .int) (by decide +kernel)) hE hS 40 (by decide) (by decide) (by decide) (by decide) (by decide) dL_law_25 (fun p3 H6 hq3 ha3 hz3 ho3 hS => ?_)
  obtain rfl : p3 = H2.size + 3 := by omega
  have hW := hW.grow ho3
  have ha0 := va_at.kept ha0 (ho3 _ (va_at.lt ha0))
  have ha1 := va_at.kept ha1 (ho3 _ (va_at.lt ha1))
  have ha2 := va_at.kept ha2 (ho3 _ (va_at.lt ha2))
  refine lv_astore (lv' := [(5, .ref (H2.size + 3)), (4, .ref (H2.size + 2)), (3, .ref (H2.size + 1)), (2, .ref (H2.size + 0)), (1, .ref q1), (0, .ref b)]) hx hb dL_law_27 hl (by decide) rfl (fun ls hl => ?_)
  refine lv_bipush (v := nI 40) hx hb dL_law_29 (by decide) ?_
  refine rh_newa0 hx hb (htsL (.arrayClass .int) (by decide +kernel)) hE hS 40 (by decide) (by decide) (by decide) (by decide) (by decide) dL_law_31 (fun p4 H7 hq4 ha4 hz4 ho4 hS => ?_)
  obtain rfl : p4 = H2.size + 4 := by omega
  have hW := hW.grow ho4
  have ha0 := va_at.kept ha0 (ho4 _ (va_at.lt ha0))
  have ha1 := va_at.kept ha1 (ho4 _ (va_at.lt ha1))
  have ha2 := va_at.kept ha2 (ho4 _ (va_at.lt ha2))
  have ha3 := va_at.kept ha3 (ho4 _ (va_at.lt ha3))
  refine lv_astore (lv' := [(6, .ref (H2.size + 4)), (5, .ref (H2.size + 3)), (4, .ref (H2.size + 2)), (3, .ref (H2.size + 1)), (2, .ref (H2.size + 0)), (1, .ref q1), (0, .ref b)]) hx hb dL_law_33 hl (by decide) rfl (fun ls hl => ?_)
  refine lv_bipush (v := nI 40) hx hb dL_law_35 (by decide) ?_
  refine rh_newa0 hx hb (htsL (.arrayClass .int) (by decide +kernel)) hE hS 40 (by decide) (by decide) (by decide) (by decide) (by decide) dL_law_37 (fun p5 H8 hq5 ha5 hz5 ho5 hS => ?_)
  obtain rfl : p5 = H2.size + 5 := by omega
  have hW := hW.grow ho5
  have ha0 := va_at.kept ha0 (ho5 _ (va_at.lt ha0))
  have ha1 := va_at.kept ha1 (ho5 _ (va_at.lt ha1))
  have ha2 := va_at.kept ha2 (ho5 _ (va_at.lt ha2))
  have ha3 := va_at.kept ha3 (ho5 _ (va_at.lt ha3))
  have ha4 := va_at.kept ha4 (ho5 _ (va_at.lt ha4))
  refine lv_astore (lv' := [(7, .ref (H2.size + 5)), (6, .ref (H2.size + 4)), (5, .ref (H2.size + 3)), (4, .ref (H2.size + 2)), (3, .ref (H2.size + 1)), (2, .ref (H2.size + 0)), (1, .ref q1), (0, .ref b)]) hx hb dL_law_39 hl (by decide) rfl (fun ls hl => ?_)
  refine lv_bipush (v := nI 40) hx hb dL_law_41 (by decide) ?_
  refine rh_newa0 hx hb (htsL (.arrayClass .int) (by decide +kernel)) hE hS 40 (by decide) (by decide) (by decide) (by decide) (by decide) dL_law_43 (fun p6 H9 hq6 ha6 hz6 ho6 hS => ?_)
  obtain rfl : p6 = H2.size + 6 := by omega
  have hW := hW.grow ho6
  have ha0 := va_at.kept ha0 (ho6 _ (va_at.lt ha0))
  have ha1 := va_at.kept ha1 (ho6 _ (va_at.lt ha1))
  have ha2 := va_at.kept ha2 (ho6 _ (va_at.lt ha2))
  have ha3 := va_at.kept ha3 (ho6 _ (va_at.lt ha3))
  have ha4 := va_at.kept ha4 (ho6 _ (va_at.lt ha4))
  have ha5 := va_at.kept ha5 (ho6 _ (va_at.lt ha5))
  refine lv_astore (lv' := [(8, .ref (H2.size + 6)), (7, .ref (H2.size + 5)), (6, .ref (H2.size + 4)), (5, .ref (H2.size + 3)), (4, .ref (H2.size + 2)), (3, .ref (H2.size + 1)), (2, .ref (H2.size + 0)), (1, .ref q1), (0, .ref b)]) hx hb dL_law_45 hl (by decide) rfl (fun ls hl => ?_)
  refine lv_bipush (v := nI 16) hx hb dL_law_47 (by decide) ?_
  refine rh_newa0 hx hb (htsL (.arrayClass .int) (by decide +kernel)) hE hS 16 (by decide) (by decide) (by decide) (by decide) (by decide) dL_law_49 (fun p7 H10 hq7 ha7 hz7 ho7 hS => ?_)
  obtain rfl : p7 = H2.size + 7 := by omega
  have hW := hW.grow ho7
  have ha0 := va_at.kept ha0 (ho7 _ (va_at.lt ha0))
  have ha1 := va_at.kept ha1 (ho7 _ (va_at.lt ha1))
  have ha2 := va_at.kept ha2 (ho7 _ (va_at.lt ha2))
  have ha3 := va_at.kept ha3 (ho7 _ (va_at.lt ha3))
  have ha4 := va_at.kept ha4 (ho7 _ (va_at.lt ha4))
  have ha5 := va_at.kept ha5 (ho7 _ (va_at.lt ha5))
  have ha6 := va_at.kept ha6 (ho7 _ (va_at.lt ha6))
  refine lv_astore (lv' := [(9, .ref (H2.size + 7)), (8, .ref (H2.size + 6)), (7, .ref (H2.size + 5)), (6, .ref (H2.size + 4)), (5, .ref (H2.size + 3)), (4, .ref (H2.size + 2)), (3, .ref (H2.size + 1)), (2, .ref (H2.size + 0)), (1, .ref q1), (0, .ref b)]) hx hb dL_law_51 hl (by decide) rfl (fun ls hl => ?_)
  refine lv_bipush (v := nI 48) hx hb dL_law_53 (by decide) ?_
  refine rh_newa0 hx hb (htsL (.arrayClass .int) (by decide +kernel)) hE hS 48 (by decide) (by decide) (by decide) (by decide) (by decide) dL_law_55 (fun p8 H11 hq8 ha8 hz8 ho8 hS => ?_)
  obtain rfl : p8 = H2.size + 8 := by omega
  have hW := hW.grow ho8
  have ha0 := va_at.kept ha0 (ho8 _ (va_at.lt ha0))
  have ha1 := va_at.kept ha1 (ho8 _ (va_at.lt ha1))
  have ha2 := va_at.kept ha2 (ho8 _ (va_at.lt ha2))
  have ha3 := va_at.kept ha3 (ho8 _ (va_at.lt ha3))
  have ha4 := va_at.kept ha4 (ho8 _ (va_at.lt ha4))
  have ha5 := va_at.kept ha5 (ho8 _ (va_at.lt ha5))
  have ha6 := va_at.kept ha6 (ho8 _ (va_at.lt ha6))
  have ha7 := va_at.kept ha7 (ho8 _ (va_at.lt ha7))
  refine lv_astore (lv' := [(10, .ref (H2.size + 8)), (9, .ref (H2.size + 7)), (8, .ref (H2.size + 6)), (7, .ref (H2.size + 5)), (6, .ref (H2.size + 4)), (5, .ref (H2.size + 3)), (4, .ref (H2.size + 2)), (3, .ref (H2.size + 1)), (2, .ref (H2.size + 0)), (1, .ref q1), (0, .ref b)]) hx hb dL_law_57 hl (by decide) rfl (fun ls hl => ?_)
  refine W.eq (g2 := F0 m 59 ls []) rfl ?_
  have hUD : u_D (fun q => s.heap.size ≤ q) (fun k => H2.size + k) := ⟨fun k k' _ _ h => by have h : H2.size + k = H2.size + k' := h; omega, fun k _ => by show s.heap.size ≤ H2.size + k; omega⟩
  have C := C9 _ hUD
  have hU : u_W G ca (fun k => H2.size + k) (u_Li 0) H11 := by
    rw [u_Li_0]
    intro k hk
    match k, hk with
    | 0, _ => exact ha0
    | 1, _ => exact ha1
    | 2, _ => exact ha2
    | 3, _ => exact ha3
    | 4, _ => exact ha4
    | 5, _ => exact ha5
    | 6, _ => exact ha6
    | 7, _ => exact ha7
    | 8, _ => exact ha8
    | k + 9, hk => exact absurd hk (by omega)
  have hD9 : rh_D (lH (fun q => s.heap.size ≤ q) (fun k => H2.size + k)) ad (fun k i => i < rh_n 0 0 k) := ⟨hD.1, fun k i hi => ⟨hA1 _ (hD.2 k i hi), fun a _ z => by
    have h2 := hlt2 k i hi
    have z : H2.size + a = ad k i := z
    omega⟩⟩
  exact W.widen (by decide) (by decide) (l_begin C hr hlocks had hW hU hD9 hS (lv_sub hl [10, 9, 8, 7, 6, 5, 4, 3, 2, 1, 0] rfl))
