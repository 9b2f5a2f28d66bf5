/-! ===== deeds ===== -/
theorem u_bit {n : Nat} (h : n ≤ 1) : nI n = 0 ∨ nI n = 1 := by
  have : n = 0 ∨ n = 1 := by omega
  rcases this with rfl | rfl
  · exact Or.inl rfl
  · exact Or.inr rfl
set_option maxHeartbeats 8000000 in
set_option maxRecDepth 100000 in
theorem op_tariff {p : Program} {l : Launch} {e : Env} {s : State} {m : MethodId} {below : List Frame} {meth : Method} {c : Code} {G : va_G} {ca : Nat → ClassId} {A : Nat → Prop} {ua : Nat → Nat} {b Ls : Nat} {xs : Nat → Int32} {h1 t y : Nat} {cells slots : Nat} {Q : State → Prop} {ad : Nat → Nat → Nat} {nf nc : Nat} {r : rh_R} {v : rh_V} {w : rh_Wm} {L : u_L} {H : Heap} {locs : List Loc} {ls : Array Slot} {kd ho hm pr fi ci : Nat} (C : lwC p l s m c G ca A ua b Ls xs) (hLS : lwS G ca A ua h1 ad nf nc r v w L H) (hS : va_S A s.heap H locs) (hl : lv_has ls 24 [(0, .ref b), (1, .ref h1), (2, .ref (ua 0)), (3, .ref (ua 1)), (4, .ref (ua 2)), (5, .ref (ua 3)), (6, .ref (ua 4)), (7, .ref (ua 5)), (8, .ref (ua 6)), (9, .ref (ua 7)), (10, .ref (ua 8)), (11, .int (nI 1)), (12, .int (nI t)), (14, .int (nI kd)), (15, .int (nI y)), (16, .int (nI ho)), (17, .int (nI hm)), (18, .int (nI pr)), (19, .int (nI fi)), (20, .int (nI ci))]) (hyb : y < 100000000) (hho : ho < 4) (hhm : hm < 4) (hne : ho ≠ hm) (hpr : pr = ho + 4 * hm) (hfi : (nf = 0 ∧ fi = 0) ∨ fi < nf) (hci : (nc = 0 ∧ ci = 0) ∨ ci < nc) (hcl : cells + 10 ≤ 665269) (hsl : slots + 80 ≤ 7105890) (hK : lwK p l e s m below meth c G ca A ua b h1 t y cells slots Q) : W p l e room_1 s m #[Value.ref b] below meth c H locs cells slots Q (F0 m 420 ls []) := by
  obtain ⟨hx, hb, hml, hown, hts, hE, hnc9, hlf, hA, hbA, hbl, hX, hLm, hUD⟩ := C
  obtain ⟨rfl, hW, hU, hinv, hlr, h7, hD⟩ := hLS
  have hub := hlr.1
  have hla := hlr.2.2.1
  have hn00 := hlr.2.1.1.1
  have hn16 := hlr.2.1.1.2
  have hn01 := hlr.2.1.2.1.1
  have hn40 := hlr.2.1.2.1.2
  have hn36 := hlr.2.1.2.2.2.1
  have hlk := o_lk hinv hlr
  have hnow := o_now hinv hlr
  have hl : lv_has ls 24 [(0, .ref b), (1, .ref (ad 0 0)), (2, .ref (ua 0)), (3, .ref (ua 1)), (4, .ref (ua 2)), (5, .ref (ua 3)), (6, .ref (ua 4)), (7, .ref (ua 5)), (8, .ref (ua 6)), (9, .ref (ua 7)), (10, .ref (ua 8)), (11, .int (nI 1)), (12, .int (nI t)), (14, .int (nI kd)), (15, .int (nI y)), (16, .int (nI ho)), (17, .int (nI hm)), (18, .int (nI pr)), (19, .int (nI fi)), (20, .int (nI ci))] := hl
  refine lv_iconst (v := nI 1) hx hb dL_law_420 (by decide) ?_
  refine lv_iload hx hb dL_law_421 (lv_at hl 14 rfl) ?_
  refine lv_bipush (v := nI 12) hx hb dL_law_423 (by decide) ?_
  refine un_div hx hb dL_law_425 (by omega) (by decide) (by decide) ?_
  have jn441_18 : ∀ (m1 : Nat), (y % 2 = 0 ∧ m1 = 600) ∨ (¬ y % 2 = 0 ∧ m1 = 60) → W p l e room_1 s m #[Value.ref b] below meth c H locs cells slots (Q) (F0 m 441 ls [.int (nI m1), .int (nI (y / 12)), .int (nI 1)]) := by
    intro m1 hm1
    refine un_rem hx hb dL_law_441 (by omega) (by omega) (by omega) ?_
    refine un_add hx hb dL_law_442 ?_
    obtain ⟨st0, hst0v⟩ : ∃ z : Nat, z = (1 + ((y / 12) % m1)) := ⟨_, rfl⟩
    refine un_top (y := nI st0) (congrArg nI hst0v.symm) ?_
    have hst1 : 1 ≤ st0 := by omega
    have hst2 : st0 ≤ 600 := by have := Nat.mod_lt (y / 12) (show m1 > 0 by omega); omega
    refine lv_istore (lv' := [(21, .int (nI st0)), (0, .ref b), (1, .ref (ad 0 0)), (2, .ref (ua 0)), (3, .ref (ua 1)), (4, .ref (ua 2)), (5, .ref (ua 3)), (6, .ref (ua 4)), (7, .ref (ua 5)), (8, .ref (ua 6)), (9, .ref (ua 7)), (10, .ref (ua 8)), (11, .int (nI 1)), (12, .int (nI t)), (14, .int (nI kd)), (15, .int (nI y)), (16, .int (nI ho)), (17, .int (nI hm)), (18, .int (nI pr)), (19, .int (nI fi)), (20, .int (nI ci))]) hx hb dL_law_443 hl (by decide) rfl (fun ls hl => ?_)
    refine lv_iload hx hb dL_law_445 (lv_at hl 15 rfl) ?_
    refine lv_bipush (v := nI 7) hx hb dL_law_447 (by decide) ?_
    refine un_div hx hb dL_law_449 (by omega) (by decide) (by decide) ?_
    have jn465_30 : ∀ (m2 : Nat), (y % 3 = 0 ∧ m2 = 1001) ∨ (¬ y % 3 = 0 ∧ m2 = 20) → W p l e room_1 s m #[Value.ref b] below meth c H locs cells slots (Q) (F0 m 465 ls [.int (nI m2), .int (nI (y / 7))]) := by
      intro m2 hm2
      refine un_rem hx hb dL_law_465 (by omega) (by omega) (by omega) ?_
      obtain ⟨prc, hprcv⟩ : ∃ z : Nat, z = ((y / 7) % m2) := ⟨_, rfl⟩
      refine un_top (y := nI prc) (congrArg nI hprcv.symm) ?_
      have hprc : prc ≤ 1000 := by have := Nat.mod_lt (y / 7) (show m2 > 0 by omega); omega
      refine lv_istore (lv' := [(22, .int (nI prc)), (21, .int (nI st0)), (0, .ref b), (1, .ref (ad 0 0)), (2, .ref (ua 0)), (3, .ref (ua 1)), (4, .ref (ua 2)), (5, .ref (ua 3)), (6, .ref (ua 4)), (7, .ref (ua 5)), (8, .ref (ua 6)), (9, .ref (ua 7)), (10, .ref (ua 8)), (11, .int (nI 1)), (12, .int (nI t)), (14, .int (nI kd)), (15, .int (nI y)), (16, .int (nI ho)), (17, .int (nI hm)), (18, .int (nI pr)), (19, .int (nI fi)), (20, .int (nI ci))]) hx hb dL_law_466 hl (by decide) rfl (fun ls hl => ?_)
      have jn490_37 : ∀ (bg0 : Nat), bg0 ≤ 1000 → W p l e room_1 s m #[Value.ref b] below meth c H locs cells slots (Q) (F0 m 490 ls [.int (nI bg0)]) := by
        intro bg0 hbg0
        refine lv_istore (lv' := [(23, .int (nI bg0)), (22, .int (nI prc)), (21, .int (nI st0)), (0, .ref b), (1, .ref (ad 0 0)), (2, .ref (ua 0)), (3, .ref (ua 1)), (4, .ref (ua 2)), (5, .ref (ua 3)), (6, .ref (ua 4)), (7, .ref (ua 5)), (8, .ref (ua 6)), (9, .ref (ua 7)), (10, .ref (ua 8)), (11, .int (nI 1)), (12, .int (nI t)), (14, .int (nI kd)), (15, .int (nI y)), (16, .int (nI ho)), (17, .int (nI hm)), (18, .int (nI pr)), (19, .int (nI fi)), (20, .int (nI ci))]) hx hb dL_law_490 hl (by decide) rfl (fun ls hl => ?_)
        refine lv_aload_n hx hb dL_law_492 rfl (lv_at hl 4 rfl) ?_
        refine lv_iload hx hb dL_law_493 (lv_at hl 18 rfl) ?_
        refine lv_iload hx hb dL_law_495 (lv_at hl 2 rfl) ?_
        refine lv_iload hx hb dL_law_497 (lv_at hl 1 rfl) ?_
        refine lv_iload hx hb dL_law_499 (lv_at hl 0 rfl) ?_
        have hA19 : ∀ q, lH A ua q → A q := fun q h => h.1
        have hB19 := lH_up hA hS.1 hU
        refine rh_call2 (vx_runV (As := [.int (nI ho), .int (nI st0), .int (nI prc), .int (nI bg0)]) (rest := []) ⟨hx, hb, hml, hown, hts⟩ (ct_X4_setTariff l hlf hD hinv.1 (nI ho) (nI st0) (nI prc) (nI bg0)) (cwV 4 hts gL_law_X4_setTariff rfl rfl rfl (by decide +kernel) ⟨by decide, by decide⟩) (rh_preV2 hE hS hA19 hB19 (hW.at 0 0 Nat.zero_lt_one) rfl hW) rfl rfl hl.1 rfl (lv_room (Nat.le_of_ble_eq_true rfl)) dL_law_501 ⟨show cells + 5 ≤ 665269 by omega, show slots + 40 ≤ 7105890 by omega⟩) hS hA19 (fun E ce q9 H locs hX9 hz9 hk9 hS g1 g2 g3 => ?_) (fun o H locs hN9 hz9 hk9 hS => ?_)
        · obtain ⟨hX9, -⟩ := hX9
          rcases hX9 with ⟨-, z⟩ | ⟨-, -, z⟩
          · exact absurd (ix_nI hho (by decide)) z
          · exact absurd ⟨u_rg (a := 1) (b := 600) hst1 hst2 (by decide), u_rg (a := 0) (b := 1000) (Nat.zero_le _) hprc (by decide), u_rg (a := 0) (b := 1000) (Nat.zero_le _) hbg0 (by decide)⟩ z
        obtain ⟨i9, hi9, e9, hr0, hr1, hr2, rfl, hW⟩ := hN9
        have hU := hU.kept (fun k hk => hk9 _ (hU.lt hk) (fun z => z.2 k hk rfl))
        obtain rfl : ho = i9 := m_inj (by omega) (by omega) e9
        refine W.eq (g2 := F0 m 504 ls [.int (v 5 ho 1)]) rfl ?_
        refine un_top (y := nI (L 1 (4 * ho + 1))) (o_op hinv hlr hho).1 ?_
        refine lv_aload_n hx hb dL_law_504 rfl (lv_at hl 6 rfl) ?_
        refine lv_iconst (v := nI 4) hx hb dL_law_505 (by decide) ?_
        refine lv_iload hx hb dL_law_506 (lv_at hl 18 rfl) ?_
        refine un_mul hx hb dL_law_508 ?_
        refine lv_iconst (v := nI 1) hx hb dL_law_509 (by decide) ?_
        refine un_add hx hb dL_law_510 ?_
        have hb511_63 := hub 1 ((4 * ho) + 1)
        refine un_ald (L := L) hx hb hE hU 1 (by decide) ((4 * ho) + 1) (show ((4 * ho) + 1) < 16 from (by omega)) dL_law_511 ?_
        refine un_cne (tgt := 519) hx hb dL_law_512 (by decide) (by omega) (by omega) (fun c1 => absurd rfl c1) (fun c1 => ?_)
        refine lv_iconst (v := nI 1) hx hb dL_law_515 (by decide) ?_
        refine lv_goto (tgt := 520) hx hb dL_law_516 (by decide) ?_
        refine lv_istore (lv' := [(11, .int (nI 1)), (23, .int (nI bg0)), (22, .int (nI prc)), (21, .int (nI st0)), (0, .ref b), (1, .ref (ad 0 0)), (2, .ref (ua 0)), (3, .ref (ua 1)), (4, .ref (ua 2)), (5, .ref (ua 3)), (6, .ref (ua 4)), (7, .ref (ua 5)), (8, .ref (ua 6)), (9, .ref (ua 7)), (10, .ref (ua 8)), (12, .int (nI t)), (14, .int (nI kd)), (15, .int (nI y)), (16, .int (nI ho)), (17, .int (nI hm)), (18, .int (nI pr)), (19, .int (nI fi)), (20, .int (nI ci))]) hx hb dL_law_520 hl (by decide) rfl (fun ls hl => ?_)
        refine lv_aload_n hx hb dL_law_522 rfl (lv_at hl 7 rfl) ?_
        refine lv_iconst (v := nI 4) hx hb dL_law_523 (by decide) ?_
        refine lv_iload hx hb dL_law_524 (lv_at hl 18 rfl) ?_
        refine un_mul hx hb dL_law_526 ?_
        refine lv_iload hx hb dL_law_527 (lv_at hl 3 rfl) ?_
        refine un_ast (L := L) (x := st0) hx hb hE hU hUD hS 1 (by decide) (4 * ho) (show (4 * ho) < 16 from (by omega)) dL_law_529 (fun H locs hU hz9 ho9 hS => ?_)
        have hW := hW.keptU hD (k := 1) (by decide) ho9
        refine lv_aload_n hx hb dL_law_530 rfl (lv_at hl 7 rfl) ?_
        refine lv_iconst (v := nI 4) hx hb dL_law_531 (by decide) ?_
        refine lv_iload hx hb dL_law_532 (lv_at hl 18 rfl) ?_
        refine un_mul hx hb dL_law_534 ?_
        refine lv_iconst (v := nI 1) hx hb dL_law_535 (by decide) ?_
        refine un_add hx hb dL_law_536 ?_
        refine lv_iload hx hb dL_law_537 (lv_at hl 2 rfl) ?_
        refine un_ast (L := (un L 1 (4 * ho) st0)) (x := prc) hx hb hE hU hUD hS 1 (by decide) ((4 * ho) + 1) (show ((4 * ho) + 1) < 16 from (by omega)) dL_law_539 (fun H locs hU hz9 ho9 hS => ?_)
        have hW := hW.keptU hD (k := 1) (by decide) ho9
        refine lv_aload_n hx hb dL_law_540 rfl (lv_at hl 7 rfl) ?_
        refine lv_iconst (v := nI 4) hx hb dL_law_541 (by decide) ?_
        refine lv_iload hx hb dL_law_542 (lv_at hl 18 rfl) ?_
        refine un_mul hx hb dL_law_544 ?_
        refine lv_iconst (v := nI 2) hx hb dL_law_545 (by decide) ?_
        refine un_add hx hb dL_law_546 ?_
        refine lv_iload hx hb dL_law_547 (lv_at hl 1 rfl) ?_
        refine un_ast (L := (un (un L 1 (4 * ho) st0) 1 ((4 * ho) + 1) prc)) (x := bg0) hx hb hE hU hUD hS 1 (by decide) ((4 * ho) + 2) (show ((4 * ho) + 2) < 16 from (by omega)) dL_law_549 (fun H locs hU hz9 ho9 hS => ?_)
        have hW := hW.keptU hD (k := 1) (by decide) ho9
        refine lv_goto (tgt := 1624) hx hb dL_law_550 (by decide) ?_
        exact hK ad nf nc r (wr (wr (wr v 5 ho 0 (nI st0)) 5 ho 1 (nI prc)) 5 ho 2 (nI bg0)) (wm (wm (wm w 0 ho (nI st0)) 1 ho (nI prc)) 2 ho (nI bg0)) (un (un (un L 1 (4 * ho) st0) 1 ((4 * ho) + 1) prc) 1 ((4 * ho) + 2) bg0) H _ _ ⟨rfl, hW, hU, i_tariff hinv hho (u_rg (a := 1) (b := 600) hst1 hst2 (by decide)), lr_tariff hlr hho hst1 hst2 hprc hbg0, (le7_eq h7 rfl (fun _ => rfl)), hD⟩ hS (lv_sub hl [4, 5, 6, 7, 8, 9, 10, 11, 12, 13, 14, 0, 15, 17] rfl)
      refine lv_iload hx hb dL_law_468 (lv_at hl 16 rfl) ?_
      refine lv_iconst (v := nI 5) hx hb dL_law_470 (by decide) ?_
      refine un_div hx hb dL_law_471 (by omega) (by decide) (by decide) ?_
      refine lv_iconst (v := nI 4) hx hb dL_law_472 (by decide) ?_
      refine un_rem hx hb dL_law_473 (by omega) (by decide) (by decide) ?_
      refine un_ine (tgt := 489) hx hb dL_law_474 (by decide) (by omega) (fun c2 => ?_) (fun c2 => ?_)
      · refine lv_iconst (v := nI 0) hx hb dL_law_489 (by decide) ?_
        exact jn490_37 0 (by omega)
      · refine lv_iload hx hb dL_law_477 (lv_at hl 16 rfl) ?_
        refine lv_bipush (v := nI 20) hx hb dL_law_479 (by decide) ?_
        refine un_div hx hb dL_law_481 (by omega) (by decide) (by decide) ?_
        refine lv_sipush (v := nI 1001) hx hb dL_law_482 (by decide) ?_
        refine un_rem hx hb dL_law_485 (by omega) (by decide) (by decide) ?_
        refine lv_goto (tgt := 490) hx hb dL_law_486 (by decide) ?_
        exact jn490_37 ((y / 20) % 1001) (by omega)
    refine lv_iload hx hb dL_law_450 (lv_at hl 15 rfl) ?_
    refine lv_iconst (v := nI 3) hx hb dL_law_452 (by decide) ?_
    refine un_rem hx hb dL_law_453 (by omega) (by decide) (by decide) ?_
    refine un_ine (tgt := 463) hx hb dL_law_454 (by decide) (by omega) (fun c3 => ?_) (fun c3 => ?_)
    · refine lv_bipush (v := nI 20) hx hb dL_law_463 (by decide) ?_
      exact jn465_30 20 (by omega)
    · refine lv_sipush (v := nI 1001) hx hb dL_law_457 (by decide) ?_
      refine lv_goto (tgt := 465) hx hb dL_law_460 (by decide) ?_
      exact jn465_30 1001 (by omega)
  refine lv_iload hx hb dL_law_426 (lv_at hl 14 rfl) ?_
  refine lv_iconst (v := nI 2) hx hb dL_law_428 (by decide) ?_
  refine un_rem hx hb dL_law_429 (by omega) (by decide) (by decide) ?_
  refine un_ine (tgt := 439) hx hb dL_law_430 (by decide) (by omega) (fun c4 => ?_) (fun c4 => ?_)
  · refine lv_bipush (v := nI 60) hx hb dL_law_439 (by decide) ?_
    exact jn441_18 60 (by omega)
  · refine lv_sipush (v := nI 600) hx hb dL_law_433 (by decide) ?_
    refine lv_goto (tgt := 441) hx hb dL_law_436 (by decide) ?_
    exact jn441_18 600 (by omega)
set_option maxHeartbeats 8000000 in
set_option maxRecDepth 100000 in
theorem op_rate {p : Program} {l : Launch} {e : Env} {s : State} {m : MethodId} {below : List Frame} {meth : Method} {c : Code} {G : va_G} {ca : Nat → ClassId} {A : Nat → Prop} {ua : Nat → Nat} {b Ls : Nat} {xs : Nat → Int32} {h1 t y : Nat} {cells slots : Nat} {Q : State → Prop} {ad : Nat → Nat → Nat} {nf nc : Nat} {r : rh_R} {v : rh_V} {w : rh_Wm} {L : u_L} {H : Heap} {locs : List Loc} {ls : Array Slot} {kd ho hm pr fi ci : Nat} (C : lwC p l s m c G ca A ua b Ls xs) (hLS : lwS G ca A ua h1 ad nf nc r v w L H) (hS : va_S A s.heap H locs) (hl : lv_has ls 24 [(0, .ref b), (1, .ref h1), (2, .ref (ua 0)), (3, .ref (ua 1)), (4, .ref (ua 2)), (5, .ref (ua 3)), (6, .ref (ua 4)), (7, .ref (ua 5)), (8, .ref (ua 6)), (9, .ref (ua 7)), (10, .ref (ua 8)), (11, .int (nI 1)), (12, .int (nI t)), (14, .int (nI kd)), (15, .int (nI y)), (16, .int (nI ho)), (17, .int (nI hm)), (18, .int (nI pr)), (19, .int (nI fi)), (20, .int (nI ci))]) (hyb : y < 100000000) (hho : ho < 4) (hhm : hm < 4) (hne : ho ≠ hm) (hpr : pr = ho + 4 * hm) (hfi : (nf = 0 ∧ fi = 0) ∨ fi < nf) (hci : (nc = 0 ∧ ci = 0) ∨ ci < nc) (hcl : cells + 10 ≤ 665269) (hsl : slots + 80 ≤ 7105890) (hK : lwK p l e s m below meth c G ca A ua b h1 t y cells slots Q) : W p l e room_1 s m #[Value.ref b] below meth c H locs cells slots Q (F0 m 559 ls []) := by
  obtain ⟨hx, hb, hml, hown, hts, hE, hnc9, hlf, hA, hbA, hbl, hX, hLm, hUD⟩ := C
  obtain ⟨rfl, hW, hU, hinv, hlr, h7, hD⟩ := hLS
  have hub := hlr.1
  have hla := hlr.2.2.1
  have hn00 := hlr.2.1.1.1
  have hn16 := hlr.2.1.1.2
  have hn01 := hlr.2.1.2.1.1
  have hn40 := hlr.2.1.2.1.2
  have hn36 := hlr.2.1.2.2.2.1
  have hlk := o_lk hinv hlr
  have hnow := o_now hinv hlr
  have hl : lv_has ls 24 [(0, .ref b), (1, .ref (ad 0 0)), (2, .ref (ua 0)), (3, .ref (ua 1)), (4, .ref (ua 2)), (5, .ref (ua 3)), (6, .ref (ua 4)), (7, .ref (ua 5)), (8, .ref (ua 6)), (9, .ref (ua 7)), (10, .ref (ua 8)), (11, .int (nI 1)), (12, .int (nI t)), (14, .int (nI kd)), (15, .int (nI y)), (16, .int (nI ho)), (17, .int (nI hm)), (18, .int (nI pr)), (19, .int (nI fi)), (20, .int (nI ci))] := hl
  refine lv_aload_n hx hb dL_law_559 rfl (lv_at hl 1 rfl) ?_
  refine lv_iload hx hb dL_law_560 (lv_at hl 15 rfl) ?_
  refine lv_iconst (v := nI 1) hx hb dL_law_562 (by decide) ?_
  refine lv_iload hx hb dL_law_563 (lv_at hl 14 rfl) ?_
  refine lv_bipush (v := nI 12) hx hb dL_law_565 (by decide) ?_
  refine un_div hx hb dL_law_567 (by omega) (by decide) (by decide) ?_
  refine lv_ldc (v := 100000) hx hb hown (hts (.constant RL 124 (100000)) (by decide +kernel)) dL_law_568 ?_
  refine un_top (y := nI 100000) rfl ?_
  refine un_rem hx hb dL_law_570 (by omega) (by decide) (by decide) ?_
  refine un_add hx hb dL_law_571 ?_
  have hA19 : ∀ q, lH A ua q → A q := fun q h => h.1
  have hB19 := lH_up hA hS.1 hU
  refine rh_call2 (vx_runV (As := [.int (nI ho), .int (nI (1 + ((y / 12) % 100000)))]) (rest := []) ⟨hx, hb, hml, hown, hts⟩ (ct_X4_setRate l hlf hD hinv.1 (nI ho) (nI (1 + ((y / 12) % 100000)))) (cwV 2 hts gL_law_X4_setRate rfl rfl rfl (by decide +kernel) ⟨by decide, by decide⟩) (rh_preV2 hE hS hA19 hB19 (hW.at 0 0 Nat.zero_lt_one) rfl hW) rfl rfl hl.1 rfl (lv_room (Nat.le_of_ble_eq_true rfl)) dL_law_572 ⟨show cells + 5 ≤ 665269 by omega, show slots + 40 ≤ 7105890 by omega⟩) hS hA19 (fun E ce q9 H locs hX9 hz9 hk9 hS g1 g2 g3 => ?_) (fun o H locs hN9 hz9 hk9 hS => ?_)
  · obtain ⟨hX9, -⟩ := hX9
    rcases hX9 with ⟨-, z⟩ | ⟨-, -, z⟩
    · exact absurd (ix_nI hho (by decide)) z
    · exact absurd (u_rg (a := 1) (b := 100000) (by omega) (by omega) (by decide)) z
  obtain ⟨i9, hi9, e9, hr0, rfl, hW⟩ := hN9
  have hU := hU.kept (fun k hk => hk9 _ (hU.lt hk) (fun z => z.2 k hk rfl))
  obtain rfl : ho = i9 := m_inj (by omega) (by omega) e9
  refine W.eq (g2 := F0 m 575 ls [.int (v 5 ho 3)]) rfl ?_
  refine un_top (y := nI (L 1 (4 * ho + 3))) (o_op hinv hlr hho).2 ?_
  refine lv_aload_n hx hb dL_law_575 rfl (lv_at hl 3 rfl) ?_
  refine lv_iconst (v := nI 4) hx hb dL_law_576 (by decide) ?_
  refine lv_iload hx hb dL_law_577 (lv_at hl 15 rfl) ?_
  refine un_mul hx hb dL_law_579 ?_
  refine lv_iconst (v := nI 3) hx hb dL_law_580 (by decide) ?_
  refine un_add hx hb dL_law_581 ?_
  have hb582_42 := hub 1 ((4 * ho) + 3)
  refine un_ald (L := L) hx hb hE hU 1 (by decide) ((4 * ho) + 3) (show ((4 * ho) + 3) < 16 from (by omega)) dL_law_582 ?_
  refine un_cne (tgt := 590) hx hb dL_law_583 (by decide) (by omega) (by omega) (fun c1 => absurd rfl c1) (fun c1 => ?_)
  refine lv_iconst (v := nI 1) hx hb dL_law_586 (by decide) ?_
  refine lv_goto (tgt := 591) hx hb dL_law_587 (by decide) ?_
  refine lv_istore (lv' := [(11, .int (nI 1)), (0, .ref b), (1, .ref (ad 0 0)), (2, .ref (ua 0)), (3, .ref (ua 1)), (4, .ref (ua 2)), (5, .ref (ua 3)), (6, .ref (ua 4)), (7, .ref (ua 5)), (8, .ref (ua 6)), (9, .ref (ua 7)), (10, .ref (ua 8)), (12, .int (nI t)), (14, .int (nI kd)), (15, .int (nI y)), (16, .int (nI ho)), (17, .int (nI hm)), (18, .int (nI pr)), (19, .int (nI fi)), (20, .int (nI ci))]) hx hb dL_law_591 hl (by decide) rfl (fun ls hl => ?_)
  refine lv_aload_n hx hb dL_law_593 rfl (lv_at hl 4 rfl) ?_
  refine lv_iconst (v := nI 4) hx hb dL_law_594 (by decide) ?_
  refine lv_iload hx hb dL_law_595 (lv_at hl 15 rfl) ?_
  refine un_mul hx hb dL_law_597 ?_
  refine lv_iconst (v := nI 3) hx hb dL_law_598 (by decide) ?_
  refine un_add hx hb dL_law_599 ?_
  refine lv_iconst (v := nI 1) hx hb dL_law_600 (by decide) ?_
  refine lv_iload hx hb dL_law_601 (lv_at hl 14 rfl) ?_
  refine lv_bipush (v := nI 12) hx hb dL_law_603 (by decide) ?_
  refine un_div hx hb dL_law_605 (by omega) (by decide) (by decide) ?_
  refine lv_ldc (v := 100000) hx hb hown (hts (.constant RL 124 (100000)) (by decide +kernel)) dL_law_606 ?_
  refine un_top (y := nI 100000) rfl ?_
  refine un_rem hx hb dL_law_608 (by omega) (by decide) (by decide) ?_
  refine un_add hx hb dL_law_609 ?_
  refine un_ast (L := L) (x := (1 + ((y / 12) % 100000))) hx hb hE hU hUD hS 1 (by decide) ((4 * ho) + 3) (show ((4 * ho) + 3) < 16 from (by omega)) dL_law_610 (fun H locs hU hz9 ho9 hS => ?_)
  have hW := hW.keptU hD (k := 1) (by decide) ho9
  refine lv_goto (tgt := 1624) hx hb dL_law_611 (by decide) ?_
  exact hK ad nf nc r (wr v 5 ho 3 (nI (1 + y / 12 % 100000))) (wm w 3 ho (nI (1 + y / 12 % 100000))) (un L 1 ((4 * ho) + 3) (1 + ((y / 12) % 100000))) H _ _ ⟨rfl, hW, hU, i_rate hinv hho _, lr_rate hlr hho (by omega), (le7_eq h7 rfl (fun _ => rfl)), hD⟩ hS (lv_sub hl [1, 2, 3, 4, 5, 6, 7, 8, 9, 10, 11, 0, 12, 14] rfl)
set_option maxHeartbeats 8000000 in
set_option maxRecDepth 100000 in
theorem op_begin {p : Program} {l : Launch} {e : Env} {s : State} {m : MethodId} {below : List Frame} {meth : Method} {c : Code} {G : va_G} {ca : Nat → ClassId} {A : Nat → Prop} {ua : Nat → Nat} {b Ls : Nat} {xs : Nat → Int32} {h1 t y : Nat} {cells slots : Nat} {Q : State → Prop} {ad : Nat → Nat → Nat} {nf nc : Nat} {r : rh_R} {v : rh_V} {w : rh_Wm} {L : u_L} {H : Heap} {locs : List Loc} {ls : Array Slot} {kd ho hm pr fi ci : Nat} (C : lwC p l s m c G ca A ua b Ls xs) (hLS : lwS G ca A ua h1 ad nf nc r v w L H) (hS : va_S A s.heap H locs) (hl : lv_has ls 24 [(0, .ref b), (1, .ref h1), (2, .ref (ua 0)), (3, .ref (ua 1)), (4, .ref (ua 2)), (5, .ref (ua 3)), (6, .ref (ua 4)), (7, .ref (ua 5)), (8, .ref (ua 6)), (9, .ref (ua 7)), (10, .ref (ua 8)), (11, .int (nI 1)), (12, .int (nI t)), (14, .int (nI kd)), (15, .int (nI y)), (16, .int (nI ho)), (17, .int (nI hm)), (18, .int (nI pr)), (19, .int (nI fi)), (20, .int (nI ci))]) (hyb : y < 100000000) (hho : ho < 4) (hhm : hm < 4) (hne : ho ≠ hm) (hpr : pr = ho + 4 * hm) (hfi : (nf = 0 ∧ fi = 0) ∨ fi < nf) (hci : (nc = 0 ∧ ci = 0) ∨ ci < nc) (hnf : nf < 16) (hcl : cells + 10 ≤ 665269) (hsl : slots + 80 ≤ 7105890) (hK : lwK p l e s m below meth c G ca A ua b h1 t y cells slots Q) : W p l e room_1 s m #[Value.ref b] below meth c H locs cells slots Q (F0 m 628 ls []) := by
  obtain ⟨hx, hb, hml, hown, hts, hE, hnc9, hlf, hA, hbA, hbl, hX, hLm, hUD⟩ := C
  obtain ⟨rfl, hW, hU, hinv, hlr, h7, hD⟩ := hLS
  have hub := hlr.1
  have hla := hlr.2.2.1
  have hn00 := hlr.2.1.1.1
  have hn16 := hlr.2.1.1.2
  have hn01 := hlr.2.1.2.1.1
  have hn40 := hlr.2.1.2.1.2
  have hn36 := hlr.2.1.2.2.2.1
  have hlk := o_lk hinv hlr
  have hnow := o_now hinv hlr
  have hl : lv_has ls 24 [(0, .ref b), (1, .ref (ad 0 0)), (2, .ref (ua 0)), (3, .ref (ua 1)), (4, .ref (ua 2)), (5, .ref (ua 3)), (6, .ref (ua 4)), (7, .ref (ua 5)), (8, .ref (ua 6)), (9, .ref (ua 7)), (10, .ref (ua 8)), (11, .int (nI 1)), (12, .int (nI t)), (14, .int (nI kd)), (15, .int (nI y)), (16, .int (nI ho)), (17, .int (nI hm)), (18, .int (nI pr)), (19, .int (nI fi)), (20, .int (nI ci))] := hl
  refine lv_aload hx hb dL_law_628 (lv_at hl 4 rfl) ?_
  refine lv_iconst (v := nI 4) hx hb dL_law_630 (by decide) ?_
  refine lv_aload_n hx hb dL_law_631 rfl (lv_at hl 2 rfl) ?_
  refine lv_iconst (v := nI 0) hx hb dL_law_632 (by decide) ?_
  have hb633_18 := hub 0 0
  refine un_ald (L := L) hx hb hE hU 0 (by decide) 0 (show 0 < 4 from (by decide)) dL_law_633 ?_
  refine un_top (y := nI nf) (congrArg nI hn00) ?_
  refine un_mul hx hb dL_law_634 ?_
  refine lv_iload hx hb dL_law_635 (lv_at hl 17 rfl) ?_
  refine un_ast (L := L) (x := pr) hx hb hE hU hUD hS 2 (by decide) (4 * nf) (show (4 * nf) < 64 from (by omega)) dL_law_637 (fun H locs hU hz9 ho9 hS => ?_)
  have hW := hW.keptU hD (k := 2) (by decide) ho9
  refine lv_aload hx hb dL_law_638 (lv_at hl 4 rfl) ?_
  refine lv_iconst (v := nI 4) hx hb dL_law_640 (by decide) ?_
  refine lv_aload_n hx hb dL_law_641 rfl (lv_at hl 2 rfl) ?_
  refine lv_iconst (v := nI 0) hx hb dL_law_642 (by decide) ?_
  have hb643_29 := hub 0 0
  refine un_ald (L := (un L 2 (4 * nf) pr)) hx hb hE hU 0 (by decide) 0 (show 0 < 4 from (by decide)) dL_law_643 ?_
  refine un_top (y := nI (L 0 0)) (congrArg nI (by simp [un])) ?_
  refine un_top (y := nI nf) (congrArg nI hn00) ?_
  refine un_mul hx hb dL_law_644 ?_
  refine lv_iconst (v := nI 1) hx hb dL_law_645 (by decide) ?_
  refine un_add hx hb dL_law_646 ?_
  refine lv_aload_n hx hb dL_law_647 rfl (lv_at hl 2 rfl) ?_
  refine lv_iconst (v := nI 3) hx hb dL_law_648 (by decide) ?_
  have hb649_38 := hub 0 3
  refine un_ald (L := (un L 2 (4 * nf) pr)) hx hb hE hU 0 (by decide) 3 (show 3 < 4 from (by decide)) dL_law_649 ?_
  refine un_top (y := nI (L 0 3)) (congrArg nI (by simp [un])) ?_
  refine un_ast (L := (un L 2 (4 * nf) pr)) (x := (L 0 3)) hx hb hE hU hUD hS 2 (by decide) ((4 * nf) + 1) (show ((4 * nf) + 1) < 64 from (by omega)) dL_law_650 (fun H locs hU hz9 ho9 hS => ?_)
  have hW := hW.keptU hD (k := 2) (by decide) ho9
  refine lv_aload_n hx hb dL_law_651 rfl (lv_at hl 1 rfl) ?_
  refine lv_iconst (v := nI 0) hx hb dL_law_652 (by decide) ?_
  refine lv_iload hx hb dL_law_653 (lv_at hl 15 rfl) ?_
  refine lv_iload hx hb dL_law_655 (lv_at hl 16 rfl) ?_
  refine lv_iconst (v := nI 0) hx hb dL_law_657 (by decide) ?_
  have hA19 : ∀ q, lH A ua q → A q := fun q h => h.1
  have hB19 := lH_up hA hS.1 hU
  refine rh_call2 (vx_runSX (As := [.ref (ad 0 0), .int (nI 0), .int (nI ho), .int (nI hm), .int (nI 0)]) (rest := []) ⟨hx, hb, hml, hown, hts⟩ (hl_does0 l hlf hD hinv.1 ho hm) (vx_cwSW 5 hts gL_law_L_does rfl rfl rfl (by decide +kernel) ⟨by decide, by decide⟩) (rh_prel hE hnc9 hS hA19 hB19 hW) rfl rfl hl.1 rfl (lv_room (Nat.le_of_ble_eq_true rfl)) dL_law_658 ⟨show cells + 5 ≤ 665269 by omega, show slots + 40 ≤ 7105890 by omega⟩) hS hA19 (fun _ _ _ _ _ hX9 _ _ _ _ _ _ => hX9.elim) (fun o H locs hN9 hz9 hk9 hS => ?_)
  have hU := hU.kept (fun k hk => hk9 _ (hU.lt hk) (fun z => z.2 k hk rfl))
  rcases hN9 with ⟨h9, k9, hh9, hk9x, hne9, e9, f9, hr0, rfl, q8, hW, hD8⟩ | ⟨hz, rfl, hW⟩ | ⟨⟨-, -, hz⟩, rfl, hW⟩ | ⟨⟨-, -, -, hz⟩, rfl, hW⟩
  · obtain rfl : ho = h9 := m_inj (by omega) (by omega) e9
    obtain rfl : hm = k9 := m_inj (by omega) (by omega) f9
    have hD := hD8
    refine W.eq (g2 := F0 m 661 ls [.int (nI nf)]) rfl ?_
    refine un_top (y := nI nf) rfl ?_
    refine lv_aload_n hx hb dL_law_661 rfl (lv_at hl 2 rfl) ?_
    refine lv_iconst (v := nI 0) hx hb dL_law_662 (by decide) ?_
    have hb663_60 := hub 0 0
    refine un_ald (L := (un (un L 2 (4 * nf) pr) 2 ((4 * nf) + 1) (L 0 3))) hx hb hE hU 0 (by decide) 0 (show 0 < 4 from (by decide)) dL_law_663 ?_
    refine un_top (y := nI (L 0 0)) (congrArg nI (by simp [un])) ?_
    refine un_top (y := nI nf) (congrArg nI hn00) ?_
    refine un_cne (tgt := 671) hx hb dL_law_664 (by decide) (by omega) (by omega) (fun c1 => absurd rfl c1) (fun c1 => ?_)
    refine lv_iconst (v := nI 1) hx hb dL_law_667 (by decide) ?_
    refine lv_goto (tgt := 672) hx hb dL_law_668 (by decide) ?_
    refine lv_istore (lv' := [(11, .int (nI 1)), (0, .ref b), (1, .ref (ad 0 0)), (2, .ref (ua 0)), (3, .ref (ua 1)), (4, .ref (ua 2)), (5, .ref (ua 3)), (6, .ref (ua 4)), (7, .ref (ua 5)), (8, .ref (ua 6)), (9, .ref (ua 7)), (10, .ref (ua 8)), (12, .int (nI t)), (14, .int (nI kd)), (15, .int (nI y)), (16, .int (nI ho)), (17, .int (nI hm)), (18, .int (nI pr)), (19, .int (nI fi)), (20, .int (nI ci))]) hx hb dL_law_672 hl (by decide) rfl (fun ls hl => ?_)
    refine lv_aload_n hx hb dL_law_674 rfl (lv_at hl 3 rfl) ?_
    refine lv_iconst (v := nI 0) hx hb dL_law_675 (by decide) ?_
    refine lv_dup2_11 hx hb dL_law_676 rfl rfl ?_
    have hb677_71 := hub 0 0
    refine un_ald (L := (un (un L 2 (4 * nf) pr) 2 ((4 * nf) + 1) (L 0 3))) hx hb hE hU 0 (by decide) 0 (show 0 < 4 from (by decide)) dL_law_677 ?_
    refine un_top (y := nI (L 0 0)) (congrArg nI (by simp [un])) ?_
    refine un_top (y := nI nf) (congrArg nI hn00) ?_
    refine lv_iconst (v := nI 1) hx hb dL_law_678 (by decide) ?_
    refine un_add hx hb dL_law_679 ?_
    refine un_ast (L := (un (un L 2 (4 * nf) pr) 2 ((4 * nf) + 1) (L 0 3))) (x := (nf + 1)) hx hb hE hU hUD hS 0 (by decide) 0 (show 0 < 4 from (by decide)) dL_law_680 (fun H locs hU hz9 ho9 hS => ?_)
    have hW := hW.keptU hD (k := 0) (by decide) ho9
    refine lv_goto (tgt := 1624) hx hb dL_law_681 (by decide) ?_
    have hlr2 := lr_begin hlr hnf (q := pr) (by omega)
    rw [show tr pr = ho * 4 + hm by unfold tr; omega] at hlr2
    exact hK (ad2 ad 8 nf q8) (nf + 1) nc (ad2 r 8 nf (ho * 4 + hm)) (wr (c_file v nf (v 0 0 6)) 0 0 3 (nI (nf + 1))) (wm (wm (wm (wm w 5 nf (nI (ho * 4 + hm))) 6 nf (w 26 24)) 7 nf 0) 26 4 (nI (nf + 1))) (un (un (un L 2 (4 * nf) pr) 2 ((4 * nf) + 1) (L 0 3)) 0 0 (nf + 1)) H _ _ ⟨rfl, hW, hU, i_begin hinv hr0 (by omega), hlr2, le7_begin h7, hD⟩ hS (lv_sub hl [1, 2, 3, 4, 5, 6, 7, 8, 9, 10, 11, 0, 12, 14] rfl)
  · exact absurd ⟨ix_nI hho (by decide), ix_nI hhm (by decide)⟩ hz
  · exact absurd (m_inj (by omega) (by omega) hz) hne
  · exact absurd hz (by omega)
set_option maxHeartbeats 8000000 in
set_option maxRecDepth 100000 in
theorem op_agree {p : Program} {l : Launch} {e : Env} {s : State} {m : MethodId} {below : List Frame} {meth : Method} {c : Code} {G : va_G} {ca : Nat → ClassId} {A : Nat → Prop} {ua : Nat → Nat} {b Ls : Nat} {xs : Nat → Int32} {h1 t y : Nat} {cells slots : Nat} {Q : State → Prop} {ad : Nat → Nat → Nat} {nf nc : Nat} {r : rh_R} {v : rh_V} {w : rh_Wm} {L : u_L} {H : Heap} {locs : List Loc} {ls : Array Slot} {kd ho hm pr fi ci : Nat} (C : lwC p l s m c G ca A ua b Ls xs) (hLS : lwS G ca A ua h1 ad nf nc r v w L H) (hS : va_S A s.heap H locs) (hl : lv_has ls 24 [(0, .ref b), (1, .ref h1), (2, .ref (ua 0)), (3, .ref (ua 1)), (4, .ref (ua 2)), (5, .ref (ua 3)), (6, .ref (ua 4)), (7, .ref (ua 5)), (8, .ref (ua 6)), (9, .ref (ua 7)), (10, .ref (ua 8)), (11, .int (nI 1)), (12, .int (nI t)), (14, .int (nI kd)), (15, .int (nI y)), (16, .int (nI ho)), (17, .int (nI hm)), (18, .int (nI pr)), (19, .int (nI fi)), (20, .int (nI ci))]) (hyb : y < 100000000) (hho : ho < 4) (hhm : hm < 4) (hne : ho ≠ hm) (hpr : pr = ho + 4 * hm) (hfi : (nf = 0 ∧ fi = 0) ∨ fi < nf) (hci : (nc = 0 ∧ ci = 0) ∨ ci < nc) (hcl : cells + 10 ≤ 665269) (hsl : slots + 80 ≤ 7105890) (hK : lwK p l e s m below meth c G ca A ua b h1 t y cells slots Q) : W p l e room_1 s m #[Value.ref b] below meth c H locs cells slots Q (F0 m 1292 ls []) := by
  obtain ⟨hx, hb, hml, hown, hts, hE, hnc9, hlf, hA, hbA, hbl, hX, hLm, hUD⟩ := C
  obtain ⟨rfl, hW, hU, hinv, hlr, h7, hD⟩ := hLS
  have hub := hlr.1
  have hla := hlr.2.2.1
  have hn00 := hlr.2.1.1.1
  have hn16 := hlr.2.1.1.2
  have hn01 := hlr.2.1.2.1.1
  have hn40 := hlr.2.1.2.1.2
  have hn36 := hlr.2.1.2.2.2.1
  have hlk := o_lk hinv hlr
  have hnow := o_now hinv hlr
  have hl : lv_has ls 24 [(0, .ref b), (1, .ref (ad 0 0)), (2, .ref (ua 0)), (3, .ref (ua 1)), (4, .ref (ua 2)), (5, .ref (ua 3)), (6, .ref (ua 4)), (7, .ref (ua 5)), (8, .ref (ua 6)), (9, .ref (ua 7)), (10, .ref (ua 8)), (11, .int (nI 1)), (12, .int (nI t)), (14, .int (nI kd)), (15, .int (nI y)), (16, .int (nI ho)), (17, .int (nI hm)), (18, .int (nI pr)), (19, .int (nI fi)), (20, .int (nI ci))] := hl
  refine lv_iload hx hb dL_law_1292 (lv_at hl 14 rfl) ?_
  refine lv_bipush (v := nI 12) hx hb dL_law_1294 (by decide) ?_
  refine un_div hx hb dL_law_1296 (by omega) (by decide) (by decide) ?_
  have jn1312_17 : ∀ (m1 : Nat), (y % 2 = 0 ∧ m1 = 1000001) ∨ (¬ y % 2 = 0 ∧ m1 = 1500) → W p l e room_1 s m #[Value.ref b] below meth c H locs cells slots (Q) (F0 m 1312 ls [.int (nI m1), .int (nI (y / 12))]) := by
    intro m1 hm1
    refine un_rem hx hb dL_law_1312 (by omega) (by omega) (by omega) ?_
    obtain ⟨vo, hvov⟩ : ∃ z : Nat, z = ((y / 12) % m1) := ⟨_, rfl⟩
    refine un_top (y := nI vo) (congrArg nI hvov.symm) ?_
    have hvo : vo ≤ 1000000 := by have := Nat.mod_lt (y / 12) (show m1 > 0 by omega); omega
    refine lv_istore (lv' := [(21, .int (nI vo)), (0, .ref b), (1, .ref (ad 0 0)), (2, .ref (ua 0)), (3, .ref (ua 1)), (4, .ref (ua 2)), (5, .ref (ua 3)), (6, .ref (ua 4)), (7, .ref (ua 5)), (8, .ref (ua 6)), (9, .ref (ua 7)), (10, .ref (ua 8)), (11, .int (nI 1)), (12, .int (nI t)), (14, .int (nI kd)), (15, .int (nI y)), (16, .int (nI ho)), (17, .int (nI hm)), (18, .int (nI pr)), (19, .int (nI fi)), (20, .int (nI ci))]) hx hb dL_law_1313 hl (by decide) rfl (fun ls hl => ?_)
    refine lv_iload hx hb dL_law_1315 (lv_at hl 15 rfl) ?_
    refine lv_bipush (v := nI 9) hx hb dL_law_1317 (by decide) ?_
    refine un_div hx hb dL_law_1319 (by omega) (by decide) (by decide) ?_
    refine lv_sipush (v := nI 10001) hx hb dL_law_1320 (by decide) ?_
    refine un_rem hx hb dL_law_1323 (by omega) (by decide) (by decide) ?_
    obtain ⟨rt, hrtv⟩ : ∃ z : Nat, z = ((y / 9) % 10001) := ⟨_, rfl⟩
    refine un_top (y := nI rt) (congrArg nI hrtv.symm) ?_
    have hrt : rt ≤ 10000 := by omega
    refine lv_istore (lv' := [(22, .int (nI rt)), (21, .int (nI vo)), (0, .ref b), (1, .ref (ad 0 0)), (2, .ref (ua 0)), (3, .ref (ua 1)), (4, .ref (ua 2)), (5, .ref (ua 3)), (6, .ref (ua 4)), (7, .ref (ua 5)), (8, .ref (ua 6)), (9, .ref (ua 7)), (10, .ref (ua 8)), (11, .int (nI 1)), (12, .int (nI t)), (14, .int (nI kd)), (15, .int (nI y)), (16, .int (nI ho)), (17, .int (nI hm)), (18, .int (nI pr)), (19, .int (nI fi)), (20, .int (nI ci))]) hx hb dL_law_1324 hl (by decide) rfl (fun ls hl => ?_)
    refine lv_aload hx hb dL_law_1326 (lv_at hl 12 rfl) ?_
    refine lv_iload hx hb dL_law_1328 (lv_at hl 19 rfl) ?_
    refine lv_iload hx hb dL_law_1330 (lv_at hl 1 rfl) ?_
    refine lv_iconst (v := nI 1) hx hb dL_law_1332 (by decide) ?_
    refine un_add hx hb dL_law_1333 ?_
    refine un_ast (L := L) (x := (vo + 1)) hx hb hE hU hUD hS 8 (by decide) pr (show pr < 48 from (by omega)) dL_law_1334 (fun H locs hU hz9 ho9 hS => ?_)
    have hW := hW.keptU hD (k := 8) (by decide) ho9
    refine lv_aload hx hb dL_law_1335 (lv_at hl 12 rfl) ?_
    refine lv_bipush (v := nI 16) hx hb dL_law_1337 (by decide) ?_
    refine lv_iload hx hb dL_law_1339 (lv_at hl 19 rfl) ?_
    refine un_add hx hb dL_law_1341 ?_
    refine lv_iconst (v := nI 2) hx hb dL_law_1342 (by decide) ?_
    refine lv_iload hx hb dL_law_1343 (lv_at hl 0 rfl) ?_
    refine un_mul hx hb dL_law_1345 ?_
    have jn1359_47 : ∀ (bk1 : Nat), (y % 5 < 2 ∧ bk1 = 1) ∨ (¬ y % 5 < 2 ∧ bk1 = 0) → W p l e room_1 s m #[Value.ref b] below meth c H locs cells slots (Q) (F0 m 1359 ls [.int (nI bk1), .int (nI (2 * rt)), .int (nI (16 + pr)), .ref (ua 8)]) := by
      intro bk1 hbk1
      refine un_add hx hb dL_law_1359 ?_
      refine un_ast (L := (un L 8 pr (vo + 1))) (x := ((2 * rt) + bk1)) hx hb hE hU hUD hS 8 (by decide) (16 + pr) (show (16 + pr) < 48 from (by omega)) dL_law_1360 (fun H locs hU hz9 ho9 hS => ?_)
      have hW := hW.keptU hD (k := 8) (by decide) ho9
      refine lv_aload_n hx hb dL_law_1361 rfl (lv_at hl 3 rfl) ?_
      refine lv_iload hx hb dL_law_1362 (lv_at hl 17 rfl) ?_
      refine lv_iload hx hb dL_law_1364 (lv_at hl 18 rfl) ?_
      refine lv_iload hx hb dL_law_1366 (lv_at hl 1 rfl) ?_
      refine lv_iload hx hb dL_law_1368 (lv_at hl 0 rfl) ?_
      have jn1383_57 : ∀ (bk2 : Nat), (y % 5 < 2 ∧ bk2 = 1) ∨ (¬ y % 5 < 2 ∧ bk2 = 0) → W p l e room_1 s m #[Value.ref b] below meth c H locs cells slots (Q) (F0 m 1383 ls [.int (nI bk2), .int (nI rt), .int (nI vo), .int (nI hm), .int (nI ho), .ref (ad 0 0)]) := by
        intro bk2 hbk2
        have hA19 : ∀ q, lH A ua q → A q := fun q h => h.1
        have hB19 := lH_up hA hS.1 hU
        refine rh_call2 (vx_runV (As := [.int (nI ho), .int (nI hm), .int (nI vo), .int (nI rt), .int (nI bk2)]) (rest := []) ⟨hx, hb, hml, hown, hts⟩ (ct_X4_agree l hlf hD hinv.1 (nI ho) (nI hm) (nI vo) (nI rt) (nI bk2) (u_bit (by omega))) (cwV 5 hts gL_law_X4_agree rfl rfl rfl (by decide +kernel) ⟨by decide, by decide⟩) (rh_preV2 hE hS hA19 hB19 (hW.at 0 0 Nat.zero_lt_one) rfl hW) rfl rfl hl.1 rfl (lv_room (Nat.le_of_ble_eq_true rfl)) dL_law_1383 ⟨show cells + 5 ≤ 665269 by omega, show slots + 40 ≤ 7105890 by omega⟩) hS hA19 (fun E ce q9 H locs hX9 hz9 hk9 hS g1 g2 g3 => ?_) (fun o H locs hN9 hz9 hk9 hS => ?_)
        · obtain ⟨hX9, -⟩ := hX9
          rcases hX9 with ⟨-, z⟩ | ⟨-, -, -, z⟩
          · exact absurd ⟨ix_nI hho (by decide), ix_nI hhm (by decide)⟩ z
          · exact z.elim (fun z => absurd (m_inj (by omega) (by omega) z) hne) (fun z => absurd ⟨u_rg (a := 0) (b := 1000000) (Nat.zero_le _) hvo (by decide), u_rg (a := 0) (b := 10000) (Nat.zero_le _) hrt (by decide)⟩ z)
        obtain ⟨h9, k9, hh9, hk9x, hne9, e9, f9, hr0, hr1, rfl, hW⟩ := hN9
        have hU := hU.kept (fun k hk => hk9 _ (hU.lt hk) (fun z => z.2 k hk rfl))
        obtain rfl : ho = h9 := m_inj (by omega) (by omega) e9
        obtain rfl : hm = k9 := m_inj (by omega) (by omega) f9
        refine W.eq (g2 := F0 m 1386 ls []) rfl ?_
        refine lv_goto (tgt := 1624) hx hb dL_law_1386 (by decide) ?_
        have hlr2 := lr_agree hlr (q := pr) (vo := vo) (rt := rt) (b := bk2) (by omega) hvo hrt (by omega)
        rw [show tr pr = ho * 4 + hm by unfold tr; omega] at hlr2
        have hbb : bk1 = bk2 := by omega
        rw [hbb] at hU
        exact hK ad nf nc r (wr (wr (wr v 6 (ho * 4 + hm) 3 (nI vo)) 6 (ho * 4 + hm) 4 (nI rt)) 6 (ho * 4 + hm) 5 (nI bk2)) (wm (wm (wm (wm w 19 (ho * 4 + hm) 1) 20 (ho * 4 + hm) (nI vo)) 21 (ho * 4 + hm) (nI rt)) 22 (ho * 4 + hm) (nI bk2)) (un (un L 8 pr (vo + 1)) 8 (16 + pr) (2 * rt + bk2)) H _ _ ⟨rfl, hW, hU, i_agree hinv _ _ _, hlr2, (le7_eq h7 rfl (fun _ => rfl)), hD⟩ hS (lv_sub hl [2, 3, 4, 5, 6, 7, 8, 9, 10, 11, 12, 13, 14, 16] rfl)
      refine lv_iload hx hb dL_law_1370 (lv_at hl 16 rfl) ?_
      refine lv_iconst (v := nI 5) hx hb dL_law_1372 (by decide) ?_
      refine un_rem hx hb dL_law_1373 (by omega) (by decide) (by decide) ?_
      refine lv_iconst (v := nI 2) hx hb dL_law_1374 (by decide) ?_
      refine un_cge (tgt := 1382) hx hb dL_law_1375 (by decide) (by omega) (by decide) (fun c1 => ?_) (fun c1 => ?_)
      · refine lv_iconst (v := nI 0) hx hb dL_law_1382 (by decide) ?_
        exact jn1383_57 0 (by omega)
      · refine lv_iconst (v := nI 1) hx hb dL_law_1378 (by decide) ?_
        refine lv_goto (tgt := 1383) hx hb dL_law_1379 (by decide) ?_
        exact jn1383_57 1 (by omega)
    refine lv_iload hx hb dL_law_1346 (lv_at hl 16 rfl) ?_
    refine lv_iconst (v := nI 5) hx hb dL_law_1348 (by decide) ?_
    refine un_rem hx hb dL_law_1349 (by omega) (by decide) (by decide) ?_
    refine lv_iconst (v := nI 2) hx hb dL_law_1350 (by decide) ?_
    refine un_cge (tgt := 1358) hx hb dL_law_1351 (by decide) (by omega) (by decide) (fun c2 => ?_) (fun c2 => ?_)
    · refine lv_iconst (v := nI 0) hx hb dL_law_1358 (by decide) ?_
      exact jn1359_47 0 (by omega)
    · refine lv_iconst (v := nI 1) hx hb dL_law_1354 (by decide) ?_
      refine lv_goto (tgt := 1359) hx hb dL_law_1355 (by decide) ?_
      exact jn1359_47 1 (by omega)
  refine lv_iload hx hb dL_law_1297 (lv_at hl 14 rfl) ?_
  refine lv_iconst (v := nI 2) hx hb dL_law_1299 (by decide) ?_
  refine un_rem hx hb dL_law_1300 (by omega) (by decide) (by decide) ?_
  refine un_ine (tgt := 1309) hx hb dL_law_1301 (by decide) (by omega) (fun c3 => ?_) (fun c3 => ?_)
  · refine lv_sipush (v := nI 1500) hx hb dL_law_1309 (by decide) ?_
    exact jn1312_17 1500 (by omega)
  · refine lv_ldc (v := 1000001) hx hb hown (hts (.constant RL 144 (1000001)) (by decide +kernel)) dL_law_1304 ?_
    refine un_top (y := nI 1000001) rfl ?_
    refine lv_goto (tgt := 1312) hx hb dL_law_1306 (by decide) ?_
    exact jn1312_17 1000001 (by omega)
set_option maxHeartbeats 8000000 in
set_option maxRecDepth 100000 in
theorem op_promise {p : Program} {l : Launch} {e : Env} {s : State} {m : MethodId} {below : List Frame} {meth : Method} {c : Code} {G : va_G} {ca : Nat → ClassId} {A : Nat → Prop} {ua : Nat → Nat} {b Ls : Nat} {xs : Nat → Int32} {h1 t y : Nat} {cells slots : Nat} {Q : State → Prop} {ad : Nat → Nat → Nat} {nf nc : Nat} {r : rh_R} {v : rh_V} {w : rh_Wm} {L : u_L} {H : Heap} {locs : List Loc} {ls : Array Slot} {kd ho hm pr fi ci : Nat} (C : lwC p l s m c G ca A ua b Ls xs) (hLS : lwS G ca A ua h1 ad nf nc r v w L H) (hS : va_S A s.heap H locs) (hl : lv_has ls 24 [(0, .ref b), (1, .ref h1), (2, .ref (ua 0)), (3, .ref (ua 1)), (4, .ref (ua 2)), (5, .ref (ua 3)), (6, .ref (ua 4)), (7, .ref (ua 5)), (8, .ref (ua 6)), (9, .ref (ua 7)), (10, .ref (ua 8)), (11, .int (nI 1)), (12, .int (nI t)), (14, .int (nI kd)), (15, .int (nI y)), (16, .int (nI ho)), (17, .int (nI hm)), (18, .int (nI pr)), (19, .int (nI fi)), (20, .int (nI ci))]) (hyb : y < 100000000) (hho : ho < 4) (hhm : hm < 4) (hne : ho ≠ hm) (hpr : pr = ho + 4 * hm) (hfi : (nf = 0 ∧ fi = 0) ∨ fi < nf) (hci : (nc = 0 ∧ ci = 0) ∨ ci < nc) (hcl : cells + 10 ≤ 665269) (hsl : slots + 80 ≤ 7105890) (hK : lwK p l e s m below meth c G ca A ua b h1 t y cells slots Q) : W p l e room_1 s m #[Value.ref b] below meth c H locs cells slots Q (F0 m 1396 ls []) := by
  obtain ⟨hx, hb, hml, hown, hts, hE, hnc9, hlf, hA, hbA, hbl, hX, hLm, hUD⟩ := C
  obtain ⟨rfl, hW, hU, hinv, hlr, h7, hD⟩ := hLS
  have hub := hlr.1
  have hla := hlr.2.2.1
  have hn00 := hlr.2.1.1.1
  have hn16 := hlr.2.1.1.2
  have hn01 := hlr.2.1.2.1.1
  have hn40 := hlr.2.1.2.1.2
  have hn36 := hlr.2.1.2.2.2.1
  have hlk := o_lk hinv hlr
  have hnow := o_now hinv hlr
  have hl : lv_has ls 24 [(0, .ref b), (1, .ref (ad 0 0)), (2, .ref (ua 0)), (3, .ref (ua 1)), (4, .ref (ua 2)), (5, .ref (ua 3)), (6, .ref (ua 4)), (7, .ref (ua 5)), (8, .ref (ua 6)), (9, .ref (ua 7)), (10, .ref (ua 8)), (11, .int (nI 1)), (12, .int (nI t)), (14, .int (nI kd)), (15, .int (nI y)), (16, .int (nI ho)), (17, .int (nI hm)), (18, .int (nI pr)), (19, .int (nI fi)), (20, .int (nI ci))] := hl
  refine lv_iload hx hb dL_law_1396 (lv_at hl 14 rfl) ?_
  refine lv_bipush (v := nI 12) hx hb dL_law_1398 (by decide) ?_
  refine un_div hx hb dL_law_1400 (by omega) (by decide) (by decide) ?_
  have jn1416_17 : ∀ (m1 : Nat), (y % 2 = 0 ∧ m1 = 100000001) ∨ (¬ y % 2 = 0 ∧ m1 = 3000) → W p l e room_1 s m #[Value.ref b] below meth c H locs cells slots (Q) (F0 m 1416 ls [.int (nI m1), .int (nI (y / 12))]) := by
    intro m1 hm1
    refine un_rem hx hb dL_law_1416 (by omega) (by omega) (by omega) ?_
    obtain ⟨pm, hpmv⟩ : ∃ z : Nat, z = ((y / 12) % m1) := ⟨_, rfl⟩
    refine un_top (y := nI pm) (congrArg nI hpmv.symm) ?_
    have hpm : pm ≤ 100000000 := by have := Nat.mod_lt (y / 12) (show m1 > 0 by omega); omega
    refine lv_istore (lv' := [(21, .int (nI pm)), (0, .ref b), (1, .ref (ad 0 0)), (2, .ref (ua 0)), (3, .ref (ua 1)), (4, .ref (ua 2)), (5, .ref (ua 3)), (6, .ref (ua 4)), (7, .ref (ua 5)), (8, .ref (ua 6)), (9, .ref (ua 7)), (10, .ref (ua 8)), (11, .int (nI 1)), (12, .int (nI t)), (14, .int (nI kd)), (15, .int (nI y)), (16, .int (nI ho)), (17, .int (nI hm)), (18, .int (nI pr)), (19, .int (nI fi)), (20, .int (nI ci))]) hx hb dL_law_1417 hl (by decide) rfl (fun ls hl => ?_)
    refine lv_aload_n hx hb dL_law_1419 rfl (lv_at hl 2 rfl) ?_
    refine lv_iload hx hb dL_law_1420 (lv_at hl 16 rfl) ?_
    refine lv_iload hx hb dL_law_1422 (lv_at hl 17 rfl) ?_
    refine lv_iload hx hb dL_law_1424 (lv_at hl 0 rfl) ?_
    have hA19 : ∀ q, lH A ua q → A q := fun q h => h.1
    have hB19 := lH_up hA hS.1 hU
    refine rh_call2 (vx_runV (As := [.int (nI ho), .int (nI hm), .int (nI pm)]) (rest := []) ⟨hx, hb, hml, hown, hts⟩ (ct_X4_promise l hlf hD hinv.1 (nI ho) (nI hm) (nI pm)) (cwV 3 hts gL_law_X4_promise rfl rfl rfl (by decide +kernel) ⟨by decide, by decide⟩) (rh_preV2 hE hS hA19 hB19 (hW.at 0 0 Nat.zero_lt_one) rfl hW) rfl rfl hl.1 rfl (lv_room (Nat.le_of_ble_eq_true rfl)) dL_law_1426 ⟨show cells + 5 ≤ 665269 by omega, show slots + 40 ≤ 7105890 by omega⟩) hS hA19 (fun E ce q9 H locs hX9 hz9 hk9 hS g1 g2 g3 => ?_) (fun o H locs hN9 hz9 hk9 hS => ?_)
    · obtain ⟨hX9, -⟩ := hX9
      rcases hX9 with ⟨-, z⟩ | ⟨-, -, -, z⟩
      · exact absurd ⟨ix_nI hho (by decide), ix_nI hhm (by decide)⟩ z
      · exact z.elim (fun z => absurd (m_inj (by omega) (by omega) z) hne) (fun z => absurd (u_rg (a := 0) (b := 100000000) (Nat.zero_le _) hpm (by decide)) z)
    obtain ⟨h9, k9, hh9, hk9x, hne9, e9, f9, hr0, rfl, hW⟩ := hN9
    have hU := hU.kept (fun k hk => hk9 _ (hU.lt hk) (fun z => z.2 k hk rfl))
    obtain rfl : ho = h9 := m_inj (by omega) (by omega) e9
    obtain rfl : hm = k9 := m_inj (by omega) (by omega) f9
    refine W.eq (g2 := F0 m 1429 ls [.int (v 6 (ho * 4 + hm) 2)]) rfl ?_
    refine un_top (y := nI (L 8 (32 + pr))) (by rw [show ho * 4 + hm = tr pr by unfold tr; omega]; exact (o_prom hinv hlr (by omega)).1) ?_
    refine lv_aload hx hb dL_law_1429 (lv_at hl 11 rfl) ?_
    refine lv_bipush (v := nI 32) hx hb dL_law_1431 (by decide) ?_
    refine lv_iload hx hb dL_law_1433 (lv_at hl 18 rfl) ?_
    refine un_add hx hb dL_law_1435 ?_
    have hb1436_45 := hub 8 (32 + pr)
    refine un_ald (L := L) hx hb hE hU 8 (by decide) (32 + pr) (show (32 + pr) < 48 from (by omega)) dL_law_1436 ?_
    refine un_cne (tgt := 1444) hx hb dL_law_1437 (by decide) (by omega) (by omega) (fun c1 => absurd rfl c1) (fun c1 => ?_)
    refine lv_iconst (v := nI 1) hx hb dL_law_1440 (by decide) ?_
    refine lv_goto (tgt := 1445) hx hb dL_law_1441 (by decide) ?_
    refine lv_istore (lv' := [(11, .int (nI 1)), (21, .int (nI pm)), (0, .ref b), (1, .ref (ad 0 0)), (2, .ref (ua 0)), (3, .ref (ua 1)), (4, .ref (ua 2)), (5, .ref (ua 3)), (6, .ref (ua 4)), (7, .ref (ua 5)), (8, .ref (ua 6)), (9, .ref (ua 7)), (10, .ref (ua 8)), (12, .int (nI t)), (14, .int (nI kd)), (15, .int (nI y)), (16, .int (nI ho)), (17, .int (nI hm)), (18, .int (nI pr)), (19, .int (nI fi)), (20, .int (nI ci))]) hx hb dL_law_1445 hl (by decide) rfl (fun ls hl => ?_)
    refine lv_aload hx hb dL_law_1447 (lv_at hl 12 rfl) ?_
    refine lv_bipush (v := nI 32) hx hb dL_law_1449 (by decide) ?_
    refine lv_iload hx hb dL_law_1451 (lv_at hl 18 rfl) ?_
    refine un_add hx hb dL_law_1453 ?_
    refine lv_iload hx hb dL_law_1454 (lv_at hl 1 rfl) ?_
    refine un_ast (L := L) (x := pm) hx hb hE hU hUD hS 8 (by decide) (32 + pr) (show (32 + pr) < 48 from (by omega)) dL_law_1456 (fun H locs hU hz9 ho9 hS => ?_)
    have hW := hW.keptU hD (k := 8) (by decide) ho9
    refine lv_goto (tgt := 1624) hx hb dL_law_1457 (by decide) ?_
    have hlr2 := lr_promise hlr (q := pr) (x := pm) (by omega) hpm
    rw [show tr pr = ho * 4 + hm by unfold tr; omega] at hlr2
    exact hK ad nf nc r (wr v 6 (ho * 4 + hm) 2 (nI pm)) (wm w 23 (ho * 4 + hm) (nI pm)) (un L 8 (32 + pr) pm) H _ _ ⟨rfl, hW, hU, i_promise hinv _, hlr2, (le7_eq h7 rfl (fun _ => rfl)), hD⟩ hS (lv_sub hl [2, 3, 4, 5, 6, 7, 8, 9, 10, 11, 12, 0, 13, 15] rfl)
  refine lv_iload hx hb dL_law_1401 (lv_at hl 14 rfl) ?_
  refine lv_iconst (v := nI 2) hx hb dL_law_1403 (by decide) ?_
  refine un_rem hx hb dL_law_1404 (by omega) (by decide) (by decide) ?_
  refine un_ine (tgt := 1413) hx hb dL_law_1405 (by decide) (by omega) (fun c2 => ?_) (fun c2 => ?_)
  · refine lv_sipush (v := nI 3000) hx hb dL_law_1413 (by decide) ?_
    exact jn1416_17 3000 (by omega)
  · refine lv_ldc (v := 100000001) hx hb hown (hts (.constant RL 149 (100000001)) (by decide +kernel)) dL_law_1408 ?_
    refine un_top (y := nI 100000001) rfl ?_
    refine lv_goto (tgt := 1416) hx hb dL_law_1410 (by decide) ?_
    exact jn1416_17 100000001 (by omega)
