/-! ===== a turn ===== -/
set_option maxHeartbeats 16000000 in
set_option maxRecDepth 100000 in
theorem l_turn {p : Program} {l : Launch} {e : Env} {s : State} {m : MethodId} {below : List Frame} {meth : Method} {c : Code} {G : va_G} {ca : Nat → ClassId} {A : Nat → Prop} {ua : Nat → Nat} {b Ls : Nat} {xs : Nat → Int32} {h1 t : Nat} {cells slots : Nat} {Q : State → Prop} {ad : Nat → Nat → Nat} {nf nc : Nat} {r : rh_R} {v : rh_V} {w : rh_Wm} {L : u_L} {H : Heap} {locs : List Loc} {ls : Array Slot} (C : lwC p l s m c G ca A ua b Ls xs) (hLS : lwS G ca A ua h1 ad nf nc r v w L H) (hS : va_S A s.heap H locs) (hl : lv_has ls 24 [(0, .ref b), (1, .ref h1), (2, .ref (ua 0)), (3, .ref (ua 1)), (4, .ref (ua 2)), (5, .ref (ua 3)), (6, .ref (ua 4)), (7, .ref (ua 5)), (8, .ref (ua 6)), (9, .ref (ua 7)), (10, .ref (ua 8)), (11, .int (nI 1)), (12, .int (nI t))]) (ht : t < 120) (hcl : cells + 10 ≤ 665269) (hsl : slots + 80 ≤ 7105890) (hK : ∀ y : Nat, y < 100000000 → lwK p l e s m below meth c G ca A ua b h1 t y cells slots Q) : W p l e room_1 s m #[Value.ref b] below meth c H locs cells slots Q (F0 m 163 ls []) := by
  obtain ⟨hx, hb, hml, hown, hts, hE, hnc9, hlf, hA, hbA, hbl, hX, hLm, hUD⟩ := id C
  obtain ⟨rfl, hW, hU, hinv, hlr, h7, hD⟩ := hLS
  have hub := hlr.1
  have hla := hlr.2.2.1
  have hn00 := hlr.2.1.1.1
  have hn16 := hlr.2.1.1.2
  have hn01 := hlr.2.1.2.1.1
  have hn40 := hlr.2.1.2.1.2
  have hn36 := hlr.2.1.2.2.2.1
  have hlk := o_lk hinv hlr
  have hnow := o_now hinv hlr
  have hl : lv_has ls 24 [(0, .ref b), (1, .ref (ad 0 0)), (2, .ref (ua 0)), (3, .ref (ua 1)), (4, .ref (ua 2)), (5, .ref (ua 3)), (6, .ref (ua 4)), (7, .ref (ua 5)), (8, .ref (ua 6)), (9, .ref (ua 7)), (10, .ref (ua 8)), (11, .int (nI 1)), (12, .int (nI t))] := hl
  have jn201_14 : ∀ (z : Nat), z < 2147483648 → W p l e room_1 s m #[Value.ref b] below meth c H locs cells slots (Q) (F0 m 201 ls [.int (nI z)]) := by
    intro z hz
    refine lv_istore (lv' := [(13, .int (nI z)), (0, .ref b), (1, .ref (ad 0 0)), (2, .ref (ua 0)), (3, .ref (ua 1)), (4, .ref (ua 2)), (5, .ref (ua 3)), (6, .ref (ua 4)), (7, .ref (ua 5)), (8, .ref (ua 6)), (9, .ref (ua 7)), (10, .ref (ua 8)), (11, .int (nI 1)), (12, .int (nI t))]) hx hb dL_law_201 hl (by decide) rfl (fun ls hl => ?_)
    have jn218_17 : ∀ (kd : Nat), kd < 24 → W p l e room_1 s m #[Value.ref b] below meth c H locs cells slots (Q) (F0 m 218 ls [.int (nI kd)]) := by
      intro kd hkd
      refine lv_istore (lv' := [(14, .int (nI kd)), (13, .int (nI z)), (0, .ref b), (1, .ref (ad 0 0)), (2, .ref (ua 0)), (3, .ref (ua 1)), (4, .ref (ua 2)), (5, .ref (ua 3)), (6, .ref (ua 4)), (7, .ref (ua 5)), (8, .ref (ua 6)), (9, .ref (ua 7)), (10, .ref (ua 8)), (11, .int (nI 1)), (12, .int (nI t))]) hx hb dL_law_218 hl (by decide) rfl (fun ls hl => ?_)
      refine lv_iload hx hb dL_law_220 (lv_at hl 1 rfl) ?_
      refine lv_bipush (v := nI 24) hx hb dL_law_222 (by decide) ?_
      refine un_div hx hb dL_law_224 (by omega) (by decide) (by decide) ?_
      obtain ⟨yy, hyyv⟩ : ∃ z9 : Nat, z9 = (z / 24) := ⟨_, rfl⟩
      refine un_top (y := nI yy) (congrArg nI hyyv.symm) ?_
      have hyb : yy < 100000000 := by omega
      refine lv_istore (lv' := [(15, .int (nI yy)), (14, .int (nI kd)), (13, .int (nI z)), (0, .ref b), (1, .ref (ad 0 0)), (2, .ref (ua 0)), (3, .ref (ua 1)), (4, .ref (ua 2)), (5, .ref (ua 3)), (6, .ref (ua 4)), (7, .ref (ua 5)), (8, .ref (ua 6)), (9, .ref (ua 7)), (10, .ref (ua 8)), (11, .int (nI 1)), (12, .int (nI t))]) hx hb dL_law_225 hl (by decide) rfl (fun ls hl => ?_)
      have jn244_27 : ∀ (ho : Nat), ho < 4 → W p l e room_1 s m #[Value.ref b] below meth c H locs cells slots (Q) (F0 m 244 ls [.int (nI ho)]) := by
        intro ho hho
        refine lv_istore (lv' := [(16, .int (nI ho)), (15, .int (nI yy)), (14, .int (nI kd)), (13, .int (nI z)), (0, .ref b), (1, .ref (ad 0 0)), (2, .ref (ua 0)), (3, .ref (ua 1)), (4, .ref (ua 2)), (5, .ref (ua 3)), (6, .ref (ua 4)), (7, .ref (ua 5)), (8, .ref (ua 6)), (9, .ref (ua 7)), (10, .ref (ua 8)), (11, .int (nI 1)), (12, .int (nI t))]) hx hb dL_law_244 hl (by decide) rfl (fun ls hl => ?_)
        refine lv_iload hx hb dL_law_246 (lv_at hl 0 rfl) ?_
        refine lv_iconst (v := nI 1) hx hb dL_law_248 (by decide) ?_
        refine un_add hx hb dL_law_249 ?_
        refine lv_iload hx hb dL_law_250 (lv_at hl 1 rfl) ?_
        refine lv_bipush (v := nI 12) hx hb dL_law_252 (by decide) ?_
        refine un_div hx hb dL_law_254 (by omega) (by decide) (by decide) ?_
        have jn267_36 : ∀ (m1 : Nat), 1 ≤ m1 → m1 ≤ 3 → W p l e room_1 s m #[Value.ref b] below meth c H locs cells slots (Q) (F0 m 267 ls [.int (nI m1), .int (nI (yy / 12)), .int (nI (ho + 1))]) := by
          intro m1 hm1 hm2
          refine un_rem hx hb dL_law_267 (by omega) (by omega) (by omega) ?_
          obtain ⟨rr, hrrv⟩ : ∃ z9 : Nat, z9 = ((yy / 12) % m1) := ⟨_, rfl⟩
          refine un_top (y := nI rr) (congrArg nI hrrv.symm) ?_
          have hrr : rr ≤ 2 := by have := Nat.mod_lt (yy / 12) (show m1 > 0 by omega); omega
          refine un_add hx hb dL_law_268 ?_
          refine lv_iconst (v := nI 4) hx hb dL_law_269 (by decide) ?_
          refine un_rem hx hb dL_law_270 (by omega) (by decide) (by decide) ?_
          obtain ⟨hm, hhmv⟩ : ∃ z9 : Nat, z9 = (((ho + 1) + rr) % 4) := ⟨_, rfl⟩
          refine un_top (y := nI hm) (congrArg nI hhmv.symm) ?_
          have hhm : hm < 4 := by omega
          have hne : ho ≠ hm := by omega
          refine lv_istore (lv' := [(17, .int (nI hm)), (16, .int (nI ho)), (15, .int (nI yy)), (14, .int (nI kd)), (13, .int (nI z)), (0, .ref b), (1, .ref (ad 0 0)), (2, .ref (ua 0)), (3, .ref (ua 1)), (4, .ref (ua 2)), (5, .ref (ua 3)), (6, .ref (ua 4)), (7, .ref (ua 5)), (8, .ref (ua 6)), (9, .ref (ua 7)), (10, .ref (ua 8)), (11, .int (nI 1)), (12, .int (nI t))]) hx hb dL_law_271 hl (by decide) rfl (fun ls hl => ?_)
          refine lv_iload hx hb dL_law_273 (lv_at hl 1 rfl) ?_
          refine lv_iconst (v := nI 4) hx hb dL_law_275 (by decide) ?_
          refine lv_iload hx hb dL_law_276 (lv_at hl 0 rfl) ?_
          refine un_mul hx hb dL_law_278 ?_
          refine un_add hx hb dL_law_279 ?_
          obtain ⟨pr, hprv⟩ : ∃ z9 : Nat, z9 = (ho + (4 * hm)) := ⟨_, rfl⟩
          refine un_top (y := nI pr) (congrArg nI hprv.symm) ?_
          have hpr : pr = ho + 4 * hm := hprv
          refine lv_istore (lv' := [(18, .int (nI pr)), (17, .int (nI hm)), (16, .int (nI ho)), (15, .int (nI yy)), (14, .int (nI kd)), (13, .int (nI z)), (0, .ref b), (1, .ref (ad 0 0)), (2, .ref (ua 0)), (3, .ref (ua 1)), (4, .ref (ua 2)), (5, .ref (ua 3)), (6, .ref (ua 4)), (7, .ref (ua 5)), (8, .ref (ua 6)), (9, .ref (ua 7)), (10, .ref (ua 8)), (11, .int (nI 1)), (12, .int (nI t))]) hx hb dL_law_280 hl (by decide) rfl (fun ls hl => ?_)
          have jn298_59 : ∀ (f0 : Nat), (nf = 0 ∧ f0 = 0) ∨ f0 < nf → W p l e room_1 s m #[Value.ref b] below meth c H locs cells slots (Q) (F0 m 298 ls [.int (nI f0)]) := by
            intro f0 hf0
            refine lv_istore (lv' := [(19, .int (nI f0)), (18, .int (nI pr)), (17, .int (nI hm)), (16, .int (nI ho)), (15, .int (nI yy)), (14, .int (nI kd)), (13, .int (nI z)), (0, .ref b), (1, .ref (ad 0 0)), (2, .ref (ua 0)), (3, .ref (ua 1)), (4, .ref (ua 2)), (5, .ref (ua 3)), (6, .ref (ua 4)), (7, .ref (ua 5)), (8, .ref (ua 6)), (9, .ref (ua 7)), (10, .ref (ua 8)), (11, .int (nI 1)), (12, .int (nI t))]) hx hb dL_law_298 hl (by decide) rfl (fun ls hl => ?_)
            have jn316_62 : ∀ (c0 : Nat), (nc = 0 ∧ c0 = 0) ∨ c0 < nc → W p l e room_1 s m #[Value.ref b] below meth c H locs cells slots (Q) (F0 m 316 ls [.int (nI c0)]) := by
              intro c0 hc0
              refine lv_istore (lv' := [(20, .int (nI c0)), (19, .int (nI f0)), (18, .int (nI pr)), (17, .int (nI hm)), (16, .int (nI ho)), (15, .int (nI yy)), (14, .int (nI kd)), (13, .int (nI z)), (0, .ref b), (1, .ref (ad 0 0)), (2, .ref (ua 0)), (3, .ref (ua 1)), (4, .ref (ua 2)), (5, .ref (ua 3)), (6, .ref (ua 4)), (7, .ref (ua 5)), (8, .ref (ua 6)), (9, .ref (ua 7)), (10, .ref (ua 8)), (11, .int (nI 1)), (12, .int (nI t))]) hx hb dL_law_316 hl (by decide) rfl (fun ls hl => ?_)
              have jn364_65 : ∀ (fi : Nat), (nf = 0 ∧ fi = 0) ∨ fi < nf → ∀ (ls : Array Slot), lv_has ls 24 [(0, .ref b), (1, .ref (ad 0 0)), (2, .ref (ua 0)), (3, .ref (ua 1)), (4, .ref (ua 2)), (5, .ref (ua 3)), (6, .ref (ua 4)), (7, .ref (ua 5)), (8, .ref (ua 6)), (9, .ref (ua 7)), (10, .ref (ua 8)), (11, .int (nI 1)), (12, .int (nI t)), (14, .int (nI kd)), (15, .int (nI yy)), (16, .int (nI ho)), (17, .int (nI hm)), (18, .int (nI pr)), (19, .int (nI fi)), (20, .int (nI c0))] → ∀ (H : Heap) (locs : List Loc), rh_W G ca ad nf nc r v H → u_W G ca ua L H → va_S A s.heap H locs → W p l e room_1 s m #[Value.ref b] below meth c H locs cells slots (Q) (F0 m 364 ls []) := by
                intro fi hfi ls hl H locs hW hU hS
                have jn415_67 : ∀ (ci : Nat), (nc = 0 ∧ ci = 0) ∨ ci < nc → ∀ (ls : Array Slot), lv_has ls 24 [(0, .ref b), (1, .ref (ad 0 0)), (2, .ref (ua 0)), (3, .ref (ua 1)), (4, .ref (ua 2)), (5, .ref (ua 3)), (6, .ref (ua 4)), (7, .ref (ua 5)), (8, .ref (ua 6)), (9, .ref (ua 7)), (10, .ref (ua 8)), (11, .int (nI 1)), (12, .int (nI t)), (14, .int (nI kd)), (15, .int (nI yy)), (16, .int (nI ho)), (17, .int (nI hm)), (18, .int (nI pr)), (19, .int (nI fi)), (20, .int (nI ci))] → ∀ (H : Heap) (locs : List Loc), rh_W G ca ad nf nc r v H → u_W G ca ua L H → va_S A s.heap H locs → W p l e room_1 s m #[Value.ref b] below meth c H locs cells slots (Q) (F0 m 415 ls []) := by
                  intro ci hci ls hl H locs hW hU hS
                  refine lv_iload hx hb dL_law_415 (lv_at hl 13 rfl) ?_
                  refine un_ine (tgt := 553) hx hb dL_law_417 (by decide) (by omega) (fun c1 => ?_) (fun c1 => ?_)
                  · refine lv_iload hx hb dL_law_553 (lv_at hl 13 rfl) ?_
                    refine lv_iconst (v := nI 1) hx hb dL_law_555 (by decide) ?_
                    refine un_cne (tgt := 614) hx hb dL_law_556 (by decide) (by omega) (by decide) (fun c2 => ?_) (fun c2 => ?_)
                    · refine lv_iload hx hb dL_law_614 (lv_at hl 13 rfl) ?_
                      refine lv_iconst (v := nI 5) hx hb dL_law_616 (by decide) ?_
                      refine un_cge (tgt := 684) hx hb dL_law_617 (by decide) (by omega) (by decide) (fun c3 => ?_) (fun c3 => ?_)
                      · refine lv_iload hx hb dL_law_684 (lv_at hl 13 rfl) ?_
                        refine lv_bipush (v := nI 11) hx hb dL_law_686 (by decide) ?_
                        refine un_cge (tgt := 859) hx hb dL_law_688 (by decide) (by omega) (by decide) (fun c4 => ?_) (fun c4 => ?_)
                        · refine lv_iload hx hb dL_law_859 (lv_at hl 13 rfl) ?_
                          refine lv_bipush (v := nI 16) hx hb dL_law_861 (by decide) ?_
                          refine un_cge (tgt := 1050) hx hb dL_law_863 (by decide) (by omega) (by decide) (fun c5 => ?_) (fun c5 => ?_)
                          · refine lv_iload hx hb dL_law_1050 (lv_at hl 13 rfl) ?_
                            refine lv_bipush (v := nI 16) hx hb dL_law_1052 (by decide) ?_
                            refine un_cne (tgt := 1166) hx hb dL_law_1054 (by decide) (by omega) (by decide) (fun c6 => ?_) (fun c6 => ?_)
                            · refine lv_iload hx hb dL_law_1166 (lv_at hl 13 rfl) ?_
                              refine lv_bipush (v := nI 17) hx hb dL_law_1168 (by decide) ?_
                              refine un_cne (tgt := 1285) hx hb dL_law_1170 (by decide) (by omega) (by decide) (fun c7 => ?_) (fun c7 => ?_)
                              · refine lv_iload hx hb dL_law_1285 (lv_at hl 13 rfl) ?_
                                refine lv_bipush (v := nI 18) hx hb dL_law_1287 (by decide) ?_
                                refine un_cne (tgt := 1389) hx hb dL_law_1289 (by decide) (by omega) (by decide) (fun c8 => ?_) (fun c8 => ?_)
                                · refine lv_iload hx hb dL_law_1389 (lv_at hl 13 rfl) ?_
                                  refine lv_bipush (v := nI 19) hx hb dL_law_1391 (by decide) ?_
                                  refine un_cne (tgt := 1460) hx hb dL_law_1393 (by decide) (by omega) (by decide) (fun c9 => ?_) (fun c9 => ?_)
                                  · exact op_next C ⟨rfl, hW, hU, hinv, hlr, h7, hD⟩ hS (lv_sub hl [0, 1, 2, 3, 4, 5, 6, 7, 8, 9, 10, 11, 12, 13, 14, 15, 16, 17, 18, 19] rfl) hyb hho hhm hne hpr hfi hci hcl hsl (hK yy hyb)
                                  · exact op_promise C ⟨rfl, hW, hU, hinv, hlr, h7, hD⟩ hS (lv_sub hl [0, 1, 2, 3, 4, 5, 6, 7, 8, 9, 10, 11, 12, 13, 14, 15, 16, 17, 18, 19] rfl) hyb hho hhm hne hpr hfi hci hcl hsl (hK yy hyb)
                                · exact op_agree C ⟨rfl, hW, hU, hinv, hlr, h7, hD⟩ hS (lv_sub hl [0, 1, 2, 3, 4, 5, 6, 7, 8, 9, 10, 11, 12, 13, 14, 15, 16, 17, 18, 19] rfl) hyb hho hhm hne hpr hfi hci hcl hsl (hK yy hyb)
                              · refine lv_aload_n hx hb dL_law_1173 rfl (lv_at hl 2 rfl) ?_
                                refine lv_iconst (v := nI 1) hx hb dL_law_1174 (by decide) ?_
                                have hb1175_100 := hub 0 1
                                refine un_ald (L := L) hx hb hE hU 0 (by decide) 1 (show 1 < 4 from (by decide)) dL_law_1175 ?_
                                refine un_top (y := nI nc) (congrArg nI hn01) ?_
                                refine un_ile (tgt := 1285) hx hb dL_law_1176 (by decide) (by omega) (fun c10 => ?_) (fun c10 => ?_)
                                · refine lv_iload hx hb dL_law_1285 (lv_at hl 13 rfl) ?_
                                  refine lv_bipush (v := nI 18) hx hb dL_law_1287 (by decide) ?_
                                  refine un_cne (tgt := 1389) hx hb dL_law_1289 (by decide) (by omega) (by decide) (fun c11 => ?_) (fun c11 => ?_)
                                  · refine lv_iload hx hb dL_law_1389 (lv_at hl 13 rfl) ?_
                                    refine lv_bipush (v := nI 19) hx hb dL_law_1391 (by decide) ?_
                                    refine un_cne (tgt := 1460) hx hb dL_law_1393 (by decide) (by omega) (by decide) (fun c12 => ?_) (fun c12 => ?_)
                                    · exact op_next C ⟨rfl, hW, hU, hinv, hlr, h7, hD⟩ hS (lv_sub hl [0, 1, 2, 3, 4, 5, 6, 7, 8, 9, 10, 11, 12, 13, 14, 15, 16, 17, 18, 19] rfl) hyb hho hhm hne hpr hfi hci hcl hsl (hK yy hyb)
                                    · exact op_promise C ⟨rfl, hW, hU, hinv, hlr, h7, hD⟩ hS (lv_sub hl [0, 1, 2, 3, 4, 5, 6, 7, 8, 9, 10, 11, 12, 13, 14, 15, 16, 17, 18, 19] rfl) hyb hho hhm hne hpr hfi hci hcl hsl (hK yy hyb)
                                  · exact op_agree C ⟨rfl, hW, hU, hinv, hlr, h7, hD⟩ hS (lv_sub hl [0, 1, 2, 3, 4, 5, 6, 7, 8, 9, 10, 11, 12, 13, 14, 15, 16, 17, 18, 19] rfl) hyb hho hhm hne hpr hfi hci hcl hsl (hK yy hyb)
                                · exact op_answer C ⟨rfl, hW, hU, hinv, hlr, h7, hD⟩ hS (lv_sub hl [0, 1, 2, 3, 4, 5, 6, 7, 8, 9, 10, 11, 12, 13, 14, 15, 16, 17, 18, 19] rfl) hyb hho hhm hne hpr hfi hci (by omega) hcl hsl (hK yy hyb)
                            · refine lv_aload_n hx hb dL_law_1057 rfl (lv_at hl 2 rfl) ?_
                              refine lv_iconst (v := nI 1) hx hb dL_law_1058 (by decide) ?_
                              have hb1059_116 := hub 0 1
                              refine un_ald (L := L) hx hb hE hU 0 (by decide) 1 (show 1 < 4 from (by decide)) dL_law_1059 ?_
                              refine un_top (y := nI nc) (congrArg nI hn01) ?_
                              refine un_ile (tgt := 1166) hx hb dL_law_1060 (by decide) (by omega) (fun c13 => ?_) (fun c13 => ?_)
                              · refine lv_iload hx hb dL_law_1166 (lv_at hl 13 rfl) ?_
                                refine lv_bipush (v := nI 17) hx hb dL_law_1168 (by decide) ?_
                                refine un_cne (tgt := 1285) hx hb dL_law_1170 (by decide) (by omega) (by decide) (fun c14 => ?_) (fun c14 => ?_)
                                · refine lv_iload hx hb dL_law_1285 (lv_at hl 13 rfl) ?_
                                  refine lv_bipush (v := nI 18) hx hb dL_law_1287 (by decide) ?_
                                  refine un_cne (tgt := 1389) hx hb dL_law_1289 (by decide) (by omega) (by decide) (fun c15 => ?_) (fun c15 => ?_)
                                  · refine lv_iload hx hb dL_law_1389 (lv_at hl 13 rfl) ?_
                                    refine lv_bipush (v := nI 19) hx hb dL_law_1391 (by decide) ?_
                                    refine un_cne (tgt := 1460) hx hb dL_law_1393 (by decide) (by omega) (by decide) (fun c16 => ?_) (fun c16 => ?_)
                                    · exact op_next C ⟨rfl, hW, hU, hinv, hlr, h7, hD⟩ hS (lv_sub hl [0, 1, 2, 3, 4, 5, 6, 7, 8, 9, 10, 11, 12, 13, 14, 15, 16, 17, 18, 19] rfl) hyb hho hhm hne hpr hfi hci hcl hsl (hK yy hyb)
                                    · exact op_promise C ⟨rfl, hW, hU, hinv, hlr, h7, hD⟩ hS (lv_sub hl [0, 1, 2, 3, 4, 5, 6, 7, 8, 9, 10, 11, 12, 13, 14, 15, 16, 17, 18, 19] rfl) hyb hho hhm hne hpr hfi hci hcl hsl (hK yy hyb)
                                  · exact op_agree C ⟨rfl, hW, hU, hinv, hlr, h7, hD⟩ hS (lv_sub hl [0, 1, 2, 3, 4, 5, 6, 7, 8, 9, 10, 11, 12, 13, 14, 15, 16, 17, 18, 19] rfl) hyb hho hhm hne hpr hfi hci hcl hsl (hK yy hyb)
                                · refine lv_aload_n hx hb dL_law_1173 rfl (lv_at hl 2 rfl) ?_
                                  refine lv_iconst (v := nI 1) hx hb dL_law_1174 (by decide) ?_
                                  have hb1175_134 := hub 0 1
                                  refine un_ald (L := L) hx hb hE hU 0 (by decide) 1 (show 1 < 4 from (by decide)) dL_law_1175 ?_
                                  refine un_top (y := nI nc) (congrArg nI hn01) ?_
                                  refine un_ile (tgt := 1285) hx hb dL_law_1176 (by decide) (by omega) (fun c17 => ?_) (fun c17 => ?_)
                                  · refine lv_iload hx hb dL_law_1285 (lv_at hl 13 rfl) ?_
                                    refine lv_bipush (v := nI 18) hx hb dL_law_1287 (by decide) ?_
                                    refine un_cne (tgt := 1389) hx hb dL_law_1289 (by decide) (by omega) (by decide) (fun c18 => ?_) (fun c18 => ?_)
                                    · refine lv_iload hx hb dL_law_1389 (lv_at hl 13 rfl) ?_
                                      refine lv_bipush (v := nI 19) hx hb dL_law_1391 (by decide) ?_
                                      refine un_cne (tgt := 1460) hx hb dL_law_1393 (by decide) (by omega) (by decide) (fun c19 => ?_) (fun c19 => ?_)
                                      · exact op_next C ⟨rfl, hW, hU, hinv, hlr, h7, hD⟩ hS (lv_sub hl [0, 1, 2, 3, 4, 5, 6, 7, 8, 9, 10, 11, 12, 13, 14, 15, 16, 17, 18, 19] rfl) hyb hho hhm hne hpr hfi hci hcl hsl (hK yy hyb)
                                      · exact op_promise C ⟨rfl, hW, hU, hinv, hlr, h7, hD⟩ hS (lv_sub hl [0, 1, 2, 3, 4, 5, 6, 7, 8, 9, 10, 11, 12, 13, 14, 15, 16, 17, 18, 19] rfl) hyb hho hhm hne hpr hfi hci hcl hsl (hK yy hyb)
                                    · exact op_agree C ⟨rfl, hW, hU, hinv, hlr, h7, hD⟩ hS (lv_sub hl [0, 1, 2, 3, 4, 5, 6, 7, 8, 9, 10, 11, 12, 13, 14, 15, 16, 17, 18, 19] rfl) hyb hho hhm hne hpr hfi hci hcl hsl (hK yy hyb)
                                  · exact op_answer C ⟨rfl, hW, hU, hinv, hlr, h7, hD⟩ hS (lv_sub hl [0, 1, 2, 3, 4, 5, 6, 7, 8, 9, 10, 11, 12, 13, 14, 15, 16, 17, 18, 19] rfl) hyb hho hhm hne hpr hfi hci (by omega) hcl hsl (hK yy hyb)
                              · exact op_dispute C ⟨rfl, hW, hU, hinv, hlr, h7, hD⟩ hS (lv_sub hl [0, 1, 2, 3, 4, 5, 6, 7, 8, 9, 10, 11, 12, 13, 14, 15, 16, 17, 18, 19] rfl) hyb hho hhm hne hpr hfi hci (by omega) hcl hsl (hK yy hyb)
                          · exact op_send C ⟨rfl, hW, hU, hinv, hlr, h7, hD⟩ hS (lv_sub hl [0, 1, 2, 3, 4, 5, 6, 7, 8, 9, 10, 11, 12, 13, 14, 15, 16, 17, 18, 19] rfl) hyb hho hhm hne hpr hfi hci hcl hsl (hK yy hyb)
                        · refine lv_aload_n hx hb dL_law_691 rfl (lv_at hl 2 rfl) ?_
                          refine lv_iconst (v := nI 1) hx hb dL_law_692 (by decide) ?_
                          have hb693_152 := hub 0 1
                          refine un_ald (L := L) hx hb hE hU 0 (by decide) 1 (show 1 < 4 from (by decide)) dL_law_693 ?_
                          refine un_top (y := nI nc) (congrArg nI hn01) ?_
                          refine lv_bipush (v := nI 40) hx hb dL_law_694 (by decide) ?_
                          refine un_cge (tgt := 859) hx hb dL_law_696 (by decide) (by omega) (by decide) (fun c20 => ?_) (fun c20 => ?_)
                          · refine lv_iload hx hb dL_law_859 (lv_at hl 13 rfl) ?_
                            refine lv_bipush (v := nI 16) hx hb dL_law_861 (by decide) ?_
                            refine un_cge (tgt := 1050) hx hb dL_law_863 (by decide) (by omega) (by decide) (fun c21 => ?_) (fun c21 => ?_)
                            · refine lv_iload hx hb dL_law_1050 (lv_at hl 13 rfl) ?_
                              refine lv_bipush (v := nI 16) hx hb dL_law_1052 (by decide) ?_
                              refine un_cne (tgt := 1166) hx hb dL_law_1054 (by decide) (by omega) (by decide) (fun c22 => ?_) (fun c22 => ?_)
                              · refine lv_iload hx hb dL_law_1166 (lv_at hl 13 rfl) ?_
                                refine lv_bipush (v := nI 17) hx hb dL_law_1168 (by decide) ?_
                                refine un_cne (tgt := 1285) hx hb dL_law_1170 (by decide) (by omega) (by decide) (fun c23 => ?_) (fun c23 => ?_)
                                · refine lv_iload hx hb dL_law_1285 (lv_at hl 13 rfl) ?_
                                  refine lv_bipush (v := nI 18) hx hb dL_law_1287 (by decide) ?_
                                  refine un_cne (tgt := 1389) hx hb dL_law_1289 (by decide) (by omega) (by decide) (fun c24 => ?_) (fun c24 => ?_)
                                  · refine lv_iload hx hb dL_law_1389 (lv_at hl 13 rfl) ?_
                                    refine lv_bipush (v := nI 19) hx hb dL_law_1391 (by decide) ?_
                                    refine un_cne (tgt := 1460) hx hb dL_law_1393 (by decide) (by omega) (by decide) (fun c25 => ?_) (fun c25 => ?_)
                                    · exact op_next C ⟨rfl, hW, hU, hinv, hlr, h7, hD⟩ hS (lv_sub hl [0, 1, 2, 3, 4, 5, 6, 7, 8, 9, 10, 11, 12, 13, 14, 15, 16, 17, 18, 19] rfl) hyb hho hhm hne hpr hfi hci hcl hsl (hK yy hyb)
                                    · exact op_promise C ⟨rfl, hW, hU, hinv, hlr, h7, hD⟩ hS (lv_sub hl [0, 1, 2, 3, 4, 5, 6, 7, 8, 9, 10, 11, 12, 13, 14, 15, 16, 17, 18, 19] rfl) hyb hho hhm hne hpr hfi hci hcl hsl (hK yy hyb)
                                  · exact op_agree C ⟨rfl, hW, hU, hinv, hlr, h7, hD⟩ hS (lv_sub hl [0, 1, 2, 3, 4, 5, 6, 7, 8, 9, 10, 11, 12, 13, 14, 15, 16, 17, 18, 19] rfl) hyb hho hhm hne hpr hfi hci hcl hsl (hK yy hyb)
                                · refine lv_aload_n hx hb dL_law_1173 rfl (lv_at hl 2 rfl) ?_
                                  refine lv_iconst (v := nI 1) hx hb dL_law_1174 (by decide) ?_
                                  have hb1175_177 := hub 0 1
                                  refine un_ald (L := L) hx hb hE hU 0 (by decide) 1 (show 1 < 4 from (by decide)) dL_law_1175 ?_
                                  refine un_top (y := nI nc) (congrArg nI hn01) ?_
                                  refine un_ile (tgt := 1285) hx hb dL_law_1176 (by decide) (by omega) (fun c26 => ?_) (fun c26 => ?_)
                                  · refine lv_iload hx hb dL_law_1285 (lv_at hl 13 rfl) ?_
                                    refine lv_bipush (v := nI 18) hx hb dL_law_1287 (by decide) ?_
                                    refine un_cne (tgt := 1389) hx hb dL_law_1289 (by decide) (by omega) (by decide) (fun c27 => ?_) (fun c27 => ?_)
                                    · refine lv_iload hx hb dL_law_1389 (lv_at hl 13 rfl) ?_
                                      refine lv_bipush (v := nI 19) hx hb dL_law_1391 (by decide) ?_
                                      refine un_cne (tgt := 1460) hx hb dL_law_1393 (by decide) (by omega) (by decide) (fun c28 => ?_) (fun c28 => ?_)
                                      · exact op_next C ⟨rfl, hW, hU, hinv, hlr, h7, hD⟩ hS (lv_sub hl [0, 1, 2, 3, 4, 5, 6, 7, 8, 9, 10, 11, 12, 13, 14, 15, 16, 17, 18, 19] rfl) hyb hho hhm hne hpr hfi hci hcl hsl (hK yy hyb)
                                      · exact op_promise C ⟨rfl, hW, hU, hinv, hlr, h7, hD⟩ hS (lv_sub hl [0, 1, 2, 3, 4, 5, 6, 7, 8, 9, 10, 11, 12, 13, 14, 15, 16, 17, 18, 19] rfl) hyb hho hhm hne hpr hfi hci hcl hsl (hK yy hyb)
                                    · exact op_agree C ⟨rfl, hW, hU, hinv, hlr, h7, hD⟩ hS (lv_sub hl [0, 1, 2, 3, 4, 5, 6, 7, 8, 9, 10, 11, 12, 13, 14, 15, 16, 17, 18, 19] rfl) hyb hho hhm hne hpr hfi hci hcl hsl (hK yy hyb)
                                  · exact op_answer C ⟨rfl, hW, hU, hinv, hlr, h7, hD⟩ hS (lv_sub hl [0, 1, 2, 3, 4, 5, 6, 7, 8, 9, 10, 11, 12, 13, 14, 15, 16, 17, 18, 19] rfl) hyb hho hhm hne hpr hfi hci (by omega) hcl hsl (hK yy hyb)
                              · refine lv_aload_n hx hb dL_law_1057 rfl (lv_at hl 2 rfl) ?_
                                refine lv_iconst (v := nI 1) hx hb dL_law_1058 (by decide) ?_
                                have hb1059_193 := hub 0 1
                                refine un_ald (L := L) hx hb hE hU 0 (by decide) 1 (show 1 < 4 from (by decide)) dL_law_1059 ?_
                                refine un_top (y := nI nc) (congrArg nI hn01) ?_
                                refine un_ile (tgt := 1166) hx hb dL_law_1060 (by decide) (by omega) (fun c29 => ?_) (fun c29 => ?_)
                                · refine lv_iload hx hb dL_law_1166 (lv_at hl 13 rfl) ?_
                                  refine lv_bipush (v := nI 17) hx hb dL_law_1168 (by decide) ?_
                                  refine un_cne (tgt := 1285) hx hb dL_law_1170 (by decide) (by omega) (by decide) (fun c30 => ?_) (fun c30 => ?_)
                                  · refine lv_iload hx hb dL_law_1285 (lv_at hl 13 rfl) ?_
                                    refine lv_bipush (v := nI 18) hx hb dL_law_1287 (by decide) ?_
                                    refine un_cne (tgt := 1389) hx hb dL_law_1289 (by decide) (by omega) (by decide) (fun c31 => ?_) (fun c31 => ?_)
                                    · refine lv_iload hx hb dL_law_1389 (lv_at hl 13 rfl) ?_
                                      refine lv_bipush (v := nI 19) hx hb dL_law_1391 (by decide) ?_
                                      refine un_cne (tgt := 1460) hx hb dL_law_1393 (by decide) (by omega) (by decide) (fun c32 => ?_) (fun c32 => ?_)
                                      · exact op_next C ⟨rfl, hW, hU, hinv, hlr, h7, hD⟩ hS (lv_sub hl [0, 1, 2, 3, 4, 5, 6, 7, 8, 9, 10, 11, 12, 13, 14, 15, 16, 17, 18, 19] rfl) hyb hho hhm hne hpr hfi hci hcl hsl (hK yy hyb)
                                      · exact op_promise C ⟨rfl, hW, hU, hinv, hlr, h7, hD⟩ hS (lv_sub hl [0, 1, 2, 3, 4, 5, 6, 7, 8, 9, 10, 11, 12, 13, 14, 15, 16, 17, 18, 19] rfl) hyb hho hhm hne hpr hfi hci hcl hsl (hK yy hyb)
                                    · exact op_agree C ⟨rfl, hW, hU, hinv, hlr, h7, hD⟩ hS (lv_sub hl [0, 1, 2, 3, 4, 5, 6, 7, 8, 9, 10, 11, 12, 13, 14, 15, 16, 17, 18, 19] rfl) hyb hho hhm hne hpr hfi hci hcl hsl (hK yy hyb)
                                  · refine lv_aload_n hx hb dL_law_1173 rfl (lv_at hl 2 rfl) ?_
                                    refine lv_iconst (v := nI 1) hx hb dL_law_1174 (by decide) ?_
                                    have hb1175_211 := hub 0 1
                                    refine un_ald (L := L) hx hb hE hU 0 (by decide) 1 (show 1 < 4 from (by decide)) dL_law_1175 ?_
                                    refine un_top (y := nI nc) (congrArg nI hn01) ?_
                                    refine un_ile (tgt := 1285) hx hb dL_law_1176 (by decide) (by omega) (fun c33 => ?_) (fun c33 => ?_)
                                    · refine lv_iload hx hb dL_law_1285 (lv_at hl 13 rfl) ?_
                                      refine lv_bipush (v := nI 18) hx hb dL_law_1287 (by decide) ?_
                                      refine un_cne (tgt := 1389) hx hb dL_law_1289 (by decide) (by omega) (by decide) (fun c34 => ?_) (fun c34 => ?_)
                                      · refine lv_iload hx hb dL_law_1389 (lv_at hl 13 rfl) ?_
                                        refine lv_bipush (v := nI 19) hx hb dL_law_1391 (by decide) ?_
                                        refine un_cne (tgt := 1460) hx hb dL_law_1393 (by decide) (by omega) (by decide) (fun c35 => ?_) (fun c35 => ?_)
                                        · exact op_next C ⟨rfl, hW, hU, hinv, hlr, h7, hD⟩ hS (lv_sub hl [0, 1, 2, 3, 4, 5, 6, 7, 8, 9, 10, 11, 12, 13, 14, 15, 16, 17, 18, 19] rfl) hyb hho hhm hne hpr hfi hci hcl hsl (hK yy hyb)
                                        · exact op_promise C ⟨rfl, hW, hU, hinv, hlr, h7, hD⟩ hS (lv_sub hl [0, 1, 2, 3, 4, 5, 6, 7, 8, 9, 10, 11, 12, 13, 14, 15, 16, 17, 18, 19] rfl) hyb hho hhm hne hpr hfi hci hcl hsl (hK yy hyb)
                                      · exact op_agree C ⟨rfl, hW, hU, hinv, hlr, h7, hD⟩ hS (lv_sub hl [0, 1, 2, 3, 4, 5, 6, 7, 8, 9, 10, 11, 12, 13, 14, 15, 16, 17, 18, 19] rfl) hyb hho hhm hne hpr hfi hci hcl hsl (hK yy hyb)
                                    · exact op_answer C ⟨rfl, hW, hU, hinv, hlr, h7, hD⟩ hS (lv_sub hl [0, 1, 2, 3, 4, 5, 6, 7, 8, 9, 10, 11, 12, 13, 14, 15, 16, 17, 18, 19] rfl) hyb hho hhm hne hpr hfi hci (by omega) hcl hsl (hK yy hyb)
                                · exact op_dispute C ⟨rfl, hW, hU, hinv, hlr, h7, hD⟩ hS (lv_sub hl [0, 1, 2, 3, 4, 5, 6, 7, 8, 9, 10, 11, 12, 13, 14, 15, 16, 17, 18, 19] rfl) hyb hho hhm hne hpr hfi hci (by omega) hcl hsl (hK yy hyb)
                            · exact op_send C ⟨rfl, hW, hU, hinv, hlr, h7, hD⟩ hS (lv_sub hl [0, 1, 2, 3, 4, 5, 6, 7, 8, 9, 10, 11, 12, 13, 14, 15, 16, 17, 18, 19] rfl) hyb hho hhm hne hpr hfi hci hcl hsl (hK yy hyb)
                          · exact op_enter C ⟨rfl, hW, hU, hinv, hlr, h7, hD⟩ hS (lv_sub hl [0, 1, 2, 3, 4, 5, 6, 7, 8, 9, 10, 11, 12, 13, 14, 15, 16, 17, 18, 19] rfl) hyb hho hhm hne hpr hfi hci (by omega) hcl hsl (hK yy hyb)
                      · refine lv_aload_n hx hb dL_law_620 rfl (lv_at hl 2 rfl) ?_
                        refine lv_iconst (v := nI 0) hx hb dL_law_621 (by decide) ?_
                        have hb622_230 := hub 0 0
                        refine un_ald (L := L) hx hb hE hU 0 (by decide) 0 (show 0 < 4 from (by decide)) dL_law_622 ?_
                        refine un_top (y := nI nf) (congrArg nI hn00) ?_
                        refine lv_bipush (v := nI 16) hx hb dL_law_623 (by decide) ?_
                        refine un_cge (tgt := 684) hx hb dL_law_625 (by decide) (by omega) (by decide) (fun c36 => ?_) (fun c36 => ?_)
                        · refine lv_iload hx hb dL_law_684 (lv_at hl 13 rfl) ?_
                          refine lv_bipush (v := nI 11) hx hb dL_law_686 (by decide) ?_
                          refine un_cge (tgt := 859) hx hb dL_law_688 (by decide) (by omega) (by decide) (fun c37 => ?_) (fun c37 => ?_)
                          · refine lv_iload hx hb dL_law_859 (lv_at hl 13 rfl) ?_
                            refine lv_bipush (v := nI 16) hx hb dL_law_861 (by decide) ?_
                            refine un_cge (tgt := 1050) hx hb dL_law_863 (by decide) (by omega) (by decide) (fun c38 => ?_) (fun c38 => ?_)
                            · refine lv_iload hx hb dL_law_1050 (lv_at hl 13 rfl) ?_
                              refine lv_bipush (v := nI 16) hx hb dL_law_1052 (by decide) ?_
                              refine un_cne (tgt := 1166) hx hb dL_law_1054 (by decide) (by omega) (by decide) (fun c39 => ?_) (fun c39 => ?_)
                              · refine lv_iload hx hb dL_law_1166 (lv_at hl 13 rfl) ?_
                                refine lv_bipush (v := nI 17) hx hb dL_law_1168 (by decide) ?_
                                refine un_cne (tgt := 1285) hx hb dL_law_1170 (by decide) (by omega) (by decide) (fun c40 => ?_) (fun c40 => ?_)
                                · refine lv_iload hx hb dL_law_1285 (lv_at hl 13 rfl) ?_
                                  refine lv_bipush (v := nI 18) hx hb dL_law_1287 (by decide) ?_
                                  refine un_cne (tgt := 1389) hx hb dL_law_1289 (by decide) (by omega) (by decide) (fun c41 => ?_) (fun c41 => ?_)
                                  · refine lv_iload hx hb dL_law_1389 (lv_at hl 13 rfl) ?_
                                    refine lv_bipush (v := nI 19) hx hb dL_law_1391 (by decide) ?_
                                    refine un_cne (tgt := 1460) hx hb dL_law_1393 (by decide) (by omega) (by decide) (fun c42 => ?_) (fun c42 => ?_)
                                    · exact op_next C ⟨rfl, hW, hU, hinv, hlr, h7, hD⟩ hS (lv_sub hl [0, 1, 2, 3, 4, 5, 6, 7, 8, 9, 10, 11, 12, 13, 14, 15, 16, 17, 18, 19] rfl) hyb hho hhm hne hpr hfi hci hcl hsl (hK yy hyb)
                                    · exact op_promise C ⟨rfl, hW, hU, hinv, hlr, h7, hD⟩ hS (lv_sub hl [0, 1, 2, 3, 4, 5, 6, 7, 8, 9, 10, 11, 12, 13, 14, 15, 16, 17, 18, 19] rfl) hyb hho hhm hne hpr hfi hci hcl hsl (hK yy hyb)
                                  · exact op_agree C ⟨rfl, hW, hU, hinv, hlr, h7, hD⟩ hS (lv_sub hl [0, 1, 2, 3, 4, 5, 6, 7, 8, 9, 10, 11, 12, 13, 14, 15, 16, 17, 18, 19] rfl) hyb hho hhm hne hpr hfi hci hcl hsl (hK yy hyb)
                                · refine lv_aload_n hx hb dL_law_1173 rfl (lv_at hl 2 rfl) ?_
                                  refine lv_iconst (v := nI 1) hx hb dL_law_1174 (by decide) ?_
                                  have hb1175_258 := hub 0 1
                                  refine un_ald (L := L) hx hb hE hU 0 (by decide) 1 (show 1 < 4 from (by decide)) dL_law_1175 ?_
                                  refine un_top (y := nI nc) (congrArg nI hn01) ?_
                                  refine un_ile (tgt := 1285) hx hb dL_law_1176 (by decide) (by omega) (fun c43 => ?_) (fun c43 => ?_)
                                  · refine lv_iload hx hb dL_law_1285 (lv_at hl 13 rfl) ?_
                                    refine lv_bipush (v := nI 18) hx hb dL_law_1287 (by decide) ?_
                                    refine un_cne (tgt := 1389) hx hb dL_law_1289 (by decide) (by omega) (by decide) (fun c44 => ?_) (fun c44 => ?_)
                                    · refine lv_iload hx hb dL_law_1389 (lv_at hl 13 rfl) ?_
                                      refine lv_bipush (v := nI 19) hx hb dL_law_1391 (by decide) ?_
                                      refine un_cne (tgt := 1460) hx hb dL_law_1393 (by decide) (by omega) (by decide) (fun c45 => ?_) (fun c45 => ?_)
                                      · exact op_next C ⟨rfl, hW, hU, hinv, hlr, h7, hD⟩ hS (lv_sub hl [0, 1, 2, 3, 4, 5, 6, 7, 8, 9, 10, 11, 12, 13, 14, 15, 16, 17, 18, 19] rfl) hyb hho hhm hne hpr hfi hci hcl hsl (hK yy hyb)
                                      · exact op_promise C ⟨rfl, hW, hU, hinv, hlr, h7, hD⟩ hS (lv_sub hl [0, 1, 2, 3, 4, 5, 6, 7, 8, 9, 10, 11, 12, 13, 14, 15, 16, 17, 18, 19] rfl) hyb hho hhm hne hpr hfi hci hcl hsl (hK yy hyb)
                                    · exact op_agree C ⟨rfl, hW, hU, hinv, hlr, h7, hD⟩ hS (lv_sub hl [0, 1, 2, 3, 4, 5, 6, 7, 8, 9, 10, 11, 12, 13, 14, 15, 16, 17, 18, 19] rfl) hyb hho hhm hne hpr hfi hci hcl hsl (hK yy hyb)
                                  · exact op_answer C ⟨rfl, hW, hU, hinv, hlr, h7, hD⟩ hS (lv_sub hl [0, 1, 2, 3, 4, 5, 6, 7, 8, 9, 10, 11, 12, 13, 14, 15, 16, 17, 18, 19] rfl) hyb hho hhm hne hpr hfi hci (by omega) hcl hsl (hK yy hyb)
                              · refine lv_aload_n hx hb dL_law_1057 rfl (lv_at hl 2 rfl) ?_
                                refine lv_iconst (v := nI 1) hx hb dL_law_1058 (by decide) ?_
                                have hb1059_274 := hub 0 1
                                refine un_ald (L := L) hx hb hE hU 0 (by decide) 1 (show 1 < 4 from (by decide)) dL_law_1059 ?_
                                refine un_top (y := nI nc) (congrArg nI hn01) ?_
                                refine un_ile (tgt := 1166) hx hb dL_law_1060 (by decide) (by omega) (fun c46 => ?_) (fun c46 => ?_)
                                · refine lv_iload hx hb dL_law_1166 (lv_at hl 13 rfl) ?_
                                  refine lv_bipush (v := nI 17) hx hb dL_law_1168 (by decide) ?_
                                  refine un_cne (tgt := 1285) hx hb dL_law_1170 (by decide) (by omega) (by decide) (fun c47 => ?_) (fun c47 => ?_)
                                  · refine lv_iload hx hb dL_law_1285 (lv_at hl 13 rfl) ?_
                                    refine lv_bipush (v := nI 18) hx hb dL_law_1287 (by decide) ?_
                                    refine un_cne (tgt := 1389) hx hb dL_law_1289 (by decide) (by omega) (by decide) (fun c48 => ?_) (fun c48 => ?_)
                                    · refine lv_iload hx hb dL_law_1389 (lv_at hl 13 rfl) ?_
                                      refine lv_bipush (v := nI 19) hx hb dL_law_1391 (by decide) ?_
                                      refine un_cne (tgt := 1460) hx hb dL_law_1393 (by decide) (by omega) (by decide) (fun c49 => ?_) (fun c49 => ?_)
                                      · exact op_next C ⟨rfl, hW, hU, hinv, hlr, h7, hD⟩ hS (lv_sub hl [0, 1, 2, 3, 4, 5, 6, 7, 8, 9, 10, 11, 12, 13, 14, 15, 16, 17, 18, 19] rfl) hyb hho hhm hne hpr hfi hci hcl hsl (hK yy hyb)
                                      · exact op_promise C ⟨rfl, hW, hU, hinv, hlr, h7, hD⟩ hS (lv_sub hl [0, 1, 2, 3, 4, 5, 6, 7, 8, 9, 10, 11, 12, 13, 14, 15, 16, 17, 18, 19] rfl) hyb hho hhm hne hpr hfi hci hcl hsl (hK yy hyb)
                                    · exact op_agree C ⟨rfl, hW, hU, hinv, hlr, h7, hD⟩ hS (lv_sub hl [0, 1, 2, 3, 4, 5, 6, 7, 8, 9, 10, 11, 12, 13, 14, 15, 16, 17, 18, 19] rfl) hyb hho hhm hne hpr hfi hci hcl hsl (hK yy hyb)
                                  · refine lv_aload_n hx hb dL_law_1173 rfl (lv_at hl 2 rfl) ?_
                                    refine lv_iconst (v := nI 1) hx hb dL_law_1174 (by decide) ?_
                                    have hb1175_292 := hub 0 1
                                    refine un_ald (L := L) hx hb hE hU 0 (by decide) 1 (show 1 < 4 from (by decide)) dL_law_1175 ?_
                                    refine un_top (y := nI nc) (congrArg nI hn01) ?_
                                    refine un_ile (tgt := 1285) hx hb dL_law_1176 (by decide) (by omega) (fun c50 => ?_) (fun c50 => ?_)
                                    · refine lv_iload hx hb dL_law_1285 (lv_at hl 13 rfl) ?_
                                      refine lv_bipush (v := nI 18) hx hb dL_law_1287 (by decide) ?_
                                      refine un_cne (tgt := 1389) hx hb dL_law_1289 (by decide) (by omega) (by decide) (fun c51 => ?_) (fun c51 => ?_)
                                      · refine lv_iload hx hb dL_law_1389 (lv_at hl 13 rfl) ?_
                                        refine lv_bipush (v := nI 19) hx hb dL_law_1391 (by decide) ?_
                                        refine un_cne (tgt := 1460) hx hb dL_law_1393 (by decide) (by omega) (by decide) (fun c52 => ?_) (fun c52 => ?_)
                                        · exact op_next C ⟨rfl, hW, hU, hinv, hlr, h7, hD⟩ hS (lv_sub hl [0, 1, 2, 3, 4, 5, 6, 7, 8, 9, 10, 11, 12, 13, 14, 15, 16, 17, 18, 19] rfl) hyb hho hhm hne hpr hfi hci hcl hsl (hK yy hyb)
                                        · exact op_promise C ⟨rfl, hW, hU, hinv, hlr, h7, hD⟩ hS (lv_sub hl [0, 1, 2, 3, 4, 5, 6, 7, 8, 9, 10, 11, 12, 13, 14, 15, 16, 17, 18, 19] rfl) hyb hho hhm hne hpr hfi hci hcl hsl (hK yy hyb)
                                      · exact op_agree C ⟨rfl, hW, hU, hinv, hlr, h7, hD⟩ hS (lv_sub hl [0, 1, 2, 3, 4, 5, 6, 7, 8, 9, 10, 11, 12, 13, 14, 15, 16, 17, 18, 19] rfl) hyb hho hhm hne hpr hfi hci hcl hsl (hK yy hyb)
                                    · exact op_answer C ⟨rfl, hW, hU, hinv, hlr, h7, hD⟩ hS (lv_sub hl [0, 1, 2, 3, 4, 5, 6, 7, 8, 9, 10, 11, 12, 13, 14, 15, 16, 17, 18, 19] rfl) hyb hho hhm hne hpr hfi hci (by omega) hcl hsl (hK yy hyb)
                                · exact op_dispute C ⟨rfl, hW, hU, hinv, hlr, h7, hD⟩ hS (lv_sub hl [0, 1, 2, 3, 4, 5, 6, 7, 8, 9, 10, 11, 12, 13, 14, 15, 16, 17, 18, 19] rfl) hyb hho hhm hne hpr hfi hci (by omega) hcl hsl (hK yy hyb)
                            · exact op_send C ⟨rfl, hW, hU, hinv, hlr, h7, hD⟩ hS (lv_sub hl [0, 1, 2, 3, 4, 5, 6, 7, 8, 9, 10, 11, 12, 13, 14, 15, 16, 17, 18, 19] rfl) hyb hho hhm hne hpr hfi hci hcl hsl (hK yy hyb)
                          · refine lv_aload_n hx hb dL_law_691 rfl (lv_at hl 2 rfl) ?_
                            refine lv_iconst (v := nI 1) hx hb dL_law_692 (by decide) ?_
                            have hb693_310 := hub 0 1
                            refine un_ald (L := L) hx hb hE hU 0 (by decide) 1 (show 1 < 4 from (by decide)) dL_law_693 ?_
                            refine un_top (y := nI nc) (congrArg nI hn01) ?_
                            refine lv_bipush (v := nI 40) hx hb dL_law_694 (by decide) ?_
                            refine un_cge (tgt := 859) hx hb dL_law_696 (by decide) (by omega) (by decide) (fun c53 => ?_) (fun c53 => ?_)
                            · refine lv_iload hx hb dL_law_859 (lv_at hl 13 rfl) ?_
                              refine lv_bipush (v := nI 16) hx hb dL_law_861 (by decide) ?_
                              refine un_cge (tgt := 1050) hx hb dL_law_863 (by decide) (by omega) (by decide) (fun c54 => ?_) (fun c54 => ?_)
                              · refine lv_iload hx hb dL_law_1050 (lv_at hl 13 rfl) ?_
                                refine lv_bipush (v := nI 16) hx hb dL_law_1052 (by decide) ?_
                                refine un_cne (tgt := 1166) hx hb dL_law_1054 (by decide) (by omega) (by decide) (fun c55 => ?_) (fun c55 => ?_)
                                · refine lv_iload hx hb dL_law_1166 (lv_at hl 13 rfl) ?_
                                  refine lv_bipush (v := nI 17) hx hb dL_law_1168 (by decide) ?_
                                  refine un_cne (tgt := 1285) hx hb dL_law_1170 (by decide) (by omega) (by decide) (fun c56 => ?_) (fun c56 => ?_)
                                  · refine lv_iload hx hb dL_law_1285 (lv_at hl 13 rfl) ?_
                                    refine lv_bipush (v := nI 18) hx hb dL_law_1287 (by decide) ?_
                                    refine un_cne (tgt := 1389) hx hb dL_law_1289 (by decide) (by omega) (by decide) (fun c57 => ?_) (fun c57 => ?_)
                                    · refine lv_iload hx hb dL_law_1389 (lv_at hl 13 rfl) ?_
                                      refine lv_bipush (v := nI 19) hx hb dL_law_1391 (by decide) ?_
                                      refine un_cne (tgt := 1460) hx hb dL_law_1393 (by decide) (by omega) (by decide) (fun c58 => ?_) (fun c58 => ?_)
                                      · exact op_next C ⟨rfl, hW, hU, hinv, hlr, h7, hD⟩ hS (lv_sub hl [0, 1, 2, 3, 4, 5, 6, 7, 8, 9, 10, 11, 12, 13, 14, 15, 16, 17, 18, 19] rfl) hyb hho hhm hne hpr hfi hci hcl hsl (hK yy hyb)
                                      · exact op_promise C ⟨rfl, hW, hU, hinv, hlr, h7, hD⟩ hS (lv_sub hl [0, 1, 2, 3, 4, 5, 6, 7, 8, 9, 10, 11, 12, 13, 14, 15, 16, 17, 18, 19] rfl) hyb hho hhm hne hpr hfi hci hcl hsl (hK yy hyb)
                                    · exact op_agree C ⟨rfl, hW, hU, hinv, hlr, h7, hD⟩ hS (lv_sub hl [0, 1, 2, 3, 4, 5, 6, 7, 8, 9, 10, 11, 12, 13, 14, 15, 16, 17, 18, 19] rfl) hyb hho hhm hne hpr hfi hci hcl hsl (hK yy hyb)
                                  · refine lv_aload_n hx hb dL_law_1173 rfl (lv_at hl 2 rfl) ?_
                                    refine lv_iconst (v := nI 1) hx hb dL_law_1174 (by decide) ?_
                                    have hb1175_335 := hub 0 1
                                    refine un_ald (L := L) hx hb hE hU 0 (by decide) 1 (show 1 < 4 from (by decide)) dL_law_1175 ?_
                                    refine un_top (y := nI nc) (congrArg nI hn01) ?_
                                    refine un_ile (tgt := 1285) hx hb dL_law_1176 (by decide) (by omega) (fun c59 => ?_) (fun c59 => ?_)
                                    · refine lv_iload hx hb dL_law_1285 (lv_at hl 13 rfl) ?_
                                      refine lv_bipush (v := nI 18) hx hb dL_law_1287 (by decide) ?_
                                      refine un_cne (tgt := 1389) hx hb dL_law_1289 (by decide) (by omega) (by decide) (fun c60 => ?_) (fun c60 => ?_)
                                      · refine lv_iload hx hb dL_law_1389 (lv_at hl 13 rfl) ?_
                                        refine lv_bipush (v := nI 19) hx hb dL_law_1391 (by decide) ?_
                                        refine un_cne (tgt := 1460) hx hb dL_law_1393 (by decide) (by omega) (by decide) (fun c61 => ?_) (fun c61 => ?_)
                                        · exact op_next C ⟨rfl, hW, hU, hinv, hlr, h7, hD⟩ hS (lv_sub hl [0, 1, 2, 3, 4, 5, 6, 7, 8, 9, 10, 11, 12, 13, 14, 15, 16, 17, 18, 19] rfl) hyb hho hhm hne hpr hfi hci hcl hsl (hK yy hyb)
                                        · exact op_promise C ⟨rfl, hW, hU, hinv, hlr, h7, hD⟩ hS (lv_sub hl [0, 1, 2, 3, 4, 5, 6, 7, 8, 9, 10, 11, 12, 13, 14, 15, 16, 17, 18, 19] rfl) hyb hho hhm hne hpr hfi hci hcl hsl (hK yy hyb)
                                      · exact op_agree C ⟨rfl, hW, hU, hinv, hlr, h7, hD⟩ hS (lv_sub hl [0, 1, 2, 3, 4, 5, 6, 7, 8, 9, 10, 11, 12, 13, 14, 15, 16, 17, 18, 19] rfl) hyb hho hhm hne hpr hfi hci hcl hsl (hK yy hyb)
                                    · exact op_answer C ⟨rfl, hW, hU, hinv, hlr, h7, hD⟩ hS (lv_sub hl [0, 1, 2, 3, 4, 5, 6, 7, 8, 9, 10, 11, 12, 13, 14, 15, 16, 17, 18, 19] rfl) hyb hho hhm hne hpr hfi hci (by omega) hcl hsl (hK yy hyb)
                                · refine lv_aload_n hx hb dL_law_1057 rfl (lv_at hl 2 rfl) ?_
                                  refine lv_iconst (v := nI 1) hx hb dL_law_1058 (by decide) ?_
                                  have hb1059_351 := hub 0 1
                                  refine un_ald (L := L) hx hb hE hU 0 (by decide) 1 (show 1 < 4 from (by decide)) dL_law_1059 ?_
                                  refine un_top (y := nI nc) (congrArg nI hn01) ?_
                                  refine un_ile (tgt := 1166) hx hb dL_law_1060 (by decide) (by omega) (fun c62 => ?_) (fun c62 => ?_)
                                  · refine lv_iload hx hb dL_law_1166 (lv_at hl 13 rfl) ?_
                                    refine lv_bipush (v := nI 17) hx hb dL_law_1168 (by decide) ?_
                                    refine un_cne (tgt := 1285) hx hb dL_law_1170 (by decide) (by omega) (by decide) (fun c63 => ?_) (fun c63 => ?_)
                                    · refine lv_iload hx hb dL_law_1285 (lv_at hl 13 rfl) ?_
                                      refine lv_bipush (v := nI 18) hx hb dL_law_1287 (by decide) ?_
                                      refine un_cne (tgt := 1389) hx hb dL_law_1289 (by decide) (by omega) (by decide) (fun c64 => ?_) (fun c64 => ?_)
                                      · refine lv_iload hx hb dL_law_1389 (lv_at hl 13 rfl) ?_
                                        refine lv_bipush (v := nI 19) hx hb dL_law_1391 (by decide) ?_
                                        refine un_cne (tgt := 1460) hx hb dL_law_1393 (by decide) (by omega) (by decide) (fun c65 => ?_) (fun c65 => ?_)
                                        · exact op_next C ⟨rfl, hW, hU, hinv, hlr, h7, hD⟩ hS (lv_sub hl [0, 1, 2, 3, 4, 5, 6, 7, 8, 9, 10, 11, 12, 13, 14, 15, 16, 17, 18, 19] rfl) hyb hho hhm hne hpr hfi hci hcl hsl (hK yy hyb)
                                        · exact op_promise C ⟨rfl, hW, hU, hinv, hlr, h7, hD⟩ hS (lv_sub hl [0, 1, 2, 3, 4, 5, 6, 7, 8, 9, 10, 11, 12, 13, 14, 15, 16, 17, 18, 19] rfl) hyb hho hhm hne hpr hfi hci hcl hsl (hK yy hyb)
                                      · exact op_agree C ⟨rfl, hW, hU, hinv, hlr, h7, hD⟩ hS (lv_sub hl [0, 1, 2, 3, 4, 5, 6, 7, 8, 9, 10, 11, 12, 13, 14, 15, 16, 17, 18, 19] rfl) hyb hho hhm hne hpr hfi hci hcl hsl (hK yy hyb)
                                    · refine lv_aload_n hx hb dL_law_1173 rfl (lv_at hl 2 rfl) ?_
                                      refine lv_iconst (v := nI 1) hx hb dL_law_1174 (by decide) ?_
                                      have hb1175_369 := hub 0 1
                                      refine un_ald (L := L) hx hb hE hU 0 (by decide) 1 (show 1 < 4 from (by decide)) dL_law_1175 ?_
                                      refine un_top (y := nI nc) (congrArg nI hn01) ?_
                                      refine un_ile (tgt := 1285) hx hb dL_law_1176 (by decide) (by omega) (fun c66 => ?_) (fun c66 => ?_)
                                      · refine lv_iload hx hb dL_law_1285 (lv_at hl 13 rfl) ?_
                                        refine lv_bipush (v := nI 18) hx hb dL_law_1287 (by decide) ?_
                                        refine un_cne (tgt := 1389) hx hb dL_law_1289 (by decide) (by omega) (by decide) (fun c67 => ?_) (fun c67 => ?_)
                                        · refine lv_iload hx hb dL_law_1389 (lv_at hl 13 rfl) ?_
                                          refine lv_bipush (v := nI 19) hx hb dL_law_1391 (by decide) ?_
                                          refine un_cne (tgt := 1460) hx hb dL_law_1393 (by decide) (by omega) (by decide) (fun c68 => ?_) (fun c68 => ?_)
                                          · exact op_next C ⟨rfl, hW, hU, hinv, hlr, h7, hD⟩ hS (lv_sub hl [0, 1, 2, 3, 4, 5, 6, 7, 8, 9, 10, 11, 12, 13, 14, 15, 16, 17, 18, 19] rfl) hyb hho hhm hne hpr hfi hci hcl hsl (hK yy hyb)
                                          · exact op_promise C ⟨rfl, hW, hU, hinv, hlr, h7, hD⟩ hS (lv_sub hl [0, 1, 2, 3, 4, 5, 6, 7, 8, 9, 10, 11, 12, 13, 14, 15, 16, 17, 18, 19] rfl) hyb hho hhm hne hpr hfi hci hcl hsl (hK yy hyb)
                                        · exact op_agree C ⟨rfl, hW, hU, hinv, hlr, h7, hD⟩ hS (lv_sub hl [0, 1, 2, 3, 4, 5, 6, 7, 8, 9, 10, 11, 12, 13, 14, 15, 16, 17, 18, 19] rfl) hyb hho hhm hne hpr hfi hci hcl hsl (hK yy hyb)
                                      · exact op_answer C ⟨rfl, hW, hU, hinv, hlr, h7, hD⟩ hS (lv_sub hl [0, 1, 2, 3, 4, 5, 6, 7, 8, 9, 10, 11, 12, 13, 14, 15, 16, 17, 18, 19] rfl) hyb hho hhm hne hpr hfi hci (by omega) hcl hsl (hK yy hyb)
                                  · exact op_dispute C ⟨rfl, hW, hU, hinv, hlr, h7, hD⟩ hS (lv_sub hl [0, 1, 2, 3, 4, 5, 6, 7, 8, 9, 10, 11, 12, 13, 14, 15, 16, 17, 18, 19] rfl) hyb hho hhm hne hpr hfi hci (by omega) hcl hsl (hK yy hyb)
                              · exact op_send C ⟨rfl, hW, hU, hinv, hlr, h7, hD⟩ hS (lv_sub hl [0, 1, 2, 3, 4, 5, 6, 7, 8, 9, 10, 11, 12, 13, 14, 15, 16, 17, 18, 19] rfl) hyb hho hhm hne hpr hfi hci hcl hsl (hK yy hyb)
                            · exact op_enter C ⟨rfl, hW, hU, hinv, hlr, h7, hD⟩ hS (lv_sub hl [0, 1, 2, 3, 4, 5, 6, 7, 8, 9, 10, 11, 12, 13, 14, 15, 16, 17, 18, 19] rfl) hyb hho hhm hne hpr hfi hci (by omega) hcl hsl (hK yy hyb)
                        · exact op_begin C ⟨rfl, hW, hU, hinv, hlr, h7, hD⟩ hS (lv_sub hl [0, 1, 2, 3, 4, 5, 6, 7, 8, 9, 10, 11, 12, 13, 14, 15, 16, 17, 18, 19] rfl) hyb hho hhm hne hpr hfi hci (by omega) hcl hsl (hK yy hyb)
                    · exact op_rate C ⟨rfl, hW, hU, hinv, hlr, h7, hD⟩ hS (lv_sub hl [0, 1, 2, 3, 4, 5, 6, 7, 8, 9, 10, 11, 12, 13, 14, 15, 16, 17, 18, 19] rfl) hyb hho hhm hne hpr hfi hci hcl hsl (hK yy hyb)
                  · exact op_tariff C ⟨rfl, hW, hU, hinv, hlr, h7, hD⟩ hS (lv_sub hl [0, 1, 2, 3, 4, 5, 6, 7, 8, 9, 10, 11, 12, 13, 14, 15, 16, 17, 18, 19] rfl) hyb hho hhm hne hpr hfi hci hcl hsl (hK yy hyb)
                refine lv_iconst (v := nI 0) hx hb dL_law_364 (by decide) ?_
                refine lv_istore (lv' := [(21, .int (nI 0)), (0, .ref b), (1, .ref (ad 0 0)), (2, .ref (ua 0)), (3, .ref (ua 1)), (4, .ref (ua 2)), (5, .ref (ua 3)), (6, .ref (ua 4)), (7, .ref (ua 5)), (8, .ref (ua 6)), (9, .ref (ua 7)), (10, .ref (ua 8)), (11, .int (nI 1)), (12, .int (nI t)), (14, .int (nI kd)), (15, .int (nI yy)), (16, .int (nI ho)), (17, .int (nI hm)), (18, .int (nI pr)), (19, .int (nI fi)), (20, .int (nI c0))]) hx hb dL_law_365 hl (by decide) rfl (fun ls hl => ?_)
                have loop367 : ∀ (n : Nat) (j : Nat) (ci : Nat) (H : Heap) (locs : List Loc) (ls : Array Slot), nc + 1 ≤ j + n → j ≤ nc → (nc = 0 ∧ ci = 0) ∨ ci < nc → rh_W G ca ad nf nc r v H → u_W G ca ua L H → va_S A s.heap H locs → lv_has ls 24 [(0, .ref b), (1, .ref (ad 0 0)), (2, .ref (ua 0)), (3, .ref (ua 1)), (4, .ref (ua 2)), (5, .ref (ua 3)), (6, .ref (ua 4)), (7, .ref (ua 5)), (8, .ref (ua 6)), (9, .ref (ua 7)), (10, .ref (ua 8)), (11, .int (nI 1)), (12, .int (nI t)), (14, .int (nI kd)), (15, .int (nI yy)), (16, .int (nI ho)), (17, .int (nI hm)), (18, .int (nI pr)), (19, .int (nI fi)), (20, .int (nI ci)), (21, .int (nI j))] → W p l e room_1 s m #[Value.ref b] below meth c H locs cells slots (Q) (F0 m 367 ls []) := by
                  intro n
                  induction n with
                  | zero => intro j ci H locs ls hn hj hci hW hU hS hl; exfalso; omega
                  | succ n ih367 =>
                    intro j ci H locs ls hn hj hci hW hU hS hl
                    refine lv_iload hx hb dL_law_367 (lv_at hl 20 rfl) ?_
                    refine lv_aload_n hx hb dL_law_369 rfl (lv_at hl 2 rfl) ?_
                    refine lv_iconst (v := nI 1) hx hb dL_law_370 (by decide) ?_
                    have hb371_400 := hub 0 1
                    refine un_ald (L := L) hx hb hE hU 0 (by decide) 1 (show 1 < 4 from (by decide)) dL_law_371 ?_
                    refine un_top (y := nI nc) (congrArg nI hn01) ?_
                    refine un_cge (tgt := 415) hx hb dL_law_372 (by decide) (by omega) (by omega) (fun c69 => ?_) (fun c69 => ?_)
                    · exact jn415_67 ci hci _ (lv_sub hl [0, 1, 2, 3, 4, 5, 6, 7, 8, 9, 10, 11, 12, 13, 14, 15, 16, 17, 18, 19] rfl) _ _ hW hU hS
                    · have hjl : j < nc := by omega
                      refine lv_iload hx hb dL_law_375 (lv_at hl 14 rfl) ?_
                      refine lv_bipush (v := nI 7) hx hb dL_law_377 (by decide) ?_
                      refine un_rem hx hb dL_law_379 (by omega) (by decide) (by decide) ?_
                      refine un_ile (tgt := 415) hx hb dL_law_380 (by decide) (by omega) (fun c70 => ?_) (fun c70 => ?_)
                      · exact jn415_67 ci hci _ (lv_sub hl [0, 1, 2, 3, 4, 5, 6, 7, 8, 9, 10, 11, 12, 13, 14, 15, 16, 17, 18, 19] rfl) _ _ hW hU hS
                      · refine lv_aload hx hb dL_law_383 (lv_at hl 5 rfl) ?_
                        refine lv_iload hx hb dL_law_385 (lv_at hl 19 rfl) ?_
                        have hAn : ∀ q : Nat, H.size ≤ q → A q := fun q h => hA q (Nat.le_trans hS.1 h)
                        refine rh_call2 (vx_runS (As := [.ref (ua 3), .int (nI ci)]) (rest := []) ⟨hx, hb, hml, hown, hts⟩ (ct_L_state l ci (by omega) hub) (va_cwS 2 hts gL_law_L_state rfl rfl rfl (by decide +kernel) ⟨by decide, by decide⟩) (rh_pre2 hE hS hAn (fun q h => h) hU) rfl rfl hl.1 rfl (lv_room (Nat.le_of_ble_eq_true rfl)) dL_law_387 ⟨show cells + 0 ≤ 665269 by omega, show slots + 0 ≤ 7105890 by omega⟩) hS hAn (fun _ _ _ _ _ hX9 _ _ _ _ _ _ => hX9.elim) (fun o H locs hN9 hz9 hk9 hS => ?_)
                        have hN9 := hN9
                        subst hN9
                        have hk9 := fun q hq => hk9 q hq (Nat.not_le.mpr hq)
                        have hW := hW.grow hk9
                        have hU := hU.grow hk9
                        refine W.eq (g2 := F0 m 390 ls [.int (nI (u_st L ci))]) rfl ?_
                        have hst4 := (o_call hinv hlr (show ci < nc by omega)).2
                        refine lv_iconst (v := nI 1) hx hb dL_law_390 (by decide) ?_
                        refine lv_iload hx hb dL_law_391 (lv_at hl 14 rfl) ?_
                        refine lv_iconst (v := nI 2) hx hb dL_law_393 (by decide) ?_
                        refine un_rem hx hb dL_law_394 (by omega) (by decide) (by decide) ?_
                        refine un_add hx hb dL_law_395 ?_
                        refine un_ceq (tgt := 415) hx hb dL_law_396 (by decide) (by omega) (by omega) (fun c71 => ?_) (fun c71 => ?_)
                        · exact jn415_67 ci hci _ (lv_sub hl [0, 1, 2, 3, 4, 5, 6, 7, 8, 9, 10, 11, 12, 13, 14, 15, 16, 17, 18, 19] rfl) _ _ hW hU hS
                        · refine lv_iload hx hb dL_law_399 (lv_at hl 19 rfl) ?_
                          refine lv_iconst (v := nI 1) hx hb dL_law_401 (by decide) ?_
                          refine un_add hx hb dL_law_402 ?_
                          refine lv_aload_n hx hb dL_law_403 rfl (lv_at hl 2 rfl) ?_
                          refine lv_iconst (v := nI 1) hx hb dL_law_404 (by decide) ?_
                          have hb405_434 := hub 0 1
                          refine un_ald (L := L) hx hb hE hU 0 (by decide) 1 (show 1 < 4 from (by decide)) dL_law_405 ?_
                          refine un_top (y := nI nc) (congrArg nI hn01) ?_
                          refine un_rem hx hb dL_law_406 (by omega) (by omega) (by omega) ?_
                          refine lv_istore (lv' := [(20, .int (nI ((ci + 1) % nc))), (0, .ref b), (1, .ref (ad 0 0)), (2, .ref (ua 0)), (3, .ref (ua 1)), (4, .ref (ua 2)), (5, .ref (ua 3)), (6, .ref (ua 4)), (7, .ref (ua 5)), (8, .ref (ua 6)), (9, .ref (ua 7)), (10, .ref (ua 8)), (11, .int (nI 1)), (12, .int (nI t)), (14, .int (nI kd)), (15, .int (nI yy)), (16, .int (nI ho)), (17, .int (nI hm)), (18, .int (nI pr)), (19, .int (nI fi)), (21, .int (nI j))]) hx hb dL_law_407 hl (by decide) rfl (fun ls hl => ?_)
                          refine lv_iinc (v := nI (j + 1)) (lv' := [(21, .int (nI (j + 1))), (20, .int (nI ((ci + 1) % nc))), (0, .ref b), (1, .ref (ad 0 0)), (2, .ref (ua 0)), (3, .ref (ua 1)), (4, .ref (ua 2)), (5, .ref (ua 3)), (6, .ref (ua 4)), (7, .ref (ua 5)), (8, .ref (ua 6)), (9, .ref (ua 7)), (10, .ref (ua 8)), (11, .int (nI 1)), (12, .int (nI t)), (14, .int (nI kd)), (15, .int (nI yy)), (16, .int (nI ho)), (17, .int (nI hm)), (18, .int (nI pr)), (19, .int (nI fi))]) hx hb dL_law_409 hl (k := 20) rfl (nI_add j 1) (by decide) rfl (fun ls hl => ?_)
                          refine lv_goto (tgt := 367) hx hb dL_law_412 (by decide) ?_
                          exact ih367 (j + 1) ((ci + 1) % nc) _ _ _ (by omega) (by omega) (Or.inr (Nat.mod_lt _ (by omega))) hW hU hS (lv_sub hl [2, 3, 4, 5, 6, 7, 8, 9, 10, 11, 12, 13, 14, 15, 16, 17, 18, 19, 20, 1, 0] rfl)
                exact loop367 (nc + 1) 0 c0 _ _ _ (by omega) (by omega) hc0 hW hU hS (lv_sub hl [1, 2, 3, 4, 5, 6, 7, 8, 9, 10, 11, 12, 13, 14, 15, 16, 17, 18, 19, 20, 0] rfl)
              refine lv_iconst (v := nI 0) hx hb dL_law_318 (by decide) ?_
              refine lv_istore (lv' := [(21, .int (nI 0)), (20, .int (nI c0)), (19, .int (nI f0)), (18, .int (nI pr)), (17, .int (nI hm)), (16, .int (nI ho)), (15, .int (nI yy)), (14, .int (nI kd)), (13, .int (nI z)), (0, .ref b), (1, .ref (ad 0 0)), (2, .ref (ua 0)), (3, .ref (ua 1)), (4, .ref (ua 2)), (5, .ref (ua 3)), (6, .ref (ua 4)), (7, .ref (ua 5)), (8, .ref (ua 6)), (9, .ref (ua 7)), (10, .ref (ua 8)), (11, .int (nI 1)), (12, .int (nI t))]) hx hb dL_law_319 hl (by decide) rfl (fun ls hl => ?_)
              have loop321 : ∀ (n : Nat) (j : Nat) (fi : Nat) (H : Heap) (locs : List Loc) (ls : Array Slot), nf + 1 ≤ j + n → j ≤ nf → (nf = 0 ∧ fi = 0) ∨ fi < nf → rh_W G ca ad nf nc r v H → u_W G ca ua L H → va_S A s.heap H locs → lv_has ls 24 [(0, .ref b), (1, .ref (ad 0 0)), (2, .ref (ua 0)), (3, .ref (ua 1)), (4, .ref (ua 2)), (5, .ref (ua 3)), (6, .ref (ua 4)), (7, .ref (ua 5)), (8, .ref (ua 6)), (9, .ref (ua 7)), (10, .ref (ua 8)), (11, .int (nI 1)), (12, .int (nI t)), (14, .int (nI kd)), (15, .int (nI yy)), (16, .int (nI ho)), (17, .int (nI hm)), (18, .int (nI pr)), (19, .int (nI fi)), (20, .int (nI c0)), (21, .int (nI j))] → W p l e room_1 s m #[Value.ref b] below meth c H locs cells slots (Q) (F0 m 321 ls []) := by
                intro n
                induction n with
                | zero => intro j fi H locs ls hn hj hfi hW hU hS hl; exfalso; omega
                | succ n ih321 =>
                  intro j fi H locs ls hn hj hfi hW hU hS hl
                  refine lv_iload hx hb dL_law_321 (lv_at hl 20 rfl) ?_
                  refine lv_aload_n hx hb dL_law_323 rfl (lv_at hl 2 rfl) ?_
                  refine lv_iconst (v := nI 0) hx hb dL_law_324 (by decide) ?_
                  have hb325_454 := hub 0 0
                  refine un_ald (L := L) hx hb hE hU 0 (by decide) 0 (show 0 < 4 from (by decide)) dL_law_325 ?_
                  refine un_top (y := nI nf) (congrArg nI hn00) ?_
                  refine un_cge (tgt := 364) hx hb dL_law_326 (by decide) (by omega) (by omega) (fun c72 => ?_) (fun c72 => ?_)
                  · exact jn364_65 fi hfi _ (lv_sub hl [0, 1, 2, 3, 4, 5, 6, 7, 8, 9, 10, 11, 12, 13, 14, 15, 16, 17, 18, 19] rfl) _ _ hW hU hS
                  · have hjl : j < nf := by omega
                    refine lv_iload hx hb dL_law_329 (lv_at hl 14 rfl) ?_
                    refine lv_iconst (v := nI 5) hx hb dL_law_331 (by decide) ?_
                    refine un_rem hx hb dL_law_332 (by omega) (by decide) (by decide) ?_
                    refine un_ile (tgt := 364) hx hb dL_law_333 (by decide) (by omega) (fun c73 => ?_) (fun c73 => ?_)
                    · exact jn364_65 fi hfi _ (lv_sub hl [0, 1, 2, 3, 4, 5, 6, 7, 8, 9, 10, 11, 12, 13, 14, 15, 16, 17, 18, 19] rfl) _ _ hW hU hS
                    · refine lv_aload hx hb dL_law_336 (lv_at hl 4 rfl) ?_
                      refine lv_iconst (v := nI 4) hx hb dL_law_338 (by decide) ?_
                      refine lv_iload hx hb dL_law_339 (lv_at hl 18 rfl) ?_
                      refine un_mul hx hb dL_law_341 ?_
                      refine lv_iconst (v := nI 2) hx hb dL_law_342 (by decide) ?_
                      refine un_add hx hb dL_law_343 ?_
                      have hb344_471 := hub 2 ((4 * fi) + 2)
                      refine un_ald (L := L) hx hb hE hU 2 (by decide) ((4 * fi) + 2) (show ((4 * fi) + 2) < 64 from (by omega)) dL_law_344 ?_
                      refine un_ile (tgt := 364) hx hb dL_law_345 (by decide) (by omega) (fun c74 => ?_) (fun c74 => ?_)
                      · exact jn364_65 fi hfi _ (lv_sub hl [0, 1, 2, 3, 4, 5, 6, 7, 8, 9, 10, 11, 12, 13, 14, 15, 16, 17, 18, 19] rfl) _ _ hW hU hS
                      · refine lv_iload hx hb dL_law_348 (lv_at hl 18 rfl) ?_
                        refine lv_iconst (v := nI 1) hx hb dL_law_350 (by decide) ?_
                        refine un_add hx hb dL_law_351 ?_
                        refine lv_aload_n hx hb dL_law_352 rfl (lv_at hl 2 rfl) ?_
                        refine lv_iconst (v := nI 0) hx hb dL_law_353 (by decide) ?_
                        have hb354_480 := hub 0 0
                        refine un_ald (L := L) hx hb hE hU 0 (by decide) 0 (show 0 < 4 from (by decide)) dL_law_354 ?_
                        refine un_top (y := nI nf) (congrArg nI hn00) ?_
                        refine un_rem hx hb dL_law_355 (by omega) (by omega) (by omega) ?_
                        refine lv_istore (lv' := [(19, .int (nI ((fi + 1) % nf))), (0, .ref b), (1, .ref (ad 0 0)), (2, .ref (ua 0)), (3, .ref (ua 1)), (4, .ref (ua 2)), (5, .ref (ua 3)), (6, .ref (ua 4)), (7, .ref (ua 5)), (8, .ref (ua 6)), (9, .ref (ua 7)), (10, .ref (ua 8)), (11, .int (nI 1)), (12, .int (nI t)), (14, .int (nI kd)), (15, .int (nI yy)), (16, .int (nI ho)), (17, .int (nI hm)), (18, .int (nI pr)), (20, .int (nI c0)), (21, .int (nI j))]) hx hb dL_law_356 hl (by decide) rfl (fun ls hl => ?_)
                        refine lv_iinc (v := nI (j + 1)) (lv' := [(21, .int (nI (j + 1))), (19, .int (nI ((fi + 1) % nf))), (0, .ref b), (1, .ref (ad 0 0)), (2, .ref (ua 0)), (3, .ref (ua 1)), (4, .ref (ua 2)), (5, .ref (ua 3)), (6, .ref (ua 4)), (7, .ref (ua 5)), (8, .ref (ua 6)), (9, .ref (ua 7)), (10, .ref (ua 8)), (11, .int (nI 1)), (12, .int (nI t)), (14, .int (nI kd)), (15, .int (nI yy)), (16, .int (nI ho)), (17, .int (nI hm)), (18, .int (nI pr)), (20, .int (nI c0))]) hx hb dL_law_358 hl (k := 20) rfl (nI_add j 1) (by decide) rfl (fun ls hl => ?_)
                        refine lv_goto (tgt := 321) hx hb dL_law_361 (by decide) ?_
                        exact ih321 (j + 1) ((fi + 1) % nf) _ _ _ (by omega) (by omega) (Or.inr (Nat.mod_lt _ (by omega))) hW hU hS (lv_sub hl [2, 3, 4, 5, 6, 7, 8, 9, 10, 11, 12, 13, 14, 15, 16, 17, 18, 19, 1, 20, 0] rfl)
              exact loop321 (nf + 1) 0 f0 _ _ _ (by omega) (by omega) hf0 hW hU hS (lv_sub hl [9, 10, 11, 12, 13, 14, 15, 16, 17, 18, 19, 20, 21, 7, 6, 5, 4, 3, 2, 1, 0] rfl)
            refine lv_aload_n hx hb dL_law_300 rfl (lv_at hl 9 rfl) ?_
            refine lv_iconst (v := nI 1) hx hb dL_law_301 (by decide) ?_
            have hb302_491 := hub 0 1
            refine un_ald (L := L) hx hb hE hU 0 (by decide) 1 (show 1 < 4 from (by decide)) dL_law_302 ?_
            refine un_top (y := nI nc) (congrArg nI hn01) ?_
            refine un_ine (tgt := 310) hx hb dL_law_303 (by decide) (by omega) (fun c75 => ?_) (fun c75 => ?_)
            · refine lv_iload hx hb dL_law_310 (lv_at hl 4 rfl) ?_
              refine lv_aload_n hx hb dL_law_312 rfl (lv_at hl 9 rfl) ?_
              refine lv_iconst (v := nI 1) hx hb dL_law_313 (by decide) ?_
              have hb314_498 := hub 0 1
              refine un_ald (L := L) hx hb hE hU 0 (by decide) 1 (show 1 < 4 from (by decide)) dL_law_314 ?_
              refine un_top (y := nI nc) (congrArg nI hn01) ?_
              refine un_rem hx hb dL_law_315 (by omega) (by omega) (by omega) ?_
              exact jn316_62 (yy % nc) (Or.inr (Nat.mod_lt _ (by omega)))
            · refine lv_iconst (v := nI 0) hx hb dL_law_306 (by decide) ?_
              refine lv_goto (tgt := 316) hx hb dL_law_307 (by decide) ?_
              exact jn316_62 0 (by omega)
          refine lv_aload_n hx hb dL_law_282 rfl (lv_at hl 8 rfl) ?_
          refine lv_iconst (v := nI 0) hx hb dL_law_283 (by decide) ?_
          have hb284_508 := hub 0 0
          refine un_ald (L := L) hx hb hE hU 0 (by decide) 0 (show 0 < 4 from (by decide)) dL_law_284 ?_
          refine un_top (y := nI nf) (congrArg nI hn00) ?_
          refine un_ine (tgt := 292) hx hb dL_law_285 (by decide) (by omega) (fun c76 => ?_) (fun c76 => ?_)
          · refine lv_iload hx hb dL_law_292 (lv_at hl 3 rfl) ?_
            refine lv_aload_n hx hb dL_law_294 rfl (lv_at hl 8 rfl) ?_
            refine lv_iconst (v := nI 0) hx hb dL_law_295 (by decide) ?_
            have hb296_515 := hub 0 0
            refine un_ald (L := L) hx hb hE hU 0 (by decide) 0 (show 0 < 4 from (by decide)) dL_law_296 ?_
            refine un_top (y := nI nf) (congrArg nI hn00) ?_
            refine un_rem hx hb dL_law_297 (by omega) (by omega) (by omega) ?_
            exact jn298_59 (yy % nf) (Or.inr (Nat.mod_lt _ (by omega)))
          · refine lv_iconst (v := nI 0) hx hb dL_law_288 (by decide) ?_
            refine lv_goto (tgt := 298) hx hb dL_law_289 (by decide) ?_
            exact jn298_59 0 (by omega)
        refine lv_iload hx hb dL_law_255 (lv_at hl 1 rfl) ?_
        refine lv_iconst (v := nI 4) hx hb dL_law_257 (by decide) ?_
        refine un_rem hx hb dL_law_258 (by omega) (by decide) (by decide) ?_
        refine un_ine (tgt := 266) hx hb dL_law_259 (by decide) (by omega) (fun c77 => ?_) (fun c77 => ?_)
        · refine lv_iconst (v := nI 1) hx hb dL_law_266 (by decide) ?_
          exact jn267_36 1 (by omega) (by omega)
        · refine lv_iconst (v := nI 3) hx hb dL_law_262 (by decide) ?_
          refine lv_goto (tgt := 267) hx hb dL_law_263 (by decide) ?_
          exact jn267_36 3 (by omega) (by omega)
      refine lv_iload hx hb dL_law_227 (lv_at hl 0 rfl) ?_
      refine lv_iconst (v := nI 3) hx hb dL_law_229 (by decide) ?_
      refine un_rem hx hb dL_law_230 (by omega) (by decide) (by decide) ?_
      refine un_ine (tgt := 243) hx hb dL_law_231 (by decide) (by omega) (fun c78 => ?_) (fun c78 => ?_)
      · refine lv_iconst (v := nI 0) hx hb dL_law_243 (by decide) ?_
        exact jn244_27 0 (by omega)
      · refine lv_iload hx hb dL_law_234 (lv_at hl 0 rfl) ?_
        refine lv_iconst (v := nI 3) hx hb dL_law_236 (by decide) ?_
        refine un_div hx hb dL_law_237 (by omega) (by decide) (by decide) ?_
        refine lv_iconst (v := nI 4) hx hb dL_law_238 (by decide) ?_
        refine un_rem hx hb dL_law_239 (by omega) (by decide) (by decide) ?_
        refine lv_goto (tgt := 244) hx hb dL_law_240 (by decide) ?_
        exact jn244_27 ((yy / 3) % 4) (by omega)
    refine lv_iload hx hb dL_law_203 (lv_at hl 13 rfl) ?_
    refine lv_iconst (v := nI 2) hx hb dL_law_205 (by decide) ?_
    refine un_cge (tgt := 213) hx hb dL_law_206 (by decide) (by omega) (by decide) (fun c79 => ?_) (fun c79 => ?_)
    · refine lv_iload hx hb dL_law_213 (lv_at hl 0 rfl) ?_
      refine lv_bipush (v := nI 24) hx hb dL_law_215 (by decide) ?_
      refine un_rem hx hb dL_law_217 (by omega) (by decide) (by decide) ?_
      exact jn218_17 (z % 24) (by omega)
    · refine lv_iconst (v := nI 2) hx hb dL_law_209 (by decide) ?_
      refine lv_goto (tgt := 218) hx hb dL_law_210 (by decide) ?_
      exact jn218_17 2 (by omega)
  refine lv_iload hx hb dL_law_163 (lv_at hl 12 rfl) ?_
  refine lv_aload_n hx hb dL_law_165 rfl (lv_at hl 0 rfl) ?_
  refine va_slen hx hb hX hbl hbA hS dL_law_166 ?_
  refine un_top (y := nI Ls) rfl ?_
  refine un_cge (tgt := 180) hx hb dL_law_167 (by decide) (by omega) (by omega) (fun c80 => ?_) (fun c80 => ?_)
  · refine lv_ldc (v := 52009) hx hb hown (hts (.constant RL 119 (52009)) (by decide +kernel)) dL_law_180 ?_
    refine un_top (y := nI 52009) rfl ?_
    refine lv_iload hx hb dL_law_182 (lv_at hl 12 rfl) ?_
    refine un_mul hx hb dL_law_184 ?_
    refine lv_iload hx hb dL_law_185 (lv_at hl 12 rfl) ?_
    refine un_mul hx hb dL_law_187 ?_
    refine lv_sipush (v := nI 9001) hx hb dL_law_188 (by decide) ?_
    refine lv_iload hx hb dL_law_191 (lv_at hl 12 rfl) ?_
    refine un_mul hx hb dL_law_193 ?_
    refine un_add hx hb dL_law_194 ?_
    refine lv_bipush (v := nI 67) hx hb dL_law_195 (by decide) ?_
    refine un_add hx hb dL_law_197 ?_
    refine lv_ldc (v := 2147483647) hx hb hown (hts (.constant RL 118 (2147483647)) (by decide +kernel)) dL_law_198 ?_
    refine un_top (y := nI 2147483647) rfl ?_
    refine lv_iand hx hb dL_law_200 ?_
    obtain ⟨z1, hz1, ez1⟩ := u_and (nI ((((52009 * t) * t) + (9001 * t)) + 67))
    refine un_top (y := nI z1) ez1 ?_
    exact jn201_14 z1 (by omega)
  · refine lv_aload_n hx hb dL_law_170 rfl (lv_at hl 0 rfl) ?_
    refine lv_iload hx hb dL_law_171 (lv_at hl 12 rfl) ?_
    refine l_sld hx hb hX hbl hbA hS hLm t (by omega) rfl dL_law_173 ?_
    refine lv_ldc (v := 2147483647) hx hb hown (hts (.constant RL 118 (2147483647)) (by decide +kernel)) dL_law_174 ?_
    refine un_top (y := nI 2147483647) rfl ?_
    refine lv_iand hx hb dL_law_176 ?_
    obtain ⟨z1, hz1, ez1⟩ := u_and ((xs t))
    refine un_top (y := nI z1) ez1 ?_
    refine lv_goto (tgt := 201) hx hb dL_law_177 (by decide) ?_
    exact jn201_14 z1 (by omega)
