/-! ===== the law sends files ===== -/
set_option maxHeartbeats 8000000 in
set_option maxRecDepth 100000 in
theorem ct_L_sends (l : Launch) {G : va_G} {ca : Nat → ClassId} {A : Nat → Prop} {ua : Nat → Nat} {L : u_L} {nf nc : Nat} {r : rh_R} {v : rh_V} {w : rh_Wm} (f y : Nat) (hf : f < nf) (hy1 : 1 ≤ y) (hy : y ≤ 99) (hinv : inv nf nc r v w) (hlr : lr nf nc r w L) (h7 : le7 nf L) (h0 : L 2 (4 * f + 2) = 0) (hUD : u_D A ua) : rh_M l yL_sends wsL_sends ({ frames := 2, cells := 0, slots := 0, locals := 100 } : Room) G ca A [.ref (ua 0), .ref (ua 1), .ref (ua 2), .ref (ua 3), .ref (ua 4), .ref (ua 5), .ref (ua 6), .ref (ua 7), .int (nI f), .int (nI y)] (u_W G ca ua L) (fun o H => ∃ L9 : u_L, o = some (.int (nI (L9 2 (4 * f + 2)))) ∧ u_W G ca ua L9 H ∧ lr nf nc r (m_send r w nf nc f (nI y)) L9 ∧ le7 nf L9) rh_no 0 0 := by
  have hub := hlr.1
  have hn00 := hlr.2.1.1.1
  have hn16 := hlr.2.1.1.2
  have hq16 : L 2 (4 * f) < 16 := (hlr.2.2.2.1.1 f hf).1.1
  have he9 := le7_le h7 hn16 hq16
  refine rh_enter (cc := cL_sends) (maxL := 14) (ret := (some .int)) (by decide) rfl (Nat.le_of_ble_eq_true rfl) ?_
  intro p e s m below meth c ls hx hb hr hml hown hts hlocks hex hin hE hA hU hl
  have hS : va_S A s.heap s.heap [] := va_S.rf
  have hl : lv_has ls 14 [(0, .ref (ua 0)), (1, .ref (ua 1)), (2, .ref (ua 2)), (3, .ref (ua 3)), (4, .ref (ua 4)), (5, .ref (ua 5)), (6, .ref (ua 6)), (7, .ref (ua 7)), (8, .int (nI f)), (9, .int (nI y))] := hl
  refine lv_aload_n hx hb dL_sends_0 rfl (lv_at hl 2 rfl) ?_
  refine lv_iconst (v := nI 4) hx hb dL_sends_1 (by decide) ?_
  refine lv_iload hx hb dL_sends_2 (lv_at hl 8 rfl) ?_
  refine un_mul hx hb dL_sends_4 ?_
  have hb5_4 := hub 2 (4 * f)
  refine un_ald (L := L) hx hb hE hU 2 (by decide) (4 * f) (show (4 * f) < 64 from (by omega)) dL_sends_5 ?_
  refine lv_istore (lv' := [(10, .int (nI (L 2 (4 * f)))), (0, .ref (ua 0)), (1, .ref (ua 1)), (2, .ref (ua 2)), (3, .ref (ua 3)), (4, .ref (ua 4)), (5, .ref (ua 5)), (6, .ref (ua 6)), (7, .ref (ua 7)), (8, .int (nI f)), (9, .int (nI y))]) hx hb dL_sends_6 hl (by decide) rfl (fun ls hl => ?_)
  refine lv_iconst (v := nI 0) hx hb dL_sends_8 (by decide) ?_
  refine lv_istore (lv' := [(11, .int (nI 0)), (10, .int (nI (L 2 (4 * f)))), (0, .ref (ua 0)), (1, .ref (ua 1)), (2, .ref (ua 2)), (3, .ref (ua 3)), (4, .ref (ua 4)), (5, .ref (ua 5)), (6, .ref (ua 6)), (7, .ref (ua 7)), (8, .int (nI f)), (9, .int (nI y))]) hx hb dL_sends_9 hl (by decide) rfl (fun ls hl => ?_)
  refine lv_iconst (v := nI 0) hx hb dL_sends_11 (by decide) ?_
  refine lv_istore (lv' := [(12, .int (nI 0)), (11, .int (nI 0)), (10, .int (nI (L 2 (4 * f)))), (0, .ref (ua 0)), (1, .ref (ua 1)), (2, .ref (ua 2)), (3, .ref (ua 3)), (4, .ref (ua 4)), (5, .ref (ua 5)), (6, .ref (ua 6)), (7, .ref (ua 7)), (8, .int (nI f)), (9, .int (nI y))]) hx hb dL_sends_12 hl (by decide) rfl (fun ls hl => ?_)
  have loop14 : ∀ (n : Nat) (j : Nat) (wt : Nat) (H : Heap) (locs : List Loc) (ls : Array Slot), nf + 1 ≤ j + n → j ≤ nf → u_wx (fun i => (L 2 (4 * i) = (L 2 (4 * f)) ∧ L 2 (4 * i + 2) = 2) ∧ L 2 (4 * i + 3) = y) j wt → wt ≤ 1 → u_W G ca ua L H → va_S A s.heap H locs → lv_has ls 14 [(0, .ref (ua 0)), (1, .ref (ua 1)), (2, .ref (ua 2)), (3, .ref (ua 3)), (4, .ref (ua 4)), (5, .ref (ua 5)), (6, .ref (ua 6)), (7, .ref (ua 7)), (8, .int (nI f)), (9, .int (nI y)), (10, .int (nI (L 2 (4 * f)))), (11, .int (nI wt)), (12, .int (nI j))] → W p l e ({ frames := 2, cells := 0, slots := 0, locals := 100 } : Room) s m ([.ref (ua 0), .ref (ua 1), .ref (ua 2), .ref (ua 3), .ref (ua 4), .ref (ua 5), .ref (ua 6), .ref (ua 7), .int (nI f), .int (nI y)] : List Value).toArray below meth c H locs 0 0 (vx_MQ below (rh_Q A (fun o H => ∃ L9 : u_L, o = some (.int (nI (L9 2 (4 * f + 2)))) ∧ u_W G ca ua L9 H ∧ lr nf nc r (m_send r w nf nc f (nI y)) L9 ∧ le7 nf L9)) (rh_XC A rh_no) ([.ref (ua 0), .ref (ua 1), .ref (ua 2), .ref (ua 3), .ref (ua 4), .ref (ua 5), .ref (ua 6), .ref (ua 7), .int (nI f), .int (nI y)] : List Value).toArray s 0 0 A) (F0 m 14 ls []) := by
    intro n
    induction n with
    | zero => intro j wt H locs ls hn hj hwx hwt1 hU hS hl; exfalso; omega
    | succ n ih14 =>
      intro j wt H locs ls hn hj hwx hwt1 hU hS hl
      refine lv_iload hx hb dL_sends_14 (lv_at hl 12 rfl) ?_
      refine lv_aload_n hx hb dL_sends_16 rfl (lv_at hl 0 rfl) ?_
      refine lv_iconst (v := nI 0) hx hb dL_sends_17 (by decide) ?_
      have hb18_20 := hub 0 0
      refine un_ald (L := L) hx hb hE hU 0 (by decide) 0 (show 0 < 4 from (by decide)) dL_sends_18 ?_
      refine un_cge (tgt := 76) hx hb dL_sends_19 (by decide) (by omega) (by omega) (fun c1 => ?_) (fun c1 => ?_)
      · have hjf : j = nf := by omega
        rw [hjf] at hwx
        refine lv_aload_n hx hb dL_sends_76 rfl (lv_at hl 2 rfl) ?_
        refine lv_iconst (v := nI 4) hx hb dL_sends_77 (by decide) ?_
        refine lv_iload hx hb dL_sends_78 (lv_at hl 8 rfl) ?_
        refine un_mul hx hb dL_sends_80 ?_
        refine lv_iconst (v := nI 2) hx hb dL_sends_81 (by decide) ?_
        refine un_add hx hb dL_sends_82 ?_
        have jn103_31 : ∀ (sx : Nat), ((¬ wt = 0 ∨ y < L 7 (L 2 (4 * f))) ∧ sx = 1) ∨ (¬ (¬ wt = 0 ∨ y < L 7 (L 2 (4 * f))) ∧ sx = 2) → W p l e ({ frames := 2, cells := 0, slots := 0, locals := 100 } : Room) s m ([.ref (ua 0), .ref (ua 1), .ref (ua 2), .ref (ua 3), .ref (ua 4), .ref (ua 5), .ref (ua 6), .ref (ua 7), .int (nI f), .int (nI y)] : List Value).toArray below meth c H locs 0 0 (vx_MQ below (rh_Q A (fun o H => ∃ L9 : u_L, o = some (.int (nI (L9 2 (4 * f + 2)))) ∧ u_W G ca ua L9 H ∧ lr nf nc r (m_send r w nf nc f (nI y)) L9 ∧ le7 nf L9)) (rh_XC A rh_no) ([.ref (ua 0), .ref (ua 1), .ref (ua 2), .ref (ua 3), .ref (ua 4), .ref (ua 5), .ref (ua 6), .ref (ua 7), .int (nI f), .int (nI y)] : List Value).toArray s 0 0 A) (F0 m 103 ls [.int (nI sx), .int (nI ((4 * f) + 2)), .ref (ua 2)]) := by
          intro sx hsx
          refine un_ast (L := L) (x := sx) hx hb hE hU hUD hS 2 (by decide) ((4 * f) + 2) (show ((4 * f) + 2) < 64 from (by omega)) dL_sends_103 (fun H locs hU hz9 ho9 hS => ?_)
          refine lv_aload_n hx hb dL_sends_104 rfl (lv_at hl 2 rfl) ?_
          refine lv_iconst (v := nI 4) hx hb dL_sends_105 (by decide) ?_
          refine lv_iload hx hb dL_sends_106 (lv_at hl 8 rfl) ?_
          refine un_mul hx hb dL_sends_108 ?_
          refine lv_iconst (v := nI 3) hx hb dL_sends_109 (by decide) ?_
          refine un_add hx hb dL_sends_110 ?_
          refine lv_iload hx hb dL_sends_111 (lv_at hl 9 rfl) ?_
          refine un_ast (L := (un L 2 ((4 * f) + 2) sx)) (x := y) hx hb hE hU hUD hS 2 (by decide) ((4 * f) + 3) (show ((4 * f) + 3) < 64 from (by omega)) dL_sends_113 (fun H locs hU hz9 ho9 hS => ?_)
          refine lv_iconst (v := nI 0) hx hb dL_sends_114 (by decide) ?_
          refine lv_istore (lv' := [(12, .int (nI 0)), (0, .ref (ua 0)), (1, .ref (ua 1)), (2, .ref (ua 2)), (3, .ref (ua 3)), (4, .ref (ua 4)), (5, .ref (ua 5)), (6, .ref (ua 6)), (7, .ref (ua 7)), (8, .int (nI f)), (9, .int (nI y)), (10, .int (nI (L 2 (4 * f)))), (11, .int (nI wt))]) hx hb dL_sends_115 hl (by decide) rfl (fun ls hl => ?_)
          have loop117 : ∀ (n : Nat) (k : Nat) (w1 : rh_Wm) (L1 : u_L) (H : Heap) (locs : List Loc) (ls : Array Slot), 101 ≤ k + n → k ≤ 100 → sv nf nc r (tr (L 2 (4 * f))) (m_send r w nf nc f (nI y)) w1 L1 → (m_cw w1 nf + k ≤ 16 ∨ m_wait r w1 (tr (L 2 (4 * f))) (w1 18 (tr (L 2 (4 * f)))) nf = none) → u_W G ca ua L1 H → va_S A s.heap H locs → lv_has ls 14 [(0, .ref (ua 0)), (1, .ref (ua 1)), (2, .ref (ua 2)), (3, .ref (ua 3)), (4, .ref (ua 4)), (5, .ref (ua 5)), (6, .ref (ua 6)), (7, .ref (ua 7)), (8, .int (nI f)), (9, .int (nI y)), (10, .int (nI (L 2 (4 * f)))), (12, .int (nI k))] → W p l e ({ frames := 2, cells := 0, slots := 0, locals := 100 } : Room) s m ([.ref (ua 0), .ref (ua 1), .ref (ua 2), .ref (ua 3), .ref (ua 4), .ref (ua 5), .ref (ua 6), .ref (ua 7), .int (nI f), .int (nI y)] : List Value).toArray below meth c H locs 0 0 (vx_MQ below (rh_Q A (fun o H => ∃ L9 : u_L, o = some (.int (nI (L9 2 (4 * f + 2)))) ∧ u_W G ca ua L9 H ∧ lr nf nc r (m_send r w nf nc f (nI y)) L9 ∧ le7 nf L9)) (rh_XC A rh_no) ([.ref (ua 0), .ref (ua 1), .ref (ua 2), .ref (ua 3), .ref (ua 4), .ref (ua 5), .ref (ua 6), .ref (ua 7), .int (nI f), .int (nI y)] : List Value).toArray s 0 0 A) (F0 m 117 ls []) := by
            intro n
            induction n with
            | zero => intro k w1 L1 H locs ls hn hk hsv1 hcw hU hS hl; exfalso; omega
            | succ n ih117 =>
              intro k w1 L1 H locs ls hn hk hsv1 hcw hU hS hl
              have hub := hsv1.1.1
              have hn00 := hsv1.1.2.1.1.1
              refine lv_iload hx hb dL_sends_117 (lv_at hl 11 rfl) ?_
              refine lv_bipush (v := nI 100) hx hb dL_sends_119 (by decide) ?_
              refine un_cge (tgt := 210) hx hb dL_sends_121 (by decide) (by omega) (by decide) (fun c2 => ?_) (fun c2 => ?_)
              · have hTw : (m_send r w nf nc f (nI y)) = w1 := sv_done hsv1 (hcw.resolve_left (by omega))
                refine lv_aload_n hx hb dL_sends_210 rfl (lv_at hl 2 rfl) ?_
                refine lv_iconst (v := nI 4) hx hb dL_sends_211 (by decide) ?_
                refine lv_iload hx hb dL_sends_212 (lv_at hl 8 rfl) ?_
                refine un_mul hx hb dL_sends_214 ?_
                refine lv_iconst (v := nI 2) hx hb dL_sends_215 (by decide) ?_
                refine un_add hx hb dL_sends_216 ?_
                have hb217_62 := hub 2 ((4 * f) + 2)
                refine un_ald (L := L1) hx hb hE hU 2 (by decide) ((4 * f) + 2) (show ((4 * f) + 2) < 64 from (by omega)) dL_sends_217 ?_
                exact rh_iret hx hb hr hlocks ⟨L1, rfl, hU, by rw [hTw]; exact hsv1.1, hsv1.2.1⟩ hS (by decide) (by decide) dL_sends_218
              · refine lv_iconst (v := nI 0) hx hb dL_sends_124 (by decide) ?_
                refine lv_istore (lv' := [(13, .int (nI 0)), (0, .ref (ua 0)), (1, .ref (ua 1)), (2, .ref (ua 2)), (3, .ref (ua 3)), (4, .ref (ua 4)), (5, .ref (ua 5)), (6, .ref (ua 6)), (7, .ref (ua 7)), (8, .int (nI f)), (9, .int (nI y)), (10, .int (nI (L 2 (4 * f)))), (12, .int (nI k))]) hx hb dL_sends_125 hl (by decide) rfl (fun ls hl => ?_)
                have loop127 : ∀ (n : Nat) (j : Nat) (w2 : rh_Wm) (L2 : u_L) (H : Heap) (locs : List Loc) (ls : Array Slot), nf + 1 ≤ j + n → j ≤ nf → sv nf nc r (tr (L 2 (4 * f))) (m_send r w nf nc f (nI y)) w2 L2 → ((w2 = w1 ∧ ∀ i : Nat, i < j → ¬ m_isw r w1 (tr (L 2 (4 * f))) (w1 18 (tr (L 2 (4 * f)))) i) ∨ (m_cw w2 nf < m_cw w1 nf ∧ ¬ m_wait r w1 (tr (L 2 (4 * f))) (w1 18 (tr (L 2 (4 * f)))) nf = none)) → u_W G ca ua L2 H → va_S A s.heap H locs → lv_has ls 14 [(0, .ref (ua 0)), (1, .ref (ua 1)), (2, .ref (ua 2)), (3, .ref (ua 3)), (4, .ref (ua 4)), (5, .ref (ua 5)), (6, .ref (ua 6)), (7, .ref (ua 7)), (8, .int (nI f)), (9, .int (nI y)), (10, .int (nI (L 2 (4 * f)))), (12, .int (nI k)), (13, .int (nI j))] → W p l e ({ frames := 2, cells := 0, slots := 0, locals := 100 } : Room) s m ([.ref (ua 0), .ref (ua 1), .ref (ua 2), .ref (ua 3), .ref (ua 4), .ref (ua 5), .ref (ua 6), .ref (ua 7), .int (nI f), .int (nI y)] : List Value).toArray below meth c H locs 0 0 (vx_MQ below (rh_Q A (fun o H => ∃ L9 : u_L, o = some (.int (nI (L9 2 (4 * f + 2)))) ∧ u_W G ca ua L9 H ∧ lr nf nc r (m_send r w nf nc f (nI y)) L9 ∧ le7 nf L9)) (rh_XC A rh_no) ([.ref (ua 0), .ref (ua 1), .ref (ua 2), .ref (ua 3), .ref (ua 4), .ref (ua 5), .ref (ua 6), .ref (ua 7), .int (nI f), .int (nI y)] : List Value).toArray s 0 0 A) (F0 m 127 ls []) := by
                  intro n
                  induction n with
                  | zero => intro j w2 L2 H locs ls hn hj hsv hpr hU hS hl; exfalso; omega
                  | succ n ih127 =>
                    intro j w2 L2 H locs ls hn hj hsv hpr hU hS hl
                    have hub := hsv.1.1
                    have hn00 := hsv.1.2.1.1.1
                    have he17 := le7_le hsv.2.1 hn16 hq16
                    refine lv_iload hx hb dL_sends_127 (lv_at hl 12 rfl) ?_
                    refine lv_aload_n hx hb dL_sends_129 rfl (lv_at hl 0 rfl) ?_
                    refine lv_iconst (v := nI 0) hx hb dL_sends_130 (by decide) ?_
                    have hb131_79 := hub 0 0
                    refine un_ald (L := L2) hx hb hE hU 0 (by decide) 0 (show 0 < 4 from (by decide)) dL_sends_131 ?_
                    refine un_cge (tgt := 204) hx hb dL_sends_132 (by decide) (by omega) (by omega) (fun c3 => ?_) (fun c3 => ?_)
                    · have hjf2 : j = nf := by omega
                      refine lv_iinc (v := nI (k + 1)) (lv' := [(12, .int (nI (k + 1))), (0, .ref (ua 0)), (1, .ref (ua 1)), (2, .ref (ua 2)), (3, .ref (ua 3)), (4, .ref (ua 4)), (5, .ref (ua 5)), (6, .ref (ua 6)), (7, .ref (ua 7)), (8, .int (nI f)), (9, .int (nI y)), (10, .int (nI (L 2 (4 * f)))), (13, .int (nI j))]) hx hb dL_sends_204 hl (k := 11) rfl (nI_add k 1) (by decide) rfl (fun ls hl => ?_)
                      refine lv_goto (tgt := 117) hx hb dL_sends_207 (by decide) ?_
                      have hcw2 : m_cw w2 nf + (k + 1) ≤ 16 ∨ m_wait r w2 (tr (L 2 (4 * f))) (w2 18 (tr (L 2 (4 * f)))) nf = none := by
                        rcases hpr with ⟨rfl, z⟩ | ⟨z1, z2⟩
                        · refine Or.inr ?_
                          cases hm : m_wait r w2 (tr (L 2 (4 * f))) (w2 18 (tr (L 2 (4 * f)))) nf with
                          | none => rfl
                          | some i =>
                            obtain ⟨g1, g2⟩ := m_wait_some nf hm
                            exact absurd g2 (z i (by omega))
                        · rcases hcw with z | z
                          · exact Or.inl (by omega)
                          · exact absurd z z2
                      exact ih117 (k + 1) w2 L2 _ _ _ (by omega) (by omega) hsv hcw2 hU hS (lv_sub hl [1, 2, 3, 4, 5, 6, 7, 8, 9, 10, 11, 0] rfl)
                    · have hjl : j < nf := by omega
                      refine lv_aload_n hx hb dL_sends_135 rfl (lv_at hl 2 rfl) ?_
                      refine lv_iconst (v := nI 4) hx hb dL_sends_136 (by decide) ?_
                      refine lv_iload hx hb dL_sends_137 (lv_at hl 12 rfl) ?_
                      refine un_mul hx hb dL_sends_139 ?_
                      have hb140_102 := hub 2 (4 * j)
                      refine un_ald (L := L2) hx hb hE hU 2 (by decide) (4 * j) (show (4 * j) < 64 from (by omega)) dL_sends_140 ?_
                      refine lv_iload hx hb dL_sends_141 (lv_at hl 10 rfl) ?_
                      refine un_cne (tgt := 198) hx hb dL_sends_143 (by decide) (by omega) (by omega) (fun c4 => ?_) (fun c4 => ?_)
                      · have hnm : ¬ ((L2 2 (4 * j) = (L 2 (4 * f)) ∧ L2 2 (4 * j + 2) = 2) ∧ L2 2 (4 * j + 3) = L2 7 (L 2 (4 * f))) := fun z => c4 z.1.1
                        refine lv_iinc (v := nI (j + 1)) (lv' := [(13, .int (nI (j + 1))), (0, .ref (ua 0)), (1, .ref (ua 1)), (2, .ref (ua 2)), (3, .ref (ua 3)), (4, .ref (ua 4)), (5, .ref (ua 5)), (6, .ref (ua 6)), (7, .ref (ua 7)), (8, .int (nI f)), (9, .int (nI y)), (10, .int (nI (L 2 (4 * f)))), (12, .int (nI k))]) hx hb dL_sends_198 hl (k := 12) rfl (nI_add j 1) (by decide) rfl (fun ls hl => ?_)
                        refine lv_goto (tgt := 127) hx hb dL_sends_201 (by decide) ?_
                        have hpr2 : (w2 = w1 ∧ ∀ i : Nat, i < j + 1 → ¬ m_isw r w1 (tr (L 2 (4 * f))) (w1 18 (tr (L 2 (4 * f)))) i) ∨ (m_cw w2 nf < m_cw w1 nf ∧ ¬ m_wait r w1 (tr (L 2 (4 * f))) (w1 18 (tr (L 2 (4 * f)))) nf = none) := by
                          rcases hpr with ⟨rfl, z⟩ | z
                          · refine Or.inl ⟨rfl, fun i hi => ?_⟩
                            by_cases hij : i = j
                            · subst hij; exact fun y => hnm ((sv_match hsv hq16 hjl).mp y)
                            · exact z i (by omega)
                          · exact Or.inr z
                        exact ih127 (j + 1) w2 L2 _ _ _ (by omega) (by omega) hsv hpr2 hU hS (lv_sub hl [1, 2, 3, 4, 5, 6, 7, 8, 9, 10, 11, 12, 0] rfl)
                      · refine lv_aload_n hx hb dL_sends_146 rfl (lv_at hl 2 rfl) ?_
                        refine lv_iconst (v := nI 4) hx hb dL_sends_147 (by decide) ?_
                        refine lv_iload hx hb dL_sends_148 (lv_at hl 12 rfl) ?_
                        refine un_mul hx hb dL_sends_150 ?_
                        refine lv_iconst (v := nI 2) hx hb dL_sends_151 (by decide) ?_
                        refine un_add hx hb dL_sends_152 ?_
                        have hb153_123 := hub 2 ((4 * j) + 2)
                        refine un_ald (L := L2) hx hb hE hU 2 (by decide) ((4 * j) + 2) (show ((4 * j) + 2) < 64 from (by omega)) dL_sends_153 ?_
                        refine lv_iconst (v := nI 2) hx hb dL_sends_154 (by decide) ?_
                        refine un_cne (tgt := 198) hx hb dL_sends_155 (by decide) (by omega) (by decide) (fun c5 => ?_) (fun c5 => ?_)
                        · have hnm : ¬ ((L2 2 (4 * j) = (L 2 (4 * f)) ∧ L2 2 (4 * j + 2) = 2) ∧ L2 2 (4 * j + 3) = L2 7 (L 2 (4 * f))) := fun z => c5 z.1.2
                          refine lv_iinc (v := nI (j + 1)) (lv' := [(13, .int (nI (j + 1))), (0, .ref (ua 0)), (1, .ref (ua 1)), (2, .ref (ua 2)), (3, .ref (ua 3)), (4, .ref (ua 4)), (5, .ref (ua 5)), (6, .ref (ua 6)), (7, .ref (ua 7)), (8, .int (nI f)), (9, .int (nI y)), (10, .int (nI (L 2 (4 * f)))), (12, .int (nI k))]) hx hb dL_sends_198 hl (k := 12) rfl (nI_add j 1) (by decide) rfl (fun ls hl => ?_)
                          refine lv_goto (tgt := 127) hx hb dL_sends_201 (by decide) ?_
                          have hpr2 : (w2 = w1 ∧ ∀ i : Nat, i < j + 1 → ¬ m_isw r w1 (tr (L 2 (4 * f))) (w1 18 (tr (L 2 (4 * f)))) i) ∨ (m_cw w2 nf < m_cw w1 nf ∧ ¬ m_wait r w1 (tr (L 2 (4 * f))) (w1 18 (tr (L 2 (4 * f)))) nf = none) := by
                            rcases hpr with ⟨rfl, z⟩ | z
                            · refine Or.inl ⟨rfl, fun i hi => ?_⟩
                              by_cases hij : i = j
                              · subst hij; exact fun y => hnm ((sv_match hsv hq16 hjl).mp y)
                              · exact z i (by omega)
                            · exact Or.inr z
                          exact ih127 (j + 1) w2 L2 _ _ _ (by omega) (by omega) hsv hpr2 hU hS (lv_sub hl [1, 2, 3, 4, 5, 6, 7, 8, 9, 10, 11, 12, 0] rfl)
                        · refine lv_aload_n hx hb dL_sends_158 rfl (lv_at hl 2 rfl) ?_
                          refine lv_iconst (v := nI 4) hx hb dL_sends_159 (by decide) ?_
                          refine lv_iload hx hb dL_sends_160 (lv_at hl 12 rfl) ?_
                          refine un_mul hx hb dL_sends_162 ?_
                          refine lv_iconst (v := nI 3) hx hb dL_sends_163 (by decide) ?_
                          refine un_add hx hb dL_sends_164 ?_
                          have hb165_144 := hub 2 ((4 * j) + 3)
                          refine un_ald (L := L2) hx hb hE hU 2 (by decide) ((4 * j) + 3) (show ((4 * j) + 3) < 64 from (by omega)) dL_sends_165 ?_
                          refine lv_aload hx hb dL_sends_166 (lv_at hl 7 rfl) ?_
                          refine lv_iload hx hb dL_sends_168 (lv_at hl 10 rfl) ?_
                          have hb170_148 := hub 7 (L 2 (4 * f))
                          refine un_ald (L := L2) hx hb hE hU 7 (by decide) (L 2 (4 * f)) (show (L 2 (4 * f)) < 16 from (by omega)) dL_sends_170 ?_
                          refine un_cne (tgt := 198) hx hb dL_sends_171 (by decide) (by omega) (by omega) (fun c6 => ?_) (fun c6 => ?_)
                          · have hnm : ¬ ((L2 2 (4 * j) = (L 2 (4 * f)) ∧ L2 2 (4 * j + 2) = 2) ∧ L2 2 (4 * j + 3) = L2 7 (L 2 (4 * f))) := fun z => c6 z.2
                            refine lv_iinc (v := nI (j + 1)) (lv' := [(13, .int (nI (j + 1))), (0, .ref (ua 0)), (1, .ref (ua 1)), (2, .ref (ua 2)), (3, .ref (ua 3)), (4, .ref (ua 4)), (5, .ref (ua 5)), (6, .ref (ua 6)), (7, .ref (ua 7)), (8, .int (nI f)), (9, .int (nI y)), (10, .int (nI (L 2 (4 * f)))), (12, .int (nI k))]) hx hb dL_sends_198 hl (k := 12) rfl (nI_add j 1) (by decide) rfl (fun ls hl => ?_)
                            refine lv_goto (tgt := 127) hx hb dL_sends_201 (by decide) ?_
                            have hpr2 : (w2 = w1 ∧ ∀ i : Nat, i < j + 1 → ¬ m_isw r w1 (tr (L 2 (4 * f))) (w1 18 (tr (L 2 (4 * f)))) i) ∨ (m_cw w2 nf < m_cw w1 nf ∧ ¬ m_wait r w1 (tr (L 2 (4 * f))) (w1 18 (tr (L 2 (4 * f)))) nf = none) := by
                              rcases hpr with ⟨rfl, z⟩ | z
                              · refine Or.inl ⟨rfl, fun i hi => ?_⟩
                                by_cases hij : i = j
                                · subst hij; exact fun y => hnm ((sv_match hsv hq16 hjl).mp y)
                                · exact z i (by omega)
                              · exact Or.inr z
                            exact ih127 (j + 1) w2 L2 _ _ _ (by omega) (by omega) hsv hpr2 hU hS (lv_sub hl [1, 2, 3, 4, 5, 6, 7, 8, 9, 10, 11, 12, 0] rfl)
                          · have hmt : m_isw r w2 (tr (L 2 (4 * f))) (w2 18 (tr (L 2 (4 * f)))) j := (sv_match hsv hq16 hjl).mpr ⟨⟨by omega, by omega⟩, by omega⟩
                            obtain ⟨v1, hrk1⟩ := hsv.2.2.1
                            refine lv_aload_n hx hb dL_sends_174 rfl (lv_at hl 0 rfl) ?_
                            refine lv_aload_n hx hb dL_sends_175 rfl (lv_at hl 1 rfl) ?_
                            refine lv_aload_n hx hb dL_sends_176 rfl (lv_at hl 2 rfl) ?_
                            refine lv_aload_n hx hb dL_sends_177 rfl (lv_at hl 3 rfl) ?_
                            refine lv_aload hx hb dL_sends_178 (lv_at hl 4 rfl) ?_
                            refine lv_aload hx hb dL_sends_180 (lv_at hl 5 rfl) ?_
                            refine lv_aload hx hb dL_sends_182 (lv_at hl 6 rfl) ?_
                            refine lv_iload hx hb dL_sends_184 (lv_at hl 12 rfl) ?_
                            have hAn : ∀ q : Nat, ((∃ k, k < 9 ∧ ua k = q) ∨ H.size ≤ q) → A q := fun q h => h.elim (fun ⟨k, hk, e⟩ => e ▸ hUD.2 k hk) (fun h => hA q (Nat.le_trans hS.1 h))
                            have hUD1 : u_D (fun q => (∃ k, k < 9 ∧ ua k = q) ∨ H.size ≤ q) ua := ⟨hUD.1, fun k hk => Or.inl ⟨k, hk, rfl⟩⟩
                            refine rh_call2 (vx_runS (As := [.ref (ua 0), .ref (ua 1), .ref (ua 2), .ref (ua 3), .ref (ua 4), .ref (ua 5), .ref (ua 6), .int (nI j)]) (rest := []) ⟨hx, hb, hml, hown, hts⟩ (ct_L_looks l j hjl hsv.1 hrk1 (by omega) hUD1) (va_cwS 8 hts gL_sends_L_looks rfl rfl rfl (by decide +kernel) ⟨by decide, by decide⟩) (rh_pre2 hE hS hAn (fun q h => Or.inr h) hU) rfl rfl hl.1 rfl (lv_room (Nat.le_of_ble_eq_true rfl)) dL_sends_186 ⟨by decide, by decide⟩) hS hAn (fun _ _ _ _ _ hX9 _ _ _ _ _ _ => hX9.elim) (fun o H locs hN9 hz9 hk9 hS => ?_)
                            obtain ⟨rfl, L3, hU, hl3, hl37, hl3d⟩ := hN9
                            refine W.eq (g2 := F0 m 189 ls []) rfl ?_
                            have hub := hl3.1
                            obtain ⟨hst1, hst2⟩ := sv_step hsv hq16 hjl hmt hl3 hl37 hl3d
                            refine lv_aload hx hb dL_sends_189 (lv_at hl 7 rfl) ?_
                            refine lv_iload hx hb dL_sends_191 (lv_at hl 10 rfl) ?_
                            refine lv_dup2_11 hx hb dL_sends_193 rfl rfl ?_
                            have hb194_182 := hub 7 (L 2 (4 * f))
                            refine un_ald (L := L3) hx hb hE hU 7 (by decide) (L 2 (4 * f)) (show (L 2 (4 * f)) < 16 from (by omega)) dL_sends_194 ?_
                            refine lv_iconst (v := nI 1) hx hb dL_sends_195 (by decide) ?_
                            refine un_add hx hb dL_sends_196 ?_
                            refine un_ast (L := L3) (x := ((L3 7 (L 2 (4 * f))) + 1)) hx hb hE hU hUD hS 7 (by decide) (L 2 (4 * f)) (show (L 2 (4 * f)) < 16 from (by omega)) dL_sends_197 (fun H locs hU hz9 ho9 hS => ?_)
                            refine lv_iinc (v := nI (j + 1)) (lv' := [(13, .int (nI (j + 1))), (0, .ref (ua 0)), (1, .ref (ua 1)), (2, .ref (ua 2)), (3, .ref (ua 3)), (4, .ref (ua 4)), (5, .ref (ua 5)), (6, .ref (ua 6)), (7, .ref (ua 7)), (8, .int (nI f)), (9, .int (nI y)), (10, .int (nI (L 2 (4 * f)))), (12, .int (nI k))]) hx hb dL_sends_198 hl (k := 12) rfl (nI_add j 1) (by decide) rfl (fun ls hl => ?_)
                            refine lv_goto (tgt := 127) hx hb dL_sends_201 (by decide) ?_
                            have hlt3 : m_cw (wm (m_look r w2 nc j) 18 (tr (L 2 (4 * f))) (m_look r w2 nc j 18 (tr (L 2 (4 * f))) + 1)) nf < m_cw w1 nf := by
                              rcases hpr with ⟨rfl, -⟩ | ⟨z, -⟩
                              · exact hst2
                              · exact Nat.lt_trans hst2 z
                            have hne3 : ¬ m_wait r w1 (tr (L 2 (4 * f))) (w1 18 (tr (L 2 (4 * f)))) nf = none := by
                              rcases hpr with ⟨rfl, -⟩ | ⟨-, z⟩
                              · exact fun z => m_wait_none nf z j hjl hmt
                              · exact z
                            exact ih127 (j + 1) (wm (m_look r w2 nc j) 18 (tr (L 2 (4 * f))) (m_look r w2 nc j 18 (tr (L 2 (4 * f))) + 1)) (un L3 7 (L 2 (4 * f)) ((L3 7 (L 2 (4 * f))) + 1)) _ _ _ (by omega) (by omega) hst1 (Or.inr ⟨hlt3, hne3⟩) hU hS (lv_sub hl [1, 2, 3, 4, 5, 6, 7, 8, 9, 10, 11, 12, 0] rfl)
                exact loop127 (nf + 1) 0 w1 L1 _ _ _ (by omega) (by omega) hsv1 (Or.inl ⟨rfl, fun i hi => absurd hi (Nat.not_lt_zero _)⟩) hU hS (lv_sub hl [1, 2, 3, 4, 5, 6, 7, 8, 9, 10, 11, 12, 0] rfl)
          obtain ⟨w0, hsv0⟩ : ∃ w0 : rh_Wm, sv nf nc r (tr (L 2 (4 * f))) (m_send r w nf nc f (nI y)) w0 (un (un L 2 (4 * f + 2) sx) 2 (4 * f + 3) y) := by
            rcases hsx with ⟨z1, rfl⟩ | ⟨z1, rfl⟩
            · refine ⟨_, sv_one hinv hlr h7 hf h0 hy rfl ?_⟩
              rcases z1 with z1 | z1
              · rcases hwx with ⟨-, z2⟩ | ⟨z2, -⟩
                · exact Or.inl z2
                · exact absurd z2 z1
              · exact Or.inr z1
            · refine ⟨_, sv_two hinv hlr h7 hf h0 hy rfl ?_ (fun z => z1 (Or.inr z))⟩
              rcases hwx with ⟨z2, -⟩ | ⟨-, z2⟩
              · exact absurd (Or.inl (by omega)) z1
              · exact z2
          exact loop117 (101) 0 w0 (un (un L 2 (4 * f + 2) sx) 2 (4 * f + 3) y) _ _ _ (by omega) (by omega) hsv0 (Or.inl (by have := m_cw_le w0 nf; omega)) hU hS (lv_sub hl [1, 2, 3, 4, 5, 6, 7, 8, 9, 10, 11, 0] rfl)
        refine lv_iload hx hb dL_sends_83 (lv_at hl 11 rfl) ?_
        refine un_ine (tgt := 98) hx hb dL_sends_85 (by decide) (by omega) (fun c7 => ?_) (fun c7 => ?_)
        · refine lv_iconst (v := nI 1) hx hb dL_sends_98 (by decide) ?_
          refine lv_goto (tgt := 103) hx hb dL_sends_99 (by decide) ?_
          exact jn103_31 1 (by omega)
        · refine lv_iload hx hb dL_sends_88 (lv_at hl 9 rfl) ?_
          refine lv_aload hx hb dL_sends_90 (lv_at hl 7 rfl) ?_
          refine lv_iload hx hb dL_sends_92 (lv_at hl 10 rfl) ?_
          have hb94_220 := hub 7 (L 2 (4 * f))
          refine un_ald (L := L) hx hb hE hU 7 (by decide) (L 2 (4 * f)) (show (L 2 (4 * f)) < 16 from (by omega)) dL_sends_94 ?_
          refine un_cge (tgt := 102) hx hb dL_sends_95 (by decide) (by omega) (by omega) (fun c8 => ?_) (fun c8 => ?_)
          · refine lv_iconst (v := nI 2) hx hb dL_sends_102 (by decide) ?_
            exact jn103_31 2 (by omega)
          · refine lv_iconst (v := nI 1) hx hb dL_sends_98 (by decide) ?_
            refine lv_goto (tgt := 103) hx hb dL_sends_99 (by decide) ?_
            exact jn103_31 1 (by omega)
      · have hjl : j < nf := by omega
        have jn68_229 : ∀ (b1 : Nat), ((¬ wt = 0 ∨ ((L 2 (4 * j) = (L 2 (4 * f)) ∧ L 2 (4 * j + 2) = 2) ∧ L 2 (4 * j + 3) = y)) ∧ b1 = 1) ∨ (¬ (¬ wt = 0 ∨ ((L 2 (4 * j) = (L 2 (4 * f)) ∧ L 2 (4 * j + 2) = 2) ∧ L 2 (4 * j + 3) = y)) ∧ b1 = 0) → W p l e ({ frames := 2, cells := 0, slots := 0, locals := 100 } : Room) s m ([.ref (ua 0), .ref (ua 1), .ref (ua 2), .ref (ua 3), .ref (ua 4), .ref (ua 5), .ref (ua 6), .ref (ua 7), .int (nI f), .int (nI y)] : List Value).toArray below meth c H locs 0 0 (vx_MQ below (rh_Q A (fun o H => ∃ L9 : u_L, o = some (.int (nI (L9 2 (4 * f + 2)))) ∧ u_W G ca ua L9 H ∧ lr nf nc r (m_send r w nf nc f (nI y)) L9 ∧ le7 nf L9)) (rh_XC A rh_no) ([.ref (ua 0), .ref (ua 1), .ref (ua 2), .ref (ua 3), .ref (ua 4), .ref (ua 5), .ref (ua 6), .ref (ua 7), .int (nI f), .int (nI y)] : List Value).toArray s 0 0 A) (F0 m 68 ls [.int (nI b1)]) := by
          intro b1 hb1
          refine lv_istore (lv' := [(11, .int (nI b1)), (0, .ref (ua 0)), (1, .ref (ua 1)), (2, .ref (ua 2)), (3, .ref (ua 3)), (4, .ref (ua 4)), (5, .ref (ua 5)), (6, .ref (ua 6)), (7, .ref (ua 7)), (8, .int (nI f)), (9, .int (nI y)), (10, .int (nI (L 2 (4 * f)))), (12, .int (nI j))]) hx hb dL_sends_68 hl (by decide) rfl (fun ls hl => ?_)
          refine lv_iinc (v := nI (j + 1)) (lv' := [(12, .int (nI (j + 1))), (11, .int (nI b1)), (0, .ref (ua 0)), (1, .ref (ua 1)), (2, .ref (ua 2)), (3, .ref (ua 3)), (4, .ref (ua 4)), (5, .ref (ua 5)), (6, .ref (ua 6)), (7, .ref (ua 7)), (8, .int (nI f)), (9, .int (nI y)), (10, .int (nI (L 2 (4 * f))))]) hx hb dL_sends_70 hl (k := 12) rfl (nI_add j 1) (by decide) rfl (fun ls hl => ?_)
          refine lv_goto (tgt := 14) hx hb dL_sends_73 (by decide) ?_
          exact ih14 (j + 1) b1 _ _ _ (by omega) (by omega) (u_wx_step hwx hb1) (by omega) hU hS (lv_sub hl [2, 3, 4, 5, 6, 7, 8, 9, 10, 11, 12, 1, 0] rfl)
        refine lv_iload hx hb dL_sends_22 (lv_at hl 11 rfl) ?_
        refine un_ine (tgt := 63) hx hb dL_sends_24 (by decide) (by omega) (fun c9 => ?_) (fun c9 => ?_)
        · refine lv_iconst (v := nI 1) hx hb dL_sends_63 (by decide) ?_
          refine lv_goto (tgt := 68) hx hb dL_sends_64 (by decide) ?_
          exact jn68_229 1 (by omega)
        · refine lv_aload_n hx hb dL_sends_27 rfl (lv_at hl 2 rfl) ?_
          refine lv_iconst (v := nI 4) hx hb dL_sends_28 (by decide) ?_
          refine lv_iload hx hb dL_sends_29 (lv_at hl 12 rfl) ?_
          refine un_mul hx hb dL_sends_31 ?_
          have hb32_244 := hub 2 (4 * j)
          refine un_ald (L := L) hx hb hE hU 2 (by decide) (4 * j) (show (4 * j) < 64 from (by omega)) dL_sends_32 ?_
          refine lv_iload hx hb dL_sends_33 (lv_at hl 10 rfl) ?_
          refine un_cne (tgt := 67) hx hb dL_sends_35 (by decide) (by omega) (by omega) (fun c10 => ?_) (fun c10 => ?_)
          · refine lv_iconst (v := nI 0) hx hb dL_sends_67 (by decide) ?_
            exact jn68_229 0 (by omega)
          · refine lv_aload_n hx hb dL_sends_38 rfl (lv_at hl 2 rfl) ?_
            refine lv_iconst (v := nI 4) hx hb dL_sends_39 (by decide) ?_
            refine lv_iload hx hb dL_sends_40 (lv_at hl 12 rfl) ?_
            refine un_mul hx hb dL_sends_42 ?_
            refine lv_iconst (v := nI 2) hx hb dL_sends_43 (by decide) ?_
            refine un_add hx hb dL_sends_44 ?_
            have hb45_256 := hub 2 ((4 * j) + 2)
            refine un_ald (L := L) hx hb hE hU 2 (by decide) ((4 * j) + 2) (show ((4 * j) + 2) < 64 from (by omega)) dL_sends_45 ?_
            refine lv_iconst (v := nI 2) hx hb dL_sends_46 (by decide) ?_
            refine un_cne (tgt := 67) hx hb dL_sends_47 (by decide) (by omega) (by decide) (fun c11 => ?_) (fun c11 => ?_)
            · refine lv_iconst (v := nI 0) hx hb dL_sends_67 (by decide) ?_
              exact jn68_229 0 (by omega)
            · refine lv_aload_n hx hb dL_sends_50 rfl (lv_at hl 2 rfl) ?_
              refine lv_iconst (v := nI 4) hx hb dL_sends_51 (by decide) ?_
              refine lv_iload hx hb dL_sends_52 (lv_at hl 12 rfl) ?_
              refine un_mul hx hb dL_sends_54 ?_
              refine lv_iconst (v := nI 3) hx hb dL_sends_55 (by decide) ?_
              refine un_add hx hb dL_sends_56 ?_
              have hb57_268 := hub 2 ((4 * j) + 3)
              refine un_ald (L := L) hx hb hE hU 2 (by decide) ((4 * j) + 3) (show ((4 * j) + 3) < 64 from (by omega)) dL_sends_57 ?_
              refine lv_iload hx hb dL_sends_58 (lv_at hl 9 rfl) ?_
              refine un_cne (tgt := 67) hx hb dL_sends_60 (by decide) (by omega) (by omega) (fun c12 => ?_) (fun c12 => ?_)
              · refine lv_iconst (v := nI 0) hx hb dL_sends_67 (by decide) ?_
                exact jn68_229 0 (by omega)
              · refine lv_iconst (v := nI 1) hx hb dL_sends_63 (by decide) ?_
                refine lv_goto (tgt := 68) hx hb dL_sends_64 (by decide) ?_
                exact jn68_229 1 (by omega)
  exact loop14 (nf + 1) 0 0 _ _ _ (by omega) (by omega) (Or.inr ⟨rfl, fun i hi => absurd hi (Nat.not_lt_zero _)⟩) (by omega) hU hS (lv_sub hl [3, 4, 5, 6, 7, 8, 9, 10, 11, 12, 2, 1, 0] rfl)
