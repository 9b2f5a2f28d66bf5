/-! ===== the law looks at files ===== -/
set_option maxHeartbeats 8000000 in
set_option maxRecDepth 100000 in
theorem ct_L_looks (l : Launch) {G : va_G} {ca : Nat → ClassId} {A : Nat → Prop} {ua : Nat → Nat} {L : u_L} {nf nc : Nat} {r : rh_R} {v : rh_V} {w : rh_Wm} (f : Nat) (hf : f < nf) (hlr : lr nf nc r w L) (hrk : rk nf nc r v w) (h2 : L 2 (4 * f + 2) = 2) (hUD : u_D A ua) : rh_M l yL_looks wsL_looks ({ frames := 1, cells := 0, slots := 0, locals := 30 } : Room) G ca A [.ref (ua 0), .ref (ua 1), .ref (ua 2), .ref (ua 3), .ref (ua 4), .ref (ua 5), .ref (ua 6), .int (nI f)] (u_W G ca ua L) (fun o H => o = none ∧ ∃ L9 : u_L, u_W G ca ua L9 H ∧ lr nf nc r (m_look r w nc f) L9 ∧ L9 7 = L 7 ∧ u_dn L9 nf = u_dn L nf + 1) rh_no 0 0 := by
  have hub := hlr.1
  have hla := hlr.2.2.1
  have hn01 := hlr.2.1.2.1.1
  have hn40 := hlr.2.1.2.1.2
  have hn03 := hlr.2.1.2.2.2.1
  have hf16 : f < 16 := by have := hlr.2.1.1.2; omega
  obtain ⟨⟨p1, p2⟩, ⟨p3, p4⟩, ⟨p5, p6⟩, p7⟩ := hlr.2.2.2.1.1 f hf
  have h5 : ¬ w 7 f = 5 := by rw [p5, h2]; decide
  have hlate := look_late hlr hf
  have hbad := look_bad hlr hrk.2.1.1 f
  have hgle := u_good_le L f nc
  have hale := u_all_le L f nc
  refine rh_enter (cc := cL_looks) (maxL := 12) (ret := none) (by decide) rfl (Nat.le_of_ble_eq_true rfl) ?_
  intro p e s m below meth c ls hx hb hr hml hown hts hlocks hex hin hE hA hU hl
  have hS : va_S A s.heap s.heap [] := va_S.rf
  have hl : lv_has ls 12 [(0, .ref (ua 0)), (1, .ref (ua 1)), (2, .ref (ua 2)), (3, .ref (ua 3)), (4, .ref (ua 4)), (5, .ref (ua 5)), (6, .ref (ua 6)), (7, .int (nI f))] := hl
  refine lv_aload_n hx hb dL_looks_0 rfl (lv_at hl 2 rfl) ?_
  refine lv_iconst (v := nI 4) hx hb dL_looks_1 (by decide) ?_
  refine lv_iload hx hb dL_looks_2 (lv_at hl 7 rfl) ?_
  refine un_mul hx hb dL_looks_4 ?_
  have hb5_4 := hub 2 (4 * f)
  refine un_ald (L := L) hx hb hE hU 2 (by decide) (4 * f) (show (4 * f) < 64 from (by omega)) dL_looks_5 ?_
  refine lv_iconst (v := nI 4) hx hb dL_looks_6 (by decide) ?_
  refine un_rem hx hb dL_looks_7 (by omega) (by decide) (by decide) ?_
  refine lv_istore (lv' := [(8, .int (nI ((L 2 (4 * f)) % 4))), (0, .ref (ua 0)), (1, .ref (ua 1)), (2, .ref (ua 2)), (3, .ref (ua 3)), (4, .ref (ua 4)), (5, .ref (ua 5)), (6, .ref (ua 6)), (7, .int (nI f))]) hx hb dL_looks_8 hl (by decide) rfl (fun ls hl => ?_)
  refine lv_iconst (v := nI 0) hx hb dL_looks_10 (by decide) ?_
  refine lv_istore (lv' := [(9, .int (nI 0)), (8, .int (nI ((L 2 (4 * f)) % 4))), (0, .ref (ua 0)), (1, .ref (ua 1)), (2, .ref (ua 2)), (3, .ref (ua 3)), (4, .ref (ua 4)), (5, .ref (ua 5)), (6, .ref (ua 6)), (7, .int (nI f))]) hx hb dL_looks_11 hl (by decide) rfl (fun ls hl => ?_)
  refine lv_iconst (v := nI 0) hx hb dL_looks_13 (by decide) ?_
  refine lv_istore (lv' := [(10, .int (nI 0)), (9, .int (nI 0)), (8, .int (nI ((L 2 (4 * f)) % 4))), (0, .ref (ua 0)), (1, .ref (ua 1)), (2, .ref (ua 2)), (3, .ref (ua 3)), (4, .ref (ua 4)), (5, .ref (ua 5)), (6, .ref (ua 6)), (7, .int (nI f))]) hx hb dL_looks_14 hl (by decide) rfl (fun ls hl => ?_)
  refine lv_iconst (v := nI 0) hx hb dL_looks_16 (by decide) ?_
  refine lv_istore (lv' := [(11, .int (nI 0)), (10, .int (nI 0)), (9, .int (nI 0)), (8, .int (nI ((L 2 (4 * f)) % 4))), (0, .ref (ua 0)), (1, .ref (ua 1)), (2, .ref (ua 2)), (3, .ref (ua 3)), (4, .ref (ua 4)), (5, .ref (ua 5)), (6, .ref (ua 6)), (7, .int (nI f))]) hx hb dL_looks_17 hl (by decide) rfl (fun ls hl => ?_)
  have loop19 : ∀ (n : Nat) (j : Nat) (gd : Nat) (al : Nat) (H : Heap) (locs : List Loc) (ls : Array Slot), nc + 1 ≤ j + n → j ≤ nc → gd = u_good L f j → al = u_all L f j → u_W G ca ua L H → va_S A s.heap H locs → lv_has ls 12 [(0, .ref (ua 0)), (1, .ref (ua 1)), (2, .ref (ua 2)), (3, .ref (ua 3)), (4, .ref (ua 4)), (5, .ref (ua 5)), (6, .ref (ua 6)), (7, .int (nI f)), (8, .int (nI ((L 2 (4 * f)) % 4))), (9, .int (nI gd)), (10, .int (nI al)), (11, .int (nI j))] → W p l e ({ frames := 1, cells := 0, slots := 0, locals := 30 } : Room) s m ([.ref (ua 0), .ref (ua 1), .ref (ua 2), .ref (ua 3), .ref (ua 4), .ref (ua 5), .ref (ua 6), .int (nI f)] : List Value).toArray below meth c H locs 0 0 (vx_MQ below (rh_Q A (fun o H => o = none ∧ ∃ L9 : u_L, u_W G ca ua L9 H ∧ lr nf nc r (m_look r w nc f) L9 ∧ L9 7 = L 7 ∧ u_dn L9 nf = u_dn L nf + 1)) (rh_XC A rh_no) ([.ref (ua 0), .ref (ua 1), .ref (ua 2), .ref (ua 3), .ref (ua 4), .ref (ua 5), .ref (ua 6), .int (nI f)] : List Value).toArray s 0 0 A) (F0 m 19 ls []) := by
    intro n
    induction n with
    | zero => intro j gd al H locs ls hn hj hgd hal hU hS hl; exfalso; omega
    | succ n ih19 =>
      intro j gd al H locs ls hn hj hgd hal hU hS hl
      refine lv_iload hx hb dL_looks_19 (lv_at hl 11 rfl) ?_
      refine lv_aload_n hx hb dL_looks_21 rfl (lv_at hl 0 rfl) ?_
      refine lv_iconst (v := nI 1) hx hb dL_looks_22 (by decide) ?_
      have hb23_24 := hub 0 1
      refine un_ald (L := L) hx hb hE hU 0 (by decide) 1 (show 1 < 4 from (by decide)) dL_looks_23 ?_
      refine un_cge (tgt := 96) hx hb dL_looks_24 (by decide) (by omega) (by omega) (fun c1 => ?_) (fun c1 => ?_)
      · have hjf : j = nc := by omega
        rw [hjf] at hgd hal
        refine lv_aload_n hx hb dL_looks_96 rfl (lv_at hl 2 rfl) ?_
        refine lv_iconst (v := nI 4) hx hb dL_looks_97 (by decide) ?_
        refine lv_iload hx hb dL_looks_98 (lv_at hl 7 rfl) ?_
        refine un_mul hx hb dL_looks_100 ?_
        refine lv_iconst (v := nI 2) hx hb dL_looks_101 (by decide) ?_
        refine un_add hx hb dL_looks_102 ?_
        refine lv_aload_n hx hb dL_looks_103 rfl (lv_at hl 0 rfl) ?_
        refine lv_iconst (v := nI 3) hx hb dL_looks_104 (by decide) ?_
        have hb105_37 := hub 0 3
        refine un_ald (L := L) hx hb hE hU 0 (by decide) 3 (show 3 < 4 from (by decide)) dL_looks_105 ?_
        refine lv_aload_n hx hb dL_looks_106 rfl (lv_at hl 2 rfl) ?_
        refine lv_iconst (v := nI 4) hx hb dL_looks_107 (by decide) ?_
        refine lv_iload hx hb dL_looks_108 (lv_at hl 7 rfl) ?_
        refine un_mul hx hb dL_looks_110 ?_
        refine lv_iconst (v := nI 1) hx hb dL_looks_111 (by decide) ?_
        refine un_add hx hb dL_looks_112 ?_
        have hb113_45 := hub 2 ((4 * f) + 1)
        refine un_ald (L := L) hx hb hE hU 2 (by decide) ((4 * f) + 1) (show ((4 * f) + 1) < 64 from (by omega)) dL_looks_113 ?_
        refine un_sub hx hb dL_looks_114 (by omega) ?_
        refine lv_iconst (v := nI 2) hx hb dL_looks_115 (by decide) ?_
        refine un_cle (tgt := 123) hx hb dL_looks_116 (by decide) (by omega) (by decide) (fun c2 => ?_) (fun c2 => ?_)
        · have hnl : ¬ w 6 f + 2 < w 26 24 := fun z => absurd (hlate.mp z) (by omega)
          refine lv_iconst (v := nI 3) hx hb dL_looks_123 (by decide) ?_
          refine lv_iload hx hb dL_looks_124 (lv_at hl 9 rfl) ?_
          refine un_mul hx hb dL_looks_126 ?_
          refine lv_iconst (v := nI 2) hx hb dL_looks_127 (by decide) ?_
          refine lv_iload hx hb dL_looks_128 (lv_at hl 10 rfl) ?_
          refine un_mul hx hb dL_looks_130 ?_
          refine un_cge (tgt := 138) hx hb dL_looks_131 (by decide) (by omega) (by omega) (fun c3 => ?_) (fun c3 => ?_)
          · have hlk : m_look r w nc f = m_acc r (wm w 7 f 5) f nc := by
              unfold m_look
              rw [if_neg hnl, if_neg (fun z => absurd (hbad.mp z) (by omega))]
            refine lv_iconst (v := nI 5) hx hb dL_looks_138 (by decide) ?_
            refine un_ast (L := L) (x := 5) hx hb hE hU hUD hS 2 (by decide) ((4 * f) + 2) (show ((4 * f) + 2) < 64 from (by omega)) dL_looks_139 (fun H locs hU hz9 ho9 hS => ?_)
            refine lv_iconst (v := nI 0) hx hb dL_looks_140 (by decide) ?_
            refine lv_istore (lv' := [(11, .int (nI 0)), (0, .ref (ua 0)), (1, .ref (ua 1)), (2, .ref (ua 2)), (3, .ref (ua 3)), (4, .ref (ua 4)), (5, .ref (ua 5)), (6, .ref (ua 6)), (7, .int (nI f)), (8, .int (nI ((L 2 (4 * f)) % 4))), (9, .int (nI gd)), (10, .int (nI al))]) hx hb dL_looks_141 hl (by decide) rfl (fun ls hl => ?_)
            have loop143 : ∀ (n : Nat) (j : Nat) (L1 : u_L) (H : Heap) (locs : List Loc) (ls : Array Slot), nc + 1 ≤ j + n → j ≤ nc → lr nf nc r (m_acc r (wm w 7 f 5) f j) L1 → (L1 7 = L 7 ∧ u_dn L1 nf = u_dn L nf + 1 ∧ L1 2 (4 * f) = L 2 (4 * f) ∧ L1 2 (4 * f + 2) = 5) → u_W G ca ua L1 H → va_S A s.heap H locs → lv_has ls 12 [(0, .ref (ua 0)), (1, .ref (ua 1)), (2, .ref (ua 2)), (3, .ref (ua 3)), (4, .ref (ua 4)), (5, .ref (ua 5)), (6, .ref (ua 6)), (7, .int (nI f)), (8, .int (nI ((L 2 (4 * f)) % 4))), (11, .int (nI j))] → W p l e ({ frames := 1, cells := 0, slots := 0, locals := 30 } : Room) s m ([.ref (ua 0), .ref (ua 1), .ref (ua 2), .ref (ua 3), .ref (ua 4), .ref (ua 5), .ref (ua 6), .int (nI f)] : List Value).toArray below meth c H locs 0 0 (vx_MQ below (rh_Q A (fun o H => o = none ∧ ∃ L9 : u_L, u_W G ca ua L9 H ∧ lr nf nc r (m_look r w nc f) L9 ∧ L9 7 = L 7 ∧ u_dn L9 nf = u_dn L nf + 1)) (rh_XC A rh_no) ([.ref (ua 0), .ref (ua 1), .ref (ua 2), .ref (ua 3), .ref (ua 4), .ref (ua 5), .ref (ua 6), .int (nI f)] : List Value).toArray s 0 0 A) (F0 m 143 ls []) := by
              intro n
              induction n with
              | zero => intro j L1 H locs ls hn hj hlr1 hsame hU hS hl; exfalso; omega
              | succ n ih143 =>
                intro j L1 H locs ls hn hj hlr1 hsame hU hS hl
                have hub := hlr1.1
                have hla := hlr1.2.2.1
                have hn01 := hlr1.2.1.2.1.1
                have hacc := acc_at hrk hf h5 hj
                refine lv_iload hx hb dL_looks_143 (lv_at hl 9 rfl) ?_
                refine lv_aload_n hx hb dL_looks_145 rfl (lv_at hl 0 rfl) ?_
                refine lv_iconst (v := nI 1) hx hb dL_looks_146 (by decide) ?_
                have hb147_78 := hub 0 1
                refine un_ald (L := L1) hx hb hE hU 0 (by decide) 1 (show 1 < 4 from (by decide)) dL_looks_147 ?_
                refine un_cge (tgt := 232) hx hb dL_looks_148 (by decide) (by omega) (by omega) (fun c4 => ?_) (fun c4 => ?_)
                · have hjf2 : j = nc := by omega
                  exact rh_vret hx hb hr hlocks ⟨rfl, L1, hU, by rw [hlk]; rw [hjf2] at hlr1; exact hlr1, hsame.1, hsame.2.1⟩ hS (by decide) (by decide) dL_looks_232
                · have hjl : j < nc := by omega
                  obtain ⟨⟨q1, q2⟩, ⟨q3, q4⟩, q5, q6, ⟨q7, q8, q9⟩, q10, q11⟩ := hlr1.2.2.2.2.1 j hjl
                  have hrt := u_rt_m hla hlr1.2.2.2.1.1 hlr1.2.2.2.2.1 hjl (hacc.1.1.2.2.2.2.2.1 j hjl).1
                  refine lv_aload_n hx hb dL_looks_151 rfl (lv_at hl 2 rfl) ?_
                  refine lv_iconst (v := nI 4) hx hb dL_looks_152 (by decide) ?_
                  refine lv_iload hx hb dL_looks_153 (lv_at hl 7 rfl) ?_
                  refine un_mul hx hb dL_looks_155 ?_
                  refine lv_iconst (v := nI 2) hx hb dL_looks_156 (by decide) ?_
                  refine un_add hx hb dL_looks_157 ?_
                  have hb158_92 := hub 2 ((4 * f) + 2)
                  refine un_ald (L := L1) hx hb hE hU 2 (by decide) ((4 * f) + 2) (show ((4 * f) + 2) < 64 from (by omega)) dL_looks_158 ?_
                  refine lv_iconst (v := nI 5) hx hb dL_looks_159 (by decide) ?_
                  refine un_cne (tgt := 232) hx hb dL_looks_160 (by decide) (by omega) (by decide) (fun c5 => (by exfalso; omega)) (fun c5 => ?_)
                  refine lv_aload_n hx hb dL_looks_163 rfl (lv_at hl 3 rfl) ?_
                  refine lv_iload hx hb dL_looks_164 (lv_at hl 9 rfl) ?_
                  have hb166_98 := hub 3 j
                  refine un_ald (L := L1) hx hb hE hU 3 (by decide) j (show j < 40 from (by omega)) dL_looks_166 ?_
                  refine lv_bipush (v := nI 16) hx hb dL_looks_167 (by decide) ?_
                  refine un_rem hx hb dL_looks_169 (by omega) (by decide) (by decide) ?_
                  refine lv_iload hx hb dL_looks_170 (lv_at hl 7 rfl) ?_
                  refine un_cne (tgt := 226) hx hb dL_looks_172 (by decide) (by omega) (by omega) (fun c6 => ?_) (fun c6 => ?_)
                  · have hno : ¬ (r 9 j = f ∧ m_right r (m_acc r (wm w 7 f 5) f j) j) := fun z => c6 (q2 ▸ z.1)
                    refine lv_iinc (v := nI (j + 1)) (lv' := [(11, .int (nI (j + 1))), (0, .ref (ua 0)), (1, .ref (ua 1)), (2, .ref (ua 2)), (3, .ref (ua 3)), (4, .ref (ua 4)), (5, .ref (ua 5)), (6, .ref (ua 6)), (7, .int (nI f)), (8, .int (nI ((L 2 (4 * f)) % 4)))]) hx hb dL_looks_226 hl (k := 9) rfl (nI_add j 1) (by decide) rfl (fun ls hl => ?_)
                    refine lv_goto (tgt := 143) hx hb dL_looks_229 (by decide) ?_
                    have hskip : m_acc r (wm w 7 f 5) f (j + 1) = (m_acc r (wm w 7 f 5) f j) := if_neg hno
                    exact ih143 (j + 1) L1 _ _ _ (by omega) (by omega) (by rw [hskip]; exact hlr1) hsame hU hS (lv_sub hl [1, 2, 3, 4, 5, 6, 7, 8, 9, 0] rfl)
                  · have hrf : r 9 j = f := q2.trans c6
                    rw [hrf] at hrt
                    unfold u_rt at hrt
                    rw [hsame.2.2.1] at hrt
                    refine lv_aload_n hx hb dL_looks_175 rfl (lv_at hl 1 rfl) ?_
                    refine lv_iload hx hb dL_looks_176 (lv_at hl 8 rfl) ?_
                    refine lv_aload hx hb dL_looks_178 (lv_at hl 4 rfl) ?_
                    refine lv_iload hx hb dL_looks_180 (lv_at hl 9 rfl) ?_
                    have hb182_117 := hub 4 j
                    refine un_ald (L := L1) hx hb hE hU 4 (by decide) j (show j < 40 from (by omega)) dL_looks_182 ?_
                    have hAn : ∀ q : Nat, H.size ≤ q → A q := fun q h => hA q (Nat.le_trans hS.1 h)
                    refine rh_call2 (vx_runS (As := [.ref (ua 1), .int (nI ((L 2 (4 * f)) % 4)), .int (nI (L1 4 j))]) (rest := []) ⟨hx, hb, hml, hown, hts⟩ (ct_L_charge l ((L 2 (4 * f)) % 4) (by omega) (L1 4 j) (by omega) hub hla) (va_cwS 3 hts gL_looks_L_charge rfl rfl rfl (by decide +kernel) ⟨by decide, by decide⟩) (rh_pre2 hE hS hAn (fun q h => h) hU) rfl rfl hl.1 rfl (lv_room (Nat.le_of_ble_eq_true rfl)) dL_looks_183 ⟨by decide, by decide⟩) hS hAn (fun _ _ _ _ _ hX9 _ _ _ _ _ _ => hX9.elim) (fun o H locs hN9 hz9 hk9 hS => ?_)
                    have hN9 := hN9
                    subst hN9
                    have hk9 := fun q hq => hk9 q hq (Nat.not_le.mpr hq)
                    have hU := hU.grow hk9
                    refine W.eq (g2 := F0 m 186 ls [.int (nI (u_ch L1 ((L 2 (4 * f)) % 4) (L1 4 j)))]) rfl ?_
                    have huc := u_ch_le hla (i := L 2 (4 * f) % 4) (s := L1 4 j) (by omega) q9
                    refine lv_aload hx hb dL_looks_186 (lv_at hl 5 rfl) ?_
                    refine lv_iload hx hb dL_looks_188 (lv_at hl 9 rfl) ?_
                    have hb190_129 := hub 5 j
                    refine un_ald (L := L1) hx hb hE hU 5 (by decide) j (show j < 40 from (by omega)) dL_looks_190 ?_
                    refine un_cne (tgt := 226) hx hb dL_looks_191 (by decide) (by omega) (by omega) (fun c7 => ?_) (fun c7 => ?_)
                    · have hno : ¬ (r 9 j = f ∧ m_right r (m_acc r (wm w 7 f 5) f j) j) := fun z => c7 (hrt.mp z.2)
                      refine lv_iinc (v := nI (j + 1)) (lv' := [(11, .int (nI (j + 1))), (0, .ref (ua 0)), (1, .ref (ua 1)), (2, .ref (ua 2)), (3, .ref (ua 3)), (4, .ref (ua 4)), (5, .ref (ua 5)), (6, .ref (ua 6)), (7, .int (nI f)), (8, .int (nI ((L 2 (4 * f)) % 4)))]) hx hb dL_looks_226 hl (k := 9) rfl (nI_add j 1) (by decide) rfl (fun ls hl => ?_)
                      refine lv_goto (tgt := 143) hx hb dL_looks_229 (by decide) ?_
                      have hskip : m_acc r (wm w 7 f 5) f (j + 1) = (m_acc r (wm w 7 f 5) f j) := if_neg hno
                      exact ih143 (j + 1) L1 _ _ _ (by omega) (by omega) (by rw [hskip]; exact hlr1) hsame hU hS (lv_sub hl [1, 2, 3, 4, 5, 6, 7, 8, 9, 0] rfl)
                    · have hmr : m_right r (m_acc r (wm w 7 f 5) f j) j := hrt.mpr c7
                      have hlt9 := m_act_lt hjl (hacc.2.2 j (Nat.le_refl _) hjl hrf)
                      have hle9 := hacc.1.2.1
                      have hna9 := hlr1.2.1.2.2.1
                      refine lv_aload_n hx hb dL_looks_194 rfl (lv_at hl 3 rfl) ?_
                      refine lv_iload hx hb dL_looks_195 (lv_at hl 9 rfl) ?_
                      refine lv_iload hx hb dL_looks_197 (lv_at hl 7 rfl) ?_
                      refine lv_bipush (v := nI 16) hx hb dL_looks_199 (by decide) ?_
                      refine un_add hx hb dL_looks_201 ?_
                      refine lv_sipush (v := nI 128) hx hb dL_looks_202 (by decide) ?_
                      refine lv_aload_n hx hb dL_looks_205 rfl (lv_at hl 0 rfl) ?_
                      refine lv_iconst (v := nI 3) hx hb dL_looks_206 (by decide) ?_
                      have hb207_149 := hub 0 3
                      refine un_ald (L := L1) hx hb hE hU 0 (by decide) 3 (show 3 < 4 from (by decide)) dL_looks_207 ?_
                      refine un_mul hx hb dL_looks_208 ?_
                      refine un_add hx hb dL_looks_209 ?_
                      refine un_ast (L := L1) (x := ((f + 16) + (128 * (L1 0 3)))) hx hb hE hU hUD hS 3 (by decide) j (show j < 40 from (by omega)) dL_looks_210 (fun H locs hU hz9 ho9 hS => ?_)
                      refine lv_aload hx hb dL_looks_211 (lv_at hl 6 rfl) ?_
                      refine lv_aload_n hx hb dL_looks_213 rfl (lv_at hl 0 rfl) ?_
                      refine lv_iconst (v := nI 2) hx hb dL_looks_214 (by decide) ?_
                      have hb215_157 := hub 0 2
                      refine un_ald (L := (un L1 3 j ((f + 16) + (128 * (L1 0 3))))) hx hb hE hU 0 (by decide) 2 (show 2 < 4 from (by decide)) dL_looks_215 ?_
                      refine un_top (y := nI (L1 0 2)) (congrArg nI (by simp [un])) ?_
                      refine lv_iload hx hb dL_looks_216 (lv_at hl 9 rfl) ?_
                      refine un_ast (L := (un L1 3 j ((f + 16) + (128 * (L1 0 3))))) (x := j) hx hb hE hU hUD hS 6 (by decide) (L1 0 2) (show (L1 0 2) < 40 from (by omega)) dL_looks_218 (fun H locs hU hz9 ho9 hS => ?_)
                      refine lv_aload_n hx hb dL_looks_219 rfl (lv_at hl 0 rfl) ?_
                      refine lv_iconst (v := nI 2) hx hb dL_looks_220 (by decide) ?_
                      refine lv_dup2_11 hx hb dL_looks_221 rfl rfl ?_
                      have hb222_165 := hub 0 2
                      refine un_ald (L := (un (un L1 3 j ((f + 16) + (128 * (L1 0 3)))) 6 (L1 0 2) j)) hx hb hE hU 0 (by decide) 2 (show 2 < 4 from (by decide)) dL_looks_222 ?_
                      refine un_top (y := nI (L1 0 2)) (congrArg nI (by simp [un])) ?_
                      refine lv_iconst (v := nI 1) hx hb dL_looks_223 (by decide) ?_
                      refine un_add hx hb dL_looks_224 ?_
                      refine un_ast (L := (un (un L1 3 j ((f + 16) + (128 * (L1 0 3)))) 6 (L1 0 2) j)) (x := ((L1 0 2) + 1)) hx hb hE hU hUD hS 0 (by decide) 2 (show 2 < 4 from (by decide)) dL_looks_225 (fun H locs hU hz9 ho9 hS => ?_)
                      refine lv_iinc (v := nI (j + 1)) (lv' := [(11, .int (nI (j + 1))), (0, .ref (ua 0)), (1, .ref (ua 1)), (2, .ref (ua 2)), (3, .ref (ua 3)), (4, .ref (ua 4)), (5, .ref (ua 5)), (6, .ref (ua 6)), (7, .int (nI f)), (8, .int (nI ((L 2 (4 * f)) % 4)))]) hx hb dL_looks_226 hl (k := 9) rfl (nI_add j 1) (by decide) rfl (fun ls hl => ?_)
                      refine lv_goto (tgt := 143) hx hb dL_looks_229 (by decide) ?_
                      have hstep : m_acc r (wm w 7 f 5) f (j + 1) = m_acc1 (m_acc r (wm w 7 f 5) f j) j := if_pos ⟨hrf, hmr⟩
                      have hlr2 : lr nf nc r (m_acc r (wm w 7 f 5) f (j + 1)) (un (un (un L1 3 j (f + 16 + 128 * L1 0 3)) 6 (L1 0 2) j) 0 2 (L1 0 2 + 1)) := by
                        rw [hstep]
                        exact lr_acc1 hlr1 hacc.1 hacc.2.1 hjl hf16 (by omega) (hacc.2.2 j (Nat.le_refl _) hjl hrf)
                      exact ih143 (j + 1) (un (un (un L1 3 j ((f + 16) + (128 * (L1 0 3)))) 6 (L1 0 2) j) 0 2 ((L1 0 2) + 1)) _ _ _ (by omega) (by omega) hlr2 hsame hU hS (lv_sub hl [1, 2, 3, 4, 5, 6, 7, 8, 9, 0] rfl)
            exact loop143 (nc + 1) 0 (un L 2 (4 * f + 2) 5) _ _ _ (by omega) (by omega) (lr_fst hlr hf (by decide) (by decide)) ⟨rfl, by rw [dn_set hf (by omega)]; rfl, un_ne _ _ _ _ _ (by omega), un_self _ _ _ _⟩ hU hS (lv_sub hl [1, 2, 3, 4, 5, 6, 7, 8, 9, 0] rfl)
          · have hlk : m_look r w nc f = wm w 7 f 4 := by
              unfold m_look
              rw [if_neg hnl, if_pos (hbad.mpr (by omega))]
            refine lv_iconst (v := nI 4) hx hb dL_looks_134 (by decide) ?_
            refine lv_goto (tgt := 139) hx hb dL_looks_135 (by decide) ?_
            refine un_ast (L := L) (x := 4) hx hb hE hU hUD hS 2 (by decide) ((4 * f) + 2) (show ((4 * f) + 2) < 64 from (by omega)) dL_looks_139 (fun H locs hU hz9 ho9 hS => ?_)
            refine lv_iconst (v := nI 0) hx hb dL_looks_140 (by decide) ?_
            refine lv_istore (lv' := [(11, .int (nI 0)), (0, .ref (ua 0)), (1, .ref (ua 1)), (2, .ref (ua 2)), (3, .ref (ua 3)), (4, .ref (ua 4)), (5, .ref (ua 5)), (6, .ref (ua 6)), (7, .int (nI f)), (8, .int (nI ((L 2 (4 * f)) % 4))), (9, .int (nI gd)), (10, .int (nI al))]) hx hb dL_looks_141 hl (by decide) rfl (fun ls hl => ?_)
            refine lv_iload hx hb dL_looks_143 (lv_at hl 0 rfl) ?_
            refine lv_aload_n hx hb dL_looks_145 rfl (lv_at hl 1 rfl) ?_
            refine lv_iconst (v := nI 1) hx hb dL_looks_146 (by decide) ?_
            have hb147_190 := hub 0 1
            refine un_ald (L := (un L 2 ((4 * f) + 2) 4)) hx hb hE hU 0 (by decide) 1 (show 1 < 4 from (by decide)) dL_looks_147 ?_
            refine un_top (y := nI (L 0 1)) (congrArg nI (by simp [un])) ?_
            refine un_cge (tgt := 232) hx hb dL_looks_148 (by decide) (by decide) (by omega) (fun c8 => ?_) (fun c8 => ?_)
            · exact rh_vret hx hb hr hlocks ⟨rfl, _, hU, by rw [hlk]; exact lr_fst hlr hf (x := 4) (by decide) (by decide), rfl, by rw [dn_set hf (by omega)]; rfl⟩ hS (by decide) (by decide) dL_looks_232
            · refine lv_aload_n hx hb dL_looks_151 rfl (lv_at hl 3 rfl) ?_
              refine lv_iconst (v := nI 4) hx hb dL_looks_152 (by decide) ?_
              refine lv_iload hx hb dL_looks_153 (lv_at hl 8 rfl) ?_
              refine un_mul hx hb dL_looks_155 ?_
              refine lv_iconst (v := nI 2) hx hb dL_looks_156 (by decide) ?_
              refine un_add hx hb dL_looks_157 ?_
              have hb158_201 := hub 2 ((4 * f) + 2)
              refine un_ald (L := (un L 2 ((4 * f) + 2) 4)) hx hb hE hU 2 (by decide) ((4 * f) + 2) (show ((4 * f) + 2) < 64 from (by omega)) dL_looks_158 ?_
              refine un_top (y := nI 4) (congrArg nI (by simp [un])) ?_
              refine lv_iconst (v := nI 5) hx hb dL_looks_159 (by decide) ?_
              refine un_cne (tgt := 232) hx hb dL_looks_160 (by decide) (by decide) (by decide) (fun c9 => ?_) (fun c9 => absurd (show (4 : Nat) = 5 from c9) (by decide))
              exact rh_vret hx hb hr hlocks ⟨rfl, _, hU, by rw [hlk]; exact lr_fst hlr hf (x := 4) (by decide) (by decide), rfl, by rw [dn_set hf (by omega)]; rfl⟩ hS (by decide) (by decide) dL_looks_232
        · have hlk : m_look r w nc f = wm w 7 f 3 := if_pos (hlate.mpr (by omega))
          refine lv_iconst (v := nI 3) hx hb dL_looks_119 (by decide) ?_
          refine lv_goto (tgt := 139) hx hb dL_looks_120 (by decide) ?_
          refine un_ast (L := L) (x := 3) hx hb hE hU hUD hS 2 (by decide) ((4 * f) + 2) (show ((4 * f) + 2) < 64 from (by omega)) dL_looks_139 (fun H locs hU hz9 ho9 hS => ?_)
          refine lv_iconst (v := nI 0) hx hb dL_looks_140 (by decide) ?_
          refine lv_istore (lv' := [(11, .int (nI 0)), (0, .ref (ua 0)), (1, .ref (ua 1)), (2, .ref (ua 2)), (3, .ref (ua 3)), (4, .ref (ua 4)), (5, .ref (ua 5)), (6, .ref (ua 6)), (7, .int (nI f)), (8, .int (nI ((L 2 (4 * f)) % 4))), (9, .int (nI gd)), (10, .int (nI al))]) hx hb dL_looks_141 hl (by decide) rfl (fun ls hl => ?_)
          refine lv_iload hx hb dL_looks_143 (lv_at hl 0 rfl) ?_
          refine lv_aload_n hx hb dL_looks_145 rfl (lv_at hl 1 rfl) ?_
          refine lv_iconst (v := nI 1) hx hb dL_looks_146 (by decide) ?_
          have hb147_216 := hub 0 1
          refine un_ald (L := (un L 2 ((4 * f) + 2) 3)) hx hb hE hU 0 (by decide) 1 (show 1 < 4 from (by decide)) dL_looks_147 ?_
          refine un_top (y := nI (L 0 1)) (congrArg nI (by simp [un])) ?_
          refine un_cge (tgt := 232) hx hb dL_looks_148 (by decide) (by decide) (by omega) (fun c10 => ?_) (fun c10 => ?_)
          · exact rh_vret hx hb hr hlocks ⟨rfl, _, hU, by rw [hlk]; exact lr_fst hlr hf (x := 3) (by decide) (by decide), rfl, by rw [dn_set hf (by omega)]; rfl⟩ hS (by decide) (by decide) dL_looks_232
          · refine lv_aload_n hx hb dL_looks_151 rfl (lv_at hl 3 rfl) ?_
            refine lv_iconst (v := nI 4) hx hb dL_looks_152 (by decide) ?_
            refine lv_iload hx hb dL_looks_153 (lv_at hl 8 rfl) ?_
            refine un_mul hx hb dL_looks_155 ?_
            refine lv_iconst (v := nI 2) hx hb dL_looks_156 (by decide) ?_
            refine un_add hx hb dL_looks_157 ?_
            have hb158_227 := hub 2 ((4 * f) + 2)
            refine un_ald (L := (un L 2 ((4 * f) + 2) 3)) hx hb hE hU 2 (by decide) ((4 * f) + 2) (show ((4 * f) + 2) < 64 from (by omega)) dL_looks_158 ?_
            refine un_top (y := nI 3) (congrArg nI (by simp [un])) ?_
            refine lv_iconst (v := nI 5) hx hb dL_looks_159 (by decide) ?_
            refine un_cne (tgt := 232) hx hb dL_looks_160 (by decide) (by decide) (by decide) (fun c11 => ?_) (fun c11 => absurd (show (3 : Nat) = 5 from c11) (by decide))
            exact rh_vret hx hb hr hlocks ⟨rfl, _, hU, by rw [hlk]; exact lr_fst hlr hf (x := 3) (by decide) (by decide), rfl, by rw [dn_set hf (by omega)]; rfl⟩ hS (by decide) (by decide) dL_looks_232
      · have hjl : j < nc := by omega
        obtain ⟨⟨q1, q2⟩, ⟨q3, q4⟩, q5, q6, ⟨q7, q8, q9⟩, q10, q11⟩ := hlr.2.2.2.2.1 j hjl
        refine lv_iload hx hb dL_looks_27 (lv_at hl 10 rfl) ?_
        have jn46_236 : ∀ (b1 : Nat), (L 3 j % 16 = f ∧ b1 = 1) ∨ (¬ L 3 j % 16 = f ∧ b1 = 0) → W p l e ({ frames := 1, cells := 0, slots := 0, locals := 30 } : Room) s m ([.ref (ua 0), .ref (ua 1), .ref (ua 2), .ref (ua 3), .ref (ua 4), .ref (ua 5), .ref (ua 6), .int (nI f)] : List Value).toArray below meth c H locs 0 0 (vx_MQ below (rh_Q A (fun o H => o = none ∧ ∃ L9 : u_L, u_W G ca ua L9 H ∧ lr nf nc r (m_look r w nc f) L9 ∧ L9 7 = L 7 ∧ u_dn L9 nf = u_dn L nf + 1)) (rh_XC A rh_no) ([.ref (ua 0), .ref (ua 1), .ref (ua 2), .ref (ua 3), .ref (ua 4), .ref (ua 5), .ref (ua 6), .int (nI f)] : List Value).toArray s 0 0 A) (F0 m 46 ls [.int (nI b1), .int (nI al)]) := by
          intro b1 hb1
          refine un_add hx hb dL_looks_46 ?_
          refine lv_istore (lv' := [(10, .int (nI (al + b1))), (0, .ref (ua 0)), (1, .ref (ua 1)), (2, .ref (ua 2)), (3, .ref (ua 3)), (4, .ref (ua 4)), (5, .ref (ua 5)), (6, .ref (ua 6)), (7, .int (nI f)), (8, .int (nI ((L 2 (4 * f)) % 4))), (9, .int (nI gd)), (11, .int (nI j))]) hx hb dL_looks_47 hl (by decide) rfl (fun ls hl => ?_)
          refine lv_iload hx hb dL_looks_49 (lv_at hl 10 rfl) ?_
          have jn87_241 : ∀ (b2 : Nat), ((L 3 j % 16 = f ∧ u_rt L f j) ∧ b2 = 1) ∨ (¬ (L 3 j % 16 = f ∧ u_rt L f j) ∧ b2 = 0) → ∀ (H : Heap) (locs : List Loc), u_W G ca ua L H → va_S A s.heap H locs → W p l e ({ frames := 1, cells := 0, slots := 0, locals := 30 } : Room) s m ([.ref (ua 0), .ref (ua 1), .ref (ua 2), .ref (ua 3), .ref (ua 4), .ref (ua 5), .ref (ua 6), .int (nI f)] : List Value).toArray below meth c H locs 0 0 (vx_MQ below (rh_Q A (fun o H => o = none ∧ ∃ L9 : u_L, u_W G ca ua L9 H ∧ lr nf nc r (m_look r w nc f) L9 ∧ L9 7 = L 7 ∧ u_dn L9 nf = u_dn L nf + 1)) (rh_XC A rh_no) ([.ref (ua 0), .ref (ua 1), .ref (ua 2), .ref (ua 3), .ref (ua 4), .ref (ua 5), .ref (ua 6), .int (nI f)] : List Value).toArray s 0 0 A) (F0 m 87 ls [.int (nI b2), .int (nI gd)]) := by
            intro b2 hb2 H locs hU hS
            refine un_add hx hb dL_looks_87 ?_
            refine lv_istore (lv' := [(9, .int (nI (gd + b2))), (10, .int (nI (al + b1))), (0, .ref (ua 0)), (1, .ref (ua 1)), (2, .ref (ua 2)), (3, .ref (ua 3)), (4, .ref (ua 4)), (5, .ref (ua 5)), (6, .ref (ua 6)), (7, .int (nI f)), (8, .int (nI ((L 2 (4 * f)) % 4))), (11, .int (nI j))]) hx hb dL_looks_88 hl (by decide) rfl (fun ls hl => ?_)
            refine lv_iinc (v := nI (j + 1)) (lv' := [(11, .int (nI (j + 1))), (9, .int (nI (gd + b2))), (10, .int (nI (al + b1))), (0, .ref (ua 0)), (1, .ref (ua 1)), (2, .ref (ua 2)), (3, .ref (ua 3)), (4, .ref (ua 4)), (5, .ref (ua 5)), (6, .ref (ua 6)), (7, .int (nI f)), (8, .int (nI ((L 2 (4 * f)) % 4)))]) hx hb dL_looks_90 hl (k := 11) rfl (nI_add j 1) (by decide) rfl (fun ls hl => ?_)
            refine lv_goto (tgt := 19) hx hb dL_looks_93 (by decide) ?_
            exact ih19 (j + 1) (gd + b2) (al + b1) _ _ _ (by omega) (by omega) (by rw [hgd, ← u_pick hb2]; rfl) (by rw [hal, ← u_pick hb1]; rfl) hU hS (lv_sub hl [3, 4, 5, 6, 7, 8, 9, 10, 11, 1, 2, 0] rfl)
          refine lv_aload_n hx hb dL_looks_51 rfl (lv_at hl 4 rfl) ?_
          refine lv_iload hx hb dL_looks_52 (lv_at hl 11 rfl) ?_
          have hb54_250 := hub 3 j
          refine un_ald (L := L) hx hb hE hU 3 (by decide) j (show j < 40 from (by omega)) dL_looks_54 ?_
          refine lv_bipush (v := nI 16) hx hb dL_looks_55 (by decide) ?_
          refine un_rem hx hb dL_looks_57 (by omega) (by decide) (by decide) ?_
          refine lv_iload hx hb dL_looks_58 (lv_at hl 8 rfl) ?_
          refine un_cne (tgt := 86) hx hb dL_looks_60 (by decide) (by omega) (by omega) (fun c12 => ?_) (fun c12 => ?_)
          · refine lv_iconst (v := nI 0) hx hb dL_looks_86 (by decide) ?_
            exact jn87_241 0 (Or.inr ⟨fun z => absurd z.1 (by assumption), rfl⟩) _ _ hU hS
          · refine lv_aload_n hx hb dL_looks_63 rfl (lv_at hl 2 rfl) ?_
            refine lv_iload hx hb dL_looks_64 (lv_at hl 9 rfl) ?_
            refine lv_aload hx hb dL_looks_66 (lv_at hl 5 rfl) ?_
            refine lv_iload hx hb dL_looks_68 (lv_at hl 11 rfl) ?_
            have hb70_262 := hub 4 j
            refine un_ald (L := L) hx hb hE hU 4 (by decide) j (show j < 40 from (by omega)) dL_looks_70 ?_
            have hAn : ∀ q : Nat, H.size ≤ q → A q := fun q h => hA q (Nat.le_trans hS.1 h)
            refine rh_call2 (vx_runS (As := [.ref (ua 1), .int (nI ((L 2 (4 * f)) % 4)), .int (nI (L 4 j))]) (rest := [.int (nI gd)]) ⟨hx, hb, hml, hown, hts⟩ (ct_L_charge l ((L 2 (4 * f)) % 4) (by omega) (L 4 j) (by omega) hub hla) (va_cwS 3 hts gL_looks_L_charge rfl rfl rfl (by decide +kernel) ⟨by decide, by decide⟩) (rh_pre2 hE hS hAn (fun q h => h) hU) rfl rfl hl.1 rfl (lv_room (Nat.le_of_ble_eq_true rfl)) dL_looks_71 ⟨by decide, by decide⟩) hS hAn (fun _ _ _ _ _ hX9 _ _ _ _ _ _ => hX9.elim) (fun o H locs hN9 hz9 hk9 hS => ?_)
            have hN9 := hN9
            subst hN9
            have hk9 := fun q hq => hk9 q hq (Nat.not_le.mpr hq)
            have hU := hU.grow hk9
            refine W.eq (g2 := F0 m 74 ls [.int (nI (u_ch L ((L 2 (4 * f)) % 4) (L 4 j))), .int (nI gd)]) rfl ?_
            have huc := u_ch_le hla (i := L 2 (4 * f) % 4) (s := L 4 j) (by omega) q9
            refine lv_aload hx hb dL_looks_74 (lv_at hl 6 rfl) ?_
            refine lv_iload hx hb dL_looks_76 (lv_at hl 11 rfl) ?_
            have hb78_274 := hub 5 j
            refine un_ald (L := L) hx hb hE hU 5 (by decide) j (show j < 40 from (by omega)) dL_looks_78 ?_
            refine un_cne (tgt := 86) hx hb dL_looks_79 (by decide) (by omega) (by omega) (fun c13 => ?_) (fun c13 => ?_)
            · refine lv_iconst (v := nI 0) hx hb dL_looks_86 (by decide) ?_
              exact jn87_241 0 (Or.inr ⟨fun z => absurd z.2 (by assumption), rfl⟩) _ _ hU hS
            · refine lv_iconst (v := nI 1) hx hb dL_looks_82 (by decide) ?_
              refine lv_goto (tgt := 87) hx hb dL_looks_83 (by decide) ?_
              exact jn87_241 1 (Or.inl ⟨⟨by omega, by assumption⟩, rfl⟩) _ _ hU hS
        refine lv_aload_n hx hb dL_looks_29 rfl (lv_at hl 3 rfl) ?_
        refine lv_iload hx hb dL_looks_30 (lv_at hl 11 rfl) ?_
        have hb32_284 := hub 3 j
        refine un_ald (L := L) hx hb hE hU 3 (by decide) j (show j < 40 from (by omega)) dL_looks_32 ?_
        refine lv_bipush (v := nI 16) hx hb dL_looks_33 (by decide) ?_
        refine un_rem hx hb dL_looks_35 (by omega) (by decide) (by decide) ?_
        refine lv_iload hx hb dL_looks_36 (lv_at hl 7 rfl) ?_
        refine un_cne (tgt := 45) hx hb dL_looks_38 (by decide) (by omega) (by omega) (fun c14 => ?_) (fun c14 => ?_)
        · refine lv_iconst (v := nI 0) hx hb dL_looks_45 (by decide) ?_
          exact jn46_236 0 (by omega)
        · refine lv_iconst (v := nI 1) hx hb dL_looks_41 (by decide) ?_
          refine lv_goto (tgt := 46) hx hb dL_looks_42 (by decide) ?_
          exact jn46_236 1 (by omega)
  exact loop19 (nc + 1) 0 0 0 _ _ _ (by omega) (by omega) rfl rfl hU hS (lv_sub hl [4, 5, 6, 7, 8, 9, 10, 11, 3, 2, 1, 0] rfl)
