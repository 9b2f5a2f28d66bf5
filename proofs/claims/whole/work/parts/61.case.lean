/-! ===== the law's cases ===== -/
theorem l_now {nf nc : Nat} {r : rh_R} {v : rh_V} {w : rh_Wm} (h : inv nf nc r v w) : v 0 0 6 = w 26 24 := by
  obtain ⟨t, ht, hv, hw, -⟩ := h.2.2.2.2.2.2.2.2.1
  rw [hv, hw]
theorem l_next {nf nc : Nat} {r : rh_R} {v : rh_V} {w : rh_Wm} (h : inv nf nc r v w) : v 0 0 6 < 35 ↔ ¬ w 26 24 = 35 := by
  obtain ⟨t, ht, hv, hw, -⟩ := h.2.2.2.2.2.2.2.2.1
  rw [hv, hw, show (35 : Int32) = nI 35 from rfl, nI_ltI (by omega) (by decide)]
  constructor
  · intro a z
    have := m_inj (by omega) (by decide) z
    omega
  · intro a
    rcases Nat.lt_or_ge t 35 with z | z
    · exact z
    · exact absurd (by rw [show t = 35 by omega]) a
theorem l_month {nf nc : Nat} {r : rh_R} {v : rh_V} {w : rh_Wm} (h : inv nf nc r v w) {i : Nat} (hi : i < nc) : v 9 i 4 = if w 13 i = 0 then (-1) else w 14 i := by
  obtain ⟨a1, a2, a3, a4, a5, a6⟩ := h.2.2.2.2.2.1 i hi
  by_cases hs : w 13 i = 0
  · rw [if_pos hs]; exact a4 hs
  · rw [if_neg hs]; exact (a5 hs).1
theorem l_disp {nf nc : Nat} {r : rh_R} {v : rh_V} {w : rh_Wm} (h : inv nf nc r v w) {i : Nat} (hi : i < nc) : (v 9 i 3 = 1 ∧ ¬ 1 < v 0 0 6 - v 9 i 4) ↔ (w 13 i = 1 ∧ ¬ 1 < w 26 24 - w 14 i) := by
  obtain ⟨a1, a2, a3, a4, a5, a6⟩ := h.2.2.2.2.2.1 i hi
  rw [a3, l_now h]
  by_cases hs : w 13 i = 1
  · rw [(a5 (by rw [hs]; decide)).1]
  · exact ⟨fun z => absurd z.1 hs, fun z => absurd z.1 hs⟩
theorem l_short {nf nc : Nat} {r : rh_R} {v : rh_V} {w : rh_Wm} (h : inv nf nc r v w) {q : Nat} (hq : q < 16) {ye : Int32} (hy : rng ye 0 1) : (if ((v 6 q 2).toInt64 - c_sum r v q (ye * 12) (ye * 12 + 12 - 1) nc) < 0 then 0 else ((v 6 q 2).toInt64 - c_sum r v q (ye * 12) (ye * 12 + 12 - 1) nc)) = (if ((w 23 q).toInt64 - m_sum r w q (12 * ye) (12 * ye + 11) nc) ≤ 0 then 0 else ((w 23 q).toInt64 - m_sum r w q (12 * ye) (12 * ye + 11) nc)) := by
  have hye : ye = 0 ∨ ye = 1 := by
    have h1 := Int32.le_iff_toInt_le.mp hy.1
    have h2 := Int32.le_iff_toInt_le.mp hy.2
    have e0 : (0 : Int32).toInt = 0 := rfl
    have e1 : (1 : Int32).toInt = 1 := rfl
    rw [e0] at h1
    rw [e1] at h2
    by_cases hz : ye.toInt = 0
    · exact Or.inl (Int32.toInt_inj.mp hz)
    · exact Or.inr (Int32.toInt_inj.mp (show ye.toInt = 1 by omega))
  have e1 : 0 ≤ ye * 12 ∧ ye * 12 = 12 * ye ∧ ye * 12 + 12 - 1 = 12 * ye + 11 := by
    rcases hye with rfl | rfl <;> decide
  rw [s_sum h e1.1 nc (Nat.le_refl _), e1.2.2, e1.2.1, (h.2.2.2.1 q hq).2.1]
  generalize (w 23 q).toInt64 - m_sum r w q (12 * ye) (12 * ye + 11) nc = d
  by_cases h1 : d < 0
  · rw [if_pos h1, if_pos (Int64.le_of_lt h1)]
  · rw [if_neg h1]
    by_cases h2 : d ≤ 0
    · rw [if_pos h2]
      exact Int64.le_antisymm h2 (Int64.not_lt.mp h1)
    · rw [if_neg h2]
theorem l_Ao {G : va_G} {ca : Nat → ClassId} {A0 : Nat → Prop} {adm : Nat → Nat → Nat} {w : rh_Wm} {th : Int32} {H : Heap} {oa : Nat} {f : Nat → Int64} (_hM : m_W G ca adm w th H) (_ho : rh_o G ca oa f H) (hDm : rh_D (fun q => A0 q ∧ q ≠ oa) adm (fun k i => i < m_n k)) (hAo : A0 oa) : lA A0 adm oa :=
  ⟨hAo, fun ⟨k, hk, e⟩ => (hDm.2 k 0 hk).2 e⟩
set_option maxHeartbeats 8000000 in
set_option maxRecDepth 100000 in
theorem op_setTariff {p : Program} {l : Launch} {e : Env} {s : State} {m : MethodId} {below : List Frame} {meth : Method} {c : Code} {G : va_G} {ca : Nat → ClassId} {A0 : Nat → Prop} {b L : Nat} {xs : Nat → Int32} {h9 hm oa i : Nat} {cells slots : Nat} {Q : State → Prop} {ad adm : Nat → Nat → Nat} {nf nc : Nat} {r : rh_R} {v : rh_V} {w : rh_Wm} {th : Int32} {f : Nat → Int64} {H : Heap} {locs : List Loc} {ls : Array Slot} (C : lwC p l s m c G ca A0 b L xs) (hLS : lwS G ca A0 h9 hm oa ad adm nf nc r v w th f H) (hS : va_S A0 s.heap H locs) (hl : lv_has ls 8 [(0, .ref b), (1, .ref h9), (2, .ref hm), (3, .ref oa), (4, .int (nI i))]) (hi : i + 5 < L) (hcl : cells + 5 ≤ 626516) (hsl : slots + 40 ≤ 7216556) (hK : lwK p l e s m below meth c G ca A0 b h9 hm oa i cells slots Q) : W p l e room_1 s m #[Value.ref b] below meth c H locs cells slots Q (F0 m 144 ls []) := by
  obtain ⟨hx, hb, hml, hown, hts, hE, hnc9, hlf, hA0, hbA, hbl, hX, hLm⟩ := C
  obtain ⟨rfl, rfl, hW, hM, hout, hI, hD, hDm, hAo⟩ := hLS
  have hnf9 := hI.1.1
  have hnn9 := hI.1.2.1
  have hnow := l_now hI
  have hsz9 := hS.1
  have hl : lv_has ls 8 [(0, .ref b), (1, .ref (ad 0 0)), (2, .ref (adm 10 0)), (3, .ref oa), (4, .int (nI i))] := hl
  refine lv_aload_n hx hb dL_law_144 rfl (lv_at hl 1 rfl) ?_
  refine lv_aload_n hx hb dL_law_145 rfl (lv_at hl 0 rfl) ?_
  refine lv_iload hx hb dL_law_146 (lv_at hl 4 rfl) ?_
  refine lv_iconst (v := 1) hx hb dL_law_148 (by decide) ?_
  refine lv_iadd hx hb dL_law_149 ?_
  refine l_sld hx hb hX hbl hbA hS hLm (i + 1) (by omega) (nI_add i 1) dL_law_150 ?_
  refine lv_aload_n hx hb dL_law_151 rfl (lv_at hl 0 rfl) ?_
  refine lv_iload hx hb dL_law_152 (lv_at hl 4 rfl) ?_
  refine lv_iconst (v := 2) hx hb dL_law_154 (by decide) ?_
  refine lv_iadd hx hb dL_law_155 ?_
  refine l_sld hx hb hX hbl hbA hS hLm (i + 2) (by omega) (nI_add i 2) dL_law_156 ?_
  refine lv_aload_n hx hb dL_law_157 rfl (lv_at hl 0 rfl) ?_
  refine lv_iload hx hb dL_law_158 (lv_at hl 4 rfl) ?_
  refine lv_iconst (v := 3) hx hb dL_law_160 (by decide) ?_
  refine lv_iadd hx hb dL_law_161 ?_
  refine l_sld hx hb hX hbl hbA hS hLm (i + 3) (by omega) (nI_add i 3) dL_law_162 ?_
  refine lv_aload_n hx hb dL_law_163 rfl (lv_at hl 0 rfl) ?_
  refine lv_iload hx hb dL_law_164 (lv_at hl 4 rfl) ?_
  refine lv_iconst (v := 4) hx hb dL_law_166 (by decide) ?_
  refine lv_iadd hx hb dL_law_167 ?_
  refine l_sld hx hb hX hbl hbA hS hLm (i + 4) (by omega) (nI_add i 4) dL_law_168 ?_
  refine lv_aload_n hx hb dL_law_169 rfl (lv_at hl 3 rfl) ?_
  have hAA := lA_up (adm := adm) hA0 hsz9 hM
  refine rh_call2 (vx_runSX (As := [.ref (ad 0 0), .int (xs (i + 1)), .int (xs (i + 2)), .int (xs (i + 3)), .int (xs (i + 4)), .ref oa]) (rest := []) ⟨hx, hb, hml, hown, hts⟩ (hl_setTariff l hlf (l_Ao hM hout hDm hAo) hD hI.1 (xs (i + 1)) (xs (i + 2)) (xs (i + 3)) (xs (i + 4))) (vx_cwSW 6 hts gL_law_L_setTariff rfl rfl rfl (by decide +kernel) ⟨by decide, by decide⟩) (rh_prel hE hnc9 hS (fun q h => h.1) hAA ⟨hW, hout⟩) rfl rfl hl.1 rfl (lv_room (Nat.le_of_ble_eq_true rfl)) dL_law_170 ⟨by show cells + 5 ≤ 626516; omega, by show slots + 40 ≤ 7216556; omega⟩) hS (fun q h => h.1) (fun E ce q9 H locs hX9 hz9 hk9 hS g1 g2 g3 => hX9.elim) (fun o H locs hN9 hz9 hk9 hS => ?_)
  have hM := hM.keptA hk9
  have hsz9 := hS.1
  rcases hN9 with ⟨i9, hc0, hc1, hc2, hc3, hc4, rfl, ⟨f8, hf8, hout⟩, hW⟩ | ⟨hc9, rfl, ⟨f8, hout⟩, hW⟩ | ⟨hc9, rfl, ⟨f8, hout⟩, hW⟩
  · refine W.eq (g2 := F0 m 173 ls [.int 0]) rfl ?_
    refine lv_istore (lv' := [(5, .int 0), (0, .ref b), (1, .ref (ad 0 0)), (2, .ref (adm 10 0)), (3, .ref oa), (4, .int (nI i))]) hx hb dL_law_173 hl (by decide) rfl (fun ls hl => ?_)
    refine lv_aload_n hx hb dL_law_175 rfl (lv_at hl 3 rfl) ?_
    refine lv_aload_n hx hb dL_law_176 rfl (lv_at hl 1 rfl) ?_
    refine lv_iload hx hb dL_law_177 (lv_at hl 5 rfl) ?_
    refine lv_iconst (v := 1) hx hb dL_law_179 (by decide) ?_
    refine lv_iadd hx hb dL_law_180 ?_
    refine l_sld hx hb hX hbl hbA hS hLm (i + 1) (by omega) (nI_add i 1) dL_law_181 ?_
    refine lv_aload_n hx hb dL_law_182 rfl (lv_at hl 1 rfl) ?_
    refine lv_iload hx hb dL_law_183 (lv_at hl 5 rfl) ?_
    refine lv_iconst (v := 2) hx hb dL_law_185 (by decide) ?_
    refine lv_iadd hx hb dL_law_186 ?_
    refine l_sld hx hb hX hbl hbA hS hLm (i + 2) (by omega) (nI_add i 2) dL_law_187 ?_
    refine lv_aload_n hx hb dL_law_188 rfl (lv_at hl 1 rfl) ?_
    refine lv_iload hx hb dL_law_189 (lv_at hl 5 rfl) ?_
    refine lv_iconst (v := 3) hx hb dL_law_191 (by decide) ?_
    refine lv_iadd hx hb dL_law_192 ?_
    refine l_sld hx hb hX hbl hbA hS hLm (i + 3) (by omega) (nI_add i 3) dL_law_193 ?_
    refine lv_aload_n hx hb dL_law_194 rfl (lv_at hl 1 rfl) ?_
    refine lv_iload hx hb dL_law_195 (lv_at hl 5 rfl) ?_
    refine lv_iconst (v := 4) hx hb dL_law_197 (by decide) ?_
    refine lv_iadd hx hb dL_law_198 ?_
    refine l_sld hx hb hX hbl hbA hS hLm (i + 4) (by omega) (nI_add i 4) dL_law_199 ?_
    have hDB := lB_D hD hDm
    have hBB := lB_up (ad := ad) (oa := oa) hA0 hsz9 hW hout
    refine rh_call2 (vx_runV (As := [.int (xs (i + 1)), .int (xs (i + 2)), .int (xs (i + 3)), .int (xs (i + 4))]) (rest := []) ⟨hx, hb, hml, hown, hts⟩ (ct_X5_setTariff l hDB  (xs (i + 1)) (xs (i + 2)) (xs (i + 3)) (xs (i + 4))) (cwV 4 hts gL_law_X5_setTariff rfl rfl rfl (by decide +kernel) ⟨by decide, by decide⟩) (rh_preV2 hE hS (fun q h => h.1) hBB (hM.at 10 0 Nat.zero_lt_one) rfl hM) rfl rfl hl.1 rfl (lv_room (Nat.le_of_ble_eq_true rfl)) dL_law_200 ⟨by show cells + 5 + 0 ≤ 626516; omega, by show slots + 40 + 0 ≤ 7216556; omega⟩) hS (fun q h => h.1) (fun E ce q9 H locs hX9 hz9 hk9 hS g1 g2 g3 => hX9.elim) (fun o H locs hN9 hz9 hk9 hS => ?_)
    have hW := hW.keptB hk9
    have hout := hout.kept (hk9 _ hout.lt (fun z => z.2.2 rfl))
    have hsz9 := hS.1
    rcases hN9 with ⟨i8, hd0, hd1, hd2, hd3, hd4, rfl, hM⟩ | ⟨hd0, ⟨z8, rfl⟩, hM⟩ | ⟨hd0, hd1, ⟨z8, rfl⟩, hM⟩
    · obtain rfl : i9 = i8 := m_inj (by omega) (by omega) (hc1.symm.trans hd1)
      refine W.eq (g2 := F0 m 203 ls [.int (w 1 i9)]) rfl ?_
      refine lv_istore (lv' := [(6, .int (w 1 i9)), (5, .int 0), (0, .ref b), (1, .ref (ad 0 0)), (2, .ref (adm 10 0)), (3, .ref oa), (4, .int (nI i))]) hx hb dL_law_203 hl (by decide) rfl (fun ls hl => ?_)
      refine lv_aload_n hx hb dL_law_205 rfl (lv_at hl 4 rfl) ?_
      have hDB := lB_D hD hDm
      have hBB := lB_up (ad := ad) (oa := oa) hA0 hsz9 hW hout
      refine rh_call2 (vx_runV (As := []) (rest := []) ⟨hx, hb, hml, hown, hts⟩ (ct_X5_thrown l hDB  ) (cwV 0 hts gL_law_X5_thrown rfl rfl rfl (by decide +kernel) ⟨by decide, by decide⟩) (rh_preV2 hE hS (fun q h => h.1) hBB (hM.at 10 0 Nat.zero_lt_one) rfl hM) rfl rfl hl.1 rfl (lv_room (Nat.le_of_ble_eq_true rfl)) dL_law_206 ⟨by show cells + 5 + 0 + 0 ≤ 626516; omega, by show slots + 40 + 0 + 0 ≤ 7216556; omega⟩) hS (fun q h => h.1) (fun E ce q9 H locs hX9 hz9 hk9 hS g1 g2 g3 => hX9.elim) (fun o H locs hN9 hz9 hk9 hS => ?_)
      have hW := hW.keptB hk9
      have hout := hout.kept (hk9 _ hout.lt (fun z => z.2.2 rfl))
      have hsz9 := hS.1
      obtain ⟨rfl, hM⟩ := hN9
      refine W.eq (g2 := F0 m 209 ls [.int 0]) rfl ?_
      refine lv_iload hx hb dL_law_209 (lv_at hl 1 rfl) ?_
      refine lv_icmp_eq (tgt := 216) hx hb dL_law_211 (by decide) (fun c1 => ?_) (fun c1 => absurd c1 (by decide))
      refine lv_iload hx hb dL_law_216 (lv_at hl 1 rfl) ?_
      refine lv_if_ne (tgt := 233) hx hb dL_law_218 (by decide) (fun c2 => absurd c2 (by decide)) (fun c2 => ?_)
      refine lv_aload_n hx hb dL_law_221 rfl (lv_at hl 5 rfl) ?_
      refine lv_iconst (v := 0) hx hb dL_law_222 (by decide) ?_
      refine rh_lald (n := 1) (f := f8) hx hb hE hout 0 (by decide) (by decide) rfl dL_law_223 ?_
      have hval : f8 0 = ((w 1 i9)).toInt64 := by rw [hf8, (hI.2.2.1 _ hc0).2.1]
      refine lv_iload hx hb dL_law_224 (lv_at hl 0 rfl) ?_
      refine lv_i2l hx hb dL_law_226 rfl ?_
      refine W.lcmp hx hb dL_law_227 ?_
      refine lv_if_eq (tgt := 233) hx hb dL_law_228 (by decide) (fun c3 => ?_) (fun c3 => (c3 ((lg_cmp_eq _ _).mpr hval)).elim)
      · refine lv_goto (tgt := 1523) hx hb dL_law_233 (by decide) ?_
        exact hK _ _ _ _ _ _ _ _ _ _ _ _ ⟨rfl, rfl, hW, hM, hout, i_tariff hI hc0 hc2, hD, hDm, hAo⟩ hS (lv_sub hl [2, 3, 4, 5, 6] rfl)
    · exfalso
      exact (hd0 (l_ix (by omega) hc0 hc1)).elim
    · exfalso
      exact (hd1 ⟨hc2, hc3, hc4⟩).elim
  · refine W.eq (g2 := F0 m 173 ls [.int 1]) rfl ?_
    refine lv_istore (lv' := [(5, .int 1), (0, .ref b), (1, .ref (ad 0 0)), (2, .ref (adm 10 0)), (3, .ref oa), (4, .int (nI i))]) hx hb dL_law_173 hl (by decide) rfl (fun ls hl => ?_)
    refine lv_aload_n hx hb dL_law_175 rfl (lv_at hl 3 rfl) ?_
    refine lv_aload_n hx hb dL_law_176 rfl (lv_at hl 1 rfl) ?_
    refine lv_iload hx hb dL_law_177 (lv_at hl 5 rfl) ?_
    refine lv_iconst (v := 1) hx hb dL_law_179 (by decide) ?_
    refine lv_iadd hx hb dL_law_180 ?_
    refine l_sld hx hb hX hbl hbA hS hLm (i + 1) (by omega) (nI_add i 1) dL_law_181 ?_
    refine lv_aload_n hx hb dL_law_182 rfl (lv_at hl 1 rfl) ?_
    refine lv_iload hx hb dL_law_183 (lv_at hl 5 rfl) ?_
    refine lv_iconst (v := 2) hx hb dL_law_185 (by decide) ?_
    refine lv_iadd hx hb dL_law_186 ?_
    refine l_sld hx hb hX hbl hbA hS hLm (i + 2) (by omega) (nI_add i 2) dL_law_187 ?_
    refine lv_aload_n hx hb dL_law_188 rfl (lv_at hl 1 rfl) ?_
    refine lv_iload hx hb dL_law_189 (lv_at hl 5 rfl) ?_
    refine lv_iconst (v := 3) hx hb dL_law_191 (by decide) ?_
    refine lv_iadd hx hb dL_law_192 ?_
    refine l_sld hx hb hX hbl hbA hS hLm (i + 3) (by omega) (nI_add i 3) dL_law_193 ?_
    refine lv_aload_n hx hb dL_law_194 rfl (lv_at hl 1 rfl) ?_
    refine lv_iload hx hb dL_law_195 (lv_at hl 5 rfl) ?_
    refine lv_iconst (v := 4) hx hb dL_law_197 (by decide) ?_
    refine lv_iadd hx hb dL_law_198 ?_
    refine l_sld hx hb hX hbl hbA hS hLm (i + 4) (by omega) (nI_add i 4) dL_law_199 ?_
    have hDB := lB_D hD hDm
    have hBB := lB_up (ad := ad) (oa := oa) hA0 hsz9 hW hout
    refine rh_call2 (vx_runV (As := [.int (xs (i + 1)), .int (xs (i + 2)), .int (xs (i + 3)), .int (xs (i + 4))]) (rest := []) ⟨hx, hb, hml, hown, hts⟩ (ct_X5_setTariff l hDB  (xs (i + 1)) (xs (i + 2)) (xs (i + 3)) (xs (i + 4))) (cwV 4 hts gL_law_X5_setTariff rfl rfl rfl (by decide +kernel) ⟨by decide, by decide⟩) (rh_preV2 hE hS (fun q h => h.1) hBB (hM.at 10 0 Nat.zero_lt_one) rfl hM) rfl rfl hl.1 rfl (lv_room (Nat.le_of_ble_eq_true rfl)) dL_law_200 ⟨by show cells + 5 + 0 ≤ 626516; omega, by show slots + 40 + 0 ≤ 7216556; omega⟩) hS (fun q h => h.1) (fun E ce q9 H locs hX9 hz9 hk9 hS g1 g2 g3 => hX9.elim) (fun o H locs hN9 hz9 hk9 hS => ?_)
    have hW := hW.keptB hk9
    have hout := hout.kept (hk9 _ hout.lt (fun z => z.2.2 rfl))
    have hsz9 := hS.1
    rcases hN9 with ⟨i8, hd0, hd1, hd2, hd3, hd4, rfl, hM⟩ | ⟨hd0, ⟨z8, rfl⟩, hM⟩ | ⟨hd0, hd1, ⟨z8, rfl⟩, hM⟩
    · exfalso
      exact absurd (l_ix (by omega) hd0 hd1) hc9
    · skip
      refine W.eq (g2 := F0 m 203 ls [.int z8]) rfl ?_
      refine lv_istore (lv' := [(6, .int z8), (5, .int 1), (0, .ref b), (1, .ref (ad 0 0)), (2, .ref (adm 10 0)), (3, .ref oa), (4, .int (nI i))]) hx hb dL_law_203 hl (by decide) rfl (fun ls hl => ?_)
      refine lv_aload_n hx hb dL_law_205 rfl (lv_at hl 4 rfl) ?_
      have hDB := lB_D hD hDm
      have hBB := lB_up (ad := ad) (oa := oa) hA0 hsz9 hW hout
      refine rh_call2 (vx_runV (As := []) (rest := []) ⟨hx, hb, hml, hown, hts⟩ (ct_X5_thrown l hDB  ) (cwV 0 hts gL_law_X5_thrown rfl rfl rfl (by decide +kernel) ⟨by decide, by decide⟩) (rh_preV2 hE hS (fun q h => h.1) hBB (hM.at 10 0 Nat.zero_lt_one) rfl hM) rfl rfl hl.1 rfl (lv_room (Nat.le_of_ble_eq_true rfl)) dL_law_206 ⟨by show cells + 5 + 0 + 0 ≤ 626516; omega, by show slots + 40 + 0 + 0 ≤ 7216556; omega⟩) hS (fun q h => h.1) (fun E ce q9 H locs hX9 hz9 hk9 hS g1 g2 g3 => hX9.elim) (fun o H locs hN9 hz9 hk9 hS => ?_)
      have hW := hW.keptB hk9
      have hout := hout.kept (hk9 _ hout.lt (fun z => z.2.2 rfl))
      have hsz9 := hS.1
      obtain ⟨rfl, hM⟩ := hN9
      refine W.eq (g2 := F0 m 209 ls [.int 1]) rfl ?_
      refine lv_iload hx hb dL_law_209 (lv_at hl 1 rfl) ?_
      refine lv_icmp_eq (tgt := 216) hx hb dL_law_211 (by decide) (fun c4 => ?_) (fun c4 => absurd c4 (by decide))
      refine lv_iload hx hb dL_law_216 (lv_at hl 1 rfl) ?_
      refine lv_if_ne (tgt := 233) hx hb dL_law_218 (by decide) (fun c5 => ?_) (fun c5 => absurd c5 (by decide))
      refine lv_goto (tgt := 1523) hx hb dL_law_233 (by decide) ?_
      exact hK _ _ _ _ _ _ _ _ _ _ _ _ ⟨rfl, rfl, hW, hM, hout, hI, hD, hDm, hAo⟩ hS (lv_sub hl [2, 3, 4, 5, 6] rfl)
    · exfalso
      exact absurd hd0 hc9
  · refine W.eq (g2 := F0 m 173 ls [.int 2]) rfl ?_
    refine lv_istore (lv' := [(5, .int 2), (0, .ref b), (1, .ref (ad 0 0)), (2, .ref (adm 10 0)), (3, .ref oa), (4, .int (nI i))]) hx hb dL_law_173 hl (by decide) rfl (fun ls hl => ?_)
    refine lv_aload_n hx hb dL_law_175 rfl (lv_at hl 3 rfl) ?_
    refine lv_aload_n hx hb dL_law_176 rfl (lv_at hl 1 rfl) ?_
    refine lv_iload hx hb dL_law_177 (lv_at hl 5 rfl) ?_
    refine lv_iconst (v := 1) hx hb dL_law_179 (by decide) ?_
    refine lv_iadd hx hb dL_law_180 ?_
    refine l_sld hx hb hX hbl hbA hS hLm (i + 1) (by omega) (nI_add i 1) dL_law_181 ?_
    refine lv_aload_n hx hb dL_law_182 rfl (lv_at hl 1 rfl) ?_
    refine lv_iload hx hb dL_law_183 (lv_at hl 5 rfl) ?_
    refine lv_iconst (v := 2) hx hb dL_law_185 (by decide) ?_
    refine lv_iadd hx hb dL_law_186 ?_
    refine l_sld hx hb hX hbl hbA hS hLm (i + 2) (by omega) (nI_add i 2) dL_law_187 ?_
    refine lv_aload_n hx hb dL_law_188 rfl (lv_at hl 1 rfl) ?_
    refine lv_iload hx hb dL_law_189 (lv_at hl 5 rfl) ?_
    refine lv_iconst (v := 3) hx hb dL_law_191 (by decide) ?_
    refine lv_iadd hx hb dL_law_192 ?_
    refine l_sld hx hb hX hbl hbA hS hLm (i + 3) (by omega) (nI_add i 3) dL_law_193 ?_
    refine lv_aload_n hx hb dL_law_194 rfl (lv_at hl 1 rfl) ?_
    refine lv_iload hx hb dL_law_195 (lv_at hl 5 rfl) ?_
    refine lv_iconst (v := 4) hx hb dL_law_197 (by decide) ?_
    refine lv_iadd hx hb dL_law_198 ?_
    refine l_sld hx hb hX hbl hbA hS hLm (i + 4) (by omega) (nI_add i 4) dL_law_199 ?_
    have hDB := lB_D hD hDm
    have hBB := lB_up (ad := ad) (oa := oa) hA0 hsz9 hW hout
    refine rh_call2 (vx_runV (As := [.int (xs (i + 1)), .int (xs (i + 2)), .int (xs (i + 3)), .int (xs (i + 4))]) (rest := []) ⟨hx, hb, hml, hown, hts⟩ (ct_X5_setTariff l hDB  (xs (i + 1)) (xs (i + 2)) (xs (i + 3)) (xs (i + 4))) (cwV 4 hts gL_law_X5_setTariff rfl rfl rfl (by decide +kernel) ⟨by decide, by decide⟩) (rh_preV2 hE hS (fun q h => h.1) hBB (hM.at 10 0 Nat.zero_lt_one) rfl hM) rfl rfl hl.1 rfl (lv_room (Nat.le_of_ble_eq_true rfl)) dL_law_200 ⟨by show cells + 5 + 0 ≤ 626516; omega, by show slots + 40 + 0 ≤ 7216556; omega⟩) hS (fun q h => h.1) (fun E ce q9 H locs hX9 hz9 hk9 hS g1 g2 g3 => hX9.elim) (fun o H locs hN9 hz9 hk9 hS => ?_)
    have hW := hW.keptB hk9
    have hout := hout.kept (hk9 _ hout.lt (fun z => z.2.2 rfl))
    have hsz9 := hS.1
    rcases hN9 with ⟨i8, hd0, hd1, hd2, hd3, hd4, rfl, hM⟩ | ⟨hd0, ⟨z8, rfl⟩, hM⟩ | ⟨hd0, hd1, ⟨z8, rfl⟩, hM⟩
    · exfalso
      exact (hc9.2 ⟨hd2, hd3, hd4⟩).elim
    · exfalso
      exact (hd0 hc9.1).elim
    · skip
      refine W.eq (g2 := F0 m 203 ls [.int z8]) rfl ?_
      refine lv_istore (lv' := [(6, .int z8), (5, .int 2), (0, .ref b), (1, .ref (ad 0 0)), (2, .ref (adm 10 0)), (3, .ref oa), (4, .int (nI i))]) hx hb dL_law_203 hl (by decide) rfl (fun ls hl => ?_)
      refine lv_aload_n hx hb dL_law_205 rfl (lv_at hl 4 rfl) ?_
      have hDB := lB_D hD hDm
      have hBB := lB_up (ad := ad) (oa := oa) hA0 hsz9 hW hout
      refine rh_call2 (vx_runV (As := []) (rest := []) ⟨hx, hb, hml, hown, hts⟩ (ct_X5_thrown l hDB  ) (cwV 0 hts gL_law_X5_thrown rfl rfl rfl (by decide +kernel) ⟨by decide, by decide⟩) (rh_preV2 hE hS (fun q h => h.1) hBB (hM.at 10 0 Nat.zero_lt_one) rfl hM) rfl rfl hl.1 rfl (lv_room (Nat.le_of_ble_eq_true rfl)) dL_law_206 ⟨by show cells + 5 + 0 + 0 ≤ 626516; omega, by show slots + 40 + 0 + 0 ≤ 7216556; omega⟩) hS (fun q h => h.1) (fun E ce q9 H locs hX9 hz9 hk9 hS g1 g2 g3 => hX9.elim) (fun o H locs hN9 hz9 hk9 hS => ?_)
      have hW := hW.keptB hk9
      have hout := hout.kept (hk9 _ hout.lt (fun z => z.2.2 rfl))
      have hsz9 := hS.1
      obtain ⟨rfl, hM⟩ := hN9
      refine W.eq (g2 := F0 m 209 ls [.int 2]) rfl ?_
      refine lv_iload hx hb dL_law_209 (lv_at hl 1 rfl) ?_
      refine lv_icmp_eq (tgt := 216) hx hb dL_law_211 (by decide) (fun c6 => ?_) (fun c6 => absurd c6 (by decide))
      refine lv_iload hx hb dL_law_216 (lv_at hl 1 rfl) ?_
      refine lv_if_ne (tgt := 233) hx hb dL_law_218 (by decide) (fun c7 => ?_) (fun c7 => absurd c7 (by decide))
      refine lv_goto (tgt := 1523) hx hb dL_law_233 (by decide) ?_
      exact hK _ _ _ _ _ _ _ _ _ _ _ _ ⟨rfl, rfl, hW, hM, hout, hI, hD, hDm, hAo⟩ hS (lv_sub hl [2, 3, 4, 5, 6] rfl)
set_option maxHeartbeats 8000000 in
set_option maxRecDepth 100000 in
theorem op_charge {p : Program} {l : Launch} {e : Env} {s : State} {m : MethodId} {below : List Frame} {meth : Method} {c : Code} {G : va_G} {ca : Nat → ClassId} {A0 : Nat → Prop} {b L : Nat} {xs : Nat → Int32} {h9 hm oa i : Nat} {cells slots : Nat} {Q : State → Prop} {ad adm : Nat → Nat → Nat} {nf nc : Nat} {r : rh_R} {v : rh_V} {w : rh_Wm} {th : Int32} {f : Nat → Int64} {H : Heap} {locs : List Loc} {ls : Array Slot} (C : lwC p l s m c G ca A0 b L xs) (hLS : lwS G ca A0 h9 hm oa ad adm nf nc r v w th f H) (hS : va_S A0 s.heap H locs) (hl : lv_has ls 8 [(0, .ref b), (1, .ref h9), (2, .ref hm), (3, .ref oa), (4, .int (nI i))]) (hi : i + 5 < L) (hcl : cells + 5 ≤ 626516) (hsl : slots + 40 ≤ 7216556) (hK : lwK p l e s m below meth c G ca A0 b h9 hm oa i cells slots Q) : W p l e room_1 s m #[Value.ref b] below meth c H locs cells slots Q (F0 m 236 ls []) := by
  obtain ⟨hx, hb, hml, hown, hts, hE, hnc9, hlf, hA0, hbA, hbl, hX, hLm⟩ := C
  obtain ⟨rfl, rfl, hW, hM, hout, hI, hD, hDm, hAo⟩ := hLS
  have hnf9 := hI.1.1
  have hnn9 := hI.1.2.1
  have hnow := l_now hI
  have hsz9 := hS.1
  have hl : lv_has ls 8 [(0, .ref b), (1, .ref (ad 0 0)), (2, .ref (adm 10 0)), (3, .ref oa), (4, .int (nI i))] := hl
  refine lv_aload_n hx hb dL_law_236 rfl (lv_at hl 1 rfl) ?_
  refine lv_aload_n hx hb dL_law_237 rfl (lv_at hl 0 rfl) ?_
  refine lv_iload hx hb dL_law_238 (lv_at hl 4 rfl) ?_
  refine lv_iconst (v := 1) hx hb dL_law_240 (by decide) ?_
  refine lv_iadd hx hb dL_law_241 ?_
  refine l_sld hx hb hX hbl hbA hS hLm (i + 1) (by omega) (nI_add i 1) dL_law_242 ?_
  refine lv_aload_n hx hb dL_law_243 rfl (lv_at hl 0 rfl) ?_
  refine lv_iload hx hb dL_law_244 (lv_at hl 4 rfl) ?_
  refine lv_iconst (v := 2) hx hb dL_law_246 (by decide) ?_
  refine lv_iadd hx hb dL_law_247 ?_
  refine l_sld hx hb hX hbl hbA hS hLm (i + 2) (by omega) (nI_add i 2) dL_law_248 ?_
  refine lv_aload_n hx hb dL_law_249 rfl (lv_at hl 3 rfl) ?_
  have hAA := lA_up (adm := adm) hA0 hsz9 hM
  refine rh_call2 (vx_runSX (As := [.ref (ad 0 0), .int (xs (i + 1)), .int (xs (i + 2)), .ref oa]) (rest := []) ⟨hx, hb, hml, hown, hts⟩ (hl_charge l hlf (l_Ao hM hout hDm hAo) hD hI.1 (xs (i + 1)) (xs (i + 2))) (vx_cwSW 4 hts gL_law_L_charge rfl rfl rfl (by decide +kernel) ⟨by decide, by decide⟩) (rh_prel hE hnc9 hS (fun q h => h.1) hAA ⟨hW, hout⟩) rfl rfl hl.1 rfl (lv_room (Nat.le_of_ble_eq_true rfl)) dL_law_250 ⟨by show cells + 5 ≤ 626516; omega, by show slots + 40 ≤ 7216556; omega⟩) hS (fun q h => h.1) (fun E ce q9 H locs hX9 hz9 hk9 hS g1 g2 g3 => hX9.elim) (fun o H locs hN9 hz9 hk9 hS => ?_)
  have hM := hM.keptA hk9
  have hsz9 := hS.1
  rcases hN9 with ⟨i9, hc0, hc1, hc2, rfl, ⟨f8, hf8, hout⟩, hW⟩ | ⟨hc9, rfl, ⟨f8, hout⟩, hW⟩ | ⟨hc9, rfl, ⟨f8, hout⟩, hW⟩
  · refine W.eq (g2 := F0 m 253 ls [.int 0]) rfl ?_
    refine lv_istore (lv' := [(5, .int 0), (0, .ref b), (1, .ref (ad 0 0)), (2, .ref (adm 10 0)), (3, .ref oa), (4, .int (nI i))]) hx hb dL_law_253 hl (by decide) rfl (fun ls hl => ?_)
    refine lv_aload_n hx hb dL_law_255 rfl (lv_at hl 3 rfl) ?_
    refine lv_aload_n hx hb dL_law_256 rfl (lv_at hl 1 rfl) ?_
    refine lv_iload hx hb dL_law_257 (lv_at hl 5 rfl) ?_
    refine lv_iconst (v := 1) hx hb dL_law_259 (by decide) ?_
    refine lv_iadd hx hb dL_law_260 ?_
    refine l_sld hx hb hX hbl hbA hS hLm (i + 1) (by omega) (nI_add i 1) dL_law_261 ?_
    refine lv_aload_n hx hb dL_law_262 rfl (lv_at hl 1 rfl) ?_
    refine lv_iload hx hb dL_law_263 (lv_at hl 5 rfl) ?_
    refine lv_iconst (v := 2) hx hb dL_law_265 (by decide) ?_
    refine lv_iadd hx hb dL_law_266 ?_
    refine l_sld hx hb hX hbl hbA hS hLm (i + 2) (by omega) (nI_add i 2) dL_law_267 ?_
    have hDB := lB_D hD hDm
    have hBB := lB_up (ad := ad) (oa := oa) hA0 hsz9 hW hout
    refine rh_call2 (vx_runV (As := [.int (xs (i + 1)), .int (xs (i + 2))]) (rest := []) ⟨hx, hb, hml, hown, hts⟩ (ct_X5_charge l hDB hI.2.1.1 (xs (i + 1)) (xs (i + 2))) (cwV 2 hts gL_law_X5_charge rfl rfl rfl (by decide +kernel) ⟨by decide, by decide⟩) (rh_preV2 hE hS (fun q h => h.1) hBB (hM.at 10 0 Nat.zero_lt_one) rfl hM) rfl rfl hl.1 rfl (lv_room (Nat.le_of_ble_eq_true rfl)) dL_law_268 ⟨by show cells + 5 + 0 ≤ 626516; omega, by show slots + 40 + 0 ≤ 7216556; omega⟩) hS (fun q h => h.1) (fun E ce q9 H locs hX9 hz9 hk9 hS g1 g2 g3 => hX9.elim) (fun o H locs hN9 hz9 hk9 hS => ?_)
    have hW := hW.keptB hk9
    have hout := hout.kept (hk9 _ hout.lt (fun z => z.2.2 rfl))
    have hsz9 := hS.1
    rcases hN9 with ⟨i8, hd0, hd1, hd2, rfl, hM⟩ | ⟨hd0, ⟨z8, rfl⟩, hM⟩ | ⟨hd0, hd1, ⟨z8, rfl⟩, hM⟩
    · obtain rfl : i9 = i8 := m_inj (by omega) (by omega) (hc1.symm.trans hd1)
      refine W.eq (g2 := F0 m 271 ls [.int (m_ch w i9 (xs (i + 2)))]) rfl ?_
      refine lv_istore (lv' := [(6, .int (m_ch w i9 (xs (i + 2)))), (5, .int 0), (0, .ref b), (1, .ref (ad 0 0)), (2, .ref (adm 10 0)), (3, .ref oa), (4, .int (nI i))]) hx hb dL_law_271 hl (by decide) rfl (fun ls hl => ?_)
      refine lv_aload_n hx hb dL_law_273 rfl (lv_at hl 4 rfl) ?_
      have hDB := lB_D hD hDm
      have hBB := lB_up (ad := ad) (oa := oa) hA0 hsz9 hW hout
      refine rh_call2 (vx_runV (As := []) (rest := []) ⟨hx, hb, hml, hown, hts⟩ (ct_X5_thrown l hDB  ) (cwV 0 hts gL_law_X5_thrown rfl rfl rfl (by decide +kernel) ⟨by decide, by decide⟩) (rh_preV2 hE hS (fun q h => h.1) hBB (hM.at 10 0 Nat.zero_lt_one) rfl hM) rfl rfl hl.1 rfl (lv_room (Nat.le_of_ble_eq_true rfl)) dL_law_274 ⟨by show cells + 5 + 0 + 0 ≤ 626516; omega, by show slots + 40 + 0 + 0 ≤ 7216556; omega⟩) hS (fun q h => h.1) (fun E ce q9 H locs hX9 hz9 hk9 hS g1 g2 g3 => hX9.elim) (fun o H locs hN9 hz9 hk9 hS => ?_)
      have hW := hW.keptB hk9
      have hout := hout.kept (hk9 _ hout.lt (fun z => z.2.2 rfl))
      have hsz9 := hS.1
      obtain ⟨rfl, hM⟩ := hN9
      refine W.eq (g2 := F0 m 277 ls [.int 0]) rfl ?_
      refine lv_iload hx hb dL_law_277 (lv_at hl 1 rfl) ?_
      refine lv_icmp_eq (tgt := 284) hx hb dL_law_279 (by decide) (fun c1 => ?_) (fun c1 => absurd c1 (by decide))
      refine lv_iload hx hb dL_law_284 (lv_at hl 1 rfl) ?_
      refine lv_if_ne (tgt := 301) hx hb dL_law_286 (by decide) (fun c2 => absurd c2 (by decide)) (fun c2 => ?_)
      refine lv_aload_n hx hb dL_law_289 rfl (lv_at hl 5 rfl) ?_
      refine lv_iconst (v := 0) hx hb dL_law_290 (by decide) ?_
      refine rh_lald (n := 1) (f := f8) hx hb hE hout 0 (by decide) (by decide) rfl dL_law_291 ?_
      have hval : f8 0 = ((m_ch w i9 (xs (i + 2)))).toInt64 := by rw [hf8, s_ch hI.2.2.1 hc0]
      refine lv_iload hx hb dL_law_292 (lv_at hl 0 rfl) ?_
      refine lv_i2l hx hb dL_law_294 rfl ?_
      refine W.lcmp hx hb dL_law_295 ?_
      refine lv_if_eq (tgt := 301) hx hb dL_law_296 (by decide) (fun c3 => ?_) (fun c3 => (c3 ((lg_cmp_eq _ _).mpr hval)).elim)
      · refine lv_goto (tgt := 1523) hx hb dL_law_301 (by decide) ?_
        exact hK _ _ _ _ _ _ _ _ _ _ _ _ ⟨rfl, rfl, hW, hM, hout, hI, hD, hDm, hAo⟩ hS (lv_sub hl [2, 3, 4, 5, 6] rfl)
    · exfalso
      exact (hd0 (l_ix (by omega) hc0 hc1)).elim
    · exfalso
      exact (hd1 hc2).elim
  · refine W.eq (g2 := F0 m 253 ls [.int 1]) rfl ?_
    refine lv_istore (lv' := [(5, .int 1), (0, .ref b), (1, .ref (ad 0 0)), (2, .ref (adm 10 0)), (3, .ref oa), (4, .int (nI i))]) hx hb dL_law_253 hl (by decide) rfl (fun ls hl => ?_)
    refine lv_aload_n hx hb dL_law_255 rfl (lv_at hl 3 rfl) ?_
    refine lv_aload_n hx hb dL_law_256 rfl (lv_at hl 1 rfl) ?_
    refine lv_iload hx hb dL_law_257 (lv_at hl 5 rfl) ?_
    refine lv_iconst (v := 1) hx hb dL_law_259 (by decide) ?_
    refine lv_iadd hx hb dL_law_260 ?_
    refine l_sld hx hb hX hbl hbA hS hLm (i + 1) (by omega) (nI_add i 1) dL_law_261 ?_
    refine lv_aload_n hx hb dL_law_262 rfl (lv_at hl 1 rfl) ?_
    refine lv_iload hx hb dL_law_263 (lv_at hl 5 rfl) ?_
    refine lv_iconst (v := 2) hx hb dL_law_265 (by decide) ?_
    refine lv_iadd hx hb dL_law_266 ?_
    refine l_sld hx hb hX hbl hbA hS hLm (i + 2) (by omega) (nI_add i 2) dL_law_267 ?_
    have hDB := lB_D hD hDm
    have hBB := lB_up (ad := ad) (oa := oa) hA0 hsz9 hW hout
    refine rh_call2 (vx_runV (As := [.int (xs (i + 1)), .int (xs (i + 2))]) (rest := []) ⟨hx, hb, hml, hown, hts⟩ (ct_X5_charge l hDB hI.2.1.1 (xs (i + 1)) (xs (i + 2))) (cwV 2 hts gL_law_X5_charge rfl rfl rfl (by decide +kernel) ⟨by decide, by decide⟩) (rh_preV2 hE hS (fun q h => h.1) hBB (hM.at 10 0 Nat.zero_lt_one) rfl hM) rfl rfl hl.1 rfl (lv_room (Nat.le_of_ble_eq_true rfl)) dL_law_268 ⟨by show cells + 5 + 0 ≤ 626516; omega, by show slots + 40 + 0 ≤ 7216556; omega⟩) hS (fun q h => h.1) (fun E ce q9 H locs hX9 hz9 hk9 hS g1 g2 g3 => hX9.elim) (fun o H locs hN9 hz9 hk9 hS => ?_)
    have hW := hW.keptB hk9
    have hout := hout.kept (hk9 _ hout.lt (fun z => z.2.2 rfl))
    have hsz9 := hS.1
    rcases hN9 with ⟨i8, hd0, hd1, hd2, rfl, hM⟩ | ⟨hd0, ⟨z8, rfl⟩, hM⟩ | ⟨hd0, hd1, ⟨z8, rfl⟩, hM⟩
    · exfalso
      exact absurd (l_ix (by omega) hd0 hd1) hc9
    · skip
      refine W.eq (g2 := F0 m 271 ls [.int z8]) rfl ?_
      refine lv_istore (lv' := [(6, .int z8), (5, .int 1), (0, .ref b), (1, .ref (ad 0 0)), (2, .ref (adm 10 0)), (3, .ref oa), (4, .int (nI i))]) hx hb dL_law_271 hl (by decide) rfl (fun ls hl => ?_)
      refine lv_aload_n hx hb dL_law_273 rfl (lv_at hl 4 rfl) ?_
      have hDB := lB_D hD hDm
      have hBB := lB_up (ad := ad) (oa := oa) hA0 hsz9 hW hout
      refine rh_call2 (vx_runV (As := []) (rest := []) ⟨hx, hb, hml, hown, hts⟩ (ct_X5_thrown l hDB  ) (cwV 0 hts gL_law_X5_thrown rfl rfl rfl (by decide +kernel) ⟨by decide, by decide⟩) (rh_preV2 hE hS (fun q h => h.1) hBB (hM.at 10 0 Nat.zero_lt_one) rfl hM) rfl rfl hl.1 rfl (lv_room (Nat.le_of_ble_eq_true rfl)) dL_law_274 ⟨by show cells + 5 + 0 + 0 ≤ 626516; omega, by show slots + 40 + 0 + 0 ≤ 7216556; omega⟩) hS (fun q h => h.1) (fun E ce q9 H locs hX9 hz9 hk9 hS g1 g2 g3 => hX9.elim) (fun o H locs hN9 hz9 hk9 hS => ?_)
      have hW := hW.keptB hk9
      have hout := hout.kept (hk9 _ hout.lt (fun z => z.2.2 rfl))
      have hsz9 := hS.1
      obtain ⟨rfl, hM⟩ := hN9
      refine W.eq (g2 := F0 m 277 ls [.int 1]) rfl ?_
      refine lv_iload hx hb dL_law_277 (lv_at hl 1 rfl) ?_
      refine lv_icmp_eq (tgt := 284) hx hb dL_law_279 (by decide) (fun c4 => ?_) (fun c4 => absurd c4 (by decide))
      refine lv_iload hx hb dL_law_284 (lv_at hl 1 rfl) ?_
      refine lv_if_ne (tgt := 301) hx hb dL_law_286 (by decide) (fun c5 => ?_) (fun c5 => absurd c5 (by decide))
      refine lv_goto (tgt := 1523) hx hb dL_law_301 (by decide) ?_
      exact hK _ _ _ _ _ _ _ _ _ _ _ _ ⟨rfl, rfl, hW, hM, hout, hI, hD, hDm, hAo⟩ hS (lv_sub hl [2, 3, 4, 5, 6] rfl)
    · exfalso
      exact absurd hd0 hc9
  · refine W.eq (g2 := F0 m 253 ls [.int 2]) rfl ?_
    refine lv_istore (lv' := [(5, .int 2), (0, .ref b), (1, .ref (ad 0 0)), (2, .ref (adm 10 0)), (3, .ref oa), (4, .int (nI i))]) hx hb dL_law_253 hl (by decide) rfl (fun ls hl => ?_)
    refine lv_aload_n hx hb dL_law_255 rfl (lv_at hl 3 rfl) ?_
    refine lv_aload_n hx hb dL_law_256 rfl (lv_at hl 1 rfl) ?_
    refine lv_iload hx hb dL_law_257 (lv_at hl 5 rfl) ?_
    refine lv_iconst (v := 1) hx hb dL_law_259 (by decide) ?_
    refine lv_iadd hx hb dL_law_260 ?_
    refine l_sld hx hb hX hbl hbA hS hLm (i + 1) (by omega) (nI_add i 1) dL_law_261 ?_
    refine lv_aload_n hx hb dL_law_262 rfl (lv_at hl 1 rfl) ?_
    refine lv_iload hx hb dL_law_263 (lv_at hl 5 rfl) ?_
    refine lv_iconst (v := 2) hx hb dL_law_265 (by decide) ?_
    refine lv_iadd hx hb dL_law_266 ?_
    refine l_sld hx hb hX hbl hbA hS hLm (i + 2) (by omega) (nI_add i 2) dL_law_267 ?_
    have hDB := lB_D hD hDm
    have hBB := lB_up (ad := ad) (oa := oa) hA0 hsz9 hW hout
    refine rh_call2 (vx_runV (As := [.int (xs (i + 1)), .int (xs (i + 2))]) (rest := []) ⟨hx, hb, hml, hown, hts⟩ (ct_X5_charge l hDB hI.2.1.1 (xs (i + 1)) (xs (i + 2))) (cwV 2 hts gL_law_X5_charge rfl rfl rfl (by decide +kernel) ⟨by decide, by decide⟩) (rh_preV2 hE hS (fun q h => h.1) hBB (hM.at 10 0 Nat.zero_lt_one) rfl hM) rfl rfl hl.1 rfl (lv_room (Nat.le_of_ble_eq_true rfl)) dL_law_268 ⟨by show cells + 5 + 0 ≤ 626516; omega, by show slots + 40 + 0 ≤ 7216556; omega⟩) hS (fun q h => h.1) (fun E ce q9 H locs hX9 hz9 hk9 hS g1 g2 g3 => hX9.elim) (fun o H locs hN9 hz9 hk9 hS => ?_)
    have hW := hW.keptB hk9
    have hout := hout.kept (hk9 _ hout.lt (fun z => z.2.2 rfl))
    have hsz9 := hS.1
    rcases hN9 with ⟨i8, hd0, hd1, hd2, rfl, hM⟩ | ⟨hd0, ⟨z8, rfl⟩, hM⟩ | ⟨hd0, hd1, ⟨z8, rfl⟩, hM⟩
    · exfalso
      exact (hc9.2 hd2).elim
    · exfalso
      exact (hd0 hc9.1).elim
    · skip
      refine W.eq (g2 := F0 m 271 ls [.int z8]) rfl ?_
      refine lv_istore (lv' := [(6, .int z8), (5, .int 2), (0, .ref b), (1, .ref (ad 0 0)), (2, .ref (adm 10 0)), (3, .ref oa), (4, .int (nI i))]) hx hb dL_law_271 hl (by decide) rfl (fun ls hl => ?_)
      refine lv_aload_n hx hb dL_law_273 rfl (lv_at hl 4 rfl) ?_
      have hDB := lB_D hD hDm
      have hBB := lB_up (ad := ad) (oa := oa) hA0 hsz9 hW hout
      refine rh_call2 (vx_runV (As := []) (rest := []) ⟨hx, hb, hml, hown, hts⟩ (ct_X5_thrown l hDB  ) (cwV 0 hts gL_law_X5_thrown rfl rfl rfl (by decide +kernel) ⟨by decide, by decide⟩) (rh_preV2 hE hS (fun q h => h.1) hBB (hM.at 10 0 Nat.zero_lt_one) rfl hM) rfl rfl hl.1 rfl (lv_room (Nat.le_of_ble_eq_true rfl)) dL_law_274 ⟨by show cells + 5 + 0 + 0 ≤ 626516; omega, by show slots + 40 + 0 + 0 ≤ 7216556; omega⟩) hS (fun q h => h.1) (fun E ce q9 H locs hX9 hz9 hk9 hS g1 g2 g3 => hX9.elim) (fun o H locs hN9 hz9 hk9 hS => ?_)
      have hW := hW.keptB hk9
      have hout := hout.kept (hk9 _ hout.lt (fun z => z.2.2 rfl))
      have hsz9 := hS.1
      obtain ⟨rfl, hM⟩ := hN9
      refine W.eq (g2 := F0 m 277 ls [.int 2]) rfl ?_
      refine lv_iload hx hb dL_law_277 (lv_at hl 1 rfl) ?_
      refine lv_icmp_eq (tgt := 284) hx hb dL_law_279 (by decide) (fun c6 => ?_) (fun c6 => absurd c6 (by decide))
      refine lv_iload hx hb dL_law_284 (lv_at hl 1 rfl) ?_
      refine lv_if_ne (tgt := 301) hx hb dL_law_286 (by decide) (fun c7 => ?_) (fun c7 => absurd c7 (by decide))
      refine lv_goto (tgt := 1523) hx hb dL_law_301 (by decide) ?_
      exact hK _ _ _ _ _ _ _ _ _ _ _ _ ⟨rfl, rfl, hW, hM, hout, hI, hD, hDm, hAo⟩ hS (lv_sub hl [2, 3, 4, 5, 6] rfl)
set_option maxHeartbeats 8000000 in
set_option maxRecDepth 100000 in
theorem op_begin {p : Program} {l : Launch} {e : Env} {s : State} {m : MethodId} {below : List Frame} {meth : Method} {c : Code} {G : va_G} {ca : Nat → ClassId} {A0 : Nat → Prop} {b L : Nat} {xs : Nat → Int32} {h9 hm oa i : Nat} {cells slots : Nat} {Q : State → Prop} {ad adm : Nat → Nat → Nat} {nf nc : Nat} {r : rh_R} {v : rh_V} {w : rh_Wm} {th : Int32} {f : Nat → Int64} {H : Heap} {locs : List Loc} {ls : Array Slot} (C : lwC p l s m c G ca A0 b L xs) (hLS : lwS G ca A0 h9 hm oa ad adm nf nc r v w th f H) (hS : va_S A0 s.heap H locs) (hl : lv_has ls 8 [(0, .ref b), (1, .ref h9), (2, .ref hm), (3, .ref oa), (4, .int (nI i))]) (hi : i + 5 < L) (hcl : cells + 5 ≤ 626516) (hsl : slots + 40 ≤ 7216556) (hK : lwK p l e s m below meth c G ca A0 b h9 hm oa i cells slots Q) : W p l e room_1 s m #[Value.ref b] below meth c H locs cells slots Q (F0 m 304 ls []) := by
  obtain ⟨hx, hb, hml, hown, hts, hE, hnc9, hlf, hA0, hbA, hbl, hX, hLm⟩ := C
  obtain ⟨rfl, rfl, hW, hM, hout, hI, hD, hDm, hAo⟩ := hLS
  have hnf9 := hI.1.1
  have hnn9 := hI.1.2.1
  have hnow := l_now hI
  have hsz9 := hS.1
  have hl : lv_has ls 8 [(0, .ref b), (1, .ref (ad 0 0)), (2, .ref (adm 10 0)), (3, .ref oa), (4, .int (nI i))] := hl
  refine lv_aload_n hx hb dL_law_304 rfl (lv_at hl 1 rfl) ?_
  refine lv_aload_n hx hb dL_law_305 rfl (lv_at hl 0 rfl) ?_
  refine lv_iload hx hb dL_law_306 (lv_at hl 4 rfl) ?_
  refine lv_iconst (v := 1) hx hb dL_law_308 (by decide) ?_
  refine lv_iadd hx hb dL_law_309 ?_
  refine l_sld hx hb hX hbl hbA hS hLm (i + 1) (by omega) (nI_add i 1) dL_law_310 ?_
  refine lv_aload_n hx hb dL_law_311 rfl (lv_at hl 0 rfl) ?_
  refine lv_iload hx hb dL_law_312 (lv_at hl 4 rfl) ?_
  refine lv_iconst (v := 2) hx hb dL_law_314 (by decide) ?_
  refine lv_iadd hx hb dL_law_315 ?_
  refine l_sld hx hb hX hbl hbA hS hLm (i + 2) (by omega) (nI_add i 2) dL_law_316 ?_
  refine lv_aload_n hx hb dL_law_317 rfl (lv_at hl 3 rfl) ?_
  have hAA := lA_up (adm := adm) hA0 hsz9 hM
  refine rh_call2 (vx_runSX (As := [.ref (ad 0 0), .int (xs (i + 1)), .int (xs (i + 2)), .ref oa]) (rest := []) ⟨hx, hb, hml, hown, hts⟩ (hl_begin l hlf (l_Ao hM hout hDm hAo) hD hI.1 (xs (i + 1)) (xs (i + 2))) (vx_cwSW 4 hts gL_law_L_begin rfl rfl rfl (by decide +kernel) ⟨by decide, by decide⟩) (rh_prel hE hnc9 hS (fun q h => h.1) hAA ⟨hW, hout⟩) rfl rfl hl.1 rfl (lv_room (Nat.le_of_ble_eq_true rfl)) dL_law_318 ⟨by show cells + 5 ≤ 626516; omega, by show slots + 40 ≤ 7216556; omega⟩) hS (fun q h => h.1) (fun E ce q9 H locs hX9 hz9 hk9 hS g1 g2 g3 => hX9.elim) (fun o H locs hN9 hz9 hk9 hS => ?_)
  have hM := hM.keptA hk9
  have hsz9 := hS.1
  rcases hN9 with ⟨h9, k9, hc0, hc1, hc2, hc3, hc4, hc5, rfl, ⟨f8, hf8, hout⟩, q8, hW, hD⟩ | ⟨hc9, rfl, ⟨f8, hout⟩, hW⟩ | ⟨hc9, rfl, ⟨f8, hout⟩, hW⟩ | ⟨hc9, rfl, ⟨f8, hout⟩, hW⟩
  · refine W.eq (g2 := F0 m 321 ls [.int 0]) rfl ?_
    refine lv_istore (lv' := [(5, .int 0), (0, .ref b), (1, .ref (ad 0 0)), (2, .ref (adm 10 0)), (3, .ref oa), (4, .int (nI i))]) hx hb dL_law_321 hl (by decide) rfl (fun ls hl => ?_)
    refine lv_aload_n hx hb dL_law_323 rfl (lv_at hl 3 rfl) ?_
    refine lv_aload_n hx hb dL_law_324 rfl (lv_at hl 1 rfl) ?_
    refine lv_iload hx hb dL_law_325 (lv_at hl 5 rfl) ?_
    refine lv_iconst (v := 1) hx hb dL_law_327 (by decide) ?_
    refine lv_iadd hx hb dL_law_328 ?_
    refine l_sld hx hb hX hbl hbA hS hLm (i + 1) (by omega) (nI_add i 1) dL_law_329 ?_
    refine lv_aload_n hx hb dL_law_330 rfl (lv_at hl 1 rfl) ?_
    refine lv_iload hx hb dL_law_331 (lv_at hl 5 rfl) ?_
    refine lv_iconst (v := 2) hx hb dL_law_333 (by decide) ?_
    refine lv_iadd hx hb dL_law_334 ?_
    refine l_sld hx hb hX hbl hbA hS hLm (i + 2) (by omega) (nI_add i 2) dL_law_335 ?_
    have hDB := lB_D hD hDm
    have hBB := lB_up (oa := oa) hA0 hsz9 hW hout
    refine rh_call2 (vx_runV (As := [.int (xs (i + 1)), .int (xs (i + 2))]) (rest := []) ⟨hx, hb, hml, hown, hts⟩ (ct_X5_begin l hDB hI.2.1.1 (xs (i + 1)) (xs (i + 2))) (cwV 2 hts gL_law_X5_begin rfl rfl rfl (by decide +kernel) ⟨by decide, by decide⟩) (rh_preV2 hE hS (fun q h => h.1) hBB (hM.at 10 0 Nat.zero_lt_one) rfl hM) rfl rfl hl.1 rfl (lv_room (Nat.le_of_ble_eq_true rfl)) dL_law_336 ⟨by show cells + 5 + 0 ≤ 626516; omega, by show slots + 40 + 0 ≤ 7216556; omega⟩) hS (fun q h => h.1) (fun E ce q9 H locs hX9 hz9 hk9 hS g1 g2 g3 => hX9.elim) (fun o H locs hN9 hz9 hk9 hS => ?_)
    have hW := hW.keptB hk9
    have hout := hout.kept (hk9 _ hout.lt (fun z => z.2.2 rfl))
    have hsz9 := hS.1
    rcases hN9 with ⟨h8, k8, hd0, hd1, hd2, hd3, hd4, hd5, rfl, hM⟩ | ⟨hd0, ⟨z8, rfl⟩, hM⟩ | ⟨hd0, hd1, hd2, ⟨z8, rfl⟩, hM⟩ | ⟨h8, k8, hd0, hd1, hd2, hd3, hd4, hd5, ⟨z8, rfl⟩, hM⟩
    · obtain rfl : h9 = h8 := m_inj (by omega) (by omega) (hc3.symm.trans hd3)
      obtain rfl : k9 = k8 := m_inj (by omega) (by omega) (hc4.symm.trans hd4)
      refine W.eq (g2 := F0 m 339 ls [.int (nI nf)]) rfl ?_
      refine lv_istore (lv' := [(6, .int (nI nf)), (5, .int 0), (0, .ref b), (1, .ref (ad 0 0)), (2, .ref (adm 10 0)), (3, .ref oa), (4, .int (nI i))]) hx hb dL_law_339 hl (by decide) rfl (fun ls hl => ?_)
      refine lv_aload_n hx hb dL_law_341 rfl (lv_at hl 4 rfl) ?_
      have hDB := lB_D hD hDm
      have hBB := lB_up (oa := oa) hA0 hsz9 hW hout
      refine rh_call2 (vx_runV (As := []) (rest := []) ⟨hx, hb, hml, hown, hts⟩ (ct_X5_thrown l hDB  ) (cwV 0 hts gL_law_X5_thrown rfl rfl rfl (by decide +kernel) ⟨by decide, by decide⟩) (rh_preV2 hE hS (fun q h => h.1) hBB (hM.at 10 0 Nat.zero_lt_one) rfl hM) rfl rfl hl.1 rfl (lv_room (Nat.le_of_ble_eq_true rfl)) dL_law_342 ⟨by show cells + 5 + 0 + 0 ≤ 626516; omega, by show slots + 40 + 0 + 0 ≤ 7216556; omega⟩) hS (fun q h => h.1) (fun E ce q9 H locs hX9 hz9 hk9 hS g1 g2 g3 => hX9.elim) (fun o H locs hN9 hz9 hk9 hS => ?_)
      have hW := hW.keptB hk9
      have hout := hout.kept (hk9 _ hout.lt (fun z => z.2.2 rfl))
      have hsz9 := hS.1
      obtain ⟨rfl, hM⟩ := hN9
      refine W.eq (g2 := F0 m 345 ls [.int 0]) rfl ?_
      refine lv_iload hx hb dL_law_345 (lv_at hl 1 rfl) ?_
      refine lv_icmp_eq (tgt := 352) hx hb dL_law_347 (by decide) (fun c1 => ?_) (fun c1 => absurd c1 (by decide))
      refine lv_iload hx hb dL_law_352 (lv_at hl 1 rfl) ?_
      refine lv_if_ne (tgt := 369) hx hb dL_law_354 (by decide) (fun c2 => absurd c2 (by decide)) (fun c2 => ?_)
      refine lv_aload_n hx hb dL_law_357 rfl (lv_at hl 5 rfl) ?_
      refine lv_iconst (v := 0) hx hb dL_law_358 (by decide) ?_
      refine rh_lald (n := 1) (f := f8) hx hb hE hout 0 (by decide) (by decide) rfl dL_law_359 ?_
      have hval : f8 0 = ((nI nf)).toInt64 := by rw [hf8]
      refine lv_iload hx hb dL_law_360 (lv_at hl 0 rfl) ?_
      refine lv_i2l hx hb dL_law_362 rfl ?_
      refine W.lcmp hx hb dL_law_363 ?_
      refine lv_if_eq (tgt := 369) hx hb dL_law_364 (by decide) (fun c3 => ?_) (fun c3 => (c3 ((lg_cmp_eq _ _).mpr hval)).elim)
      · refine lv_goto (tgt := 1523) hx hb dL_law_369 (by decide) ?_
        exact hK _ _ _ _ _ _ _ _ _ _ _ _ ⟨ad2_ne _ _ _ _ (by omega), rfl, hW, hM, hout, i_begin hI hc5 (m_4pq hc0 hc1).2, hD, hDm, hAo⟩ hS (lv_sub hl [2, 3, 4, 5, 6] rfl)
    · exfalso
      exact (hd0 ⟨l_ix (by omega) hc0 hc3, l_ix (by omega) hc1 hc4⟩).elim
    · exfalso
      exact ((fun z => hc2 (m_inj (by omega) (by omega) (hc3.symm.trans (z.trans hc4)))) hd2).elim
    · exfalso
      exact absurd hc5 (by omega)
  · refine W.eq (g2 := F0 m 321 ls [.int 1]) rfl ?_
    refine lv_istore (lv' := [(5, .int 1), (0, .ref b), (1, .ref (ad 0 0)), (2, .ref (adm 10 0)), (3, .ref oa), (4, .int (nI i))]) hx hb dL_law_321 hl (by decide) rfl (fun ls hl => ?_)
    refine lv_aload_n hx hb dL_law_323 rfl (lv_at hl 3 rfl) ?_
    refine lv_aload_n hx hb dL_law_324 rfl (lv_at hl 1 rfl) ?_
    refine lv_iload hx hb dL_law_325 (lv_at hl 5 rfl) ?_
    refine lv_iconst (v := 1) hx hb dL_law_327 (by decide) ?_
    refine lv_iadd hx hb dL_law_328 ?_
    refine l_sld hx hb hX hbl hbA hS hLm (i + 1) (by omega) (nI_add i 1) dL_law_329 ?_
    refine lv_aload_n hx hb dL_law_330 rfl (lv_at hl 1 rfl) ?_
    refine lv_iload hx hb dL_law_331 (lv_at hl 5 rfl) ?_
    refine lv_iconst (v := 2) hx hb dL_law_333 (by decide) ?_
    refine lv_iadd hx hb dL_law_334 ?_
    refine l_sld hx hb hX hbl hbA hS hLm (i + 2) (by omega) (nI_add i 2) dL_law_335 ?_
    have hDB := lB_D hD hDm
    have hBB := lB_up (ad := ad) (oa := oa) hA0 hsz9 hW hout
    refine rh_call2 (vx_runV (As := [.int (xs (i + 1)), .int (xs (i + 2))]) (rest := []) ⟨hx, hb, hml, hown, hts⟩ (ct_X5_begin l hDB hI.2.1.1 (xs (i + 1)) (xs (i + 2))) (cwV 2 hts gL_law_X5_begin rfl rfl rfl (by decide +kernel) ⟨by decide, by decide⟩) (rh_preV2 hE hS (fun q h => h.1) hBB (hM.at 10 0 Nat.zero_lt_one) rfl hM) rfl rfl hl.1 rfl (lv_room (Nat.le_of_ble_eq_true rfl)) dL_law_336 ⟨by show cells + 5 + 0 ≤ 626516; omega, by show slots + 40 + 0 ≤ 7216556; omega⟩) hS (fun q h => h.1) (fun E ce q9 H locs hX9 hz9 hk9 hS g1 g2 g3 => hX9.elim) (fun o H locs hN9 hz9 hk9 hS => ?_)
    have hW := hW.keptB hk9
    have hout := hout.kept (hk9 _ hout.lt (fun z => z.2.2 rfl))
    have hsz9 := hS.1
    rcases hN9 with ⟨h8, k8, hd0, hd1, hd2, hd3, hd4, hd5, rfl, hM⟩ | ⟨hd0, ⟨z8, rfl⟩, hM⟩ | ⟨hd0, hd1, hd2, ⟨z8, rfl⟩, hM⟩ | ⟨h8, k8, hd0, hd1, hd2, hd3, hd4, hd5, ⟨z8, rfl⟩, hM⟩
    · exfalso
      exact (hc9 ⟨l_ix (by omega) hd0 hd3, l_ix (by omega) hd1 hd4⟩).elim
    · skip
      refine W.eq (g2 := F0 m 339 ls [.int z8]) rfl ?_
      refine lv_istore (lv' := [(6, .int z8), (5, .int 1), (0, .ref b), (1, .ref (ad 0 0)), (2, .ref (adm 10 0)), (3, .ref oa), (4, .int (nI i))]) hx hb dL_law_339 hl (by decide) rfl (fun ls hl => ?_)
      refine lv_aload_n hx hb dL_law_341 rfl (lv_at hl 4 rfl) ?_
      have hDB := lB_D hD hDm
      have hBB := lB_up (ad := ad) (oa := oa) hA0 hsz9 hW hout
      refine rh_call2 (vx_runV (As := []) (rest := []) ⟨hx, hb, hml, hown, hts⟩ (ct_X5_thrown l hDB  ) (cwV 0 hts gL_law_X5_thrown rfl rfl rfl (by decide +kernel) ⟨by decide, by decide⟩) (rh_preV2 hE hS (fun q h => h.1) hBB (hM.at 10 0 Nat.zero_lt_one) rfl hM) rfl rfl hl.1 rfl (lv_room (Nat.le_of_ble_eq_true rfl)) dL_law_342 ⟨by show cells + 5 + 0 + 0 ≤ 626516; omega, by show slots + 40 + 0 + 0 ≤ 7216556; omega⟩) hS (fun q h => h.1) (fun E ce q9 H locs hX9 hz9 hk9 hS g1 g2 g3 => hX9.elim) (fun o H locs hN9 hz9 hk9 hS => ?_)
      have hW := hW.keptB hk9
      have hout := hout.kept (hk9 _ hout.lt (fun z => z.2.2 rfl))
      have hsz9 := hS.1
      obtain ⟨rfl, hM⟩ := hN9
      refine W.eq (g2 := F0 m 345 ls [.int 1]) rfl ?_
      refine lv_iload hx hb dL_law_345 (lv_at hl 1 rfl) ?_
      refine lv_icmp_eq (tgt := 352) hx hb dL_law_347 (by decide) (fun c4 => ?_) (fun c4 => absurd c4 (by decide))
      refine lv_iload hx hb dL_law_352 (lv_at hl 1 rfl) ?_
      refine lv_if_ne (tgt := 369) hx hb dL_law_354 (by decide) (fun c5 => ?_) (fun c5 => absurd c5 (by decide))
      refine lv_goto (tgt := 1523) hx hb dL_law_369 (by decide) ?_
      exact hK _ _ _ _ _ _ _ _ _ _ _ _ ⟨rfl, rfl, hW, hM, hout, hI, hD, hDm, hAo⟩ hS (lv_sub hl [2, 3, 4, 5, 6] rfl)
    · exfalso
      exact (hc9 ⟨hd0, hd1⟩).elim
    · exfalso
      exact (hc9 ⟨l_ix (by omega) hd0 hd3, l_ix (by omega) hd1 hd4⟩).elim
  · refine W.eq (g2 := F0 m 321 ls [.int 2]) rfl ?_
    refine lv_istore (lv' := [(5, .int 2), (0, .ref b), (1, .ref (ad 0 0)), (2, .ref (adm 10 0)), (3, .ref oa), (4, .int (nI i))]) hx hb dL_law_321 hl (by decide) rfl (fun ls hl => ?_)
    refine lv_aload_n hx hb dL_law_323 rfl (lv_at hl 3 rfl) ?_
    refine lv_aload_n hx hb dL_law_324 rfl (lv_at hl 1 rfl) ?_
    refine lv_iload hx hb dL_law_325 (lv_at hl 5 rfl) ?_
    refine lv_iconst (v := 1) hx hb dL_law_327 (by decide) ?_
    refine lv_iadd hx hb dL_law_328 ?_
    refine l_sld hx hb hX hbl hbA hS hLm (i + 1) (by omega) (nI_add i 1) dL_law_329 ?_
    refine lv_aload_n hx hb dL_law_330 rfl (lv_at hl 1 rfl) ?_
    refine lv_iload hx hb dL_law_331 (lv_at hl 5 rfl) ?_
    refine lv_iconst (v := 2) hx hb dL_law_333 (by decide) ?_
    refine lv_iadd hx hb dL_law_334 ?_
    refine l_sld hx hb hX hbl hbA hS hLm (i + 2) (by omega) (nI_add i 2) dL_law_335 ?_
    have hDB := lB_D hD hDm
    have hBB := lB_up (ad := ad) (oa := oa) hA0 hsz9 hW hout
    refine rh_call2 (vx_runV (As := [.int (xs (i + 1)), .int (xs (i + 2))]) (rest := []) ⟨hx, hb, hml, hown, hts⟩ (ct_X5_begin l hDB hI.2.1.1 (xs (i + 1)) (xs (i + 2))) (cwV 2 hts gL_law_X5_begin rfl rfl rfl (by decide +kernel) ⟨by decide, by decide⟩) (rh_preV2 hE hS (fun q h => h.1) hBB (hM.at 10 0 Nat.zero_lt_one) rfl hM) rfl rfl hl.1 rfl (lv_room (Nat.le_of_ble_eq_true rfl)) dL_law_336 ⟨by show cells + 5 + 0 ≤ 626516; omega, by show slots + 40 + 0 ≤ 7216556; omega⟩) hS (fun q h => h.1) (fun E ce q9 H locs hX9 hz9 hk9 hS g1 g2 g3 => hX9.elim) (fun o H locs hN9 hz9 hk9 hS => ?_)
    have hW := hW.keptB hk9
    have hout := hout.kept (hk9 _ hout.lt (fun z => z.2.2 rfl))
    have hsz9 := hS.1
    rcases hN9 with ⟨h8, k8, hd0, hd1, hd2, hd3, hd4, hd5, rfl, hM⟩ | ⟨hd0, ⟨z8, rfl⟩, hM⟩ | ⟨hd0, hd1, hd2, ⟨z8, rfl⟩, hM⟩ | ⟨h8, k8, hd0, hd1, hd2, hd3, hd4, hd5, ⟨z8, rfl⟩, hM⟩
    · exfalso
      exact ((fun z => hd2 (m_inj (by omega) (by omega) (hd3.symm.trans (z.trans hd4)))) hc9.2.2).elim
    · exfalso
      exact (hd0 ⟨hc9.1, hc9.2.1⟩).elim
    · skip
      refine W.eq (g2 := F0 m 339 ls [.int z8]) rfl ?_
      refine lv_istore (lv' := [(6, .int z8), (5, .int 2), (0, .ref b), (1, .ref (ad 0 0)), (2, .ref (adm 10 0)), (3, .ref oa), (4, .int (nI i))]) hx hb dL_law_339 hl (by decide) rfl (fun ls hl => ?_)
      refine lv_aload_n hx hb dL_law_341 rfl (lv_at hl 4 rfl) ?_
      have hDB := lB_D hD hDm
      have hBB := lB_up (ad := ad) (oa := oa) hA0 hsz9 hW hout
      refine rh_call2 (vx_runV (As := []) (rest := []) ⟨hx, hb, hml, hown, hts⟩ (ct_X5_thrown l hDB  ) (cwV 0 hts gL_law_X5_thrown rfl rfl rfl (by decide +kernel) ⟨by decide, by decide⟩) (rh_preV2 hE hS (fun q h => h.1) hBB (hM.at 10 0 Nat.zero_lt_one) rfl hM) rfl rfl hl.1 rfl (lv_room (Nat.le_of_ble_eq_true rfl)) dL_law_342 ⟨by show cells + 5 + 0 + 0 ≤ 626516; omega, by show slots + 40 + 0 + 0 ≤ 7216556; omega⟩) hS (fun q h => h.1) (fun E ce q9 H locs hX9 hz9 hk9 hS g1 g2 g3 => hX9.elim) (fun o H locs hN9 hz9 hk9 hS => ?_)
      have hW := hW.keptB hk9
      have hout := hout.kept (hk9 _ hout.lt (fun z => z.2.2 rfl))
      have hsz9 := hS.1
      obtain ⟨rfl, hM⟩ := hN9
      refine W.eq (g2 := F0 m 345 ls [.int 2]) rfl ?_
      refine lv_iload hx hb dL_law_345 (lv_at hl 1 rfl) ?_
      refine lv_icmp_eq (tgt := 352) hx hb dL_law_347 (by decide) (fun c6 => ?_) (fun c6 => absurd c6 (by decide))
      refine lv_iload hx hb dL_law_352 (lv_at hl 1 rfl) ?_
      refine lv_if_ne (tgt := 369) hx hb dL_law_354 (by decide) (fun c7 => ?_) (fun c7 => absurd c7 (by decide))
      refine lv_goto (tgt := 1523) hx hb dL_law_369 (by decide) ?_
      exact hK _ _ _ _ _ _ _ _ _ _ _ _ ⟨rfl, rfl, hW, hM, hout, hI, hD, hDm, hAo⟩ hS (lv_sub hl [2, 3, 4, 5, 6] rfl)
    · exfalso
      exact ((fun z => hd2 (m_inj (by omega) (by omega) (hd3.symm.trans (z.trans hd4)))) hc9.2.2).elim
  · refine W.eq (g2 := F0 m 321 ls [.int 3]) rfl ?_
    refine lv_istore (lv' := [(5, .int 3), (0, .ref b), (1, .ref (ad 0 0)), (2, .ref (adm 10 0)), (3, .ref oa), (4, .int (nI i))]) hx hb dL_law_321 hl (by decide) rfl (fun ls hl => ?_)
    refine lv_aload_n hx hb dL_law_323 rfl (lv_at hl 3 rfl) ?_
    refine lv_aload_n hx hb dL_law_324 rfl (lv_at hl 1 rfl) ?_
    refine lv_iload hx hb dL_law_325 (lv_at hl 5 rfl) ?_
    refine lv_iconst (v := 1) hx hb dL_law_327 (by decide) ?_
    refine lv_iadd hx hb dL_law_328 ?_
    refine l_sld hx hb hX hbl hbA hS hLm (i + 1) (by omega) (nI_add i 1) dL_law_329 ?_
    refine lv_aload_n hx hb dL_law_330 rfl (lv_at hl 1 rfl) ?_
    refine lv_iload hx hb dL_law_331 (lv_at hl 5 rfl) ?_
    refine lv_iconst (v := 2) hx hb dL_law_333 (by decide) ?_
    refine lv_iadd hx hb dL_law_334 ?_
    refine l_sld hx hb hX hbl hbA hS hLm (i + 2) (by omega) (nI_add i 2) dL_law_335 ?_
    have hDB := lB_D hD hDm
    have hBB := lB_up (ad := ad) (oa := oa) hA0 hsz9 hW hout
    refine rh_call2 (vx_runV (As := [.int (xs (i + 1)), .int (xs (i + 2))]) (rest := []) ⟨hx, hb, hml, hown, hts⟩ (ct_X5_begin l hDB hI.2.1.1 (xs (i + 1)) (xs (i + 2))) (cwV 2 hts gL_law_X5_begin rfl rfl rfl (by decide +kernel) ⟨by decide, by decide⟩) (rh_preV2 hE hS (fun q h => h.1) hBB (hM.at 10 0 Nat.zero_lt_one) rfl hM) rfl rfl hl.1 rfl (lv_room (Nat.le_of_ble_eq_true rfl)) dL_law_336 ⟨by show cells + 5 + 0 ≤ 626516; omega, by show slots + 40 + 0 ≤ 7216556; omega⟩) hS (fun q h => h.1) (fun E ce q9 H locs hX9 hz9 hk9 hS g1 g2 g3 => hX9.elim) (fun o H locs hN9 hz9 hk9 hS => ?_)
    have hW := hW.keptB hk9
    have hout := hout.kept (hk9 _ hout.lt (fun z => z.2.2 rfl))
    have hsz9 := hS.1
    rcases hN9 with ⟨h8, k8, hd0, hd1, hd2, hd3, hd4, hd5, rfl, hM⟩ | ⟨hd0, ⟨z8, rfl⟩, hM⟩ | ⟨hd0, hd1, hd2, ⟨z8, rfl⟩, hM⟩ | ⟨h8, k8, hd0, hd1, hd2, hd3, hd4, hd5, ⟨z8, rfl⟩, hM⟩
    · exfalso
      exact absurd hc9.2.2.2 (by omega)
    · exfalso
      exact (hd0 ⟨hc9.1, hc9.2.1⟩).elim
    · exfalso
      exact (hc9.2.2.1 hd2).elim
    · skip
      refine W.eq (g2 := F0 m 339 ls [.int z8]) rfl ?_
      refine lv_istore (lv' := [(6, .int z8), (5, .int 3), (0, .ref b), (1, .ref (ad 0 0)), (2, .ref (adm 10 0)), (3, .ref oa), (4, .int (nI i))]) hx hb dL_law_339 hl (by decide) rfl (fun ls hl => ?_)
      refine lv_aload_n hx hb dL_law_341 rfl (lv_at hl 4 rfl) ?_
      have hDB := lB_D hD hDm
      have hBB := lB_up (ad := ad) (oa := oa) hA0 hsz9 hW hout
      refine rh_call2 (vx_runV (As := []) (rest := []) ⟨hx, hb, hml, hown, hts⟩ (ct_X5_thrown l hDB  ) (cwV 0 hts gL_law_X5_thrown rfl rfl rfl (by decide +kernel) ⟨by decide, by decide⟩) (rh_preV2 hE hS (fun q h => h.1) hBB (hM.at 10 0 Nat.zero_lt_one) rfl hM) rfl rfl hl.1 rfl (lv_room (Nat.le_of_ble_eq_true rfl)) dL_law_342 ⟨by show cells + 5 + 0 + 0 ≤ 626516; omega, by show slots + 40 + 0 + 0 ≤ 7216556; omega⟩) hS (fun q h => h.1) (fun E ce q9 H locs hX9 hz9 hk9 hS g1 g2 g3 => hX9.elim) (fun o H locs hN9 hz9 hk9 hS => ?_)
      have hW := hW.keptB hk9
      have hout := hout.kept (hk9 _ hout.lt (fun z => z.2.2 rfl))
      have hsz9 := hS.1
      obtain ⟨rfl, hM⟩ := hN9
      refine W.eq (g2 := F0 m 345 ls [.int 3]) rfl ?_
      refine lv_iload hx hb dL_law_345 (lv_at hl 1 rfl) ?_
      refine lv_icmp_eq (tgt := 352) hx hb dL_law_347 (by decide) (fun c8 => ?_) (fun c8 => absurd c8 (by decide))
      refine lv_iload hx hb dL_law_352 (lv_at hl 1 rfl) ?_
      refine lv_if_ne (tgt := 369) hx hb dL_law_354 (by decide) (fun c9 => ?_) (fun c9 => absurd c9 (by decide))
      refine lv_goto (tgt := 1523) hx hb dL_law_369 (by decide) ?_
      exact hK _ _ _ _ _ _ _ _ _ _ _ _ ⟨rfl, rfl, hW, hM, hout, hI, hD, hDm, hAo⟩ hS (lv_sub hl [2, 3, 4, 5, 6] rfl)
set_option maxHeartbeats 8000000 in
set_option maxRecDepth 100000 in
theorem op_enter {p : Program} {l : Launch} {e : Env} {s : State} {m : MethodId} {below : List Frame} {meth : Method} {c : Code} {G : va_G} {ca : Nat → ClassId} {A0 : Nat → Prop} {b L : Nat} {xs : Nat → Int32} {h9 hm oa i : Nat} {cells slots : Nat} {Q : State → Prop} {ad adm : Nat → Nat → Nat} {nf nc : Nat} {r : rh_R} {v : rh_V} {w : rh_Wm} {th : Int32} {f : Nat → Int64} {H : Heap} {locs : List Loc} {ls : Array Slot} (C : lwC p l s m c G ca A0 b L xs) (hLS : lwS G ca A0 h9 hm oa ad adm nf nc r v w th f H) (hS : va_S A0 s.heap H locs) (hl : lv_has ls 8 [(0, .ref b), (1, .ref h9), (2, .ref hm), (3, .ref oa), (4, .int (nI i))]) (hi : i + 5 < L) (hcl : cells + 5 ≤ 626516) (hsl : slots + 40 ≤ 7216556) (hK : lwK p l e s m below meth c G ca A0 b h9 hm oa i cells slots Q) : W p l e room_1 s m #[Value.ref b] below meth c H locs cells slots Q (F0 m 372 ls []) := by
  obtain ⟨hx, hb, hml, hown, hts, hE, hnc9, hlf, hA0, hbA, hbl, hX, hLm⟩ := C
  obtain ⟨rfl, rfl, hW, hM, hout, hI, hD, hDm, hAo⟩ := hLS
  have hnf9 := hI.1.1
  have hnn9 := hI.1.2.1
  have hnow := l_now hI
  have hsz9 := hS.1
  have hl : lv_has ls 8 [(0, .ref b), (1, .ref (ad 0 0)), (2, .ref (adm 10 0)), (3, .ref oa), (4, .int (nI i))] := hl
  refine lv_aload_n hx hb dL_law_372 rfl (lv_at hl 1 rfl) ?_
  refine lv_aload_n hx hb dL_law_373 rfl (lv_at hl 0 rfl) ?_
  refine lv_iload hx hb dL_law_374 (lv_at hl 4 rfl) ?_
  refine lv_iconst (v := 1) hx hb dL_law_376 (by decide) ?_
  refine lv_iadd hx hb dL_law_377 ?_
  refine l_sld hx hb hX hbl hbA hS hLm (i + 1) (by omega) (nI_add i 1) dL_law_378 ?_
  refine lv_aload_n hx hb dL_law_379 rfl (lv_at hl 0 rfl) ?_
  refine lv_iload hx hb dL_law_380 (lv_at hl 4 rfl) ?_
  refine lv_iconst (v := 2) hx hb dL_law_382 (by decide) ?_
  refine lv_iadd hx hb dL_law_383 ?_
  refine l_sld hx hb hX hbl hbA hS hLm (i + 2) (by omega) (nI_add i 2) dL_law_384 ?_
  refine lv_aload_n hx hb dL_law_385 rfl (lv_at hl 0 rfl) ?_
  refine lv_iload hx hb dL_law_386 (lv_at hl 4 rfl) ?_
  refine lv_iconst (v := 3) hx hb dL_law_388 (by decide) ?_
  refine lv_iadd hx hb dL_law_389 ?_
  refine l_sld hx hb hX hbl hbA hS hLm (i + 3) (by omega) (nI_add i 3) dL_law_390 ?_
  refine lv_aload_n hx hb dL_law_391 rfl (lv_at hl 3 rfl) ?_
  have hAA := lA_up (adm := adm) hA0 hsz9 hM
  refine rh_call2 (vx_runSX (As := [.ref (ad 0 0), .int (xs (i + 1)), .int (xs (i + 2)), .int (xs (i + 3)), .ref oa]) (rest := []) ⟨hx, hb, hml, hown, hts⟩ (hl_enter l hlf (l_Ao hM hout hDm hAo) hD hI.1 (xs (i + 1)) (xs (i + 2)) (xs (i + 3))) (vx_cwSW 5 hts gL_law_L_enter rfl rfl rfl (by decide +kernel) ⟨by decide, by decide⟩) (rh_prel hE hnc9 hS (fun q h => h.1) hAA ⟨hW, hout⟩) rfl rfl hl.1 rfl (lv_room (Nat.le_of_ble_eq_true rfl)) dL_law_392 ⟨by show cells + 5 ≤ 626516; omega, by show slots + 40 ≤ 7216556; omega⟩) hS (fun q h => h.1) (fun E ce q9 H locs hX9 hz9 hk9 hS g1 g2 g3 => hX9.elim) (fun o H locs hN9 hz9 hk9 hS => ?_)
  have hM := hM.keptA hk9
  have hsz9 := hS.1
  rcases hN9 with ⟨i9, hc0, hc1, hc2, hc3, hc4, hc5, rfl, ⟨f8, hf8, hout⟩, q8, hW, hD⟩ | ⟨hc9, rfl, ⟨f8, hout⟩, hW⟩ | ⟨hc9, rfl, ⟨f8, hout⟩, hW⟩ | ⟨hc9, rfl, ⟨f8, hout⟩, hW⟩
  · refine W.eq (g2 := F0 m 395 ls [.int 0]) rfl ?_
    refine lv_istore (lv' := [(5, .int 0), (0, .ref b), (1, .ref (ad 0 0)), (2, .ref (adm 10 0)), (3, .ref oa), (4, .int (nI i))]) hx hb dL_law_395 hl (by decide) rfl (fun ls hl => ?_)
    refine lv_aload_n hx hb dL_law_397 rfl (lv_at hl 3 rfl) ?_
    refine lv_aload_n hx hb dL_law_398 rfl (lv_at hl 1 rfl) ?_
    refine lv_iload hx hb dL_law_399 (lv_at hl 5 rfl) ?_
    refine lv_iconst (v := 1) hx hb dL_law_401 (by decide) ?_
    refine lv_iadd hx hb dL_law_402 ?_
    refine l_sld hx hb hX hbl hbA hS hLm (i + 1) (by omega) (nI_add i 1) dL_law_403 ?_
    refine lv_aload_n hx hb dL_law_404 rfl (lv_at hl 1 rfl) ?_
    refine lv_iload hx hb dL_law_405 (lv_at hl 5 rfl) ?_
    refine lv_iconst (v := 2) hx hb dL_law_407 (by decide) ?_
    refine lv_iadd hx hb dL_law_408 ?_
    refine l_sld hx hb hX hbl hbA hS hLm (i + 2) (by omega) (nI_add i 2) dL_law_409 ?_
    refine lv_aload_n hx hb dL_law_410 rfl (lv_at hl 1 rfl) ?_
    refine lv_iload hx hb dL_law_411 (lv_at hl 5 rfl) ?_
    refine lv_iconst (v := 3) hx hb dL_law_413 (by decide) ?_
    refine lv_iadd hx hb dL_law_414 ?_
    refine l_sld hx hb hX hbl hbA hS hLm (i + 3) (by omega) (nI_add i 3) dL_law_415 ?_
    have hDB := lB_D hD hDm
    have hBB := lB_up (oa := oa) hA0 hsz9 hW hout
    refine rh_call2 (vx_runV (As := [.int (xs (i + 1)), .int (xs (i + 2)), .int (xs (i + 3))]) (rest := []) ⟨hx, hb, hml, hown, hts⟩ (ct_X5_enter l hDB hI.2.1.1 (xs (i + 1)) (xs (i + 2)) (xs (i + 3))) (cwV 3 hts gL_law_X5_enter rfl rfl rfl (by decide +kernel) ⟨by decide, by decide⟩) (rh_preV2 hE hS (fun q h => h.1) hBB (hM.at 10 0 Nat.zero_lt_one) rfl hM) rfl rfl hl.1 rfl (lv_room (Nat.le_of_ble_eq_true rfl)) dL_law_416 ⟨by show cells + 5 + 0 ≤ 626516; omega, by show slots + 40 + 0 ≤ 7216556; omega⟩) hS (fun q h => h.1) (fun E ce q9 H locs hX9 hz9 hk9 hS g1 g2 g3 => hX9.elim) (fun o H locs hN9 hz9 hk9 hS => ?_)
    have hW := hW.keptB hk9
    have hout := hout.kept (hk9 _ hout.lt (fun z => z.2.2 rfl))
    have hsz9 := hS.1
    rcases hN9 with ⟨i8, hd0, hd1, hd2, hd3, hd4, hd5, rfl, hM⟩ | ⟨hd0, ⟨z8, rfl⟩, hM⟩ | ⟨hd0, hd1, ⟨z8, rfl⟩, hM⟩ | ⟨i8, hd0, hd1, hd2, hd3, hd4, ⟨z8, rfl⟩, hM⟩
    · obtain rfl : i9 = i8 := m_inj (by omega) (by omega) (hc1.symm.trans hd1)
      refine W.eq (g2 := F0 m 419 ls [.int (nI nc)]) rfl ?_
      refine lv_istore (lv' := [(6, .int (nI nc)), (5, .int 0), (0, .ref b), (1, .ref (ad 0 0)), (2, .ref (adm 10 0)), (3, .ref oa), (4, .int (nI i))]) hx hb dL_law_419 hl (by decide) rfl (fun ls hl => ?_)
      refine lv_aload_n hx hb dL_law_421 rfl (lv_at hl 4 rfl) ?_
      have hDB := lB_D hD hDm
      have hBB := lB_up (oa := oa) hA0 hsz9 hW hout
      refine rh_call2 (vx_runV (As := []) (rest := []) ⟨hx, hb, hml, hown, hts⟩ (ct_X5_thrown l hDB  ) (cwV 0 hts gL_law_X5_thrown rfl rfl rfl (by decide +kernel) ⟨by decide, by decide⟩) (rh_preV2 hE hS (fun q h => h.1) hBB (hM.at 10 0 Nat.zero_lt_one) rfl hM) rfl rfl hl.1 rfl (lv_room (Nat.le_of_ble_eq_true rfl)) dL_law_422 ⟨by show cells + 5 + 0 + 0 ≤ 626516; omega, by show slots + 40 + 0 + 0 ≤ 7216556; omega⟩) hS (fun q h => h.1) (fun E ce q9 H locs hX9 hz9 hk9 hS g1 g2 g3 => hX9.elim) (fun o H locs hN9 hz9 hk9 hS => ?_)
      have hW := hW.keptB hk9
      have hout := hout.kept (hk9 _ hout.lt (fun z => z.2.2 rfl))
      have hsz9 := hS.1
      obtain ⟨rfl, hM⟩ := hN9
      refine W.eq (g2 := F0 m 425 ls [.int 0]) rfl ?_
      refine lv_iload hx hb dL_law_425 (lv_at hl 1 rfl) ?_
      refine lv_icmp_eq (tgt := 432) hx hb dL_law_427 (by decide) (fun c1 => ?_) (fun c1 => absurd c1 (by decide))
      refine lv_iload hx hb dL_law_432 (lv_at hl 1 rfl) ?_
      refine lv_if_ne (tgt := 449) hx hb dL_law_434 (by decide) (fun c2 => absurd c2 (by decide)) (fun c2 => ?_)
      refine lv_aload_n hx hb dL_law_437 rfl (lv_at hl 5 rfl) ?_
      refine lv_iconst (v := 0) hx hb dL_law_438 (by decide) ?_
      refine rh_lald (n := 1) (f := f8) hx hb hE hout 0 (by decide) (by decide) rfl dL_law_439 ?_
      have hval : f8 0 = ((nI nc)).toInt64 := by rw [hf8]
      refine lv_iload hx hb dL_law_440 (lv_at hl 0 rfl) ?_
      refine lv_i2l hx hb dL_law_442 rfl ?_
      refine W.lcmp hx hb dL_law_443 ?_
      refine lv_if_eq (tgt := 449) hx hb dL_law_444 (by decide) (fun c3 => ?_) (fun c3 => (c3 ((lg_cmp_eq _ _).mpr hval)).elim)
      · refine lv_goto (tgt := 1523) hx hb dL_law_449 (by decide) ?_
        exact hK _ _ _ _ _ _ _ _ _ _ _ _ ⟨ad2_ne _ _ _ _ (by omega), rfl, hW, hM, hout, i_enter hI hc5 hc0 ((hI.2.2.2.2.1 _ hc0).2.1.symm.trans hc4) _ _, hD, hDm, hAo⟩ hS (lv_sub hl [2, 3, 4, 5, 6] rfl)
    · exfalso
      exact (hd0 (l_ix (by omega) hc0 hc1)).elim
    · exfalso
      exact (hd1 ⟨hc2, hc3⟩).elim
    · exfalso
      obtain rfl : i9 = i8 := m_inj (by omega) (by omega) (hc1.symm.trans hd1)
      exact hd4.elim (fun z => z ((hI.2.2.2.2.1 _ hc0).2.1.symm.trans hc4)) (fun z => absurd hc5 (by omega))
  · refine W.eq (g2 := F0 m 395 ls [.int 1]) rfl ?_
    refine lv_istore (lv' := [(5, .int 1), (0, .ref b), (1, .ref (ad 0 0)), (2, .ref (adm 10 0)), (3, .ref oa), (4, .int (nI i))]) hx hb dL_law_395 hl (by decide) rfl (fun ls hl => ?_)
    refine lv_aload_n hx hb dL_law_397 rfl (lv_at hl 3 rfl) ?_
    refine lv_aload_n hx hb dL_law_398 rfl (lv_at hl 1 rfl) ?_
    refine lv_iload hx hb dL_law_399 (lv_at hl 5 rfl) ?_
    refine lv_iconst (v := 1) hx hb dL_law_401 (by decide) ?_
    refine lv_iadd hx hb dL_law_402 ?_
    refine l_sld hx hb hX hbl hbA hS hLm (i + 1) (by omega) (nI_add i 1) dL_law_403 ?_
    refine lv_aload_n hx hb dL_law_404 rfl (lv_at hl 1 rfl) ?_
    refine lv_iload hx hb dL_law_405 (lv_at hl 5 rfl) ?_
    refine lv_iconst (v := 2) hx hb dL_law_407 (by decide) ?_
    refine lv_iadd hx hb dL_law_408 ?_
    refine l_sld hx hb hX hbl hbA hS hLm (i + 2) (by omega) (nI_add i 2) dL_law_409 ?_
    refine lv_aload_n hx hb dL_law_410 rfl (lv_at hl 1 rfl) ?_
    refine lv_iload hx hb dL_law_411 (lv_at hl 5 rfl) ?_
    refine lv_iconst (v := 3) hx hb dL_law_413 (by decide) ?_
    refine lv_iadd hx hb dL_law_414 ?_
    refine l_sld hx hb hX hbl hbA hS hLm (i + 3) (by omega) (nI_add i 3) dL_law_415 ?_
    have hDB := lB_D hD hDm
    have hBB := lB_up (ad := ad) (oa := oa) hA0 hsz9 hW hout
    refine rh_call2 (vx_runV (As := [.int (xs (i + 1)), .int (xs (i + 2)), .int (xs (i + 3))]) (rest := []) ⟨hx, hb, hml, hown, hts⟩ (ct_X5_enter l hDB hI.2.1.1 (xs (i + 1)) (xs (i + 2)) (xs (i + 3))) (cwV 3 hts gL_law_X5_enter rfl rfl rfl (by decide +kernel) ⟨by decide, by decide⟩) (rh_preV2 hE hS (fun q h => h.1) hBB (hM.at 10 0 Nat.zero_lt_one) rfl hM) rfl rfl hl.1 rfl (lv_room (Nat.le_of_ble_eq_true rfl)) dL_law_416 ⟨by show cells + 5 + 0 ≤ 626516; omega, by show slots + 40 + 0 ≤ 7216556; omega⟩) hS (fun q h => h.1) (fun E ce q9 H locs hX9 hz9 hk9 hS g1 g2 g3 => hX9.elim) (fun o H locs hN9 hz9 hk9 hS => ?_)
    have hW := hW.keptB hk9
    have hout := hout.kept (hk9 _ hout.lt (fun z => z.2.2 rfl))
    have hsz9 := hS.1
    rcases hN9 with ⟨i8, hd0, hd1, hd2, hd3, hd4, hd5, rfl, hM⟩ | ⟨hd0, ⟨z8, rfl⟩, hM⟩ | ⟨hd0, hd1, ⟨z8, rfl⟩, hM⟩ | ⟨i8, hd0, hd1, hd2, hd3, hd4, ⟨z8, rfl⟩, hM⟩
    · exfalso
      exact absurd (l_ix (by omega) hd0 hd1) hc9
    · skip
      refine W.eq (g2 := F0 m 419 ls [.int z8]) rfl ?_
      refine lv_istore (lv' := [(6, .int z8), (5, .int 1), (0, .ref b), (1, .ref (ad 0 0)), (2, .ref (adm 10 0)), (3, .ref oa), (4, .int (nI i))]) hx hb dL_law_419 hl (by decide) rfl (fun ls hl => ?_)
      refine lv_aload_n hx hb dL_law_421 rfl (lv_at hl 4 rfl) ?_
      have hDB := lB_D hD hDm
      have hBB := lB_up (ad := ad) (oa := oa) hA0 hsz9 hW hout
      refine rh_call2 (vx_runV (As := []) (rest := []) ⟨hx, hb, hml, hown, hts⟩ (ct_X5_thrown l hDB  ) (cwV 0 hts gL_law_X5_thrown rfl rfl rfl (by decide +kernel) ⟨by decide, by decide⟩) (rh_preV2 hE hS (fun q h => h.1) hBB (hM.at 10 0 Nat.zero_lt_one) rfl hM) rfl rfl hl.1 rfl (lv_room (Nat.le_of_ble_eq_true rfl)) dL_law_422 ⟨by show cells + 5 + 0 + 0 ≤ 626516; omega, by show slots + 40 + 0 + 0 ≤ 7216556; omega⟩) hS (fun q h => h.1) (fun E ce q9 H locs hX9 hz9 hk9 hS g1 g2 g3 => hX9.elim) (fun o H locs hN9 hz9 hk9 hS => ?_)
      have hW := hW.keptB hk9
      have hout := hout.kept (hk9 _ hout.lt (fun z => z.2.2 rfl))
      have hsz9 := hS.1
      obtain ⟨rfl, hM⟩ := hN9
      refine W.eq (g2 := F0 m 425 ls [.int 1]) rfl ?_
      refine lv_iload hx hb dL_law_425 (lv_at hl 1 rfl) ?_
      refine lv_icmp_eq (tgt := 432) hx hb dL_law_427 (by decide) (fun c4 => ?_) (fun c4 => absurd c4 (by decide))
      refine lv_iload hx hb dL_law_432 (lv_at hl 1 rfl) ?_
      refine lv_if_ne (tgt := 449) hx hb dL_law_434 (by decide) (fun c5 => ?_) (fun c5 => absurd c5 (by decide))
      refine lv_goto (tgt := 1523) hx hb dL_law_449 (by decide) ?_
      exact hK _ _ _ _ _ _ _ _ _ _ _ _ ⟨rfl, rfl, hW, hM, hout, hI, hD, hDm, hAo⟩ hS (lv_sub hl [2, 3, 4, 5, 6] rfl)
    · exfalso
      exact absurd hd0 hc9
    · exfalso
      exact absurd (l_ix (by omega) hd0 hd1) hc9
  · refine W.eq (g2 := F0 m 395 ls [.int 2]) rfl ?_
    refine lv_istore (lv' := [(5, .int 2), (0, .ref b), (1, .ref (ad 0 0)), (2, .ref (adm 10 0)), (3, .ref oa), (4, .int (nI i))]) hx hb dL_law_395 hl (by decide) rfl (fun ls hl => ?_)
    refine lv_aload_n hx hb dL_law_397 rfl (lv_at hl 3 rfl) ?_
    refine lv_aload_n hx hb dL_law_398 rfl (lv_at hl 1 rfl) ?_
    refine lv_iload hx hb dL_law_399 (lv_at hl 5 rfl) ?_
    refine lv_iconst (v := 1) hx hb dL_law_401 (by decide) ?_
    refine lv_iadd hx hb dL_law_402 ?_
    refine l_sld hx hb hX hbl hbA hS hLm (i + 1) (by omega) (nI_add i 1) dL_law_403 ?_
    refine lv_aload_n hx hb dL_law_404 rfl (lv_at hl 1 rfl) ?_
    refine lv_iload hx hb dL_law_405 (lv_at hl 5 rfl) ?_
    refine lv_iconst (v := 2) hx hb dL_law_407 (by decide) ?_
    refine lv_iadd hx hb dL_law_408 ?_
    refine l_sld hx hb hX hbl hbA hS hLm (i + 2) (by omega) (nI_add i 2) dL_law_409 ?_
    refine lv_aload_n hx hb dL_law_410 rfl (lv_at hl 1 rfl) ?_
    refine lv_iload hx hb dL_law_411 (lv_at hl 5 rfl) ?_
    refine lv_iconst (v := 3) hx hb dL_law_413 (by decide) ?_
    refine lv_iadd hx hb dL_law_414 ?_
    refine l_sld hx hb hX hbl hbA hS hLm (i + 3) (by omega) (nI_add i 3) dL_law_415 ?_
    have hDB := lB_D hD hDm
    have hBB := lB_up (ad := ad) (oa := oa) hA0 hsz9 hW hout
    refine rh_call2 (vx_runV (As := [.int (xs (i + 1)), .int (xs (i + 2)), .int (xs (i + 3))]) (rest := []) ⟨hx, hb, hml, hown, hts⟩ (ct_X5_enter l hDB hI.2.1.1 (xs (i + 1)) (xs (i + 2)) (xs (i + 3))) (cwV 3 hts gL_law_X5_enter rfl rfl rfl (by decide +kernel) ⟨by decide, by decide⟩) (rh_preV2 hE hS (fun q h => h.1) hBB (hM.at 10 0 Nat.zero_lt_one) rfl hM) rfl rfl hl.1 rfl (lv_room (Nat.le_of_ble_eq_true rfl)) dL_law_416 ⟨by show cells + 5 + 0 ≤ 626516; omega, by show slots + 40 + 0 ≤ 7216556; omega⟩) hS (fun q h => h.1) (fun E ce q9 H locs hX9 hz9 hk9 hS g1 g2 g3 => hX9.elim) (fun o H locs hN9 hz9 hk9 hS => ?_)
    have hW := hW.keptB hk9
    have hout := hout.kept (hk9 _ hout.lt (fun z => z.2.2 rfl))
    have hsz9 := hS.1
    rcases hN9 with ⟨i8, hd0, hd1, hd2, hd3, hd4, hd5, rfl, hM⟩ | ⟨hd0, ⟨z8, rfl⟩, hM⟩ | ⟨hd0, hd1, ⟨z8, rfl⟩, hM⟩ | ⟨i8, hd0, hd1, hd2, hd3, hd4, ⟨z8, rfl⟩, hM⟩
    · exfalso
      exact (hc9.2 ⟨hd2, hd3⟩).elim
    · exfalso
      exact (hd0 hc9.1).elim
    · skip
      refine W.eq (g2 := F0 m 419 ls [.int z8]) rfl ?_
      refine lv_istore (lv' := [(6, .int z8), (5, .int 2), (0, .ref b), (1, .ref (ad 0 0)), (2, .ref (adm 10 0)), (3, .ref oa), (4, .int (nI i))]) hx hb dL_law_419 hl (by decide) rfl (fun ls hl => ?_)
      refine lv_aload_n hx hb dL_law_421 rfl (lv_at hl 4 rfl) ?_
      have hDB := lB_D hD hDm
      have hBB := lB_up (ad := ad) (oa := oa) hA0 hsz9 hW hout
      refine rh_call2 (vx_runV (As := []) (rest := []) ⟨hx, hb, hml, hown, hts⟩ (ct_X5_thrown l hDB  ) (cwV 0 hts gL_law_X5_thrown rfl rfl rfl (by decide +kernel) ⟨by decide, by decide⟩) (rh_preV2 hE hS (fun q h => h.1) hBB (hM.at 10 0 Nat.zero_lt_one) rfl hM) rfl rfl hl.1 rfl (lv_room (Nat.le_of_ble_eq_true rfl)) dL_law_422 ⟨by show cells + 5 + 0 + 0 ≤ 626516; omega, by show slots + 40 + 0 + 0 ≤ 7216556; omega⟩) hS (fun q h => h.1) (fun E ce q9 H locs hX9 hz9 hk9 hS g1 g2 g3 => hX9.elim) (fun o H locs hN9 hz9 hk9 hS => ?_)
      have hW := hW.keptB hk9
      have hout := hout.kept (hk9 _ hout.lt (fun z => z.2.2 rfl))
      have hsz9 := hS.1
      obtain ⟨rfl, hM⟩ := hN9
      refine W.eq (g2 := F0 m 425 ls [.int 2]) rfl ?_
      refine lv_iload hx hb dL_law_425 (lv_at hl 1 rfl) ?_
      refine lv_icmp_eq (tgt := 432) hx hb dL_law_427 (by decide) (fun c6 => ?_) (fun c6 => absurd c6 (by decide))
      refine lv_iload hx hb dL_law_432 (lv_at hl 1 rfl) ?_
      refine lv_if_ne (tgt := 449) hx hb dL_law_434 (by decide) (fun c7 => ?_) (fun c7 => absurd c7 (by decide))
      refine lv_goto (tgt := 1523) hx hb dL_law_449 (by decide) ?_
      exact hK _ _ _ _ _ _ _ _ _ _ _ _ ⟨rfl, rfl, hW, hM, hout, hI, hD, hDm, hAo⟩ hS (lv_sub hl [2, 3, 4, 5, 6] rfl)
    · exfalso
      exact (hc9.2 ⟨hd2, hd3⟩).elim
  · refine W.eq (g2 := F0 m 395 ls [.int 3]) rfl ?_
    refine lv_istore (lv' := [(5, .int 3), (0, .ref b), (1, .ref (ad 0 0)), (2, .ref (adm 10 0)), (3, .ref oa), (4, .int (nI i))]) hx hb dL_law_395 hl (by decide) rfl (fun ls hl => ?_)
    refine lv_aload_n hx hb dL_law_397 rfl (lv_at hl 3 rfl) ?_
    refine lv_aload_n hx hb dL_law_398 rfl (lv_at hl 1 rfl) ?_
    refine lv_iload hx hb dL_law_399 (lv_at hl 5 rfl) ?_
    refine lv_iconst (v := 1) hx hb dL_law_401 (by decide) ?_
    refine lv_iadd hx hb dL_law_402 ?_
    refine l_sld hx hb hX hbl hbA hS hLm (i + 1) (by omega) (nI_add i 1) dL_law_403 ?_
    refine lv_aload_n hx hb dL_law_404 rfl (lv_at hl 1 rfl) ?_
    refine lv_iload hx hb dL_law_405 (lv_at hl 5 rfl) ?_
    refine lv_iconst (v := 2) hx hb dL_law_407 (by decide) ?_
    refine lv_iadd hx hb dL_law_408 ?_
    refine l_sld hx hb hX hbl hbA hS hLm (i + 2) (by omega) (nI_add i 2) dL_law_409 ?_
    refine lv_aload_n hx hb dL_law_410 rfl (lv_at hl 1 rfl) ?_
    refine lv_iload hx hb dL_law_411 (lv_at hl 5 rfl) ?_
    refine lv_iconst (v := 3) hx hb dL_law_413 (by decide) ?_
    refine lv_iadd hx hb dL_law_414 ?_
    refine l_sld hx hb hX hbl hbA hS hLm (i + 3) (by omega) (nI_add i 3) dL_law_415 ?_
    have hDB := lB_D hD hDm
    have hBB := lB_up (ad := ad) (oa := oa) hA0 hsz9 hW hout
    refine rh_call2 (vx_runV (As := [.int (xs (i + 1)), .int (xs (i + 2)), .int (xs (i + 3))]) (rest := []) ⟨hx, hb, hml, hown, hts⟩ (ct_X5_enter l hDB hI.2.1.1 (xs (i + 1)) (xs (i + 2)) (xs (i + 3))) (cwV 3 hts gL_law_X5_enter rfl rfl rfl (by decide +kernel) ⟨by decide, by decide⟩) (rh_preV2 hE hS (fun q h => h.1) hBB (hM.at 10 0 Nat.zero_lt_one) rfl hM) rfl rfl hl.1 rfl (lv_room (Nat.le_of_ble_eq_true rfl)) dL_law_416 ⟨by show cells + 5 + 0 ≤ 626516; omega, by show slots + 40 + 0 ≤ 7216556; omega⟩) hS (fun q h => h.1) (fun E ce q9 H locs hX9 hz9 hk9 hS g1 g2 g3 => hX9.elim) (fun o H locs hN9 hz9 hk9 hS => ?_)
    have hW := hW.keptB hk9
    have hout := hout.kept (hk9 _ hout.lt (fun z => z.2.2 rfl))
    have hsz9 := hS.1
    rcases hN9 with ⟨i8, hd0, hd1, hd2, hd3, hd4, hd5, rfl, hM⟩ | ⟨hd0, ⟨z8, rfl⟩, hM⟩ | ⟨hd0, hd1, ⟨z8, rfl⟩, hM⟩ | ⟨i8, hd0, hd1, hd2, hd3, hd4, ⟨z8, rfl⟩, hM⟩
    · exfalso
      obtain ⟨i9, hc0, hc1, hc2, hc3, hc4⟩ := hc9
      obtain rfl : i9 = i8 := m_inj (by omega) (by omega) (hc1.symm.trans hd1)
      exact hc4.elim (fun z => z ((hI.2.2.2.2.1 _ hc0).2.1.trans hd4)) (fun z => absurd hd5 (by omega))
    · exfalso
      exact (hd0 (hc9.elim fun _ z => l_ix (by omega) z.1 z.2.1)).elim
    · exfalso
      exact hc9.elim fun _ z => (hd1 ⟨z.2.2.1, z.2.2.2.1⟩).elim
    · skip
      refine W.eq (g2 := F0 m 419 ls [.int z8]) rfl ?_
      refine lv_istore (lv' := [(6, .int z8), (5, .int 3), (0, .ref b), (1, .ref (ad 0 0)), (2, .ref (adm 10 0)), (3, .ref oa), (4, .int (nI i))]) hx hb dL_law_419 hl (by decide) rfl (fun ls hl => ?_)
      refine lv_aload_n hx hb dL_law_421 rfl (lv_at hl 4 rfl) ?_
      have hDB := lB_D hD hDm
      have hBB := lB_up (ad := ad) (oa := oa) hA0 hsz9 hW hout
      refine rh_call2 (vx_runV (As := []) (rest := []) ⟨hx, hb, hml, hown, hts⟩ (ct_X5_thrown l hDB  ) (cwV 0 hts gL_law_X5_thrown rfl rfl rfl (by decide +kernel) ⟨by decide, by decide⟩) (rh_preV2 hE hS (fun q h => h.1) hBB (hM.at 10 0 Nat.zero_lt_one) rfl hM) rfl rfl hl.1 rfl (lv_room (Nat.le_of_ble_eq_true rfl)) dL_law_422 ⟨by show cells + 5 + 0 + 0 ≤ 626516; omega, by show slots + 40 + 0 + 0 ≤ 7216556; omega⟩) hS (fun q h => h.1) (fun E ce q9 H locs hX9 hz9 hk9 hS g1 g2 g3 => hX9.elim) (fun o H locs hN9 hz9 hk9 hS => ?_)
      have hW := hW.keptB hk9
      have hout := hout.kept (hk9 _ hout.lt (fun z => z.2.2 rfl))
      have hsz9 := hS.1
      obtain ⟨rfl, hM⟩ := hN9
      refine W.eq (g2 := F0 m 425 ls [.int 3]) rfl ?_
      refine lv_iload hx hb dL_law_425 (lv_at hl 1 rfl) ?_
      refine lv_icmp_eq (tgt := 432) hx hb dL_law_427 (by decide) (fun c8 => ?_) (fun c8 => absurd c8 (by decide))
      refine lv_iload hx hb dL_law_432 (lv_at hl 1 rfl) ?_
      refine lv_if_ne (tgt := 449) hx hb dL_law_434 (by decide) (fun c9 => ?_) (fun c9 => absurd c9 (by decide))
      refine lv_goto (tgt := 1523) hx hb dL_law_449 (by decide) ?_
      exact hK _ _ _ _ _ _ _ _ _ _ _ _ ⟨rfl, rfl, hW, hM, hout, hI, hD, hDm, hAo⟩ hS (lv_sub hl [2, 3, 4, 5, 6] rfl)
set_option maxHeartbeats 8000000 in
set_option maxRecDepth 100000 in
theorem op_send {p : Program} {l : Launch} {e : Env} {s : State} {m : MethodId} {below : List Frame} {meth : Method} {c : Code} {G : va_G} {ca : Nat → ClassId} {A0 : Nat → Prop} {b L : Nat} {xs : Nat → Int32} {h9 hm oa i : Nat} {cells slots : Nat} {Q : State → Prop} {ad adm : Nat → Nat → Nat} {nf nc : Nat} {r : rh_R} {v : rh_V} {w : rh_Wm} {th : Int32} {f : Nat → Int64} {H : Heap} {locs : List Loc} {ls : Array Slot} (C : lwC p l s m c G ca A0 b L xs) (hLS : lwS G ca A0 h9 hm oa ad adm nf nc r v w th f H) (hS : va_S A0 s.heap H locs) (hl : lv_has ls 8 [(0, .ref b), (1, .ref h9), (2, .ref hm), (3, .ref oa), (4, .int (nI i))]) (hi : i + 5 < L) (hcl : cells + 5 ≤ 626516) (hsl : slots + 40 ≤ 7216556) (hK : lwK p l e s m below meth c G ca A0 b h9 hm oa i cells slots Q) : W p l e room_1 s m #[Value.ref b] below meth c H locs cells slots Q (F0 m 452 ls []) := by
  obtain ⟨hx, hb, hml, hown, hts, hE, hnc9, hlf, hA0, hbA, hbl, hX, hLm⟩ := C
  obtain ⟨rfl, rfl, hW, hM, hout, hI, hD, hDm, hAo⟩ := hLS
  have hnf9 := hI.1.1
  have hnn9 := hI.1.2.1
  have hnow := l_now hI
  have hsz9 := hS.1
  have hl : lv_has ls 8 [(0, .ref b), (1, .ref (ad 0 0)), (2, .ref (adm 10 0)), (3, .ref oa), (4, .int (nI i))] := hl
  refine lv_aload_n hx hb dL_law_452 rfl (lv_at hl 1 rfl) ?_
  refine lv_aload_n hx hb dL_law_453 rfl (lv_at hl 0 rfl) ?_
  refine lv_iload hx hb dL_law_454 (lv_at hl 4 rfl) ?_
  refine lv_iconst (v := 1) hx hb dL_law_456 (by decide) ?_
  refine lv_iadd hx hb dL_law_457 ?_
  refine l_sld hx hb hX hbl hbA hS hLm (i + 1) (by omega) (nI_add i 1) dL_law_458 ?_
  refine lv_aload_n hx hb dL_law_459 rfl (lv_at hl 0 rfl) ?_
  refine lv_iload hx hb dL_law_460 (lv_at hl 4 rfl) ?_
  refine lv_iconst (v := 2) hx hb dL_law_462 (by decide) ?_
  refine lv_iadd hx hb dL_law_463 ?_
  refine l_sld hx hb hX hbl hbA hS hLm (i + 2) (by omega) (nI_add i 2) dL_law_464 ?_
  refine lv_aload_n hx hb dL_law_465 rfl (lv_at hl 3 rfl) ?_
  have hAA := lA_up (adm := adm) hA0 hsz9 hM
  refine rh_call2 (vx_runSX (As := [.ref (ad 0 0), .int (xs (i + 1)), .int (xs (i + 2)), .ref oa]) (rest := []) ⟨hx, hb, hml, hown, hts⟩ (hl_send l hlf (l_Ao hM hout hDm hAo) hD hI.1 (xs (i + 1)) (xs (i + 2))) (vx_cwSW 4 hts gL_law_L_send rfl rfl rfl (by decide +kernel) ⟨by decide, by decide⟩) (rh_prel hE hnc9 hS (fun q h => h.1) hAA ⟨hW, hout⟩) rfl rfl hl.1 rfl (lv_room (Nat.le_of_ble_eq_true rfl)) dL_law_466 ⟨by show cells + 5 ≤ 626516; omega, by show slots + 40 ≤ 7216556; omega⟩) hS (fun q h => h.1) (fun E ce q9 H locs hX9 hz9 hk9 hS g1 g2 g3 => hX9.elim) (fun o H locs hN9 hz9 hk9 hS => ?_)
  have hM := hM.keptA hk9
  have hsz9 := hS.1
  rcases hN9 with ⟨i9, hc0, hc1, hc2, hc3, hc4, rfl, ⟨f8, hf8, hout⟩, hW⟩ | ⟨hc9, rfl, ⟨f8, hout⟩, hW⟩ | ⟨hc9, rfl, ⟨f8, hout⟩, hW⟩ | ⟨hc9, rfl, ⟨f8, hout⟩, hW⟩
  · refine W.eq (g2 := F0 m 469 ls [.int 0]) rfl ?_
    refine lv_istore (lv' := [(5, .int 0), (0, .ref b), (1, .ref (ad 0 0)), (2, .ref (adm 10 0)), (3, .ref oa), (4, .int (nI i))]) hx hb dL_law_469 hl (by decide) rfl (fun ls hl => ?_)
    refine lv_aload_n hx hb dL_law_471 rfl (lv_at hl 3 rfl) ?_
    refine lv_aload_n hx hb dL_law_472 rfl (lv_at hl 1 rfl) ?_
    refine lv_iload hx hb dL_law_473 (lv_at hl 5 rfl) ?_
    refine lv_iconst (v := 1) hx hb dL_law_475 (by decide) ?_
    refine lv_iadd hx hb dL_law_476 ?_
    refine l_sld hx hb hX hbl hbA hS hLm (i + 1) (by omega) (nI_add i 1) dL_law_477 ?_
    refine lv_aload_n hx hb dL_law_478 rfl (lv_at hl 1 rfl) ?_
    refine lv_iload hx hb dL_law_479 (lv_at hl 5 rfl) ?_
    refine lv_iconst (v := 2) hx hb dL_law_481 (by decide) ?_
    refine lv_iadd hx hb dL_law_482 ?_
    refine l_sld hx hb hX hbl hbA hS hLm (i + 2) (by omega) (nI_add i 2) dL_law_483 ?_
    have hDB := lB_D hD hDm
    have hBB := lB_up (ad := ad) (oa := oa) hA0 hsz9 hW hout
    refine rh_call2 (vx_runV (As := [.int (xs (i + 1)), .int (xs (i + 2))]) (rest := []) ⟨hx, hb, hml, hown, hts⟩ (ct_X5_send l hDB hI.2.1 (xs (i + 1)) (xs (i + 2))) (cwV 2 hts gL_law_X5_send rfl rfl rfl (by decide +kernel) ⟨by decide, by decide⟩) (rh_preV2 hE hS (fun q h => h.1) hBB (hM.at 10 0 Nat.zero_lt_one) rfl hM) rfl rfl hl.1 rfl (lv_room (Nat.le_of_ble_eq_true rfl)) dL_law_484 ⟨by show cells + 5 + 0 ≤ 626516; omega, by show slots + 40 + 0 ≤ 7216556; omega⟩) hS (fun q h => h.1) (fun E ce q9 H locs hX9 hz9 hk9 hS g1 g2 g3 => hX9.elim) (fun o H locs hN9 hz9 hk9 hS => ?_)
    have hW := hW.keptB hk9
    have hout := hout.kept (hk9 _ hout.lt (fun z => z.2.2 rfl))
    have hsz9 := hS.1
    rcases hN9 with ⟨i8, hd0, hd1, hd2, hd3, hd4, rfl, hM⟩ | ⟨hd0, ⟨z8, rfl⟩, hM⟩ | ⟨hd0, hd1, ⟨z8, rfl⟩, hM⟩ | ⟨i8, hd0, hd1, hd2, hd3, ⟨z8, rfl⟩, hM⟩
    · obtain rfl : i9 = i8 := m_inj (by omega) (by omega) (hc1.symm.trans hd1)
      refine W.eq (g2 := F0 m 487 ls [.int (m_send r w nf nc i9 (xs (i + 2)) 7 i9)]) rfl ?_
      refine lv_istore (lv' := [(6, .int (m_send r w nf nc i9 (xs (i + 2)) 7 i9)), (5, .int 0), (0, .ref b), (1, .ref (ad 0 0)), (2, .ref (adm 10 0)), (3, .ref oa), (4, .int (nI i))]) hx hb dL_law_487 hl (by decide) rfl (fun ls hl => ?_)
      refine lv_aload_n hx hb dL_law_489 rfl (lv_at hl 4 rfl) ?_
      have hDB := lB_D hD hDm
      have hBB := lB_up (ad := ad) (oa := oa) hA0 hsz9 hW hout
      refine rh_call2 (vx_runV (As := []) (rest := []) ⟨hx, hb, hml, hown, hts⟩ (ct_X5_thrown l hDB  ) (cwV 0 hts gL_law_X5_thrown rfl rfl rfl (by decide +kernel) ⟨by decide, by decide⟩) (rh_preV2 hE hS (fun q h => h.1) hBB (hM.at 10 0 Nat.zero_lt_one) rfl hM) rfl rfl hl.1 rfl (lv_room (Nat.le_of_ble_eq_true rfl)) dL_law_490 ⟨by show cells + 5 + 0 + 0 ≤ 626516; omega, by show slots + 40 + 0 + 0 ≤ 7216556; omega⟩) hS (fun q h => h.1) (fun E ce q9 H locs hX9 hz9 hk9 hS g1 g2 g3 => hX9.elim) (fun o H locs hN9 hz9 hk9 hS => ?_)
      have hW := hW.keptB hk9
      have hout := hout.kept (hk9 _ hout.lt (fun z => z.2.2 rfl))
      have hsz9 := hS.1
      obtain ⟨rfl, hM⟩ := hN9
      refine W.eq (g2 := F0 m 493 ls [.int 0]) rfl ?_
      refine lv_iload hx hb dL_law_493 (lv_at hl 1 rfl) ?_
      refine lv_icmp_eq (tgt := 500) hx hb dL_law_495 (by decide) (fun c1 => ?_) (fun c1 => absurd c1 (by decide))
      refine lv_iload hx hb dL_law_500 (lv_at hl 1 rfl) ?_
      refine lv_if_ne (tgt := 517) hx hb dL_law_502 (by decide) (fun c2 => absurd c2 (by decide)) (fun c2 => ?_)
      refine lv_aload_n hx hb dL_law_505 rfl (lv_at hl 5 rfl) ?_
      refine lv_iconst (v := 0) hx hb dL_law_506 (by decide) ?_
      refine rh_lald (n := 1) (f := f8) hx hb hE hout 0 (by decide) (by decide) rfl dL_law_507 ?_
      have hval : f8 0 = ((m_send r w nf nc i9 (xs (i + 2)) 7 i9)).toInt64 := by rw [hf8, ((i_send hI hc0 ((hI.2.2.2.2.1 _ hc0).2.1.symm.trans hc3) hc2).2.2.2.2.1 _ hc0).2.1]
      refine lv_iload hx hb dL_law_508 (lv_at hl 0 rfl) ?_
      refine lv_i2l hx hb dL_law_510 rfl ?_
      refine W.lcmp hx hb dL_law_511 ?_
      refine lv_if_eq (tgt := 517) hx hb dL_law_512 (by decide) (fun c3 => ?_) (fun c3 => (c3 ((lg_cmp_eq _ _).mpr hval)).elim)
      · refine lv_goto (tgt := 1523) hx hb dL_law_517 (by decide) ?_
        exact hK _ _ _ _ _ _ _ _ _ _ _ _ ⟨rfl, rfl, hW, hM, hout, i_send hI hc0 ((hI.2.2.2.2.1 _ hc0).2.1.symm.trans hc3) hc2, hD, hDm, hAo⟩ hS (lv_sub hl [2, 3, 4, 5, 6] rfl)
    · exfalso
      exact (hd0 (l_ix (by omega) hc0 hc1)).elim
    · exfalso
      exact (hd1 hc2).elim
    · exfalso
      obtain rfl : i9 = i8 := m_inj (by omega) (by omega) (hc1.symm.trans hd1)
      exact hd3.elim (fun z => z ((hI.2.2.2.2.1 _ hc0).2.1.symm.trans hc3)) (fun z => hc4 ((hI.2.2.2.2.1 _ hc0).2.2.2.trans ((m_cnt_0 nc).symm.trans z)))
  · refine W.eq (g2 := F0 m 469 ls [.int 1]) rfl ?_
    refine lv_istore (lv' := [(5, .int 1), (0, .ref b), (1, .ref (ad 0 0)), (2, .ref (adm 10 0)), (3, .ref oa), (4, .int (nI i))]) hx hb dL_law_469 hl (by decide) rfl (fun ls hl => ?_)
    refine lv_aload_n hx hb dL_law_471 rfl (lv_at hl 3 rfl) ?_
    refine lv_aload_n hx hb dL_law_472 rfl (lv_at hl 1 rfl) ?_
    refine lv_iload hx hb dL_law_473 (lv_at hl 5 rfl) ?_
    refine lv_iconst (v := 1) hx hb dL_law_475 (by decide) ?_
    refine lv_iadd hx hb dL_law_476 ?_
    refine l_sld hx hb hX hbl hbA hS hLm (i + 1) (by omega) (nI_add i 1) dL_law_477 ?_
    refine lv_aload_n hx hb dL_law_478 rfl (lv_at hl 1 rfl) ?_
    refine lv_iload hx hb dL_law_479 (lv_at hl 5 rfl) ?_
    refine lv_iconst (v := 2) hx hb dL_law_481 (by decide) ?_
    refine lv_iadd hx hb dL_law_482 ?_
    refine l_sld hx hb hX hbl hbA hS hLm (i + 2) (by omega) (nI_add i 2) dL_law_483 ?_
    have hDB := lB_D hD hDm
    have hBB := lB_up (ad := ad) (oa := oa) hA0 hsz9 hW hout
    refine rh_call2 (vx_runV (As := [.int (xs (i + 1)), .int (xs (i + 2))]) (rest := []) ⟨hx, hb, hml, hown, hts⟩ (ct_X5_send l hDB hI.2.1 (xs (i + 1)) (xs (i + 2))) (cwV 2 hts gL_law_X5_send rfl rfl rfl (by decide +kernel) ⟨by decide, by decide⟩) (rh_preV2 hE hS (fun q h => h.1) hBB (hM.at 10 0 Nat.zero_lt_one) rfl hM) rfl rfl hl.1 rfl (lv_room (Nat.le_of_ble_eq_true rfl)) dL_law_484 ⟨by show cells + 5 + 0 ≤ 626516; omega, by show slots + 40 + 0 ≤ 7216556; omega⟩) hS (fun q h => h.1) (fun E ce q9 H locs hX9 hz9 hk9 hS g1 g2 g3 => hX9.elim) (fun o H locs hN9 hz9 hk9 hS => ?_)
    have hW := hW.keptB hk9
    have hout := hout.kept (hk9 _ hout.lt (fun z => z.2.2 rfl))
    have hsz9 := hS.1
    rcases hN9 with ⟨i8, hd0, hd1, hd2, hd3, hd4, rfl, hM⟩ | ⟨hd0, ⟨z8, rfl⟩, hM⟩ | ⟨hd0, hd1, ⟨z8, rfl⟩, hM⟩ | ⟨i8, hd0, hd1, hd2, hd3, ⟨z8, rfl⟩, hM⟩
    · exfalso
      exact absurd (l_ix (by omega) hd0 hd1) hc9
    · skip
      refine W.eq (g2 := F0 m 487 ls [.int z8]) rfl ?_
      refine lv_istore (lv' := [(6, .int z8), (5, .int 1), (0, .ref b), (1, .ref (ad 0 0)), (2, .ref (adm 10 0)), (3, .ref oa), (4, .int (nI i))]) hx hb dL_law_487 hl (by decide) rfl (fun ls hl => ?_)
      refine lv_aload_n hx hb dL_law_489 rfl (lv_at hl 4 rfl) ?_
      have hDB := lB_D hD hDm
      have hBB := lB_up (ad := ad) (oa := oa) hA0 hsz9 hW hout
      refine rh_call2 (vx_runV (As := []) (rest := []) ⟨hx, hb, hml, hown, hts⟩ (ct_X5_thrown l hDB  ) (cwV 0 hts gL_law_X5_thrown rfl rfl rfl (by decide +kernel) ⟨by decide, by decide⟩) (rh_preV2 hE hS (fun q h => h.1) hBB (hM.at 10 0 Nat.zero_lt_one) rfl hM) rfl rfl hl.1 rfl (lv_room (Nat.le_of_ble_eq_true rfl)) dL_law_490 ⟨by show cells + 5 + 0 + 0 ≤ 626516; omega, by show slots + 40 + 0 + 0 ≤ 7216556; omega⟩) hS (fun q h => h.1) (fun E ce q9 H locs hX9 hz9 hk9 hS g1 g2 g3 => hX9.elim) (fun o H locs hN9 hz9 hk9 hS => ?_)
      have hW := hW.keptB hk9
      have hout := hout.kept (hk9 _ hout.lt (fun z => z.2.2 rfl))
      have hsz9 := hS.1
      obtain ⟨rfl, hM⟩ := hN9
      refine W.eq (g2 := F0 m 493 ls [.int 1]) rfl ?_
      refine lv_iload hx hb dL_law_493 (lv_at hl 1 rfl) ?_
      refine lv_icmp_eq (tgt := 500) hx hb dL_law_495 (by decide) (fun c4 => ?_) (fun c4 => absurd c4 (by decide))
      refine lv_iload hx hb dL_law_500 (lv_at hl 1 rfl) ?_
      refine lv_if_ne (tgt := 517) hx hb dL_law_502 (by decide) (fun c5 => ?_) (fun c5 => absurd c5 (by decide))
      refine lv_goto (tgt := 1523) hx hb dL_law_517 (by decide) ?_
      exact hK _ _ _ _ _ _ _ _ _ _ _ _ ⟨rfl, rfl, hW, hM, hout, hI, hD, hDm, hAo⟩ hS (lv_sub hl [2, 3, 4, 5, 6] rfl)
    · exfalso
      exact absurd hd0 hc9
    · exfalso
      exact absurd (l_ix (by omega) hd0 hd1) hc9
  · refine W.eq (g2 := F0 m 469 ls [.int 2]) rfl ?_
    refine lv_istore (lv' := [(5, .int 2), (0, .ref b), (1, .ref (ad 0 0)), (2, .ref (adm 10 0)), (3, .ref oa), (4, .int (nI i))]) hx hb dL_law_469 hl (by decide) rfl (fun ls hl => ?_)
    refine lv_aload_n hx hb dL_law_471 rfl (lv_at hl 3 rfl) ?_
    refine lv_aload_n hx hb dL_law_472 rfl (lv_at hl 1 rfl) ?_
    refine lv_iload hx hb dL_law_473 (lv_at hl 5 rfl) ?_
    refine lv_iconst (v := 1) hx hb dL_law_475 (by decide) ?_
    refine lv_iadd hx hb dL_law_476 ?_
    refine l_sld hx hb hX hbl hbA hS hLm (i + 1) (by omega) (nI_add i 1) dL_law_477 ?_
    refine lv_aload_n hx hb dL_law_478 rfl (lv_at hl 1 rfl) ?_
    refine lv_iload hx hb dL_law_479 (lv_at hl 5 rfl) ?_
    refine lv_iconst (v := 2) hx hb dL_law_481 (by decide) ?_
    refine lv_iadd hx hb dL_law_482 ?_
    refine l_sld hx hb hX hbl hbA hS hLm (i + 2) (by omega) (nI_add i 2) dL_law_483 ?_
    have hDB := lB_D hD hDm
    have hBB := lB_up (ad := ad) (oa := oa) hA0 hsz9 hW hout
    refine rh_call2 (vx_runV (As := [.int (xs (i + 1)), .int (xs (i + 2))]) (rest := []) ⟨hx, hb, hml, hown, hts⟩ (ct_X5_send l hDB hI.2.1 (xs (i + 1)) (xs (i + 2))) (cwV 2 hts gL_law_X5_send rfl rfl rfl (by decide +kernel) ⟨by decide, by decide⟩) (rh_preV2 hE hS (fun q h => h.1) hBB (hM.at 10 0 Nat.zero_lt_one) rfl hM) rfl rfl hl.1 rfl (lv_room (Nat.le_of_ble_eq_true rfl)) dL_law_484 ⟨by show cells + 5 + 0 ≤ 626516; omega, by show slots + 40 + 0 ≤ 7216556; omega⟩) hS (fun q h => h.1) (fun E ce q9 H locs hX9 hz9 hk9 hS g1 g2 g3 => hX9.elim) (fun o H locs hN9 hz9 hk9 hS => ?_)
    have hW := hW.keptB hk9
    have hout := hout.kept (hk9 _ hout.lt (fun z => z.2.2 rfl))
    have hsz9 := hS.1
    rcases hN9 with ⟨i8, hd0, hd1, hd2, hd3, hd4, rfl, hM⟩ | ⟨hd0, ⟨z8, rfl⟩, hM⟩ | ⟨hd0, hd1, ⟨z8, rfl⟩, hM⟩ | ⟨i8, hd0, hd1, hd2, hd3, ⟨z8, rfl⟩, hM⟩
    · exfalso
      exact (hc9.2 hd2).elim
    · exfalso
      exact (hd0 hc9.1).elim
    · skip
      refine W.eq (g2 := F0 m 487 ls [.int z8]) rfl ?_
      refine lv_istore (lv' := [(6, .int z8), (5, .int 2), (0, .ref b), (1, .ref (ad 0 0)), (2, .ref (adm 10 0)), (3, .ref oa), (4, .int (nI i))]) hx hb dL_law_487 hl (by decide) rfl (fun ls hl => ?_)
      refine lv_aload_n hx hb dL_law_489 rfl (lv_at hl 4 rfl) ?_
      have hDB := lB_D hD hDm
      have hBB := lB_up (ad := ad) (oa := oa) hA0 hsz9 hW hout
      refine rh_call2 (vx_runV (As := []) (rest := []) ⟨hx, hb, hml, hown, hts⟩ (ct_X5_thrown l hDB  ) (cwV 0 hts gL_law_X5_thrown rfl rfl rfl (by decide +kernel) ⟨by decide, by decide⟩) (rh_preV2 hE hS (fun q h => h.1) hBB (hM.at 10 0 Nat.zero_lt_one) rfl hM) rfl rfl hl.1 rfl (lv_room (Nat.le_of_ble_eq_true rfl)) dL_law_490 ⟨by show cells + 5 + 0 + 0 ≤ 626516; omega, by show slots + 40 + 0 + 0 ≤ 7216556; omega⟩) hS (fun q h => h.1) (fun E ce q9 H locs hX9 hz9 hk9 hS g1 g2 g3 => hX9.elim) (fun o H locs hN9 hz9 hk9 hS => ?_)
      have hW := hW.keptB hk9
      have hout := hout.kept (hk9 _ hout.lt (fun z => z.2.2 rfl))
      have hsz9 := hS.1
      obtain ⟨rfl, hM⟩ := hN9
      refine W.eq (g2 := F0 m 493 ls [.int 2]) rfl ?_
      refine lv_iload hx hb dL_law_493 (lv_at hl 1 rfl) ?_
      refine lv_icmp_eq (tgt := 500) hx hb dL_law_495 (by decide) (fun c6 => ?_) (fun c6 => absurd c6 (by decide))
      refine lv_iload hx hb dL_law_500 (lv_at hl 1 rfl) ?_
      refine lv_if_ne (tgt := 517) hx hb dL_law_502 (by decide) (fun c7 => ?_) (fun c7 => absurd c7 (by decide))
      refine lv_goto (tgt := 1523) hx hb dL_law_517 (by decide) ?_
      exact hK _ _ _ _ _ _ _ _ _ _ _ _ ⟨rfl, rfl, hW, hM, hout, hI, hD, hDm, hAo⟩ hS (lv_sub hl [2, 3, 4, 5, 6] rfl)
    · exfalso
      exact (hc9.2 hd2).elim
  · refine W.eq (g2 := F0 m 469 ls [.int 3]) rfl ?_
    refine lv_istore (lv' := [(5, .int 3), (0, .ref b), (1, .ref (ad 0 0)), (2, .ref (adm 10 0)), (3, .ref oa), (4, .int (nI i))]) hx hb dL_law_469 hl (by decide) rfl (fun ls hl => ?_)
    refine lv_aload_n hx hb dL_law_471 rfl (lv_at hl 3 rfl) ?_
    refine lv_aload_n hx hb dL_law_472 rfl (lv_at hl 1 rfl) ?_
    refine lv_iload hx hb dL_law_473 (lv_at hl 5 rfl) ?_
    refine lv_iconst (v := 1) hx hb dL_law_475 (by decide) ?_
    refine lv_iadd hx hb dL_law_476 ?_
    refine l_sld hx hb hX hbl hbA hS hLm (i + 1) (by omega) (nI_add i 1) dL_law_477 ?_
    refine lv_aload_n hx hb dL_law_478 rfl (lv_at hl 1 rfl) ?_
    refine lv_iload hx hb dL_law_479 (lv_at hl 5 rfl) ?_
    refine lv_iconst (v := 2) hx hb dL_law_481 (by decide) ?_
    refine lv_iadd hx hb dL_law_482 ?_
    refine l_sld hx hb hX hbl hbA hS hLm (i + 2) (by omega) (nI_add i 2) dL_law_483 ?_
    have hDB := lB_D hD hDm
    have hBB := lB_up (ad := ad) (oa := oa) hA0 hsz9 hW hout
    refine rh_call2 (vx_runV (As := [.int (xs (i + 1)), .int (xs (i + 2))]) (rest := []) ⟨hx, hb, hml, hown, hts⟩ (ct_X5_send l hDB hI.2.1 (xs (i + 1)) (xs (i + 2))) (cwV 2 hts gL_law_X5_send rfl rfl rfl (by decide +kernel) ⟨by decide, by decide⟩) (rh_preV2 hE hS (fun q h => h.1) hBB (hM.at 10 0 Nat.zero_lt_one) rfl hM) rfl rfl hl.1 rfl (lv_room (Nat.le_of_ble_eq_true rfl)) dL_law_484 ⟨by show cells + 5 + 0 ≤ 626516; omega, by show slots + 40 + 0 ≤ 7216556; omega⟩) hS (fun q h => h.1) (fun E ce q9 H locs hX9 hz9 hk9 hS g1 g2 g3 => hX9.elim) (fun o H locs hN9 hz9 hk9 hS => ?_)
    have hW := hW.keptB hk9
    have hout := hout.kept (hk9 _ hout.lt (fun z => z.2.2 rfl))
    have hsz9 := hS.1
    rcases hN9 with ⟨i8, hd0, hd1, hd2, hd3, hd4, rfl, hM⟩ | ⟨hd0, ⟨z8, rfl⟩, hM⟩ | ⟨hd0, hd1, ⟨z8, rfl⟩, hM⟩ | ⟨i8, hd0, hd1, hd2, hd3, ⟨z8, rfl⟩, hM⟩
    · exfalso
      obtain ⟨i9, hc0, hc1, hc2, hc3⟩ := hc9
      obtain rfl : i9 = i8 := m_inj (by omega) (by omega) (hc1.symm.trans hd1)
      exact hc3.elim (fun z => z ((hI.2.2.2.2.1 _ hc0).2.1.trans hd3)) (fun z => hd4 ((m_cnt_0 nc).trans ((hI.2.2.2.2.1 _ hc0).2.2.2.symm.trans z)))
    · exfalso
      exact (hd0 (hc9.elim fun _ z => l_ix (by omega) z.1 z.2.1)).elim
    · exfalso
      exact hc9.elim fun _ z => (hd1 z.2.2.1).elim
    · skip
      refine W.eq (g2 := F0 m 487 ls [.int z8]) rfl ?_
      refine lv_istore (lv' := [(6, .int z8), (5, .int 3), (0, .ref b), (1, .ref (ad 0 0)), (2, .ref (adm 10 0)), (3, .ref oa), (4, .int (nI i))]) hx hb dL_law_487 hl (by decide) rfl (fun ls hl => ?_)
      refine lv_aload_n hx hb dL_law_489 rfl (lv_at hl 4 rfl) ?_
      have hDB := lB_D hD hDm
      have hBB := lB_up (ad := ad) (oa := oa) hA0 hsz9 hW hout
      refine rh_call2 (vx_runV (As := []) (rest := []) ⟨hx, hb, hml, hown, hts⟩ (ct_X5_thrown l hDB  ) (cwV 0 hts gL_law_X5_thrown rfl rfl rfl (by decide +kernel) ⟨by decide, by decide⟩) (rh_preV2 hE hS (fun q h => h.1) hBB (hM.at 10 0 Nat.zero_lt_one) rfl hM) rfl rfl hl.1 rfl (lv_room (Nat.le_of_ble_eq_true rfl)) dL_law_490 ⟨by show cells + 5 + 0 + 0 ≤ 626516; omega, by show slots + 40 + 0 + 0 ≤ 7216556; omega⟩) hS (fun q h => h.1) (fun E ce q9 H locs hX9 hz9 hk9 hS g1 g2 g3 => hX9.elim) (fun o H locs hN9 hz9 hk9 hS => ?_)
      have hW := hW.keptB hk9
      have hout := hout.kept (hk9 _ hout.lt (fun z => z.2.2 rfl))
      have hsz9 := hS.1
      obtain ⟨rfl, hM⟩ := hN9
      refine W.eq (g2 := F0 m 493 ls [.int 3]) rfl ?_
      refine lv_iload hx hb dL_law_493 (lv_at hl 1 rfl) ?_
      refine lv_icmp_eq (tgt := 500) hx hb dL_law_495 (by decide) (fun c8 => ?_) (fun c8 => absurd c8 (by decide))
      refine lv_iload hx hb dL_law_500 (lv_at hl 1 rfl) ?_
      refine lv_if_ne (tgt := 517) hx hb dL_law_502 (by decide) (fun c9 => ?_) (fun c9 => absurd c9 (by decide))
      refine lv_goto (tgt := 1523) hx hb dL_law_517 (by decide) ?_
      exact hK _ _ _ _ _ _ _ _ _ _ _ _ ⟨rfl, rfl, hW, hM, hout, hI, hD, hDm, hAo⟩ hS (lv_sub hl [2, 3, 4, 5, 6] rfl)
set_option maxHeartbeats 8000000 in
set_option maxRecDepth 100000 in
theorem op_stateOf {p : Program} {l : Launch} {e : Env} {s : State} {m : MethodId} {below : List Frame} {meth : Method} {c : Code} {G : va_G} {ca : Nat → ClassId} {A0 : Nat → Prop} {b L : Nat} {xs : Nat → Int32} {h9 hm oa i : Nat} {cells slots : Nat} {Q : State → Prop} {ad adm : Nat → Nat → Nat} {nf nc : Nat} {r : rh_R} {v : rh_V} {w : rh_Wm} {th : Int32} {f : Nat → Int64} {H : Heap} {locs : List Loc} {ls : Array Slot} (C : lwC p l s m c G ca A0 b L xs) (hLS : lwS G ca A0 h9 hm oa ad adm nf nc r v w th f H) (hS : va_S A0 s.heap H locs) (hl : lv_has ls 8 [(0, .ref b), (1, .ref h9), (2, .ref hm), (3, .ref oa), (4, .int (nI i))]) (hi : i + 5 < L) (hcl : cells + 5 ≤ 626516) (hsl : slots + 40 ≤ 7216556) (hK : lwK p l e s m below meth c G ca A0 b h9 hm oa i cells slots Q) : W p l e room_1 s m #[Value.ref b] below meth c H locs cells slots Q (F0 m 520 ls []) := by
  obtain ⟨hx, hb, hml, hown, hts, hE, hnc9, hlf, hA0, hbA, hbl, hX, hLm⟩ := C
  obtain ⟨rfl, rfl, hW, hM, hout, hI, hD, hDm, hAo⟩ := hLS
  have hnf9 := hI.1.1
  have hnn9 := hI.1.2.1
  have hnow := l_now hI
  have hsz9 := hS.1
  have hl : lv_has ls 8 [(0, .ref b), (1, .ref (ad 0 0)), (2, .ref (adm 10 0)), (3, .ref oa), (4, .int (nI i))] := hl
  refine lv_aload_n hx hb dL_law_520 rfl (lv_at hl 1 rfl) ?_
  refine lv_aload_n hx hb dL_law_521 rfl (lv_at hl 0 rfl) ?_
  refine lv_iload hx hb dL_law_522 (lv_at hl 4 rfl) ?_
  refine lv_iconst (v := 1) hx hb dL_law_524 (by decide) ?_
  refine lv_iadd hx hb dL_law_525 ?_
  refine l_sld hx hb hX hbl hbA hS hLm (i + 1) (by omega) (nI_add i 1) dL_law_526 ?_
  refine lv_aload_n hx hb dL_law_527 rfl (lv_at hl 3 rfl) ?_
  have hAA := lA_up (adm := adm) hA0 hsz9 hM
  refine rh_call2 (vx_runSX (As := [.ref (ad 0 0), .int (xs (i + 1)), .ref oa]) (rest := []) ⟨hx, hb, hml, hown, hts⟩ (hl_stateOf l hlf (l_Ao hM hout hDm hAo) hD hI.1 (xs (i + 1))) (vx_cwSW 3 hts gL_law_L_stateOf rfl rfl rfl (by decide +kernel) ⟨by decide, by decide⟩) (rh_prel hE hnc9 hS (fun q h => h.1) hAA ⟨hW, hout⟩) rfl rfl hl.1 rfl (lv_room (Nat.le_of_ble_eq_true rfl)) dL_law_528 ⟨by show cells + 5 ≤ 626516; omega, by show slots + 40 ≤ 7216556; omega⟩) hS (fun q h => h.1) (fun E ce q9 H locs hX9 hz9 hk9 hS g1 g2 g3 => hX9.elim) (fun o H locs hN9 hz9 hk9 hS => ?_)
  have hM := hM.keptA hk9
  have hsz9 := hS.1
  rcases hN9 with ⟨i9, hc0, hc1, rfl, ⟨f8, hf8, hout⟩, hW⟩ | ⟨hc9, rfl, ⟨f8, hout⟩, hW⟩
  · refine W.eq (g2 := F0 m 531 ls [.int 0]) rfl ?_
    refine lv_istore (lv' := [(5, .int 0), (0, .ref b), (1, .ref (ad 0 0)), (2, .ref (adm 10 0)), (3, .ref oa), (4, .int (nI i))]) hx hb dL_law_531 hl (by decide) rfl (fun ls hl => ?_)
    refine lv_aload_n hx hb dL_law_533 rfl (lv_at hl 3 rfl) ?_
    refine lv_aload_n hx hb dL_law_534 rfl (lv_at hl 1 rfl) ?_
    refine lv_iload hx hb dL_law_535 (lv_at hl 5 rfl) ?_
    refine lv_iconst (v := 1) hx hb dL_law_537 (by decide) ?_
    refine lv_iadd hx hb dL_law_538 ?_
    refine l_sld hx hb hX hbl hbA hS hLm (i + 1) (by omega) (nI_add i 1) dL_law_539 ?_
    have hDB := lB_D hD hDm
    have hBB := lB_up (ad := ad) (oa := oa) hA0 hsz9 hW hout
    refine rh_call2 (vx_runV (As := [.int (xs (i + 1))]) (rest := []) ⟨hx, hb, hml, hown, hts⟩ (ct_X5_stateOf l hDB hI.2.1.1 (xs (i + 1))) (cwV 1 hts gL_law_X5_stateOf rfl rfl rfl (by decide +kernel) ⟨by decide, by decide⟩) (rh_preV2 hE hS (fun q h => h.1) hBB (hM.at 10 0 Nat.zero_lt_one) rfl hM) rfl rfl hl.1 rfl (lv_room (Nat.le_of_ble_eq_true rfl)) dL_law_540 ⟨by show cells + 5 + 0 ≤ 626516; omega, by show slots + 40 + 0 ≤ 7216556; omega⟩) hS (fun q h => h.1) (fun E ce q9 H locs hX9 hz9 hk9 hS g1 g2 g3 => hX9.elim) (fun o H locs hN9 hz9 hk9 hS => ?_)
    have hW := hW.keptB hk9
    have hout := hout.kept (hk9 _ hout.lt (fun z => z.2.2 rfl))
    have hsz9 := hS.1
    rcases hN9 with ⟨i8, hd0, hd1, rfl, hM⟩ | ⟨hd0, ⟨z8, rfl⟩, hM⟩
    · obtain rfl : i9 = i8 := m_inj (by omega) (by omega) (hc1.symm.trans hd1)
      refine W.eq (g2 := F0 m 543 ls [.int (w 7 i9)]) rfl ?_
      refine lv_istore (lv' := [(6, .int (w 7 i9)), (5, .int 0), (0, .ref b), (1, .ref (ad 0 0)), (2, .ref (adm 10 0)), (3, .ref oa), (4, .int (nI i))]) hx hb dL_law_543 hl (by decide) rfl (fun ls hl => ?_)
      refine lv_aload_n hx hb dL_law_545 rfl (lv_at hl 4 rfl) ?_
      have hDB := lB_D hD hDm
      have hBB := lB_up (ad := ad) (oa := oa) hA0 hsz9 hW hout
      refine rh_call2 (vx_runV (As := []) (rest := []) ⟨hx, hb, hml, hown, hts⟩ (ct_X5_thrown l hDB  ) (cwV 0 hts gL_law_X5_thrown rfl rfl rfl (by decide +kernel) ⟨by decide, by decide⟩) (rh_preV2 hE hS (fun q h => h.1) hBB (hM.at 10 0 Nat.zero_lt_one) rfl hM) rfl rfl hl.1 rfl (lv_room (Nat.le_of_ble_eq_true rfl)) dL_law_546 ⟨by show cells + 5 + 0 + 0 ≤ 626516; omega, by show slots + 40 + 0 + 0 ≤ 7216556; omega⟩) hS (fun q h => h.1) (fun E ce q9 H locs hX9 hz9 hk9 hS g1 g2 g3 => hX9.elim) (fun o H locs hN9 hz9 hk9 hS => ?_)
      have hW := hW.keptB hk9
      have hout := hout.kept (hk9 _ hout.lt (fun z => z.2.2 rfl))
      have hsz9 := hS.1
      obtain ⟨rfl, hM⟩ := hN9
      refine W.eq (g2 := F0 m 549 ls [.int 0]) rfl ?_
      refine lv_iload hx hb dL_law_549 (lv_at hl 1 rfl) ?_
      refine lv_icmp_eq (tgt := 556) hx hb dL_law_551 (by decide) (fun c1 => ?_) (fun c1 => absurd c1 (by decide))
      refine lv_iload hx hb dL_law_556 (lv_at hl 1 rfl) ?_
      refine lv_if_ne (tgt := 573) hx hb dL_law_558 (by decide) (fun c2 => absurd c2 (by decide)) (fun c2 => ?_)
      refine lv_aload_n hx hb dL_law_561 rfl (lv_at hl 5 rfl) ?_
      refine lv_iconst (v := 0) hx hb dL_law_562 (by decide) ?_
      refine rh_lald (n := 1) (f := f8) hx hb hE hout 0 (by decide) (by decide) rfl dL_law_563 ?_
      have hval : f8 0 = ((w 7 i9)).toInt64 := by rw [hf8, (hI.2.2.2.2.1 _ hc0).2.1]
      refine lv_iload hx hb dL_law_564 (lv_at hl 0 rfl) ?_
      refine lv_i2l hx hb dL_law_566 rfl ?_
      refine W.lcmp hx hb dL_law_567 ?_
      refine lv_if_eq (tgt := 573) hx hb dL_law_568 (by decide) (fun c3 => ?_) (fun c3 => (c3 ((lg_cmp_eq _ _).mpr hval)).elim)
      · refine lv_goto (tgt := 1523) hx hb dL_law_573 (by decide) ?_
        exact hK _ _ _ _ _ _ _ _ _ _ _ _ ⟨rfl, rfl, hW, hM, hout, hI, hD, hDm, hAo⟩ hS (lv_sub hl [2, 3, 4, 5, 6] rfl)
    · exfalso
      exact (hd0 (l_ix (by omega) hc0 hc1)).elim
  · refine W.eq (g2 := F0 m 531 ls [.int 1]) rfl ?_
    refine lv_istore (lv' := [(5, .int 1), (0, .ref b), (1, .ref (ad 0 0)), (2, .ref (adm 10 0)), (3, .ref oa), (4, .int (nI i))]) hx hb dL_law_531 hl (by decide) rfl (fun ls hl => ?_)
    refine lv_aload_n hx hb dL_law_533 rfl (lv_at hl 3 rfl) ?_
    refine lv_aload_n hx hb dL_law_534 rfl (lv_at hl 1 rfl) ?_
    refine lv_iload hx hb dL_law_535 (lv_at hl 5 rfl) ?_
    refine lv_iconst (v := 1) hx hb dL_law_537 (by decide) ?_
    refine lv_iadd hx hb dL_law_538 ?_
    refine l_sld hx hb hX hbl hbA hS hLm (i + 1) (by omega) (nI_add i 1) dL_law_539 ?_
    have hDB := lB_D hD hDm
    have hBB := lB_up (ad := ad) (oa := oa) hA0 hsz9 hW hout
    refine rh_call2 (vx_runV (As := [.int (xs (i + 1))]) (rest := []) ⟨hx, hb, hml, hown, hts⟩ (ct_X5_stateOf l hDB hI.2.1.1 (xs (i + 1))) (cwV 1 hts gL_law_X5_stateOf rfl rfl rfl (by decide +kernel) ⟨by decide, by decide⟩) (rh_preV2 hE hS (fun q h => h.1) hBB (hM.at 10 0 Nat.zero_lt_one) rfl hM) rfl rfl hl.1 rfl (lv_room (Nat.le_of_ble_eq_true rfl)) dL_law_540 ⟨by show cells + 5 + 0 ≤ 626516; omega, by show slots + 40 + 0 ≤ 7216556; omega⟩) hS (fun q h => h.1) (fun E ce q9 H locs hX9 hz9 hk9 hS g1 g2 g3 => hX9.elim) (fun o H locs hN9 hz9 hk9 hS => ?_)
    have hW := hW.keptB hk9
    have hout := hout.kept (hk9 _ hout.lt (fun z => z.2.2 rfl))
    have hsz9 := hS.1
    rcases hN9 with ⟨i8, hd0, hd1, rfl, hM⟩ | ⟨hd0, ⟨z8, rfl⟩, hM⟩
    · exfalso
      exact absurd (l_ix (by omega) hd0 hd1) hc9
    · skip
      refine W.eq (g2 := F0 m 543 ls [.int z8]) rfl ?_
      refine lv_istore (lv' := [(6, .int z8), (5, .int 1), (0, .ref b), (1, .ref (ad 0 0)), (2, .ref (adm 10 0)), (3, .ref oa), (4, .int (nI i))]) hx hb dL_law_543 hl (by decide) rfl (fun ls hl => ?_)
      refine lv_aload_n hx hb dL_law_545 rfl (lv_at hl 4 rfl) ?_
      have hDB := lB_D hD hDm
      have hBB := lB_up (ad := ad) (oa := oa) hA0 hsz9 hW hout
      refine rh_call2 (vx_runV (As := []) (rest := []) ⟨hx, hb, hml, hown, hts⟩ (ct_X5_thrown l hDB  ) (cwV 0 hts gL_law_X5_thrown rfl rfl rfl (by decide +kernel) ⟨by decide, by decide⟩) (rh_preV2 hE hS (fun q h => h.1) hBB (hM.at 10 0 Nat.zero_lt_one) rfl hM) rfl rfl hl.1 rfl (lv_room (Nat.le_of_ble_eq_true rfl)) dL_law_546 ⟨by show cells + 5 + 0 + 0 ≤ 626516; omega, by show slots + 40 + 0 + 0 ≤ 7216556; omega⟩) hS (fun q h => h.1) (fun E ce q9 H locs hX9 hz9 hk9 hS g1 g2 g3 => hX9.elim) (fun o H locs hN9 hz9 hk9 hS => ?_)
      have hW := hW.keptB hk9
      have hout := hout.kept (hk9 _ hout.lt (fun z => z.2.2 rfl))
      have hsz9 := hS.1
      obtain ⟨rfl, hM⟩ := hN9
      refine W.eq (g2 := F0 m 549 ls [.int 1]) rfl ?_
      refine lv_iload hx hb dL_law_549 (lv_at hl 1 rfl) ?_
      refine lv_icmp_eq (tgt := 556) hx hb dL_law_551 (by decide) (fun c4 => ?_) (fun c4 => absurd c4 (by decide))
      refine lv_iload hx hb dL_law_556 (lv_at hl 1 rfl) ?_
      refine lv_if_ne (tgt := 573) hx hb dL_law_558 (by decide) (fun c5 => ?_) (fun c5 => absurd c5 (by decide))
      refine lv_goto (tgt := 1523) hx hb dL_law_573 (by decide) ?_
      exact hK _ _ _ _ _ _ _ _ _ _ _ _ ⟨rfl, rfl, hW, hM, hout, hI, hD, hDm, hAo⟩ hS (lv_sub hl [2, 3, 4, 5, 6] rfl)
set_option maxHeartbeats 8000000 in
set_option maxRecDepth 100000 in
theorem op_expected {p : Program} {l : Launch} {e : Env} {s : State} {m : MethodId} {below : List Frame} {meth : Method} {c : Code} {G : va_G} {ca : Nat → ClassId} {A0 : Nat → Prop} {b L : Nat} {xs : Nat → Int32} {h9 hm oa i : Nat} {cells slots : Nat} {Q : State → Prop} {ad adm : Nat → Nat → Nat} {nf nc : Nat} {r : rh_R} {v : rh_V} {w : rh_Wm} {th : Int32} {f : Nat → Int64} {H : Heap} {locs : List Loc} {ls : Array Slot} (C : lwC p l s m c G ca A0 b L xs) (hLS : lwS G ca A0 h9 hm oa ad adm nf nc r v w th f H) (hS : va_S A0 s.heap H locs) (hl : lv_has ls 8 [(0, .ref b), (1, .ref h9), (2, .ref hm), (3, .ref oa), (4, .int (nI i))]) (hi : i + 5 < L) (hcl : cells + 5 ≤ 626516) (hsl : slots + 40 ≤ 7216556) (hK : lwK p l e s m below meth c G ca A0 b h9 hm oa i cells slots Q) : W p l e room_1 s m #[Value.ref b] below meth c H locs cells slots Q (F0 m 576 ls []) := by
  obtain ⟨hx, hb, hml, hown, hts, hE, hnc9, hlf, hA0, hbA, hbl, hX, hLm⟩ := C
  obtain ⟨rfl, rfl, hW, hM, hout, hI, hD, hDm, hAo⟩ := hLS
  have hnf9 := hI.1.1
  have hnn9 := hI.1.2.1
  have hnow := l_now hI
  have hsz9 := hS.1
  have hl : lv_has ls 8 [(0, .ref b), (1, .ref (ad 0 0)), (2, .ref (adm 10 0)), (3, .ref oa), (4, .int (nI i))] := hl
  refine lv_aload_n hx hb dL_law_576 rfl (lv_at hl 1 rfl) ?_
  refine lv_aload_n hx hb dL_law_577 rfl (lv_at hl 0 rfl) ?_
  refine lv_iload hx hb dL_law_578 (lv_at hl 4 rfl) ?_
  refine lv_iconst (v := 1) hx hb dL_law_580 (by decide) ?_
  refine lv_iadd hx hb dL_law_581 ?_
  refine l_sld hx hb hX hbl hbA hS hLm (i + 1) (by omega) (nI_add i 1) dL_law_582 ?_
  refine lv_aload_n hx hb dL_law_583 rfl (lv_at hl 0 rfl) ?_
  refine lv_iload hx hb dL_law_584 (lv_at hl 4 rfl) ?_
  refine lv_iconst (v := 2) hx hb dL_law_586 (by decide) ?_
  refine lv_iadd hx hb dL_law_587 ?_
  refine l_sld hx hb hX hbl hbA hS hLm (i + 2) (by omega) (nI_add i 2) dL_law_588 ?_
  refine lv_aload_n hx hb dL_law_589 rfl (lv_at hl 3 rfl) ?_
  have hAA := lA_up (adm := adm) hA0 hsz9 hM
  refine rh_call2 (vx_runSX (As := [.ref (ad 0 0), .int (xs (i + 1)), .int (xs (i + 2)), .ref oa]) (rest := []) ⟨hx, hb, hml, hown, hts⟩ (hl_expected l hlf (l_Ao hM hout hDm hAo) hD hI.1 (xs (i + 1)) (xs (i + 2))) (vx_cwSW 4 hts gL_law_L_expected rfl rfl rfl (by decide +kernel) ⟨by decide, by decide⟩) (rh_prel hE hnc9 hS (fun q h => h.1) hAA ⟨hW, hout⟩) rfl rfl hl.1 rfl (lv_room (Nat.le_of_ble_eq_true rfl)) dL_law_590 ⟨by show cells + 5 ≤ 626516; omega, by show slots + 40 ≤ 7216556; omega⟩) hS (fun q h => h.1) (fun E ce q9 H locs hX9 hz9 hk9 hS g1 g2 g3 => hX9.elim) (fun o H locs hN9 hz9 hk9 hS => ?_)
  have hM := hM.keptA hk9
  have hsz9 := hS.1
  rcases hN9 with ⟨h9, k9, hc0, hc1, hc2, hc3, hc4, rfl, ⟨f8, hf8, hout⟩, hW⟩ | ⟨hc9, rfl, ⟨f8, hout⟩, hW⟩ | ⟨hc9, rfl, ⟨f8, hout⟩, hW⟩
  · refine W.eq (g2 := F0 m 593 ls [.int 0]) rfl ?_
    refine lv_istore (lv' := [(5, .int 0), (0, .ref b), (1, .ref (ad 0 0)), (2, .ref (adm 10 0)), (3, .ref oa), (4, .int (nI i))]) hx hb dL_law_593 hl (by decide) rfl (fun ls hl => ?_)
    refine lv_aload_n hx hb dL_law_595 rfl (lv_at hl 3 rfl) ?_
    refine lv_aload_n hx hb dL_law_596 rfl (lv_at hl 1 rfl) ?_
    refine lv_iload hx hb dL_law_597 (lv_at hl 5 rfl) ?_
    refine lv_iconst (v := 1) hx hb dL_law_599 (by decide) ?_
    refine lv_iadd hx hb dL_law_600 ?_
    refine l_sld hx hb hX hbl hbA hS hLm (i + 1) (by omega) (nI_add i 1) dL_law_601 ?_
    refine lv_aload_n hx hb dL_law_602 rfl (lv_at hl 1 rfl) ?_
    refine lv_iload hx hb dL_law_603 (lv_at hl 5 rfl) ?_
    refine lv_iconst (v := 2) hx hb dL_law_605 (by decide) ?_
    refine lv_iadd hx hb dL_law_606 ?_
    refine l_sld hx hb hX hbl hbA hS hLm (i + 2) (by omega) (nI_add i 2) dL_law_607 ?_
    have hDB := lB_D hD hDm
    have hBB := lB_up (ad := ad) (oa := oa) hA0 hsz9 hW hout
    refine rh_call2 (vx_runV (As := [.int (xs (i + 1)), .int (xs (i + 2))]) (rest := []) ⟨hx, hb, hml, hown, hts⟩ (ct_X5_expected l hDB  (xs (i + 1)) (xs (i + 2))) (cwV 2 hts gL_law_X5_expected rfl rfl rfl (by decide +kernel) ⟨by decide, by decide⟩) (rh_preV2 hE hS (fun q h => h.1) hBB (hM.at 10 0 Nat.zero_lt_one) rfl hM) rfl rfl hl.1 rfl (lv_room (Nat.le_of_ble_eq_true rfl)) dL_law_608 ⟨by show cells + 5 + 0 ≤ 626516; omega, by show slots + 40 + 0 ≤ 7216556; omega⟩) hS (fun q h => h.1) (fun E ce q9 H locs hX9 hz9 hk9 hS g1 g2 g3 => hX9.elim) (fun o H locs hN9 hz9 hk9 hS => ?_)
    have hW := hW.keptB hk9
    have hout := hout.kept (hk9 _ hout.lt (fun z => z.2.2 rfl))
    have hsz9 := hS.1
    rcases hN9 with ⟨h8, k8, hd0, hd1, hd2, hd3, hd4, rfl, hM⟩ | ⟨hd0, ⟨z8, rfl⟩, hM⟩ | ⟨hd0, hd1, hd2, ⟨z8, rfl⟩, hM⟩
    · obtain rfl : h9 = h8 := m_inj (by omega) (by omega) (hc3.symm.trans hd3)
      obtain rfl : k9 = k8 := m_inj (by omega) (by omega) (hc4.symm.trans hd4)
      refine W.eq (g2 := F0 m 611 ls [.int (w 18 (h9 * 4 + k9))]) rfl ?_
      refine lv_istore (lv' := [(6, .int (w 18 (h9 * 4 + k9))), (5, .int 0), (0, .ref b), (1, .ref (ad 0 0)), (2, .ref (adm 10 0)), (3, .ref oa), (4, .int (nI i))]) hx hb dL_law_611 hl (by decide) rfl (fun ls hl => ?_)
      refine lv_aload_n hx hb dL_law_613 rfl (lv_at hl 4 rfl) ?_
      have hDB := lB_D hD hDm
      have hBB := lB_up (ad := ad) (oa := oa) hA0 hsz9 hW hout
      refine rh_call2 (vx_runV (As := []) (rest := []) ⟨hx, hb, hml, hown, hts⟩ (ct_X5_thrown l hDB  ) (cwV 0 hts gL_law_X5_thrown rfl rfl rfl (by decide +kernel) ⟨by decide, by decide⟩) (rh_preV2 hE hS (fun q h => h.1) hBB (hM.at 10 0 Nat.zero_lt_one) rfl hM) rfl rfl hl.1 rfl (lv_room (Nat.le_of_ble_eq_true rfl)) dL_law_614 ⟨by show cells + 5 + 0 + 0 ≤ 626516; omega, by show slots + 40 + 0 + 0 ≤ 7216556; omega⟩) hS (fun q h => h.1) (fun E ce q9 H locs hX9 hz9 hk9 hS g1 g2 g3 => hX9.elim) (fun o H locs hN9 hz9 hk9 hS => ?_)
      have hW := hW.keptB hk9
      have hout := hout.kept (hk9 _ hout.lt (fun z => z.2.2 rfl))
      have hsz9 := hS.1
      obtain ⟨rfl, hM⟩ := hN9
      refine W.eq (g2 := F0 m 617 ls [.int 0]) rfl ?_
      refine lv_iload hx hb dL_law_617 (lv_at hl 1 rfl) ?_
      refine lv_icmp_eq (tgt := 624) hx hb dL_law_619 (by decide) (fun c1 => ?_) (fun c1 => absurd c1 (by decide))
      refine lv_iload hx hb dL_law_624 (lv_at hl 1 rfl) ?_
      refine lv_if_ne (tgt := 641) hx hb dL_law_626 (by decide) (fun c2 => absurd c2 (by decide)) (fun c2 => ?_)
      refine lv_aload_n hx hb dL_law_629 rfl (lv_at hl 5 rfl) ?_
      refine lv_iconst (v := 0) hx hb dL_law_630 (by decide) ?_
      refine rh_lald (n := 1) (f := f8) hx hb hE hout 0 (by decide) (by decide) rfl dL_law_631 ?_
      have hval : f8 0 = ((w 18 (h9 * 4 + k9))).toInt64 := by rw [hf8, (hI.2.2.2.1 _ (m_4pq hc0 hc1).2).1]
      refine lv_iload hx hb dL_law_632 (lv_at hl 0 rfl) ?_
      refine lv_i2l hx hb dL_law_634 rfl ?_
      refine W.lcmp hx hb dL_law_635 ?_
      refine lv_if_eq (tgt := 641) hx hb dL_law_636 (by decide) (fun c3 => ?_) (fun c3 => (c3 ((lg_cmp_eq _ _).mpr hval)).elim)
      · refine lv_goto (tgt := 1523) hx hb dL_law_641 (by decide) ?_
        exact hK _ _ _ _ _ _ _ _ _ _ _ _ ⟨rfl, rfl, hW, hM, hout, hI, hD, hDm, hAo⟩ hS (lv_sub hl [2, 3, 4, 5, 6] rfl)
    · exfalso
      exact (hd0 ⟨l_ix (by omega) hc0 hc3, l_ix (by omega) hc1 hc4⟩).elim
    · exfalso
      exact ((fun z => hc2 (m_inj (by omega) (by omega) (hc3.symm.trans (z.trans hc4)))) hd2).elim
  · refine W.eq (g2 := F0 m 593 ls [.int 1]) rfl ?_
    refine lv_istore (lv' := [(5, .int 1), (0, .ref b), (1, .ref (ad 0 0)), (2, .ref (adm 10 0)), (3, .ref oa), (4, .int (nI i))]) hx hb dL_law_593 hl (by decide) rfl (fun ls hl => ?_)
    refine lv_aload_n hx hb dL_law_595 rfl (lv_at hl 3 rfl) ?_
    refine lv_aload_n hx hb dL_law_596 rfl (lv_at hl 1 rfl) ?_
    refine lv_iload hx hb dL_law_597 (lv_at hl 5 rfl) ?_
    refine lv_iconst (v := 1) hx hb dL_law_599 (by decide) ?_
    refine lv_iadd hx hb dL_law_600 ?_
    refine l_sld hx hb hX hbl hbA hS hLm (i + 1) (by omega) (nI_add i 1) dL_law_601 ?_
    refine lv_aload_n hx hb dL_law_602 rfl (lv_at hl 1 rfl) ?_
    refine lv_iload hx hb dL_law_603 (lv_at hl 5 rfl) ?_
    refine lv_iconst (v := 2) hx hb dL_law_605 (by decide) ?_
    refine lv_iadd hx hb dL_law_606 ?_
    refine l_sld hx hb hX hbl hbA hS hLm (i + 2) (by omega) (nI_add i 2) dL_law_607 ?_
    have hDB := lB_D hD hDm
    have hBB := lB_up (ad := ad) (oa := oa) hA0 hsz9 hW hout
    refine rh_call2 (vx_runV (As := [.int (xs (i + 1)), .int (xs (i + 2))]) (rest := []) ⟨hx, hb, hml, hown, hts⟩ (ct_X5_expected l hDB  (xs (i + 1)) (xs (i + 2))) (cwV 2 hts gL_law_X5_expected rfl rfl rfl (by decide +kernel) ⟨by decide, by decide⟩) (rh_preV2 hE hS (fun q h => h.1) hBB (hM.at 10 0 Nat.zero_lt_one) rfl hM) rfl rfl hl.1 rfl (lv_room (Nat.le_of_ble_eq_true rfl)) dL_law_608 ⟨by show cells + 5 + 0 ≤ 626516; omega, by show slots + 40 + 0 ≤ 7216556; omega⟩) hS (fun q h => h.1) (fun E ce q9 H locs hX9 hz9 hk9 hS g1 g2 g3 => hX9.elim) (fun o H locs hN9 hz9 hk9 hS => ?_)
    have hW := hW.keptB hk9
    have hout := hout.kept (hk9 _ hout.lt (fun z => z.2.2 rfl))
    have hsz9 := hS.1
    rcases hN9 with ⟨h8, k8, hd0, hd1, hd2, hd3, hd4, rfl, hM⟩ | ⟨hd0, ⟨z8, rfl⟩, hM⟩ | ⟨hd0, hd1, hd2, ⟨z8, rfl⟩, hM⟩
    · exfalso
      exact (hc9 ⟨l_ix (by omega) hd0 hd3, l_ix (by omega) hd1 hd4⟩).elim
    · skip
      refine W.eq (g2 := F0 m 611 ls [.int z8]) rfl ?_
      refine lv_istore (lv' := [(6, .int z8), (5, .int 1), (0, .ref b), (1, .ref (ad 0 0)), (2, .ref (adm 10 0)), (3, .ref oa), (4, .int (nI i))]) hx hb dL_law_611 hl (by decide) rfl (fun ls hl => ?_)
      refine lv_aload_n hx hb dL_law_613 rfl (lv_at hl 4 rfl) ?_
      have hDB := lB_D hD hDm
      have hBB := lB_up (ad := ad) (oa := oa) hA0 hsz9 hW hout
      refine rh_call2 (vx_runV (As := []) (rest := []) ⟨hx, hb, hml, hown, hts⟩ (ct_X5_thrown l hDB  ) (cwV 0 hts gL_law_X5_thrown rfl rfl rfl (by decide +kernel) ⟨by decide, by decide⟩) (rh_preV2 hE hS (fun q h => h.1) hBB (hM.at 10 0 Nat.zero_lt_one) rfl hM) rfl rfl hl.1 rfl (lv_room (Nat.le_of_ble_eq_true rfl)) dL_law_614 ⟨by show cells + 5 + 0 + 0 ≤ 626516; omega, by show slots + 40 + 0 + 0 ≤ 7216556; omega⟩) hS (fun q h => h.1) (fun E ce q9 H locs hX9 hz9 hk9 hS g1 g2 g3 => hX9.elim) (fun o H locs hN9 hz9 hk9 hS => ?_)
      have hW := hW.keptB hk9
      have hout := hout.kept (hk9 _ hout.lt (fun z => z.2.2 rfl))
      have hsz9 := hS.1
      obtain ⟨rfl, hM⟩ := hN9
      refine W.eq (g2 := F0 m 617 ls [.int 1]) rfl ?_
      refine lv_iload hx hb dL_law_617 (lv_at hl 1 rfl) ?_
      refine lv_icmp_eq (tgt := 624) hx hb dL_law_619 (by decide) (fun c4 => ?_) (fun c4 => absurd c4 (by decide))
      refine lv_iload hx hb dL_law_624 (lv_at hl 1 rfl) ?_
      refine lv_if_ne (tgt := 641) hx hb dL_law_626 (by decide) (fun c5 => ?_) (fun c5 => absurd c5 (by decide))
      refine lv_goto (tgt := 1523) hx hb dL_law_641 (by decide) ?_
      exact hK _ _ _ _ _ _ _ _ _ _ _ _ ⟨rfl, rfl, hW, hM, hout, hI, hD, hDm, hAo⟩ hS (lv_sub hl [2, 3, 4, 5, 6] rfl)
    · exfalso
      exact (hc9 ⟨hd0, hd1⟩).elim
  · refine W.eq (g2 := F0 m 593 ls [.int 2]) rfl ?_
    refine lv_istore (lv' := [(5, .int 2), (0, .ref b), (1, .ref (ad 0 0)), (2, .ref (adm 10 0)), (3, .ref oa), (4, .int (nI i))]) hx hb dL_law_593 hl (by decide) rfl (fun ls hl => ?_)
    refine lv_aload_n hx hb dL_law_595 rfl (lv_at hl 3 rfl) ?_
    refine lv_aload_n hx hb dL_law_596 rfl (lv_at hl 1 rfl) ?_
    refine lv_iload hx hb dL_law_597 (lv_at hl 5 rfl) ?_
    refine lv_iconst (v := 1) hx hb dL_law_599 (by decide) ?_
    refine lv_iadd hx hb dL_law_600 ?_
    refine l_sld hx hb hX hbl hbA hS hLm (i + 1) (by omega) (nI_add i 1) dL_law_601 ?_
    refine lv_aload_n hx hb dL_law_602 rfl (lv_at hl 1 rfl) ?_
    refine lv_iload hx hb dL_law_603 (lv_at hl 5 rfl) ?_
    refine lv_iconst (v := 2) hx hb dL_law_605 (by decide) ?_
    refine lv_iadd hx hb dL_law_606 ?_
    refine l_sld hx hb hX hbl hbA hS hLm (i + 2) (by omega) (nI_add i 2) dL_law_607 ?_
    have hDB := lB_D hD hDm
    have hBB := lB_up (ad := ad) (oa := oa) hA0 hsz9 hW hout
    refine rh_call2 (vx_runV (As := [.int (xs (i + 1)), .int (xs (i + 2))]) (rest := []) ⟨hx, hb, hml, hown, hts⟩ (ct_X5_expected l hDB  (xs (i + 1)) (xs (i + 2))) (cwV 2 hts gL_law_X5_expected rfl rfl rfl (by decide +kernel) ⟨by decide, by decide⟩) (rh_preV2 hE hS (fun q h => h.1) hBB (hM.at 10 0 Nat.zero_lt_one) rfl hM) rfl rfl hl.1 rfl (lv_room (Nat.le_of_ble_eq_true rfl)) dL_law_608 ⟨by show cells + 5 + 0 ≤ 626516; omega, by show slots + 40 + 0 ≤ 7216556; omega⟩) hS (fun q h => h.1) (fun E ce q9 H locs hX9 hz9 hk9 hS g1 g2 g3 => hX9.elim) (fun o H locs hN9 hz9 hk9 hS => ?_)
    have hW := hW.keptB hk9
    have hout := hout.kept (hk9 _ hout.lt (fun z => z.2.2 rfl))
    have hsz9 := hS.1
    rcases hN9 with ⟨h8, k8, hd0, hd1, hd2, hd3, hd4, rfl, hM⟩ | ⟨hd0, ⟨z8, rfl⟩, hM⟩ | ⟨hd0, hd1, hd2, ⟨z8, rfl⟩, hM⟩
    · exfalso
      exact ((fun z => hd2 (m_inj (by omega) (by omega) (hd3.symm.trans (z.trans hd4)))) hc9.2.2).elim
    · exfalso
      exact (hd0 ⟨hc9.1, hc9.2.1⟩).elim
    · skip
      refine W.eq (g2 := F0 m 611 ls [.int z8]) rfl ?_
      refine lv_istore (lv' := [(6, .int z8), (5, .int 2), (0, .ref b), (1, .ref (ad 0 0)), (2, .ref (adm 10 0)), (3, .ref oa), (4, .int (nI i))]) hx hb dL_law_611 hl (by decide) rfl (fun ls hl => ?_)
      refine lv_aload_n hx hb dL_law_613 rfl (lv_at hl 4 rfl) ?_
      have hDB := lB_D hD hDm
      have hBB := lB_up (ad := ad) (oa := oa) hA0 hsz9 hW hout
      refine rh_call2 (vx_runV (As := []) (rest := []) ⟨hx, hb, hml, hown, hts⟩ (ct_X5_thrown l hDB  ) (cwV 0 hts gL_law_X5_thrown rfl rfl rfl (by decide +kernel) ⟨by decide, by decide⟩) (rh_preV2 hE hS (fun q h => h.1) hBB (hM.at 10 0 Nat.zero_lt_one) rfl hM) rfl rfl hl.1 rfl (lv_room (Nat.le_of_ble_eq_true rfl)) dL_law_614 ⟨by show cells + 5 + 0 + 0 ≤ 626516; omega, by show slots + 40 + 0 + 0 ≤ 7216556; omega⟩) hS (fun q h => h.1) (fun E ce q9 H locs hX9 hz9 hk9 hS g1 g2 g3 => hX9.elim) (fun o H locs hN9 hz9 hk9 hS => ?_)
      have hW := hW.keptB hk9
      have hout := hout.kept (hk9 _ hout.lt (fun z => z.2.2 rfl))
      have hsz9 := hS.1
      obtain ⟨rfl, hM⟩ := hN9
      refine W.eq (g2 := F0 m 617 ls [.int 2]) rfl ?_
      refine lv_iload hx hb dL_law_617 (lv_at hl 1 rfl) ?_
      refine lv_icmp_eq (tgt := 624) hx hb dL_law_619 (by decide) (fun c6 => ?_) (fun c6 => absurd c6 (by decide))
      refine lv_iload hx hb dL_law_624 (lv_at hl 1 rfl) ?_
      refine lv_if_ne (tgt := 641) hx hb dL_law_626 (by decide) (fun c7 => ?_) (fun c7 => absurd c7 (by decide))
      refine lv_goto (tgt := 1523) hx hb dL_law_641 (by decide) ?_
      exact hK _ _ _ _ _ _ _ _ _ _ _ _ ⟨rfl, rfl, hW, hM, hout, hI, hD, hDm, hAo⟩ hS (lv_sub hl [2, 3, 4, 5, 6] rfl)
set_option maxHeartbeats 8000000 in
set_option maxRecDepth 100000 in
theorem op_lacking {p : Program} {l : Launch} {e : Env} {s : State} {m : MethodId} {below : List Frame} {meth : Method} {c : Code} {G : va_G} {ca : Nat → ClassId} {A0 : Nat → Prop} {b L : Nat} {xs : Nat → Int32} {h9 hm oa i : Nat} {cells slots : Nat} {Q : State → Prop} {ad adm : Nat → Nat → Nat} {nf nc : Nat} {r : rh_R} {v : rh_V} {w : rh_Wm} {th : Int32} {f : Nat → Int64} {H : Heap} {locs : List Loc} {ls : Array Slot} (C : lwC p l s m c G ca A0 b L xs) (hLS : lwS G ca A0 h9 hm oa ad adm nf nc r v w th f H) (hS : va_S A0 s.heap H locs) (hl : lv_has ls 8 [(0, .ref b), (1, .ref h9), (2, .ref hm), (3, .ref oa), (4, .int (nI i))]) (hi : i + 5 < L) (hcl : cells + 5 ≤ 626516) (hsl : slots + 40 ≤ 7216556) (hK : lwK p l e s m below meth c G ca A0 b h9 hm oa i cells slots Q) : W p l e room_1 s m #[Value.ref b] below meth c H locs cells slots Q (F0 m 644 ls []) := by
  obtain ⟨hx, hb, hml, hown, hts, hE, hnc9, hlf, hA0, hbA, hbl, hX, hLm⟩ := C
  obtain ⟨rfl, rfl, hW, hM, hout, hI, hD, hDm, hAo⟩ := hLS
  have hnf9 := hI.1.1
  have hnn9 := hI.1.2.1
  have hnow := l_now hI
  have hsz9 := hS.1
  have hl : lv_has ls 8 [(0, .ref b), (1, .ref (ad 0 0)), (2, .ref (adm 10 0)), (3, .ref oa), (4, .int (nI i))] := hl
  refine lv_aload_n hx hb dL_law_644 rfl (lv_at hl 1 rfl) ?_
  refine lv_aload_n hx hb dL_law_645 rfl (lv_at hl 0 rfl) ?_
  refine lv_iload hx hb dL_law_646 (lv_at hl 4 rfl) ?_
  refine lv_iconst (v := 1) hx hb dL_law_648 (by decide) ?_
  refine lv_iadd hx hb dL_law_649 ?_
  refine l_sld hx hb hX hbl hbA hS hLm (i + 1) (by omega) (nI_add i 1) dL_law_650 ?_
  refine lv_aload_n hx hb dL_law_651 rfl (lv_at hl 0 rfl) ?_
  refine lv_iload hx hb dL_law_652 (lv_at hl 4 rfl) ?_
  refine lv_iconst (v := 2) hx hb dL_law_654 (by decide) ?_
  refine lv_iadd hx hb dL_law_655 ?_
  refine l_sld hx hb hX hbl hbA hS hLm (i + 2) (by omega) (nI_add i 2) dL_law_656 ?_
  refine lv_aload_n hx hb dL_law_657 rfl (lv_at hl 3 rfl) ?_
  have hAA := lA_up (adm := adm) hA0 hsz9 hM
  refine rh_call2 (vx_runSX (As := [.ref (ad 0 0), .int (xs (i + 1)), .int (xs (i + 2)), .ref oa]) (rest := []) ⟨hx, hb, hml, hown, hts⟩ (hl_lacking l hlf (l_Ao hM hout hDm hAo) hD hI.1 (xs (i + 1)) (xs (i + 2))) (vx_cwSW 4 hts gL_law_L_lacking rfl rfl rfl (by decide +kernel) ⟨by decide, by decide⟩) (rh_prel hE hnc9 hS (fun q h => h.1) hAA ⟨hW, hout⟩) rfl rfl hl.1 rfl (lv_room (Nat.le_of_ble_eq_true rfl)) dL_law_658 ⟨by show cells + 5 ≤ 626516; omega, by show slots + 40 ≤ 7216556; omega⟩) hS (fun q h => h.1) (fun E ce q9 H locs hX9 hz9 hk9 hS g1 g2 g3 => hX9.elim) (fun o H locs hN9 hz9 hk9 hS => ?_)
  have hM := hM.keptA hk9
  have hsz9 := hS.1
  rcases hN9 with ⟨h9, k9, hc0, hc1, hc2, hc3, hc4, rfl, ⟨f8, hf8, hout⟩, hW⟩ | ⟨hc9, rfl, ⟨f8, hout⟩, hW⟩ | ⟨hc9, rfl, ⟨f8, hout⟩, hW⟩
  · refine W.eq (g2 := F0 m 661 ls [.int 0]) rfl ?_
    refine lv_istore (lv' := [(5, .int 0), (0, .ref b), (1, .ref (ad 0 0)), (2, .ref (adm 10 0)), (3, .ref oa), (4, .int (nI i))]) hx hb dL_law_661 hl (by decide) rfl (fun ls hl => ?_)
    refine lv_aload_n hx hb dL_law_663 rfl (lv_at hl 3 rfl) ?_
    refine lv_aload_n hx hb dL_law_664 rfl (lv_at hl 1 rfl) ?_
    refine lv_iload hx hb dL_law_665 (lv_at hl 5 rfl) ?_
    refine lv_iconst (v := 1) hx hb dL_law_667 (by decide) ?_
    refine lv_iadd hx hb dL_law_668 ?_
    refine l_sld hx hb hX hbl hbA hS hLm (i + 1) (by omega) (nI_add i 1) dL_law_669 ?_
    refine lv_aload_n hx hb dL_law_670 rfl (lv_at hl 1 rfl) ?_
    refine lv_iload hx hb dL_law_671 (lv_at hl 5 rfl) ?_
    refine lv_iconst (v := 2) hx hb dL_law_673 (by decide) ?_
    refine lv_iadd hx hb dL_law_674 ?_
    refine l_sld hx hb hX hbl hbA hS hLm (i + 2) (by omega) (nI_add i 2) dL_law_675 ?_
    have hDB := lB_D hD hDm
    have hBB := lB_up (ad := ad) (oa := oa) hA0 hsz9 hW hout
    refine rh_call2 (vx_runV (As := [.int (xs (i + 1)), .int (xs (i + 2))]) (rest := []) ⟨hx, hb, hml, hown, hts⟩ (ct_X5_lacking l hDB hI.2.1.1 (xs (i + 1)) (xs (i + 2))) (cwV 2 hts gL_law_X5_lacking rfl rfl rfl (by decide +kernel) ⟨by decide, by decide⟩) (rh_preV2 hE hS (fun q h => h.1) hBB (hM.at 10 0 Nat.zero_lt_one) rfl hM) rfl rfl hl.1 rfl (lv_room (Nat.le_of_ble_eq_true rfl)) dL_law_676 ⟨by show cells + 5 + 0 ≤ 626516; omega, by show slots + 40 + 0 ≤ 7216556; omega⟩) hS (fun q h => h.1) (fun E ce q9 H locs hX9 hz9 hk9 hS g1 g2 g3 => hX9.elim) (fun o H locs hN9 hz9 hk9 hS => ?_)
    have hW := hW.keptB hk9
    have hout := hout.kept (hk9 _ hout.lt (fun z => z.2.2 rfl))
    have hsz9 := hS.1
    rcases hN9 with ⟨h8, k8, hd0, hd1, hd2, hd3, hd4, rfl, hM⟩ | ⟨hd0, ⟨z8, rfl⟩, hM⟩ | ⟨hd0, hd1, hd2, ⟨z8, rfl⟩, hM⟩
    · obtain rfl : h9 = h8 := m_inj (by omega) (by omega) (hc3.symm.trans hd3)
      obtain rfl : k9 = k8 := m_inj (by omega) (by omega) (hc4.symm.trans hd4)
      refine W.eq (g2 := F0 m 679 ls [.int (if m_wn r w (h9 * 4 + k9) nf = 0 then 0 else m_wg r w (h9 * 4 + k9) nf - w 18 (h9 * 4 + k9) + 1 - m_wn r w (h9 * 4 + k9) nf)]) rfl ?_
      refine lv_istore (lv' := [(6, .int (if m_wn r w (h9 * 4 + k9) nf = 0 then 0 else m_wg r w (h9 * 4 + k9) nf - w 18 (h9 * 4 + k9) + 1 - m_wn r w (h9 * 4 + k9) nf)), (5, .int 0), (0, .ref b), (1, .ref (ad 0 0)), (2, .ref (adm 10 0)), (3, .ref oa), (4, .int (nI i))]) hx hb dL_law_679 hl (by decide) rfl (fun ls hl => ?_)
      refine lv_aload_n hx hb dL_law_681 rfl (lv_at hl 4 rfl) ?_
      have hDB := lB_D hD hDm
      have hBB := lB_up (ad := ad) (oa := oa) hA0 hsz9 hW hout
      refine rh_call2 (vx_runV (As := []) (rest := []) ⟨hx, hb, hml, hown, hts⟩ (ct_X5_thrown l hDB  ) (cwV 0 hts gL_law_X5_thrown rfl rfl rfl (by decide +kernel) ⟨by decide, by decide⟩) (rh_preV2 hE hS (fun q h => h.1) hBB (hM.at 10 0 Nat.zero_lt_one) rfl hM) rfl rfl hl.1 rfl (lv_room (Nat.le_of_ble_eq_true rfl)) dL_law_682 ⟨by show cells + 5 + 0 + 0 ≤ 626516; omega, by show slots + 40 + 0 + 0 ≤ 7216556; omega⟩) hS (fun q h => h.1) (fun E ce q9 H locs hX9 hz9 hk9 hS g1 g2 g3 => hX9.elim) (fun o H locs hN9 hz9 hk9 hS => ?_)
      have hW := hW.keptB hk9
      have hout := hout.kept (hk9 _ hout.lt (fun z => z.2.2 rfl))
      have hsz9 := hS.1
      obtain ⟨rfl, hM⟩ := hN9
      refine W.eq (g2 := F0 m 685 ls [.int 0]) rfl ?_
      refine lv_iload hx hb dL_law_685 (lv_at hl 1 rfl) ?_
      refine lv_icmp_eq (tgt := 692) hx hb dL_law_687 (by decide) (fun c1 => ?_) (fun c1 => absurd c1 (by decide))
      refine lv_iload hx hb dL_law_692 (lv_at hl 1 rfl) ?_
      refine lv_if_ne (tgt := 709) hx hb dL_law_694 (by decide) (fun c2 => absurd c2 (by decide)) (fun c2 => ?_)
      refine lv_aload_n hx hb dL_law_697 rfl (lv_at hl 5 rfl) ?_
      refine lv_iconst (v := 0) hx hb dL_law_698 (by decide) ?_
      refine rh_lald (n := 1) (f := f8) hx hb hE hout 0 (by decide) (by decide) rfl dL_law_699 ?_
      have hval : f8 0 = ((if m_wn r w (h9 * 4 + k9) nf = 0 then 0 else m_wg r w (h9 * 4 + k9) nf - w 18 (h9 * 4 + k9) + 1 - m_wn r w (h9 * 4 + k9) nf)).toInt64 := by rw [hf8, (s_wn hI.2.2.2.2.1 nf (Nat.le_refl _)).1, (s_wn hI.2.2.2.2.1 nf (Nat.le_refl _)).2, (hI.2.2.2.1 _ (m_4pq hc0 hc1).2).1]
      refine lv_iload hx hb dL_law_700 (lv_at hl 0 rfl) ?_
      refine lv_i2l hx hb dL_law_702 rfl ?_
      refine W.lcmp hx hb dL_law_703 ?_
      refine lv_if_eq (tgt := 709) hx hb dL_law_704 (by decide) (fun c3 => ?_) (fun c3 => (c3 ((lg_cmp_eq _ _).mpr hval)).elim)
      · refine lv_goto (tgt := 1523) hx hb dL_law_709 (by decide) ?_
        exact hK _ _ _ _ _ _ _ _ _ _ _ _ ⟨rfl, rfl, hW, hM, hout, hI, hD, hDm, hAo⟩ hS (lv_sub hl [2, 3, 4, 5, 6] rfl)
    · exfalso
      exact (hd0 ⟨l_ix (by omega) hc0 hc3, l_ix (by omega) hc1 hc4⟩).elim
    · exfalso
      exact ((fun z => hc2 (m_inj (by omega) (by omega) (hc3.symm.trans (z.trans hc4)))) hd2).elim
  · refine W.eq (g2 := F0 m 661 ls [.int 1]) rfl ?_
    refine lv_istore (lv' := [(5, .int 1), (0, .ref b), (1, .ref (ad 0 0)), (2, .ref (adm 10 0)), (3, .ref oa), (4, .int (nI i))]) hx hb dL_law_661 hl (by decide) rfl (fun ls hl => ?_)
    refine lv_aload_n hx hb dL_law_663 rfl (lv_at hl 3 rfl) ?_
    refine lv_aload_n hx hb dL_law_664 rfl (lv_at hl 1 rfl) ?_
    refine lv_iload hx hb dL_law_665 (lv_at hl 5 rfl) ?_
    refine lv_iconst (v := 1) hx hb dL_law_667 (by decide) ?_
    refine lv_iadd hx hb dL_law_668 ?_
    refine l_sld hx hb hX hbl hbA hS hLm (i + 1) (by omega) (nI_add i 1) dL_law_669 ?_
    refine lv_aload_n hx hb dL_law_670 rfl (lv_at hl 1 rfl) ?_
    refine lv_iload hx hb dL_law_671 (lv_at hl 5 rfl) ?_
    refine lv_iconst (v := 2) hx hb dL_law_673 (by decide) ?_
    refine lv_iadd hx hb dL_law_674 ?_
    refine l_sld hx hb hX hbl hbA hS hLm (i + 2) (by omega) (nI_add i 2) dL_law_675 ?_
    have hDB := lB_D hD hDm
    have hBB := lB_up (ad := ad) (oa := oa) hA0 hsz9 hW hout
    refine rh_call2 (vx_runV (As := [.int (xs (i + 1)), .int (xs (i + 2))]) (rest := []) ⟨hx, hb, hml, hown, hts⟩ (ct_X5_lacking l hDB hI.2.1.1 (xs (i + 1)) (xs (i + 2))) (cwV 2 hts gL_law_X5_lacking rfl rfl rfl (by decide +kernel) ⟨by decide, by decide⟩) (rh_preV2 hE hS (fun q h => h.1) hBB (hM.at 10 0 Nat.zero_lt_one) rfl hM) rfl rfl hl.1 rfl (lv_room (Nat.le_of_ble_eq_true rfl)) dL_law_676 ⟨by show cells + 5 + 0 ≤ 626516; omega, by show slots + 40 + 0 ≤ 7216556; omega⟩) hS (fun q h => h.1) (fun E ce q9 H locs hX9 hz9 hk9 hS g1 g2 g3 => hX9.elim) (fun o H locs hN9 hz9 hk9 hS => ?_)
    have hW := hW.keptB hk9
    have hout := hout.kept (hk9 _ hout.lt (fun z => z.2.2 rfl))
    have hsz9 := hS.1
    rcases hN9 with ⟨h8, k8, hd0, hd1, hd2, hd3, hd4, rfl, hM⟩ | ⟨hd0, ⟨z8, rfl⟩, hM⟩ | ⟨hd0, hd1, hd2, ⟨z8, rfl⟩, hM⟩
    · exfalso
      exact (hc9 ⟨l_ix (by omega) hd0 hd3, l_ix (by omega) hd1 hd4⟩).elim
    · skip
      refine W.eq (g2 := F0 m 679 ls [.int z8]) rfl ?_
      refine lv_istore (lv' := [(6, .int z8), (5, .int 1), (0, .ref b), (1, .ref (ad 0 0)), (2, .ref (adm 10 0)), (3, .ref oa), (4, .int (nI i))]) hx hb dL_law_679 hl (by decide) rfl (fun ls hl => ?_)
      refine lv_aload_n hx hb dL_law_681 rfl (lv_at hl 4 rfl) ?_
      have hDB := lB_D hD hDm
      have hBB := lB_up (ad := ad) (oa := oa) hA0 hsz9 hW hout
      refine rh_call2 (vx_runV (As := []) (rest := []) ⟨hx, hb, hml, hown, hts⟩ (ct_X5_thrown l hDB  ) (cwV 0 hts gL_law_X5_thrown rfl rfl rfl (by decide +kernel) ⟨by decide, by decide⟩) (rh_preV2 hE hS (fun q h => h.1) hBB (hM.at 10 0 Nat.zero_lt_one) rfl hM) rfl rfl hl.1 rfl (lv_room (Nat.le_of_ble_eq_true rfl)) dL_law_682 ⟨by show cells + 5 + 0 + 0 ≤ 626516; omega, by show slots + 40 + 0 + 0 ≤ 7216556; omega⟩) hS (fun q h => h.1) (fun E ce q9 H locs hX9 hz9 hk9 hS g1 g2 g3 => hX9.elim) (fun o H locs hN9 hz9 hk9 hS => ?_)
      have hW := hW.keptB hk9
      have hout := hout.kept (hk9 _ hout.lt (fun z => z.2.2 rfl))
      have hsz9 := hS.1
      obtain ⟨rfl, hM⟩ := hN9
      refine W.eq (g2 := F0 m 685 ls [.int 1]) rfl ?_
      refine lv_iload hx hb dL_law_685 (lv_at hl 1 rfl) ?_
      refine lv_icmp_eq (tgt := 692) hx hb dL_law_687 (by decide) (fun c4 => ?_) (fun c4 => absurd c4 (by decide))
      refine lv_iload hx hb dL_law_692 (lv_at hl 1 rfl) ?_
      refine lv_if_ne (tgt := 709) hx hb dL_law_694 (by decide) (fun c5 => ?_) (fun c5 => absurd c5 (by decide))
      refine lv_goto (tgt := 1523) hx hb dL_law_709 (by decide) ?_
      exact hK _ _ _ _ _ _ _ _ _ _ _ _ ⟨rfl, rfl, hW, hM, hout, hI, hD, hDm, hAo⟩ hS (lv_sub hl [2, 3, 4, 5, 6] rfl)
    · exfalso
      exact (hc9 ⟨hd0, hd1⟩).elim
  · refine W.eq (g2 := F0 m 661 ls [.int 2]) rfl ?_
    refine lv_istore (lv' := [(5, .int 2), (0, .ref b), (1, .ref (ad 0 0)), (2, .ref (adm 10 0)), (3, .ref oa), (4, .int (nI i))]) hx hb dL_law_661 hl (by decide) rfl (fun ls hl => ?_)
    refine lv_aload_n hx hb dL_law_663 rfl (lv_at hl 3 rfl) ?_
    refine lv_aload_n hx hb dL_law_664 rfl (lv_at hl 1 rfl) ?_
    refine lv_iload hx hb dL_law_665 (lv_at hl 5 rfl) ?_
    refine lv_iconst (v := 1) hx hb dL_law_667 (by decide) ?_
    refine lv_iadd hx hb dL_law_668 ?_
    refine l_sld hx hb hX hbl hbA hS hLm (i + 1) (by omega) (nI_add i 1) dL_law_669 ?_
    refine lv_aload_n hx hb dL_law_670 rfl (lv_at hl 1 rfl) ?_
    refine lv_iload hx hb dL_law_671 (lv_at hl 5 rfl) ?_
    refine lv_iconst (v := 2) hx hb dL_law_673 (by decide) ?_
    refine lv_iadd hx hb dL_law_674 ?_
    refine l_sld hx hb hX hbl hbA hS hLm (i + 2) (by omega) (nI_add i 2) dL_law_675 ?_
    have hDB := lB_D hD hDm
    have hBB := lB_up (ad := ad) (oa := oa) hA0 hsz9 hW hout
    refine rh_call2 (vx_runV (As := [.int (xs (i + 1)), .int (xs (i + 2))]) (rest := []) ⟨hx, hb, hml, hown, hts⟩ (ct_X5_lacking l hDB hI.2.1.1 (xs (i + 1)) (xs (i + 2))) (cwV 2 hts gL_law_X5_lacking rfl rfl rfl (by decide +kernel) ⟨by decide, by decide⟩) (rh_preV2 hE hS (fun q h => h.1) hBB (hM.at 10 0 Nat.zero_lt_one) rfl hM) rfl rfl hl.1 rfl (lv_room (Nat.le_of_ble_eq_true rfl)) dL_law_676 ⟨by show cells + 5 + 0 ≤ 626516; omega, by show slots + 40 + 0 ≤ 7216556; omega⟩) hS (fun q h => h.1) (fun E ce q9 H locs hX9 hz9 hk9 hS g1 g2 g3 => hX9.elim) (fun o H locs hN9 hz9 hk9 hS => ?_)
    have hW := hW.keptB hk9
    have hout := hout.kept (hk9 _ hout.lt (fun z => z.2.2 rfl))
    have hsz9 := hS.1
    rcases hN9 with ⟨h8, k8, hd0, hd1, hd2, hd3, hd4, rfl, hM⟩ | ⟨hd0, ⟨z8, rfl⟩, hM⟩ | ⟨hd0, hd1, hd2, ⟨z8, rfl⟩, hM⟩
    · exfalso
      exact ((fun z => hd2 (m_inj (by omega) (by omega) (hd3.symm.trans (z.trans hd4)))) hc9.2.2).elim
    · exfalso
      exact (hd0 ⟨hc9.1, hc9.2.1⟩).elim
    · skip
      refine W.eq (g2 := F0 m 679 ls [.int z8]) rfl ?_
      refine lv_istore (lv' := [(6, .int z8), (5, .int 2), (0, .ref b), (1, .ref (ad 0 0)), (2, .ref (adm 10 0)), (3, .ref oa), (4, .int (nI i))]) hx hb dL_law_679 hl (by decide) rfl (fun ls hl => ?_)
      refine lv_aload_n hx hb dL_law_681 rfl (lv_at hl 4 rfl) ?_
      have hDB := lB_D hD hDm
      have hBB := lB_up (ad := ad) (oa := oa) hA0 hsz9 hW hout
      refine rh_call2 (vx_runV (As := []) (rest := []) ⟨hx, hb, hml, hown, hts⟩ (ct_X5_thrown l hDB  ) (cwV 0 hts gL_law_X5_thrown rfl rfl rfl (by decide +kernel) ⟨by decide, by decide⟩) (rh_preV2 hE hS (fun q h => h.1) hBB (hM.at 10 0 Nat.zero_lt_one) rfl hM) rfl rfl hl.1 rfl (lv_room (Nat.le_of_ble_eq_true rfl)) dL_law_682 ⟨by show cells + 5 + 0 + 0 ≤ 626516; omega, by show slots + 40 + 0 + 0 ≤ 7216556; omega⟩) hS (fun q h => h.1) (fun E ce q9 H locs hX9 hz9 hk9 hS g1 g2 g3 => hX9.elim) (fun o H locs hN9 hz9 hk9 hS => ?_)
      have hW := hW.keptB hk9
      have hout := hout.kept (hk9 _ hout.lt (fun z => z.2.2 rfl))
      have hsz9 := hS.1
      obtain ⟨rfl, hM⟩ := hN9
      refine W.eq (g2 := F0 m 685 ls [.int 2]) rfl ?_
      refine lv_iload hx hb dL_law_685 (lv_at hl 1 rfl) ?_
      refine lv_icmp_eq (tgt := 692) hx hb dL_law_687 (by decide) (fun c6 => ?_) (fun c6 => absurd c6 (by decide))
      refine lv_iload hx hb dL_law_692 (lv_at hl 1 rfl) ?_
      refine lv_if_ne (tgt := 709) hx hb dL_law_694 (by decide) (fun c7 => ?_) (fun c7 => absurd c7 (by decide))
      refine lv_goto (tgt := 1523) hx hb dL_law_709 (by decide) ?_
      exact hK _ _ _ _ _ _ _ _ _ _ _ _ ⟨rfl, rfl, hW, hM, hout, hI, hD, hDm, hAo⟩ hS (lv_sub hl [2, 3, 4, 5, 6] rfl)
set_option maxHeartbeats 8000000 in
set_option maxRecDepth 100000 in
theorem op_calls {p : Program} {l : Launch} {e : Env} {s : State} {m : MethodId} {below : List Frame} {meth : Method} {c : Code} {G : va_G} {ca : Nat → ClassId} {A0 : Nat → Prop} {b L : Nat} {xs : Nat → Int32} {h9 hm oa i : Nat} {cells slots : Nat} {Q : State → Prop} {ad adm : Nat → Nat → Nat} {nf nc : Nat} {r : rh_R} {v : rh_V} {w : rh_Wm} {th : Int32} {f : Nat → Int64} {H : Heap} {locs : List Loc} {ls : Array Slot} (C : lwC p l s m c G ca A0 b L xs) (hLS : lwS G ca A0 h9 hm oa ad adm nf nc r v w th f H) (hS : va_S A0 s.heap H locs) (hl : lv_has ls 8 [(0, .ref b), (1, .ref h9), (2, .ref hm), (3, .ref oa), (4, .int (nI i))]) (hi : i + 5 < L) (hcl : cells + 5 ≤ 626516) (hsl : slots + 40 ≤ 7216556) (hK : lwK p l e s m below meth c G ca A0 b h9 hm oa i cells slots Q) : W p l e room_1 s m #[Value.ref b] below meth c H locs cells slots Q (F0 m 712 ls []) := by
  obtain ⟨hx, hb, hml, hown, hts, hE, hnc9, hlf, hA0, hbA, hbl, hX, hLm⟩ := C
  obtain ⟨rfl, rfl, hW, hM, hout, hI, hD, hDm, hAo⟩ := hLS
  have hnf9 := hI.1.1
  have hnn9 := hI.1.2.1
  have hnow := l_now hI
  have hsz9 := hS.1
  have hl : lv_has ls 8 [(0, .ref b), (1, .ref (ad 0 0)), (2, .ref (adm 10 0)), (3, .ref oa), (4, .int (nI i))] := hl
  refine lv_aload_n hx hb dL_law_712 rfl (lv_at hl 1 rfl) ?_
  have hAA := lA_up (adm := adm) hA0 hsz9 hM
  have hAA1 : ∀ q : Nat, H.size ≤ q → rh_A1 (lA A0 adm) oa q := fun q h => ⟨hAA q h, fun z => by have := hout.lt; omega⟩
  refine rh_call2 (vx_runV (As := []) (rest := []) ⟨hx, hb, hml, hown, hts⟩ (ct_X4_calls l hD) (cwV 0 hts gL_law_X4_calls rfl rfl rfl (by decide +kernel) ⟨by decide, by decide⟩) (rh_preV2 hE hS (fun q h => h.1.1) hAA1 (hW.at 0 0 Nat.zero_lt_one) rfl hW) rfl rfl hl.1 rfl (lv_room (Nat.le_of_ble_eq_true rfl)) dL_law_713 ⟨by show cells + 0 ≤ 626516; omega, by show slots + 0 ≤ 7216556; omega⟩) hS (fun q h => h.1.1) (fun E ce q9 H locs hX9 hz9 hk9 hS g1 g2 g3 => hX9.elim) (fun o H locs hN9 hz9 hk9 hS => ?_)
  have hM := hM.keptA (fun q h1 h2 => hk9 q h1 (fun z => h2 z.1))
  have hsz9 := hS.1
  have hout := hout.kept (hk9 _ hout.lt (fun z => z.2 rfl))
  obtain ⟨rfl, hW⟩ := hN9
  refine W.eq (g2 := F0 m 716 ls [.int (v 0 0 5)]) rfl ?_
  refine lv_aload_n hx hb dL_law_716 rfl (lv_at hl 2 rfl) ?_
  skip
  have hDB := lB_D hD hDm
  have hBB := lB_up (ad := ad) (oa := oa) hA0 hsz9 hW hout
  refine rh_call2 (vx_runV (As := []) (rest := [.int (v 0 0 5)]) ⟨hx, hb, hml, hown, hts⟩ (ct_X5_calls l hDB hI.2.1.1 ) (cwV 0 hts gL_law_X5_calls rfl rfl rfl (by decide +kernel) ⟨by decide, by decide⟩) (rh_preV2 hE hS (fun q h => h.1) hBB (hM.at 10 0 Nat.zero_lt_one) rfl hM) rfl rfl hl.1 rfl (lv_room (Nat.le_of_ble_eq_true rfl)) dL_law_717 ⟨by show cells + 0 + 0 ≤ 626516; omega, by show slots + 0 + 0 ≤ 7216556; omega⟩) hS (fun q h => h.1) (fun E ce q9 H locs hX9 hz9 hk9 hS g1 g2 g3 => hX9.elim) (fun o H locs hN9 hz9 hk9 hS => ?_)
  have hW := hW.keptB hk9
  have hout := hout.kept (hk9 _ hout.lt (fun z => z.2.2 rfl))
  have hsz9 := hS.1
  obtain ⟨rfl, hM⟩ := hN9
  refine W.eq (g2 := F0 m 720 ls [.int (nI nc), .int (v 0 0 5)]) rfl ?_
  refine lv_icmp_eq (tgt := 1523) hx hb dL_law_720 (by decide) (fun c1 => ?_) (fun c1 => absurd hI.1.2.2.2.2.2.1 c1)
  · exact W.widen (by omega) (by omega) (hK _ _ _ _ _ _ _ _ _ _ _ _ ⟨rfl, rfl, hW, hM, hout, hI, hD, hDm, hAo⟩ hS (lv_sub hl [0, 1, 2, 3, 4] rfl))
set_option maxHeartbeats 8000000 in
set_option maxRecDepth 100000 in
theorem op_call {p : Program} {l : Launch} {e : Env} {s : State} {m : MethodId} {below : List Frame} {meth : Method} {c : Code} {G : va_G} {ca : Nat → ClassId} {A0 : Nat → Prop} {b L : Nat} {xs : Nat → Int32} {h9 hm oa i : Nat} {cells slots : Nat} {Q : State → Prop} {ad adm : Nat → Nat → Nat} {nf nc : Nat} {r : rh_R} {v : rh_V} {w : rh_Wm} {th : Int32} {f : Nat → Int64} {H : Heap} {locs : List Loc} {ls : Array Slot} (C : lwC p l s m c G ca A0 b L xs) (hLS : lwS G ca A0 h9 hm oa ad adm nf nc r v w th f H) (hS : va_S A0 s.heap H locs) (hl : lv_has ls 8 [(0, .ref b), (1, .ref h9), (2, .ref hm), (3, .ref oa), (4, .int (nI i))]) (hi : i + 5 < L) (hcl : cells + 5 ≤ 626516) (hsl : slots + 40 ≤ 7216556) (hK : lwK p l e s m below meth c G ca A0 b h9 hm oa i cells slots Q) : W p l e room_1 s m #[Value.ref b] below meth c H locs cells slots Q (F0 m 725 ls []) := by
  obtain ⟨hx, hb, hml, hown, hts, hE, hnc9, hlf, hA0, hbA, hbl, hX, hLm⟩ := C
  obtain ⟨rfl, rfl, hW, hM, hout, hI, hD, hDm, hAo⟩ := hLS
  have hnf9 := hI.1.1
  have hnn9 := hI.1.2.1
  have hnow := l_now hI
  have hsz9 := hS.1
  have hl : lv_has ls 8 [(0, .ref b), (1, .ref (ad 0 0)), (2, .ref (adm 10 0)), (3, .ref oa), (4, .int (nI i))] := hl
  refine lv_aload_n hx hb dL_law_725 rfl (lv_at hl 1 rfl) ?_
  refine lv_aload_n hx hb dL_law_726 rfl (lv_at hl 0 rfl) ?_
  refine lv_iload hx hb dL_law_727 (lv_at hl 4 rfl) ?_
  refine lv_iconst (v := 1) hx hb dL_law_729 (by decide) ?_
  refine lv_iadd hx hb dL_law_730 ?_
  refine l_sld hx hb hX hbl hbA hS hLm (i + 1) (by omega) (nI_add i 1) dL_law_731 ?_
  refine lv_aload_n hx hb dL_law_732 rfl (lv_at hl 3 rfl) ?_
  have hAA := lA_up (adm := adm) hA0 hsz9 hM
  refine rh_call2 (vx_runSX (As := [.ref (ad 0 0), .int (xs (i + 1)), .ref oa]) (rest := []) ⟨hx, hb, hml, hown, hts⟩ (hl_call l hlf (l_Ao hM hout hDm hAo) hD hI.1 (xs (i + 1))) (vx_cwSW 3 hts gL_law_L_call rfl rfl rfl (by decide +kernel) ⟨by decide, by decide⟩) (rh_prel hE hnc9 hS (fun q h => h.1) hAA ⟨hW, hout⟩) rfl rfl hl.1 rfl (lv_room (Nat.le_of_ble_eq_true rfl)) dL_law_733 ⟨by show cells + 5 ≤ 626516; omega, by show slots + 40 ≤ 7216556; omega⟩) hS (fun q h => h.1) (fun E ce q9 H locs hX9 hz9 hk9 hS g1 g2 g3 => hX9.elim) (fun o H locs hN9 hz9 hk9 hS => ?_)
  have hM := hM.keptA hk9
  have hsz9 := hS.1
  rcases hN9 with ⟨i9, hc0, hc1, rfl, ⟨f8, hf8, hout⟩, hW⟩ | ⟨hc9, rfl, ⟨f8, hout⟩, hW⟩
  · refine W.eq (g2 := F0 m 736 ls [.int 0]) rfl ?_
    refine lv_istore (lv' := [(5, .int 0), (0, .ref b), (1, .ref (ad 0 0)), (2, .ref (adm 10 0)), (3, .ref oa), (4, .int (nI i))]) hx hb dL_law_736 hl (by decide) rfl (fun ls hl => ?_)
    refine lv_aload_n hx hb dL_law_738 rfl (lv_at hl 3 rfl) ?_
    refine lv_aload_n hx hb dL_law_739 rfl (lv_at hl 1 rfl) ?_
    refine lv_iload hx hb dL_law_740 (lv_at hl 5 rfl) ?_
    refine lv_iconst (v := 1) hx hb dL_law_742 (by decide) ?_
    refine lv_iadd hx hb dL_law_743 ?_
    refine l_sld hx hb hX hbl hbA hS hLm (i + 1) (by omega) (nI_add i 1) dL_law_744 ?_
    have hDB := lB_D hD hDm
    have hBB := lB_up (ad := ad) (oa := oa) hA0 hsz9 hW hout
    refine rh_call2 (vx_runV (As := [.int (xs (i + 1))]) (rest := []) ⟨hx, hb, hml, hown, hts⟩ (ct_X5_call l hDB hI.2.1.1 (xs (i + 1))) (cwV 1 hts gL_law_X5_call rfl rfl rfl (by decide +kernel) ⟨by decide, by decide⟩) (rh_preV2 hE hS (fun q h => h.1) hBB (hM.at 10 0 Nat.zero_lt_one) rfl hM) rfl rfl hl.1 rfl (lv_room (Nat.le_of_ble_eq_true rfl)) dL_law_745 ⟨by show cells + 5 + 0 ≤ 626516; omega, by show slots + 40 + 0 ≤ 7216556; omega⟩) hS (fun q h => h.1) (fun E ce q9 H locs hX9 hz9 hk9 hS g1 g2 g3 => hX9.elim) (fun o H locs hN9 hz9 hk9 hS => ?_)
    have hW := hW.keptB hk9
    have hout := hout.kept (hk9 _ hout.lt (fun z => z.2.2 rfl))
    have hsz9 := hS.1
    rcases hN9 with ⟨i8, hd0, hd1, rfl, hM⟩ | ⟨hd0, ⟨z8, rfl⟩, hM⟩
    · obtain rfl : i9 = i8 := m_inj (by omega) (by omega) (hc1.symm.trans hd1)
      refine W.eq (g2 := F0 m 748 ls [.int (w 13 i9)]) rfl ?_
      refine lv_istore (lv' := [(6, .int (w 13 i9)), (5, .int 0), (0, .ref b), (1, .ref (ad 0 0)), (2, .ref (adm 10 0)), (3, .ref oa), (4, .int (nI i))]) hx hb dL_law_748 hl (by decide) rfl (fun ls hl => ?_)
      refine lv_aload_n hx hb dL_law_750 rfl (lv_at hl 4 rfl) ?_
      have hDB := lB_D hD hDm
      have hBB := lB_up (ad := ad) (oa := oa) hA0 hsz9 hW hout
      refine rh_call2 (vx_runV (As := []) (rest := []) ⟨hx, hb, hml, hown, hts⟩ (ct_X5_thrown l hDB  ) (cwV 0 hts gL_law_X5_thrown rfl rfl rfl (by decide +kernel) ⟨by decide, by decide⟩) (rh_preV2 hE hS (fun q h => h.1) hBB (hM.at 10 0 Nat.zero_lt_one) rfl hM) rfl rfl hl.1 rfl (lv_room (Nat.le_of_ble_eq_true rfl)) dL_law_751 ⟨by show cells + 5 + 0 + 0 ≤ 626516; omega, by show slots + 40 + 0 + 0 ≤ 7216556; omega⟩) hS (fun q h => h.1) (fun E ce q9 H locs hX9 hz9 hk9 hS g1 g2 g3 => hX9.elim) (fun o H locs hN9 hz9 hk9 hS => ?_)
      have hW := hW.keptB hk9
      have hout := hout.kept (hk9 _ hout.lt (fun z => z.2.2 rfl))
      have hsz9 := hS.1
      obtain ⟨rfl, hM⟩ := hN9
      refine W.eq (g2 := F0 m 754 ls [.int 0]) rfl ?_
      refine lv_iload hx hb dL_law_754 (lv_at hl 1 rfl) ?_
      refine lv_icmp_eq (tgt := 761) hx hb dL_law_756 (by decide) (fun c1 => ?_) (fun c1 => absurd c1 (by decide))
      refine lv_iload hx hb dL_law_761 (lv_at hl 1 rfl) ?_
      refine lv_if_ne (tgt := 778) hx hb dL_law_763 (by decide) (fun c2 => absurd c2 (by decide)) (fun c2 => ?_)
      refine lv_aload_n hx hb dL_law_766 rfl (lv_at hl 5 rfl) ?_
      refine lv_iconst (v := 0) hx hb dL_law_767 (by decide) ?_
      refine rh_lald (n := 1) (f := f8) hx hb hE hout 0 (by decide) (by decide) rfl dL_law_768 ?_
      have hval : f8 0 = ((w 13 i9)).toInt64 := by rw [hf8, (hI.2.2.2.2.2.1 _ hc0).2.2.1]
      refine lv_iload hx hb dL_law_769 (lv_at hl 0 rfl) ?_
      refine lv_i2l hx hb dL_law_771 rfl ?_
      refine W.lcmp hx hb dL_law_772 ?_
      refine lv_if_eq (tgt := 778) hx hb dL_law_773 (by decide) (fun c3 => ?_) (fun c3 => (c3 ((lg_cmp_eq _ _).mpr hval)).elim)
      · refine lv_goto (tgt := 1523) hx hb dL_law_778 (by decide) ?_
        exact hK _ _ _ _ _ _ _ _ _ _ _ _ ⟨rfl, rfl, hW, hM, hout, hI, hD, hDm, hAo⟩ hS (lv_sub hl [2, 3, 4, 5, 6] rfl)
    · exfalso
      exact (hd0 (l_ix (by omega) hc0 hc1)).elim
  · refine W.eq (g2 := F0 m 736 ls [.int 1]) rfl ?_
    refine lv_istore (lv' := [(5, .int 1), (0, .ref b), (1, .ref (ad 0 0)), (2, .ref (adm 10 0)), (3, .ref oa), (4, .int (nI i))]) hx hb dL_law_736 hl (by decide) rfl (fun ls hl => ?_)
    refine lv_aload_n hx hb dL_law_738 rfl (lv_at hl 3 rfl) ?_
    refine lv_aload_n hx hb dL_law_739 rfl (lv_at hl 1 rfl) ?_
    refine lv_iload hx hb dL_law_740 (lv_at hl 5 rfl) ?_
    refine lv_iconst (v := 1) hx hb dL_law_742 (by decide) ?_
    refine lv_iadd hx hb dL_law_743 ?_
    refine l_sld hx hb hX hbl hbA hS hLm (i + 1) (by omega) (nI_add i 1) dL_law_744 ?_
    have hDB := lB_D hD hDm
    have hBB := lB_up (ad := ad) (oa := oa) hA0 hsz9 hW hout
    refine rh_call2 (vx_runV (As := [.int (xs (i + 1))]) (rest := []) ⟨hx, hb, hml, hown, hts⟩ (ct_X5_call l hDB hI.2.1.1 (xs (i + 1))) (cwV 1 hts gL_law_X5_call rfl rfl rfl (by decide +kernel) ⟨by decide, by decide⟩) (rh_preV2 hE hS (fun q h => h.1) hBB (hM.at 10 0 Nat.zero_lt_one) rfl hM) rfl rfl hl.1 rfl (lv_room (Nat.le_of_ble_eq_true rfl)) dL_law_745 ⟨by show cells + 5 + 0 ≤ 626516; omega, by show slots + 40 + 0 ≤ 7216556; omega⟩) hS (fun q h => h.1) (fun E ce q9 H locs hX9 hz9 hk9 hS g1 g2 g3 => hX9.elim) (fun o H locs hN9 hz9 hk9 hS => ?_)
    have hW := hW.keptB hk9
    have hout := hout.kept (hk9 _ hout.lt (fun z => z.2.2 rfl))
    have hsz9 := hS.1
    rcases hN9 with ⟨i8, hd0, hd1, rfl, hM⟩ | ⟨hd0, ⟨z8, rfl⟩, hM⟩
    · exfalso
      exact absurd (l_ix (by omega) hd0 hd1) hc9
    · skip
      refine W.eq (g2 := F0 m 748 ls [.int z8]) rfl ?_
      refine lv_istore (lv' := [(6, .int z8), (5, .int 1), (0, .ref b), (1, .ref (ad 0 0)), (2, .ref (adm 10 0)), (3, .ref oa), (4, .int (nI i))]) hx hb dL_law_748 hl (by decide) rfl (fun ls hl => ?_)
      refine lv_aload_n hx hb dL_law_750 rfl (lv_at hl 4 rfl) ?_
      have hDB := lB_D hD hDm
      have hBB := lB_up (ad := ad) (oa := oa) hA0 hsz9 hW hout
      refine rh_call2 (vx_runV (As := []) (rest := []) ⟨hx, hb, hml, hown, hts⟩ (ct_X5_thrown l hDB  ) (cwV 0 hts gL_law_X5_thrown rfl rfl rfl (by decide +kernel) ⟨by decide, by decide⟩) (rh_preV2 hE hS (fun q h => h.1) hBB (hM.at 10 0 Nat.zero_lt_one) rfl hM) rfl rfl hl.1 rfl (lv_room (Nat.le_of_ble_eq_true rfl)) dL_law_751 ⟨by show cells + 5 + 0 + 0 ≤ 626516; omega, by show slots + 40 + 0 + 0 ≤ 7216556; omega⟩) hS (fun q h => h.1) (fun E ce q9 H locs hX9 hz9 hk9 hS g1 g2 g3 => hX9.elim) (fun o H locs hN9 hz9 hk9 hS => ?_)
      have hW := hW.keptB hk9
      have hout := hout.kept (hk9 _ hout.lt (fun z => z.2.2 rfl))
      have hsz9 := hS.1
      obtain ⟨rfl, hM⟩ := hN9
      refine W.eq (g2 := F0 m 754 ls [.int 1]) rfl ?_
      refine lv_iload hx hb dL_law_754 (lv_at hl 1 rfl) ?_
      refine lv_icmp_eq (tgt := 761) hx hb dL_law_756 (by decide) (fun c4 => ?_) (fun c4 => absurd c4 (by decide))
      refine lv_iload hx hb dL_law_761 (lv_at hl 1 rfl) ?_
      refine lv_if_ne (tgt := 778) hx hb dL_law_763 (by decide) (fun c5 => ?_) (fun c5 => absurd c5 (by decide))
      refine lv_goto (tgt := 1523) hx hb dL_law_778 (by decide) ?_
      exact hK _ _ _ _ _ _ _ _ _ _ _ _ ⟨rfl, rfl, hW, hM, hout, hI, hD, hDm, hAo⟩ hS (lv_sub hl [2, 3, 4, 5, 6] rfl)
set_option maxHeartbeats 8000000 in
set_option maxRecDepth 100000 in
theorem op_monthOf {p : Program} {l : Launch} {e : Env} {s : State} {m : MethodId} {below : List Frame} {meth : Method} {c : Code} {G : va_G} {ca : Nat → ClassId} {A0 : Nat → Prop} {b L : Nat} {xs : Nat → Int32} {h9 hm oa i : Nat} {cells slots : Nat} {Q : State → Prop} {ad adm : Nat → Nat → Nat} {nf nc : Nat} {r : rh_R} {v : rh_V} {w : rh_Wm} {th : Int32} {f : Nat → Int64} {H : Heap} {locs : List Loc} {ls : Array Slot} (C : lwC p l s m c G ca A0 b L xs) (hLS : lwS G ca A0 h9 hm oa ad adm nf nc r v w th f H) (hS : va_S A0 s.heap H locs) (hl : lv_has ls 8 [(0, .ref b), (1, .ref h9), (2, .ref hm), (3, .ref oa), (4, .int (nI i))]) (hi : i + 5 < L) (hcl : cells + 5 ≤ 626516) (hsl : slots + 40 ≤ 7216556) (hK : lwK p l e s m below meth c G ca A0 b h9 hm oa i cells slots Q) : W p l e room_1 s m #[Value.ref b] below meth c H locs cells slots Q (F0 m 781 ls []) := by
  obtain ⟨hx, hb, hml, hown, hts, hE, hnc9, hlf, hA0, hbA, hbl, hX, hLm⟩ := C
  obtain ⟨rfl, rfl, hW, hM, hout, hI, hD, hDm, hAo⟩ := hLS
  have hnf9 := hI.1.1
  have hnn9 := hI.1.2.1
  have hnow := l_now hI
  have hsz9 := hS.1
  have hl : lv_has ls 8 [(0, .ref b), (1, .ref (ad 0 0)), (2, .ref (adm 10 0)), (3, .ref oa), (4, .int (nI i))] := hl
  refine lv_aload_n hx hb dL_law_781 rfl (lv_at hl 1 rfl) ?_
  refine lv_aload_n hx hb dL_law_782 rfl (lv_at hl 0 rfl) ?_
  refine lv_iload hx hb dL_law_783 (lv_at hl 4 rfl) ?_
  refine lv_iconst (v := 1) hx hb dL_law_785 (by decide) ?_
  refine lv_iadd hx hb dL_law_786 ?_
  refine l_sld hx hb hX hbl hbA hS hLm (i + 1) (by omega) (nI_add i 1) dL_law_787 ?_
  refine lv_aload_n hx hb dL_law_788 rfl (lv_at hl 3 rfl) ?_
  have hAA := lA_up (adm := adm) hA0 hsz9 hM
  refine rh_call2 (vx_runSX (As := [.ref (ad 0 0), .int (xs (i + 1)), .ref oa]) (rest := []) ⟨hx, hb, hml, hown, hts⟩ (hl_monthOf l hlf (l_Ao hM hout hDm hAo) hD hI.1 (xs (i + 1))) (vx_cwSW 3 hts gL_law_L_monthOf rfl rfl rfl (by decide +kernel) ⟨by decide, by decide⟩) (rh_prel hE hnc9 hS (fun q h => h.1) hAA ⟨hW, hout⟩) rfl rfl hl.1 rfl (lv_room (Nat.le_of_ble_eq_true rfl)) dL_law_789 ⟨by show cells + 5 ≤ 626516; omega, by show slots + 40 ≤ 7216556; omega⟩) hS (fun q h => h.1) (fun E ce q9 H locs hX9 hz9 hk9 hS g1 g2 g3 => hX9.elim) (fun o H locs hN9 hz9 hk9 hS => ?_)
  have hM := hM.keptA hk9
  have hsz9 := hS.1
  rcases hN9 with ⟨i9, hc0, hc1, rfl, ⟨f8, hf8, hout⟩, hW⟩ | ⟨hc9, rfl, ⟨f8, hout⟩, hW⟩
  · refine W.eq (g2 := F0 m 792 ls [.int 0]) rfl ?_
    refine lv_istore (lv' := [(5, .int 0), (0, .ref b), (1, .ref (ad 0 0)), (2, .ref (adm 10 0)), (3, .ref oa), (4, .int (nI i))]) hx hb dL_law_792 hl (by decide) rfl (fun ls hl => ?_)
    refine lv_aload_n hx hb dL_law_794 rfl (lv_at hl 3 rfl) ?_
    refine lv_aload_n hx hb dL_law_795 rfl (lv_at hl 1 rfl) ?_
    refine lv_iload hx hb dL_law_796 (lv_at hl 5 rfl) ?_
    refine lv_iconst (v := 1) hx hb dL_law_798 (by decide) ?_
    refine lv_iadd hx hb dL_law_799 ?_
    refine l_sld hx hb hX hbl hbA hS hLm (i + 1) (by omega) (nI_add i 1) dL_law_800 ?_
    have hDB := lB_D hD hDm
    have hBB := lB_up (ad := ad) (oa := oa) hA0 hsz9 hW hout
    refine rh_call2 (vx_runV (As := [.int (xs (i + 1))]) (rest := []) ⟨hx, hb, hml, hown, hts⟩ (ct_X5_monthOf l hDB hI.2.1.1 (xs (i + 1))) (cwV 1 hts gL_law_X5_monthOf rfl rfl rfl (by decide +kernel) ⟨by decide, by decide⟩) (rh_preV2 hE hS (fun q h => h.1) hBB (hM.at 10 0 Nat.zero_lt_one) rfl hM) rfl rfl hl.1 rfl (lv_room (Nat.le_of_ble_eq_true rfl)) dL_law_801 ⟨by show cells + 5 + 0 ≤ 626516; omega, by show slots + 40 + 0 ≤ 7216556; omega⟩) hS (fun q h => h.1) (fun E ce q9 H locs hX9 hz9 hk9 hS g1 g2 g3 => hX9.elim) (fun o H locs hN9 hz9 hk9 hS => ?_)
    have hW := hW.keptB hk9
    have hout := hout.kept (hk9 _ hout.lt (fun z => z.2.2 rfl))
    have hsz9 := hS.1
    rcases hN9 with ⟨i8, hd0, hd1, rfl, hM⟩ | ⟨hd0, ⟨z8, rfl⟩, hM⟩
    · obtain rfl : i9 = i8 := m_inj (by omega) (by omega) (hc1.symm.trans hd1)
      refine W.eq (g2 := F0 m 804 ls [.int (if w 13 i9 = 0 then (-1) else w 14 i9)]) rfl ?_
      refine lv_istore (lv' := [(6, .int (if w 13 i9 = 0 then (-1) else w 14 i9)), (5, .int 0), (0, .ref b), (1, .ref (ad 0 0)), (2, .ref (adm 10 0)), (3, .ref oa), (4, .int (nI i))]) hx hb dL_law_804 hl (by decide) rfl (fun ls hl => ?_)
      refine lv_aload_n hx hb dL_law_806 rfl (lv_at hl 4 rfl) ?_
      have hDB := lB_D hD hDm
      have hBB := lB_up (ad := ad) (oa := oa) hA0 hsz9 hW hout
      refine rh_call2 (vx_runV (As := []) (rest := []) ⟨hx, hb, hml, hown, hts⟩ (ct_X5_thrown l hDB  ) (cwV 0 hts gL_law_X5_thrown rfl rfl rfl (by decide +kernel) ⟨by decide, by decide⟩) (rh_preV2 hE hS (fun q h => h.1) hBB (hM.at 10 0 Nat.zero_lt_one) rfl hM) rfl rfl hl.1 rfl (lv_room (Nat.le_of_ble_eq_true rfl)) dL_law_807 ⟨by show cells + 5 + 0 + 0 ≤ 626516; omega, by show slots + 40 + 0 + 0 ≤ 7216556; omega⟩) hS (fun q h => h.1) (fun E ce q9 H locs hX9 hz9 hk9 hS g1 g2 g3 => hX9.elim) (fun o H locs hN9 hz9 hk9 hS => ?_)
      have hW := hW.keptB hk9
      have hout := hout.kept (hk9 _ hout.lt (fun z => z.2.2 rfl))
      have hsz9 := hS.1
      obtain ⟨rfl, hM⟩ := hN9
      refine W.eq (g2 := F0 m 810 ls [.int 0]) rfl ?_
      refine lv_iload hx hb dL_law_810 (lv_at hl 1 rfl) ?_
      refine lv_icmp_eq (tgt := 817) hx hb dL_law_812 (by decide) (fun c1 => ?_) (fun c1 => absurd c1 (by decide))
      refine lv_iload hx hb dL_law_817 (lv_at hl 1 rfl) ?_
      refine lv_if_ne (tgt := 834) hx hb dL_law_819 (by decide) (fun c2 => absurd c2 (by decide)) (fun c2 => ?_)
      refine lv_aload_n hx hb dL_law_822 rfl (lv_at hl 5 rfl) ?_
      refine lv_iconst (v := 0) hx hb dL_law_823 (by decide) ?_
      refine rh_lald (n := 1) (f := f8) hx hb hE hout 0 (by decide) (by decide) rfl dL_law_824 ?_
      have hval : f8 0 = ((if w 13 i9 = 0 then (-1) else w 14 i9)).toInt64 := by rw [hf8, l_month hI hc0]
      refine lv_iload hx hb dL_law_825 (lv_at hl 0 rfl) ?_
      refine lv_i2l hx hb dL_law_827 rfl ?_
      refine W.lcmp hx hb dL_law_828 ?_
      refine lv_if_eq (tgt := 834) hx hb dL_law_829 (by decide) (fun c3 => ?_) (fun c3 => (c3 ((lg_cmp_eq _ _).mpr hval)).elim)
      · refine lv_goto (tgt := 1523) hx hb dL_law_834 (by decide) ?_
        exact hK _ _ _ _ _ _ _ _ _ _ _ _ ⟨rfl, rfl, hW, hM, hout, hI, hD, hDm, hAo⟩ hS (lv_sub hl [2, 3, 4, 5, 6] rfl)
    · exfalso
      exact (hd0 (l_ix (by omega) hc0 hc1)).elim
  · refine W.eq (g2 := F0 m 792 ls [.int 1]) rfl ?_
    refine lv_istore (lv' := [(5, .int 1), (0, .ref b), (1, .ref (ad 0 0)), (2, .ref (adm 10 0)), (3, .ref oa), (4, .int (nI i))]) hx hb dL_law_792 hl (by decide) rfl (fun ls hl => ?_)
    refine lv_aload_n hx hb dL_law_794 rfl (lv_at hl 3 rfl) ?_
    refine lv_aload_n hx hb dL_law_795 rfl (lv_at hl 1 rfl) ?_
    refine lv_iload hx hb dL_law_796 (lv_at hl 5 rfl) ?_
    refine lv_iconst (v := 1) hx hb dL_law_798 (by decide) ?_
    refine lv_iadd hx hb dL_law_799 ?_
    refine l_sld hx hb hX hbl hbA hS hLm (i + 1) (by omega) (nI_add i 1) dL_law_800 ?_
    have hDB := lB_D hD hDm
    have hBB := lB_up (ad := ad) (oa := oa) hA0 hsz9 hW hout
    refine rh_call2 (vx_runV (As := [.int (xs (i + 1))]) (rest := []) ⟨hx, hb, hml, hown, hts⟩ (ct_X5_monthOf l hDB hI.2.1.1 (xs (i + 1))) (cwV 1 hts gL_law_X5_monthOf rfl rfl rfl (by decide +kernel) ⟨by decide, by decide⟩) (rh_preV2 hE hS (fun q h => h.1) hBB (hM.at 10 0 Nat.zero_lt_one) rfl hM) rfl rfl hl.1 rfl (lv_room (Nat.le_of_ble_eq_true rfl)) dL_law_801 ⟨by show cells + 5 + 0 ≤ 626516; omega, by show slots + 40 + 0 ≤ 7216556; omega⟩) hS (fun q h => h.1) (fun E ce q9 H locs hX9 hz9 hk9 hS g1 g2 g3 => hX9.elim) (fun o H locs hN9 hz9 hk9 hS => ?_)
    have hW := hW.keptB hk9
    have hout := hout.kept (hk9 _ hout.lt (fun z => z.2.2 rfl))
    have hsz9 := hS.1
    rcases hN9 with ⟨i8, hd0, hd1, rfl, hM⟩ | ⟨hd0, ⟨z8, rfl⟩, hM⟩
    · exfalso
      exact absurd (l_ix (by omega) hd0 hd1) hc9
    · skip
      refine W.eq (g2 := F0 m 804 ls [.int z8]) rfl ?_
      refine lv_istore (lv' := [(6, .int z8), (5, .int 1), (0, .ref b), (1, .ref (ad 0 0)), (2, .ref (adm 10 0)), (3, .ref oa), (4, .int (nI i))]) hx hb dL_law_804 hl (by decide) rfl (fun ls hl => ?_)
      refine lv_aload_n hx hb dL_law_806 rfl (lv_at hl 4 rfl) ?_
      have hDB := lB_D hD hDm
      have hBB := lB_up (ad := ad) (oa := oa) hA0 hsz9 hW hout
      refine rh_call2 (vx_runV (As := []) (rest := []) ⟨hx, hb, hml, hown, hts⟩ (ct_X5_thrown l hDB  ) (cwV 0 hts gL_law_X5_thrown rfl rfl rfl (by decide +kernel) ⟨by decide, by decide⟩) (rh_preV2 hE hS (fun q h => h.1) hBB (hM.at 10 0 Nat.zero_lt_one) rfl hM) rfl rfl hl.1 rfl (lv_room (Nat.le_of_ble_eq_true rfl)) dL_law_807 ⟨by show cells + 5 + 0 + 0 ≤ 626516; omega, by show slots + 40 + 0 + 0 ≤ 7216556; omega⟩) hS (fun q h => h.1) (fun E ce q9 H locs hX9 hz9 hk9 hS g1 g2 g3 => hX9.elim) (fun o H locs hN9 hz9 hk9 hS => ?_)
      have hW := hW.keptB hk9
      have hout := hout.kept (hk9 _ hout.lt (fun z => z.2.2 rfl))
      have hsz9 := hS.1
      obtain ⟨rfl, hM⟩ := hN9
      refine W.eq (g2 := F0 m 810 ls [.int 1]) rfl ?_
      refine lv_iload hx hb dL_law_810 (lv_at hl 1 rfl) ?_
      refine lv_icmp_eq (tgt := 817) hx hb dL_law_812 (by decide) (fun c4 => ?_) (fun c4 => absurd c4 (by decide))
      refine lv_iload hx hb dL_law_817 (lv_at hl 1 rfl) ?_
      refine lv_if_ne (tgt := 834) hx hb dL_law_819 (by decide) (fun c5 => ?_) (fun c5 => absurd c5 (by decide))
      refine lv_goto (tgt := 1523) hx hb dL_law_834 (by decide) ?_
      exact hK _ _ _ _ _ _ _ _ _ _ _ _ ⟨rfl, rfl, hW, hM, hout, hI, hD, hDm, hAo⟩ hS (lv_sub hl [2, 3, 4, 5, 6] rfl)
set_option maxHeartbeats 8000000 in
set_option maxRecDepth 100000 in
theorem op_owedFor {p : Program} {l : Launch} {e : Env} {s : State} {m : MethodId} {below : List Frame} {meth : Method} {c : Code} {G : va_G} {ca : Nat → ClassId} {A0 : Nat → Prop} {b L : Nat} {xs : Nat → Int32} {h9 hm oa i : Nat} {cells slots : Nat} {Q : State → Prop} {ad adm : Nat → Nat → Nat} {nf nc : Nat} {r : rh_R} {v : rh_V} {w : rh_Wm} {th : Int32} {f : Nat → Int64} {H : Heap} {locs : List Loc} {ls : Array Slot} (C : lwC p l s m c G ca A0 b L xs) (hLS : lwS G ca A0 h9 hm oa ad adm nf nc r v w th f H) (hS : va_S A0 s.heap H locs) (hl : lv_has ls 8 [(0, .ref b), (1, .ref h9), (2, .ref hm), (3, .ref oa), (4, .int (nI i))]) (hi : i + 5 < L) (hcl : cells + 5 ≤ 626516) (hsl : slots + 40 ≤ 7216556) (hK : lwK p l e s m below meth c G ca A0 b h9 hm oa i cells slots Q) : W p l e room_1 s m #[Value.ref b] below meth c H locs cells slots Q (F0 m 837 ls []) := by
  obtain ⟨hx, hb, hml, hown, hts, hE, hnc9, hlf, hA0, hbA, hbl, hX, hLm⟩ := C
  obtain ⟨rfl, rfl, hW, hM, hout, hI, hD, hDm, hAo⟩ := hLS
  have hnf9 := hI.1.1
  have hnn9 := hI.1.2.1
  have hnow := l_now hI
  have hsz9 := hS.1
  have hl : lv_has ls 8 [(0, .ref b), (1, .ref (ad 0 0)), (2, .ref (adm 10 0)), (3, .ref oa), (4, .int (nI i))] := hl
  refine lv_aload_n hx hb dL_law_837 rfl (lv_at hl 1 rfl) ?_
  refine lv_aload_n hx hb dL_law_838 rfl (lv_at hl 0 rfl) ?_
  refine lv_iload hx hb dL_law_839 (lv_at hl 4 rfl) ?_
  refine lv_iconst (v := 1) hx hb dL_law_841 (by decide) ?_
  refine lv_iadd hx hb dL_law_842 ?_
  refine l_sld hx hb hX hbl hbA hS hLm (i + 1) (by omega) (nI_add i 1) dL_law_843 ?_
  refine lv_aload_n hx hb dL_law_844 rfl (lv_at hl 3 rfl) ?_
  have hAA := lA_up (adm := adm) hA0 hsz9 hM
  refine rh_call2 (vx_runSX (As := [.ref (ad 0 0), .int (xs (i + 1)), .ref oa]) (rest := []) ⟨hx, hb, hml, hown, hts⟩ (hl_owedFor l hlf (l_Ao hM hout hDm hAo) hD hI.1 (xs (i + 1))) (vx_cwSW 3 hts gL_law_L_owedFor rfl rfl rfl (by decide +kernel) ⟨by decide, by decide⟩) (rh_prel hE hnc9 hS (fun q h => h.1) hAA ⟨hW, hout⟩) rfl rfl hl.1 rfl (lv_room (Nat.le_of_ble_eq_true rfl)) dL_law_845 ⟨by show cells + 5 ≤ 626516; omega, by show slots + 40 ≤ 7216556; omega⟩) hS (fun q h => h.1) (fun E ce q9 H locs hX9 hz9 hk9 hS g1 g2 g3 => hX9.elim) (fun o H locs hN9 hz9 hk9 hS => ?_)
  have hM := hM.keptA hk9
  have hsz9 := hS.1
  rcases hN9 with ⟨i9, hc0, hc1, rfl, ⟨f8, hf8, hout⟩, hW⟩ | ⟨hc9, rfl, ⟨f8, hout⟩, hW⟩
  · refine W.eq (g2 := F0 m 848 ls [.int 0]) rfl ?_
    refine lv_istore (lv' := [(5, .int 0), (0, .ref b), (1, .ref (ad 0 0)), (2, .ref (adm 10 0)), (3, .ref oa), (4, .int (nI i))]) hx hb dL_law_848 hl (by decide) rfl (fun ls hl => ?_)
    refine lv_aload_n hx hb dL_law_850 rfl (lv_at hl 3 rfl) ?_
    refine lv_aload_n hx hb dL_law_851 rfl (lv_at hl 1 rfl) ?_
    refine lv_iload hx hb dL_law_852 (lv_at hl 5 rfl) ?_
    refine lv_iconst (v := 1) hx hb dL_law_854 (by decide) ?_
    refine lv_iadd hx hb dL_law_855 ?_
    refine l_sld hx hb hX hbl hbA hS hLm (i + 1) (by omega) (nI_add i 1) dL_law_856 ?_
    have hDB := lB_D hD hDm
    have hBB := lB_up (ad := ad) (oa := oa) hA0 hsz9 hW hout
    refine rh_call2 (vx_runV (As := [.int (xs (i + 1))]) (rest := []) ⟨hx, hb, hml, hown, hts⟩ (ct_X5_owedFor l hDB hI.2.1 (xs (i + 1))) (cwV 1 hts gL_law_X5_owedFor rfl rfl rfl (by decide +kernel) ⟨by decide, by decide⟩) (rh_preV2 hE hS (fun q h => h.1) hBB (hM.at 10 0 Nat.zero_lt_one) rfl hM) rfl rfl hl.1 rfl (lv_room (Nat.le_of_ble_eq_true rfl)) dL_law_857 ⟨by show cells + 5 + 0 ≤ 626516; omega, by show slots + 40 + 0 ≤ 7216556; omega⟩) hS (fun q h => h.1) (fun E ce q9 H locs hX9 hz9 hk9 hS g1 g2 g3 => hX9.elim) (fun o H locs hN9 hz9 hk9 hS => ?_)
    have hW := hW.keptB hk9
    have hout := hout.kept (hk9 _ hout.lt (fun z => z.2.2 rfl))
    have hsz9 := hS.1
    rcases hN9 with ⟨i8, hd0, hd1, rfl, hM⟩ | ⟨hd0, ⟨z8, rfl⟩, hM⟩
    · obtain rfl : i9 = i8 := m_inj (by omega) (by omega) (hc1.symm.trans hd1)
      refine W.eq (g2 := F0 m 860 ls [.int (m_amt r w i9)]) rfl ?_
      refine lv_istore (lv' := [(6, .int (m_amt r w i9)), (5, .int 0), (0, .ref b), (1, .ref (ad 0 0)), (2, .ref (adm 10 0)), (3, .ref oa), (4, .int (nI i))]) hx hb dL_law_860 hl (by decide) rfl (fun ls hl => ?_)
      refine lv_aload_n hx hb dL_law_862 rfl (lv_at hl 4 rfl) ?_
      have hDB := lB_D hD hDm
      have hBB := lB_up (ad := ad) (oa := oa) hA0 hsz9 hW hout
      refine rh_call2 (vx_runV (As := []) (rest := []) ⟨hx, hb, hml, hown, hts⟩ (ct_X5_thrown l hDB  ) (cwV 0 hts gL_law_X5_thrown rfl rfl rfl (by decide +kernel) ⟨by decide, by decide⟩) (rh_preV2 hE hS (fun q h => h.1) hBB (hM.at 10 0 Nat.zero_lt_one) rfl hM) rfl rfl hl.1 rfl (lv_room (Nat.le_of_ble_eq_true rfl)) dL_law_863 ⟨by show cells + 5 + 0 + 0 ≤ 626516; omega, by show slots + 40 + 0 + 0 ≤ 7216556; omega⟩) hS (fun q h => h.1) (fun E ce q9 H locs hX9 hz9 hk9 hS g1 g2 g3 => hX9.elim) (fun o H locs hN9 hz9 hk9 hS => ?_)
      have hW := hW.keptB hk9
      have hout := hout.kept (hk9 _ hout.lt (fun z => z.2.2 rfl))
      have hsz9 := hS.1
      obtain ⟨rfl, hM⟩ := hN9
      refine W.eq (g2 := F0 m 866 ls [.int 0]) rfl ?_
      refine lv_iload hx hb dL_law_866 (lv_at hl 1 rfl) ?_
      refine lv_icmp_eq (tgt := 873) hx hb dL_law_868 (by decide) (fun c1 => ?_) (fun c1 => absurd c1 (by decide))
      refine lv_iload hx hb dL_law_873 (lv_at hl 1 rfl) ?_
      refine lv_if_ne (tgt := 890) hx hb dL_law_875 (by decide) (fun c2 => absurd c2 (by decide)) (fun c2 => ?_)
      refine lv_aload_n hx hb dL_law_878 rfl (lv_at hl 5 rfl) ?_
      refine lv_iconst (v := 0) hx hb dL_law_879 (by decide) ?_
      refine rh_lald (n := 1) (f := f8) hx hb hE hout 0 (by decide) (by decide) rfl dL_law_880 ?_
      have hval : f8 0 = ((m_amt r w i9)).toInt64 := by rw [hf8, s_amt hI hc0]
      refine lv_iload hx hb dL_law_881 (lv_at hl 0 rfl) ?_
      refine lv_i2l hx hb dL_law_883 rfl ?_
      refine W.lcmp hx hb dL_law_884 ?_
      refine lv_if_eq (tgt := 890) hx hb dL_law_885 (by decide) (fun c3 => ?_) (fun c3 => (c3 ((lg_cmp_eq _ _).mpr hval)).elim)
      · refine lv_goto (tgt := 1523) hx hb dL_law_890 (by decide) ?_
        exact hK _ _ _ _ _ _ _ _ _ _ _ _ ⟨rfl, rfl, hW, hM, hout, hI, hD, hDm, hAo⟩ hS (lv_sub hl [2, 3, 4, 5, 6] rfl)
    · exfalso
      exact (hd0 (l_ix (by omega) hc0 hc1)).elim
  · refine W.eq (g2 := F0 m 848 ls [.int 1]) rfl ?_
    refine lv_istore (lv' := [(5, .int 1), (0, .ref b), (1, .ref (ad 0 0)), (2, .ref (adm 10 0)), (3, .ref oa), (4, .int (nI i))]) hx hb dL_law_848 hl (by decide) rfl (fun ls hl => ?_)
    refine lv_aload_n hx hb dL_law_850 rfl (lv_at hl 3 rfl) ?_
    refine lv_aload_n hx hb dL_law_851 rfl (lv_at hl 1 rfl) ?_
    refine lv_iload hx hb dL_law_852 (lv_at hl 5 rfl) ?_
    refine lv_iconst (v := 1) hx hb dL_law_854 (by decide) ?_
    refine lv_iadd hx hb dL_law_855 ?_
    refine l_sld hx hb hX hbl hbA hS hLm (i + 1) (by omega) (nI_add i 1) dL_law_856 ?_
    have hDB := lB_D hD hDm
    have hBB := lB_up (ad := ad) (oa := oa) hA0 hsz9 hW hout
    refine rh_call2 (vx_runV (As := [.int (xs (i + 1))]) (rest := []) ⟨hx, hb, hml, hown, hts⟩ (ct_X5_owedFor l hDB hI.2.1 (xs (i + 1))) (cwV 1 hts gL_law_X5_owedFor rfl rfl rfl (by decide +kernel) ⟨by decide, by decide⟩) (rh_preV2 hE hS (fun q h => h.1) hBB (hM.at 10 0 Nat.zero_lt_one) rfl hM) rfl rfl hl.1 rfl (lv_room (Nat.le_of_ble_eq_true rfl)) dL_law_857 ⟨by show cells + 5 + 0 ≤ 626516; omega, by show slots + 40 + 0 ≤ 7216556; omega⟩) hS (fun q h => h.1) (fun E ce q9 H locs hX9 hz9 hk9 hS g1 g2 g3 => hX9.elim) (fun o H locs hN9 hz9 hk9 hS => ?_)
    have hW := hW.keptB hk9
    have hout := hout.kept (hk9 _ hout.lt (fun z => z.2.2 rfl))
    have hsz9 := hS.1
    rcases hN9 with ⟨i8, hd0, hd1, rfl, hM⟩ | ⟨hd0, ⟨z8, rfl⟩, hM⟩
    · exfalso
      exact absurd (l_ix (by omega) hd0 hd1) hc9
    · skip
      refine W.eq (g2 := F0 m 860 ls [.int z8]) rfl ?_
      refine lv_istore (lv' := [(6, .int z8), (5, .int 1), (0, .ref b), (1, .ref (ad 0 0)), (2, .ref (adm 10 0)), (3, .ref oa), (4, .int (nI i))]) hx hb dL_law_860 hl (by decide) rfl (fun ls hl => ?_)
      refine lv_aload_n hx hb dL_law_862 rfl (lv_at hl 4 rfl) ?_
      have hDB := lB_D hD hDm
      have hBB := lB_up (ad := ad) (oa := oa) hA0 hsz9 hW hout
      refine rh_call2 (vx_runV (As := []) (rest := []) ⟨hx, hb, hml, hown, hts⟩ (ct_X5_thrown l hDB  ) (cwV 0 hts gL_law_X5_thrown rfl rfl rfl (by decide +kernel) ⟨by decide, by decide⟩) (rh_preV2 hE hS (fun q h => h.1) hBB (hM.at 10 0 Nat.zero_lt_one) rfl hM) rfl rfl hl.1 rfl (lv_room (Nat.le_of_ble_eq_true rfl)) dL_law_863 ⟨by show cells + 5 + 0 + 0 ≤ 626516; omega, by show slots + 40 + 0 + 0 ≤ 7216556; omega⟩) hS (fun q h => h.1) (fun E ce q9 H locs hX9 hz9 hk9 hS g1 g2 g3 => hX9.elim) (fun o H locs hN9 hz9 hk9 hS => ?_)
      have hW := hW.keptB hk9
      have hout := hout.kept (hk9 _ hout.lt (fun z => z.2.2 rfl))
      have hsz9 := hS.1
      obtain ⟨rfl, hM⟩ := hN9
      refine W.eq (g2 := F0 m 866 ls [.int 1]) rfl ?_
      refine lv_iload hx hb dL_law_866 (lv_at hl 1 rfl) ?_
      refine lv_icmp_eq (tgt := 873) hx hb dL_law_868 (by decide) (fun c4 => ?_) (fun c4 => absurd c4 (by decide))
      refine lv_iload hx hb dL_law_873 (lv_at hl 1 rfl) ?_
      refine lv_if_ne (tgt := 890) hx hb dL_law_875 (by decide) (fun c5 => ?_) (fun c5 => absurd c5 (by decide))
      refine lv_goto (tgt := 1523) hx hb dL_law_890 (by decide) ?_
      exact hK _ _ _ _ _ _ _ _ _ _ _ _ ⟨rfl, rfl, hW, hM, hout, hI, hD, hDm, hAo⟩ hS (lv_sub hl [2, 3, 4, 5, 6] rfl)
set_option maxHeartbeats 8000000 in
set_option maxRecDepth 100000 in
theorem op_dispute {p : Program} {l : Launch} {e : Env} {s : State} {m : MethodId} {below : List Frame} {meth : Method} {c : Code} {G : va_G} {ca : Nat → ClassId} {A0 : Nat → Prop} {b L : Nat} {xs : Nat → Int32} {h9 hm oa i : Nat} {cells slots : Nat} {Q : State → Prop} {ad adm : Nat → Nat → Nat} {nf nc : Nat} {r : rh_R} {v : rh_V} {w : rh_Wm} {th : Int32} {f : Nat → Int64} {H : Heap} {locs : List Loc} {ls : Array Slot} (C : lwC p l s m c G ca A0 b L xs) (hLS : lwS G ca A0 h9 hm oa ad adm nf nc r v w th f H) (hS : va_S A0 s.heap H locs) (hl : lv_has ls 8 [(0, .ref b), (1, .ref h9), (2, .ref hm), (3, .ref oa), (4, .int (nI i))]) (hi : i + 5 < L) (hcl : cells + 5 ≤ 626516) (hsl : slots + 40 ≤ 7216556) (hK : lwK p l e s m below meth c G ca A0 b h9 hm oa i cells slots Q) : W p l e room_1 s m #[Value.ref b] below meth c H locs cells slots Q (F0 m 893 ls []) := by
  obtain ⟨hx, hb, hml, hown, hts, hE, hnc9, hlf, hA0, hbA, hbl, hX, hLm⟩ := C
  obtain ⟨rfl, rfl, hW, hM, hout, hI, hD, hDm, hAo⟩ := hLS
  have hnf9 := hI.1.1
  have hnn9 := hI.1.2.1
  have hnow := l_now hI
  have hsz9 := hS.1
  have hl : lv_has ls 8 [(0, .ref b), (1, .ref (ad 0 0)), (2, .ref (adm 10 0)), (3, .ref oa), (4, .int (nI i))] := hl
  refine lv_aload_n hx hb dL_law_893 rfl (lv_at hl 1 rfl) ?_
  refine lv_aload_n hx hb dL_law_894 rfl (lv_at hl 0 rfl) ?_
  refine lv_iload hx hb dL_law_895 (lv_at hl 4 rfl) ?_
  refine lv_iconst (v := 1) hx hb dL_law_897 (by decide) ?_
  refine lv_iadd hx hb dL_law_898 ?_
  refine l_sld hx hb hX hbl hbA hS hLm (i + 1) (by omega) (nI_add i 1) dL_law_899 ?_
  have hAA := lA_up (adm := adm) hA0 hsz9 hM
  have hAA1 : ∀ q : Nat, H.size ≤ q → rh_A1 (lA A0 adm) oa q := fun q h => ⟨hAA q h, fun z => by have := hout.lt; omega⟩
  refine rh_call2 (vx_runSX (As := [.ref (ad 0 0), .int (xs (i + 1))]) (rest := []) ⟨hx, hb, hml, hown, hts⟩ (hl_dispute l hlf hD hI.1 (xs (i + 1))) (vx_cwSW 2 hts gL_law_L_dispute rfl rfl rfl (by decide +kernel) ⟨by decide, by decide⟩) (rh_prel hE hnc9 hS (fun q h => h.1.1) hAA1 hW) rfl rfl hl.1 rfl (lv_room (Nat.le_of_ble_eq_true rfl)) dL_law_900 ⟨by show cells + 5 ≤ 626516; omega, by show slots + 40 ≤ 7216556; omega⟩) hS (fun q h => h.1.1) (fun E ce q9 H locs hX9 hz9 hk9 hS g1 g2 g3 => hX9.elim) (fun o H locs hN9 hz9 hk9 hS => ?_)
  have hM := hM.keptA (fun q h1 h2 => hk9 q h1 (fun z => h2 z.1))
  have hsz9 := hS.1
  have hout := hout.kept (hk9 _ hout.lt (fun z => z.2 rfl))
  rcases hN9 with ⟨i9, hc0, hc1, hc2, hc3, rfl, hW⟩ | ⟨hc9, rfl, hW⟩ | ⟨hc9, rfl, hW⟩
  · skip
    refine W.eq (g2 := F0 m 903 ls [.int 0]) rfl ?_
    refine lv_istore (lv' := [(5, .int 0), (0, .ref b), (1, .ref (ad 0 0)), (2, .ref (adm 10 0)), (3, .ref oa), (4, .int (nI i))]) hx hb dL_law_903 hl (by decide) rfl (fun ls hl => ?_)
    refine lv_aload_n hx hb dL_law_905 rfl (lv_at hl 3 rfl) ?_
    refine lv_aload_n hx hb dL_law_906 rfl (lv_at hl 1 rfl) ?_
    refine lv_iload hx hb dL_law_907 (lv_at hl 5 rfl) ?_
    refine lv_iconst (v := 1) hx hb dL_law_909 (by decide) ?_
    refine lv_iadd hx hb dL_law_910 ?_
    refine l_sld hx hb hX hbl hbA hS hLm (i + 1) (by omega) (nI_add i 1) dL_law_911 ?_
    skip
    have hDB := lB_D hD hDm
    have hBB := lB_up (ad := ad) (oa := oa) hA0 hsz9 hW hout
    refine rh_call2 (vx_runV (As := [.int (xs (i + 1))]) (rest := []) ⟨hx, hb, hml, hown, hts⟩ (ct_X5_dispute l hDB hI.2.1.1 (xs (i + 1))) (cwV 1 hts gL_law_X5_dispute rfl rfl rfl (by decide +kernel) ⟨by decide, by decide⟩) (rh_preV2 hE hS (fun q h => h.1) hBB (hM.at 10 0 Nat.zero_lt_one) rfl hM) rfl rfl hl.1 rfl (lv_room (Nat.le_of_ble_eq_true rfl)) dL_law_912 ⟨by show cells + 5 + 0 ≤ 626516; omega, by show slots + 40 + 0 ≤ 7216556; omega⟩) hS (fun q h => h.1) (fun E ce q9 H locs hX9 hz9 hk9 hS g1 g2 g3 => hX9.elim) (fun o H locs hN9 hz9 hk9 hS => ?_)
    have hW := hW.keptB hk9
    have hout := hout.kept (hk9 _ hout.lt (fun z => z.2.2 rfl))
    have hsz9 := hS.1
    rcases hN9 with ⟨i8, hd0, hd1, hd2, hd3, rfl, hM⟩ | ⟨hd0, rfl, hM⟩ | ⟨i8, hd0, hd1, hd2, rfl, hM⟩
    · obtain rfl : i9 = i8 := m_inj (by omega) (by omega) (hc1.symm.trans hd1)
      refine W.eq (g2 := F0 m 915 ls []) rfl ?_
      refine lv_aload_n hx hb dL_law_915 rfl (lv_at hl 3 rfl) ?_
      have hDB := lB_D hD hDm
      have hBB := lB_up (ad := ad) (oa := oa) hA0 hsz9 hW hout
      refine rh_call2 (vx_runV (As := []) (rest := []) ⟨hx, hb, hml, hown, hts⟩ (ct_X5_thrown l hDB  ) (cwV 0 hts gL_law_X5_thrown rfl rfl rfl (by decide +kernel) ⟨by decide, by decide⟩) (rh_preV2 hE hS (fun q h => h.1) hBB (hM.at 10 0 Nat.zero_lt_one) rfl hM) rfl rfl hl.1 rfl (lv_room (Nat.le_of_ble_eq_true rfl)) dL_law_916 ⟨by show cells + 5 + 0 + 0 ≤ 626516; omega, by show slots + 40 + 0 + 0 ≤ 7216556; omega⟩) hS (fun q h => h.1) (fun E ce q9 H locs hX9 hz9 hk9 hS g1 g2 g3 => hX9.elim) (fun o H locs hN9 hz9 hk9 hS => ?_)
      have hW := hW.keptB hk9
      have hout := hout.kept (hk9 _ hout.lt (fun z => z.2.2 rfl))
      have hsz9 := hS.1
      obtain ⟨rfl, hM⟩ := hN9
      refine W.eq (g2 := F0 m 919 ls [.int 0]) rfl ?_
      refine lv_iload hx hb dL_law_919 (lv_at hl 0 rfl) ?_
      refine lv_icmp_eq (tgt := 926) hx hb dL_law_921 (by decide) (fun c1 => ?_) (fun c1 => absurd c1 (by decide))
      refine lv_goto (tgt := 1523) hx hb dL_law_926 (by decide) ?_
      exact hK _ _ _ _ _ _ _ _ _ _ _ _ ⟨rfl, rfl, hW, hM, hout, i_dispute hI hc0 ((hI.2.2.2.2.2.1 _ hc0).2.2.1.symm.trans hc2), hD, hDm, hAo⟩ hS (lv_sub hl [1, 2, 3, 4, 5] rfl)
    · exfalso
      exact (hd0 (l_ix (by omega) hc0 hc1)).elim
    · exfalso
      obtain rfl : i9 = i8 := m_inj (by omega) (by omega) (hc1.symm.trans hd1)
      exact absurd ((l_disp hI hc0).mp ⟨hc2, hc3⟩) hd2
  · skip
    refine W.eq (g2 := F0 m 903 ls [.int 1]) rfl ?_
    refine lv_istore (lv' := [(5, .int 1), (0, .ref b), (1, .ref (ad 0 0)), (2, .ref (adm 10 0)), (3, .ref oa), (4, .int (nI i))]) hx hb dL_law_903 hl (by decide) rfl (fun ls hl => ?_)
    refine lv_aload_n hx hb dL_law_905 rfl (lv_at hl 3 rfl) ?_
    refine lv_aload_n hx hb dL_law_906 rfl (lv_at hl 1 rfl) ?_
    refine lv_iload hx hb dL_law_907 (lv_at hl 5 rfl) ?_
    refine lv_iconst (v := 1) hx hb dL_law_909 (by decide) ?_
    refine lv_iadd hx hb dL_law_910 ?_
    refine l_sld hx hb hX hbl hbA hS hLm (i + 1) (by omega) (nI_add i 1) dL_law_911 ?_
    skip
    have hDB := lB_D hD hDm
    have hBB := lB_up (ad := ad) (oa := oa) hA0 hsz9 hW hout
    refine rh_call2 (vx_runV (As := [.int (xs (i + 1))]) (rest := []) ⟨hx, hb, hml, hown, hts⟩ (ct_X5_dispute l hDB hI.2.1.1 (xs (i + 1))) (cwV 1 hts gL_law_X5_dispute rfl rfl rfl (by decide +kernel) ⟨by decide, by decide⟩) (rh_preV2 hE hS (fun q h => h.1) hBB (hM.at 10 0 Nat.zero_lt_one) rfl hM) rfl rfl hl.1 rfl (lv_room (Nat.le_of_ble_eq_true rfl)) dL_law_912 ⟨by show cells + 5 + 0 ≤ 626516; omega, by show slots + 40 + 0 ≤ 7216556; omega⟩) hS (fun q h => h.1) (fun E ce q9 H locs hX9 hz9 hk9 hS g1 g2 g3 => hX9.elim) (fun o H locs hN9 hz9 hk9 hS => ?_)
    have hW := hW.keptB hk9
    have hout := hout.kept (hk9 _ hout.lt (fun z => z.2.2 rfl))
    have hsz9 := hS.1
    rcases hN9 with ⟨i8, hd0, hd1, hd2, hd3, rfl, hM⟩ | ⟨hd0, rfl, hM⟩ | ⟨i8, hd0, hd1, hd2, rfl, hM⟩
    · exfalso
      exact absurd (l_ix (by omega) hd0 hd1) hc9
    · skip
      refine W.eq (g2 := F0 m 915 ls []) rfl ?_
      refine lv_aload_n hx hb dL_law_915 rfl (lv_at hl 3 rfl) ?_
      have hDB := lB_D hD hDm
      have hBB := lB_up (ad := ad) (oa := oa) hA0 hsz9 hW hout
      refine rh_call2 (vx_runV (As := []) (rest := []) ⟨hx, hb, hml, hown, hts⟩ (ct_X5_thrown l hDB  ) (cwV 0 hts gL_law_X5_thrown rfl rfl rfl (by decide +kernel) ⟨by decide, by decide⟩) (rh_preV2 hE hS (fun q h => h.1) hBB (hM.at 10 0 Nat.zero_lt_one) rfl hM) rfl rfl hl.1 rfl (lv_room (Nat.le_of_ble_eq_true rfl)) dL_law_916 ⟨by show cells + 5 + 0 + 0 ≤ 626516; omega, by show slots + 40 + 0 + 0 ≤ 7216556; omega⟩) hS (fun q h => h.1) (fun E ce q9 H locs hX9 hz9 hk9 hS g1 g2 g3 => hX9.elim) (fun o H locs hN9 hz9 hk9 hS => ?_)
      have hW := hW.keptB hk9
      have hout := hout.kept (hk9 _ hout.lt (fun z => z.2.2 rfl))
      have hsz9 := hS.1
      obtain ⟨rfl, hM⟩ := hN9
      refine W.eq (g2 := F0 m 919 ls [.int 1]) rfl ?_
      refine lv_iload hx hb dL_law_919 (lv_at hl 0 rfl) ?_
      refine lv_icmp_eq (tgt := 926) hx hb dL_law_921 (by decide) (fun c2 => ?_) (fun c2 => absurd c2 (by decide))
      refine lv_goto (tgt := 1523) hx hb dL_law_926 (by decide) ?_
      exact hK _ _ _ _ _ _ _ _ _ _ _ _ ⟨rfl, rfl, hW, hM, hout, hI, hD, hDm, hAo⟩ hS (lv_sub hl [1, 2, 3, 4, 5] rfl)
    · exfalso
      exact absurd (l_ix (by omega) hd0 hd1) hc9
  · skip
    refine W.eq (g2 := F0 m 903 ls [.int 2]) rfl ?_
    refine lv_istore (lv' := [(5, .int 2), (0, .ref b), (1, .ref (ad 0 0)), (2, .ref (adm 10 0)), (3, .ref oa), (4, .int (nI i))]) hx hb dL_law_903 hl (by decide) rfl (fun ls hl => ?_)
    refine lv_aload_n hx hb dL_law_905 rfl (lv_at hl 3 rfl) ?_
    refine lv_aload_n hx hb dL_law_906 rfl (lv_at hl 1 rfl) ?_
    refine lv_iload hx hb dL_law_907 (lv_at hl 5 rfl) ?_
    refine lv_iconst (v := 1) hx hb dL_law_909 (by decide) ?_
    refine lv_iadd hx hb dL_law_910 ?_
    refine l_sld hx hb hX hbl hbA hS hLm (i + 1) (by omega) (nI_add i 1) dL_law_911 ?_
    skip
    have hDB := lB_D hD hDm
    have hBB := lB_up (ad := ad) (oa := oa) hA0 hsz9 hW hout
    refine rh_call2 (vx_runV (As := [.int (xs (i + 1))]) (rest := []) ⟨hx, hb, hml, hown, hts⟩ (ct_X5_dispute l hDB hI.2.1.1 (xs (i + 1))) (cwV 1 hts gL_law_X5_dispute rfl rfl rfl (by decide +kernel) ⟨by decide, by decide⟩) (rh_preV2 hE hS (fun q h => h.1) hBB (hM.at 10 0 Nat.zero_lt_one) rfl hM) rfl rfl hl.1 rfl (lv_room (Nat.le_of_ble_eq_true rfl)) dL_law_912 ⟨by show cells + 5 + 0 ≤ 626516; omega, by show slots + 40 + 0 ≤ 7216556; omega⟩) hS (fun q h => h.1) (fun E ce q9 H locs hX9 hz9 hk9 hS g1 g2 g3 => hX9.elim) (fun o H locs hN9 hz9 hk9 hS => ?_)
    have hW := hW.keptB hk9
    have hout := hout.kept (hk9 _ hout.lt (fun z => z.2.2 rfl))
    have hsz9 := hS.1
    rcases hN9 with ⟨i8, hd0, hd1, hd2, hd3, rfl, hM⟩ | ⟨hd0, rfl, hM⟩ | ⟨i8, hd0, hd1, hd2, rfl, hM⟩
    · exfalso
      obtain ⟨i9, hc0, hc1, hc2⟩ := hc9
      obtain rfl : i9 = i8 := m_inj (by omega) (by omega) (hc1.symm.trans hd1)
      exact absurd ((l_disp hI hc0).mpr ⟨hd2, hd3⟩) hc2
    · exfalso
      exact (hd0 (hc9.elim fun _ z => l_ix (by omega) z.1 z.2.1)).elim
    · skip
      refine W.eq (g2 := F0 m 915 ls []) rfl ?_
      refine lv_aload_n hx hb dL_law_915 rfl (lv_at hl 3 rfl) ?_
      have hDB := lB_D hD hDm
      have hBB := lB_up (ad := ad) (oa := oa) hA0 hsz9 hW hout
      refine rh_call2 (vx_runV (As := []) (rest := []) ⟨hx, hb, hml, hown, hts⟩ (ct_X5_thrown l hDB  ) (cwV 0 hts gL_law_X5_thrown rfl rfl rfl (by decide +kernel) ⟨by decide, by decide⟩) (rh_preV2 hE hS (fun q h => h.1) hBB (hM.at 10 0 Nat.zero_lt_one) rfl hM) rfl rfl hl.1 rfl (lv_room (Nat.le_of_ble_eq_true rfl)) dL_law_916 ⟨by show cells + 5 + 0 + 0 ≤ 626516; omega, by show slots + 40 + 0 + 0 ≤ 7216556; omega⟩) hS (fun q h => h.1) (fun E ce q9 H locs hX9 hz9 hk9 hS g1 g2 g3 => hX9.elim) (fun o H locs hN9 hz9 hk9 hS => ?_)
      have hW := hW.keptB hk9
      have hout := hout.kept (hk9 _ hout.lt (fun z => z.2.2 rfl))
      have hsz9 := hS.1
      obtain ⟨rfl, hM⟩ := hN9
      refine W.eq (g2 := F0 m 919 ls [.int 2]) rfl ?_
      refine lv_iload hx hb dL_law_919 (lv_at hl 0 rfl) ?_
      refine lv_icmp_eq (tgt := 926) hx hb dL_law_921 (by decide) (fun c3 => ?_) (fun c3 => absurd c3 (by decide))
      refine lv_goto (tgt := 1523) hx hb dL_law_926 (by decide) ?_
      exact hK _ _ _ _ _ _ _ _ _ _ _ _ ⟨rfl, rfl, hW, hM, hout, hI, hD, hDm, hAo⟩ hS (lv_sub hl [1, 2, 3, 4, 5] rfl)
set_option maxHeartbeats 8000000 in
set_option maxRecDepth 100000 in
theorem op_answer {p : Program} {l : Launch} {e : Env} {s : State} {m : MethodId} {below : List Frame} {meth : Method} {c : Code} {G : va_G} {ca : Nat → ClassId} {A0 : Nat → Prop} {b L : Nat} {xs : Nat → Int32} {h9 hm oa i : Nat} {cells slots : Nat} {Q : State → Prop} {ad adm : Nat → Nat → Nat} {nf nc : Nat} {r : rh_R} {v : rh_V} {w : rh_Wm} {th : Int32} {f : Nat → Int64} {H : Heap} {locs : List Loc} {ls : Array Slot} (C : lwC p l s m c G ca A0 b L xs) (hLS : lwS G ca A0 h9 hm oa ad adm nf nc r v w th f H) (hS : va_S A0 s.heap H locs) (hl : lv_has ls 8 [(0, .ref b), (1, .ref h9), (2, .ref hm), (3, .ref oa), (4, .int (nI i))]) (hi : i + 5 < L) (hcl : cells + 5 ≤ 626516) (hsl : slots + 40 ≤ 7216556) (hK : lwK p l e s m below meth c G ca A0 b h9 hm oa i cells slots Q) : W p l e room_1 s m #[Value.ref b] below meth c H locs cells slots Q (F0 m 929 ls []) := by
  obtain ⟨hx, hb, hml, hown, hts, hE, hnc9, hlf, hA0, hbA, hbl, hX, hLm⟩ := C
  obtain ⟨rfl, rfl, hW, hM, hout, hI, hD, hDm, hAo⟩ := hLS
  have hnf9 := hI.1.1
  have hnn9 := hI.1.2.1
  have hnow := l_now hI
  have hsz9 := hS.1
  have hl : lv_has ls 8 [(0, .ref b), (1, .ref (ad 0 0)), (2, .ref (adm 10 0)), (3, .ref oa), (4, .int (nI i))] := hl
  refine lv_aload_n hx hb dL_law_929 rfl (lv_at hl 1 rfl) ?_
  refine lv_aload_n hx hb dL_law_930 rfl (lv_at hl 0 rfl) ?_
  refine lv_iload hx hb dL_law_931 (lv_at hl 4 rfl) ?_
  refine lv_iconst (v := 1) hx hb dL_law_933 (by decide) ?_
  refine lv_iadd hx hb dL_law_934 ?_
  refine l_sld hx hb hX hbl hbA hS hLm (i + 1) (by omega) (nI_add i 1) dL_law_935 ?_
  refine lv_aload_n hx hb dL_law_936 rfl (lv_at hl 0 rfl) ?_
  refine lv_iload hx hb dL_law_937 (lv_at hl 4 rfl) ?_
  refine lv_iconst (v := 2) hx hb dL_law_939 (by decide) ?_
  refine lv_iadd hx hb dL_law_940 ?_
  refine l_sld hx hb hX hbl hbA hS hLm (i + 2) (by omega) (nI_add i 2) dL_law_941 ?_
  refine lv_if_eq (tgt := 949) hx hb dL_law_942 (by decide) (fun c1 => ?_) (fun c1 => ?_)
  · have hbz := c1
    refine lv_iconst (v := 0) hx hb dL_law_949 (by decide) ?_
    have hAA := lA_up (adm := adm) hA0 hsz9 hM
    have hAA1 : ∀ q : Nat, H.size ≤ q → rh_A1 (lA A0 adm) oa q := fun q h => ⟨hAA q h, fun z => by have := hout.lt; omega⟩
    refine rh_call2 (vx_runSX (As := [.ref (ad 0 0), .int (xs (i + 1)), .int 0]) (rest := []) ⟨hx, hb, hml, hown, hts⟩ (hl_answer l hlf hD hI.1 (xs (i + 1)) 0) (vx_cwSW 3 hts gL_law_L_answer rfl rfl rfl (by decide +kernel) ⟨by decide, by decide⟩) (rh_prel hE hnc9 hS (fun q h => h.1.1) hAA1 hW) rfl rfl hl.1 rfl (lv_room (Nat.le_of_ble_eq_true rfl)) dL_law_950 ⟨by show cells + 5 ≤ 626516; omega, by show slots + 40 ≤ 7216556; omega⟩) hS (fun q h => h.1.1) (fun E ce q9 H locs hX9 hz9 hk9 hS g1 g2 g3 => hX9.elim) (fun o H locs hN9 hz9 hk9 hS => ?_)
    have hM := hM.keptA (fun q h1 h2 => hk9 q h1 (fun z => h2 z.1))
    have hsz9 := hS.1
    have hout := hout.kept (hk9 _ hout.lt (fun z => z.2 rfl))
    rcases hN9 with ⟨i9, hc0, hc1, hc2, rfl, hW⟩ | ⟨hc9, rfl, hW⟩ | ⟨hc9, rfl, hW⟩
    · skip
      refine W.eq (g2 := F0 m 953 ls [.int 0]) rfl ?_
      refine lv_istore (lv' := [(5, .int 0), (0, .ref b), (1, .ref (ad 0 0)), (2, .ref (adm 10 0)), (3, .ref oa), (4, .int (nI i))]) hx hb dL_law_953 hl (by decide) rfl (fun ls hl => ?_)
      refine lv_aload_n hx hb dL_law_955 rfl (lv_at hl 3 rfl) ?_
      refine lv_aload_n hx hb dL_law_956 rfl (lv_at hl 1 rfl) ?_
      refine lv_iload hx hb dL_law_957 (lv_at hl 5 rfl) ?_
      refine lv_iconst (v := 1) hx hb dL_law_959 (by decide) ?_
      refine lv_iadd hx hb dL_law_960 ?_
      refine l_sld hx hb hX hbl hbA hS hLm (i + 1) (by omega) (nI_add i 1) dL_law_961 ?_
      refine lv_aload_n hx hb dL_law_962 rfl (lv_at hl 1 rfl) ?_
      refine lv_iload hx hb dL_law_963 (lv_at hl 5 rfl) ?_
      refine lv_iconst (v := 2) hx hb dL_law_965 (by decide) ?_
      refine lv_iadd hx hb dL_law_966 ?_
      refine l_sld hx hb hX hbl hbA hS hLm (i + 2) (by omega) (nI_add i 2) dL_law_967 ?_
      refine lv_if_eq (tgt := 975) hx hb dL_law_968 (by decide) (fun c2 => ?_) (fun c2 => absurd hbz c2)
      · refine lv_iconst (v := 0) hx hb dL_law_975 (by decide) ?_
        skip
        have hDB := lB_D hD hDm
        have hBB := lB_up (ad := ad) (oa := oa) hA0 hsz9 hW hout
        refine rh_call2 (vx_runV (As := [.int (xs (i + 1)), .int 0]) (rest := []) ⟨hx, hb, hml, hown, hts⟩ (ct_X5_answer l hDB hI.2.1.1 (xs (i + 1)) 0) (cwV 2 hts gL_law_X5_answer rfl rfl rfl (by decide +kernel) ⟨by decide, by decide⟩) (rh_preV2 hE hS (fun q h => h.1) hBB (hM.at 10 0 Nat.zero_lt_one) rfl hM) rfl rfl hl.1 rfl (lv_room (Nat.le_of_ble_eq_true rfl)) dL_law_976 ⟨by show cells + 5 + 0 ≤ 626516; omega, by show slots + 40 + 0 ≤ 7216556; omega⟩) hS (fun q h => h.1) (fun E ce q9 H locs hX9 hz9 hk9 hS g1 g2 g3 => hX9.elim) (fun o H locs hN9 hz9 hk9 hS => ?_)
        have hW := hW.keptB hk9
        have hout := hout.kept (hk9 _ hout.lt (fun z => z.2.2 rfl))
        have hsz9 := hS.1
        rcases hN9 with ⟨i8, hd0, hd1, hd2, rfl, hM⟩ | ⟨hd0, rfl, hM⟩ | ⟨i8, hd0, hd1, hd2, rfl, hM⟩
        · obtain rfl : i9 = i8 := m_inj (by omega) (by omega) (hc1.symm.trans hd1)
          refine W.eq (g2 := F0 m 979 ls []) rfl ?_
          refine lv_aload_n hx hb dL_law_979 rfl (lv_at hl 3 rfl) ?_
          have hDB := lB_D hD hDm
          have hBB := lB_up (ad := ad) (oa := oa) hA0 hsz9 hW hout
          refine rh_call2 (vx_runV (As := []) (rest := []) ⟨hx, hb, hml, hown, hts⟩ (ct_X5_thrown l hDB  ) (cwV 0 hts gL_law_X5_thrown rfl rfl rfl (by decide +kernel) ⟨by decide, by decide⟩) (rh_preV2 hE hS (fun q h => h.1) hBB (hM.at 10 0 Nat.zero_lt_one) rfl hM) rfl rfl hl.1 rfl (lv_room (Nat.le_of_ble_eq_true rfl)) dL_law_980 ⟨by show cells + 5 + 0 + 0 ≤ 626516; omega, by show slots + 40 + 0 + 0 ≤ 7216556; omega⟩) hS (fun q h => h.1) (fun E ce q9 H locs hX9 hz9 hk9 hS g1 g2 g3 => hX9.elim) (fun o H locs hN9 hz9 hk9 hS => ?_)
          have hW := hW.keptB hk9
          have hout := hout.kept (hk9 _ hout.lt (fun z => z.2.2 rfl))
          have hsz9 := hS.1
          obtain ⟨rfl, hM⟩ := hN9
          refine W.eq (g2 := F0 m 983 ls [.int 0]) rfl ?_
          refine lv_iload hx hb dL_law_983 (lv_at hl 0 rfl) ?_
          refine lv_icmp_eq (tgt := 990) hx hb dL_law_985 (by decide) (fun c3 => ?_) (fun c3 => absurd c3 (by decide))
          refine lv_goto (tgt := 1523) hx hb dL_law_990 (by decide) ?_
          exact hK _ _ _ _ _ _ _ _ _ _ _ _ ⟨rfl, rfl, hW, hM, hout, i_answer hI hc0 ((hI.2.2.2.2.2.1 _ hc0).2.2.1.symm.trans hc2) (by split <;> simp), hD, hDm, hAo⟩ hS (lv_sub hl [1, 2, 3, 4, 5] rfl)
        · exfalso
          exact (hd0 (l_ix (by omega) hc0 hc1)).elim
        · exfalso
          obtain rfl : i9 = i8 := m_inj (by omega) (by omega) (hc1.symm.trans hd1)
          exact absurd ((hI.2.2.2.2.2.1 _ hc0).2.2.1.symm.trans hc2) hd2
    · skip
      refine W.eq (g2 := F0 m 953 ls [.int 1]) rfl ?_
      refine lv_istore (lv' := [(5, .int 1), (0, .ref b), (1, .ref (ad 0 0)), (2, .ref (adm 10 0)), (3, .ref oa), (4, .int (nI i))]) hx hb dL_law_953 hl (by decide) rfl (fun ls hl => ?_)
      refine lv_aload_n hx hb dL_law_955 rfl (lv_at hl 3 rfl) ?_
      refine lv_aload_n hx hb dL_law_956 rfl (lv_at hl 1 rfl) ?_
      refine lv_iload hx hb dL_law_957 (lv_at hl 5 rfl) ?_
      refine lv_iconst (v := 1) hx hb dL_law_959 (by decide) ?_
      refine lv_iadd hx hb dL_law_960 ?_
      refine l_sld hx hb hX hbl hbA hS hLm (i + 1) (by omega) (nI_add i 1) dL_law_961 ?_
      refine lv_aload_n hx hb dL_law_962 rfl (lv_at hl 1 rfl) ?_
      refine lv_iload hx hb dL_law_963 (lv_at hl 5 rfl) ?_
      refine lv_iconst (v := 2) hx hb dL_law_965 (by decide) ?_
      refine lv_iadd hx hb dL_law_966 ?_
      refine l_sld hx hb hX hbl hbA hS hLm (i + 2) (by omega) (nI_add i 2) dL_law_967 ?_
      refine lv_if_eq (tgt := 975) hx hb dL_law_968 (by decide) (fun c4 => ?_) (fun c4 => absurd hbz c4)
      · refine lv_iconst (v := 0) hx hb dL_law_975 (by decide) ?_
        skip
        have hDB := lB_D hD hDm
        have hBB := lB_up (ad := ad) (oa := oa) hA0 hsz9 hW hout
        refine rh_call2 (vx_runV (As := [.int (xs (i + 1)), .int 0]) (rest := []) ⟨hx, hb, hml, hown, hts⟩ (ct_X5_answer l hDB hI.2.1.1 (xs (i + 1)) 0) (cwV 2 hts gL_law_X5_answer rfl rfl rfl (by decide +kernel) ⟨by decide, by decide⟩) (rh_preV2 hE hS (fun q h => h.1) hBB (hM.at 10 0 Nat.zero_lt_one) rfl hM) rfl rfl hl.1 rfl (lv_room (Nat.le_of_ble_eq_true rfl)) dL_law_976 ⟨by show cells + 5 + 0 ≤ 626516; omega, by show slots + 40 + 0 ≤ 7216556; omega⟩) hS (fun q h => h.1) (fun E ce q9 H locs hX9 hz9 hk9 hS g1 g2 g3 => hX9.elim) (fun o H locs hN9 hz9 hk9 hS => ?_)
        have hW := hW.keptB hk9
        have hout := hout.kept (hk9 _ hout.lt (fun z => z.2.2 rfl))
        have hsz9 := hS.1
        rcases hN9 with ⟨i8, hd0, hd1, hd2, rfl, hM⟩ | ⟨hd0, rfl, hM⟩ | ⟨i8, hd0, hd1, hd2, rfl, hM⟩
        · exfalso
          exact absurd (l_ix (by omega) hd0 hd1) hc9
        · skip
          refine W.eq (g2 := F0 m 979 ls []) rfl ?_
          refine lv_aload_n hx hb dL_law_979 rfl (lv_at hl 3 rfl) ?_
          have hDB := lB_D hD hDm
          have hBB := lB_up (ad := ad) (oa := oa) hA0 hsz9 hW hout
          refine rh_call2 (vx_runV (As := []) (rest := []) ⟨hx, hb, hml, hown, hts⟩ (ct_X5_thrown l hDB  ) (cwV 0 hts gL_law_X5_thrown rfl rfl rfl (by decide +kernel) ⟨by decide, by decide⟩) (rh_preV2 hE hS (fun q h => h.1) hBB (hM.at 10 0 Nat.zero_lt_one) rfl hM) rfl rfl hl.1 rfl (lv_room (Nat.le_of_ble_eq_true rfl)) dL_law_980 ⟨by show cells + 5 + 0 + 0 ≤ 626516; omega, by show slots + 40 + 0 + 0 ≤ 7216556; omega⟩) hS (fun q h => h.1) (fun E ce q9 H locs hX9 hz9 hk9 hS g1 g2 g3 => hX9.elim) (fun o H locs hN9 hz9 hk9 hS => ?_)
          have hW := hW.keptB hk9
          have hout := hout.kept (hk9 _ hout.lt (fun z => z.2.2 rfl))
          have hsz9 := hS.1
          obtain ⟨rfl, hM⟩ := hN9
          refine W.eq (g2 := F0 m 983 ls [.int 1]) rfl ?_
          refine lv_iload hx hb dL_law_983 (lv_at hl 0 rfl) ?_
          refine lv_icmp_eq (tgt := 990) hx hb dL_law_985 (by decide) (fun c5 => ?_) (fun c5 => absurd c5 (by decide))
          refine lv_goto (tgt := 1523) hx hb dL_law_990 (by decide) ?_
          exact hK _ _ _ _ _ _ _ _ _ _ _ _ ⟨rfl, rfl, hW, hM, hout, hI, hD, hDm, hAo⟩ hS (lv_sub hl [1, 2, 3, 4, 5] rfl)
        · exfalso
          exact absurd (l_ix (by omega) hd0 hd1) hc9
    · skip
      refine W.eq (g2 := F0 m 953 ls [.int 2]) rfl ?_
      refine lv_istore (lv' := [(5, .int 2), (0, .ref b), (1, .ref (ad 0 0)), (2, .ref (adm 10 0)), (3, .ref oa), (4, .int (nI i))]) hx hb dL_law_953 hl (by decide) rfl (fun ls hl => ?_)
      refine lv_aload_n hx hb dL_law_955 rfl (lv_at hl 3 rfl) ?_
      refine lv_aload_n hx hb dL_law_956 rfl (lv_at hl 1 rfl) ?_
      refine lv_iload hx hb dL_law_957 (lv_at hl 5 rfl) ?_
      refine lv_iconst (v := 1) hx hb dL_law_959 (by decide) ?_
      refine lv_iadd hx hb dL_law_960 ?_
      refine l_sld hx hb hX hbl hbA hS hLm (i + 1) (by omega) (nI_add i 1) dL_law_961 ?_
      refine lv_aload_n hx hb dL_law_962 rfl (lv_at hl 1 rfl) ?_
      refine lv_iload hx hb dL_law_963 (lv_at hl 5 rfl) ?_
      refine lv_iconst (v := 2) hx hb dL_law_965 (by decide) ?_
      refine lv_iadd hx hb dL_law_966 ?_
      refine l_sld hx hb hX hbl hbA hS hLm (i + 2) (by omega) (nI_add i 2) dL_law_967 ?_
      refine lv_if_eq (tgt := 975) hx hb dL_law_968 (by decide) (fun c6 => ?_) (fun c6 => absurd hbz c6)
      · refine lv_iconst (v := 0) hx hb dL_law_975 (by decide) ?_
        skip
        have hDB := lB_D hD hDm
        have hBB := lB_up (ad := ad) (oa := oa) hA0 hsz9 hW hout
        refine rh_call2 (vx_runV (As := [.int (xs (i + 1)), .int 0]) (rest := []) ⟨hx, hb, hml, hown, hts⟩ (ct_X5_answer l hDB hI.2.1.1 (xs (i + 1)) 0) (cwV 2 hts gL_law_X5_answer rfl rfl rfl (by decide +kernel) ⟨by decide, by decide⟩) (rh_preV2 hE hS (fun q h => h.1) hBB (hM.at 10 0 Nat.zero_lt_one) rfl hM) rfl rfl hl.1 rfl (lv_room (Nat.le_of_ble_eq_true rfl)) dL_law_976 ⟨by show cells + 5 + 0 ≤ 626516; omega, by show slots + 40 + 0 ≤ 7216556; omega⟩) hS (fun q h => h.1) (fun E ce q9 H locs hX9 hz9 hk9 hS g1 g2 g3 => hX9.elim) (fun o H locs hN9 hz9 hk9 hS => ?_)
        have hW := hW.keptB hk9
        have hout := hout.kept (hk9 _ hout.lt (fun z => z.2.2 rfl))
        have hsz9 := hS.1
        rcases hN9 with ⟨i8, hd0, hd1, hd2, rfl, hM⟩ | ⟨hd0, rfl, hM⟩ | ⟨i8, hd0, hd1, hd2, rfl, hM⟩
        · exfalso
          obtain ⟨i9, hc0, hc1, hc2⟩ := hc9
          obtain rfl : i9 = i8 := m_inj (by omega) (by omega) (hc1.symm.trans hd1)
          exact absurd ((hI.2.2.2.2.2.1 _ hc0).2.2.1.trans hd2) hc2
        · exfalso
          exact (hd0 (hc9.elim fun _ z => l_ix (by omega) z.1 z.2.1)).elim
        · skip
          refine W.eq (g2 := F0 m 979 ls []) rfl ?_
          refine lv_aload_n hx hb dL_law_979 rfl (lv_at hl 3 rfl) ?_
          have hDB := lB_D hD hDm
          have hBB := lB_up (ad := ad) (oa := oa) hA0 hsz9 hW hout
          refine rh_call2 (vx_runV (As := []) (rest := []) ⟨hx, hb, hml, hown, hts⟩ (ct_X5_thrown l hDB  ) (cwV 0 hts gL_law_X5_thrown rfl rfl rfl (by decide +kernel) ⟨by decide, by decide⟩) (rh_preV2 hE hS (fun q h => h.1) hBB (hM.at 10 0 Nat.zero_lt_one) rfl hM) rfl rfl hl.1 rfl (lv_room (Nat.le_of_ble_eq_true rfl)) dL_law_980 ⟨by show cells + 5 + 0 + 0 ≤ 626516; omega, by show slots + 40 + 0 + 0 ≤ 7216556; omega⟩) hS (fun q h => h.1) (fun E ce q9 H locs hX9 hz9 hk9 hS g1 g2 g3 => hX9.elim) (fun o H locs hN9 hz9 hk9 hS => ?_)
          have hW := hW.keptB hk9
          have hout := hout.kept (hk9 _ hout.lt (fun z => z.2.2 rfl))
          have hsz9 := hS.1
          obtain ⟨rfl, hM⟩ := hN9
          refine W.eq (g2 := F0 m 983 ls [.int 2]) rfl ?_
          refine lv_iload hx hb dL_law_983 (lv_at hl 0 rfl) ?_
          refine lv_icmp_eq (tgt := 990) hx hb dL_law_985 (by decide) (fun c7 => ?_) (fun c7 => absurd c7 (by decide))
          refine lv_goto (tgt := 1523) hx hb dL_law_990 (by decide) ?_
          exact hK _ _ _ _ _ _ _ _ _ _ _ _ ⟨rfl, rfl, hW, hM, hout, hI, hD, hDm, hAo⟩ hS (lv_sub hl [1, 2, 3, 4, 5] rfl)
  · have hbz := c1
    refine lv_iconst (v := 1) hx hb dL_law_945 (by decide) ?_
    refine lv_goto (tgt := 950) hx hb dL_law_946 (by decide) ?_
    have hAA := lA_up (adm := adm) hA0 hsz9 hM
    have hAA1 : ∀ q : Nat, H.size ≤ q → rh_A1 (lA A0 adm) oa q := fun q h => ⟨hAA q h, fun z => by have := hout.lt; omega⟩
    refine rh_call2 (vx_runSX (As := [.ref (ad 0 0), .int (xs (i + 1)), .int 1]) (rest := []) ⟨hx, hb, hml, hown, hts⟩ (hl_answer l hlf hD hI.1 (xs (i + 1)) 1) (vx_cwSW 3 hts gL_law_L_answer rfl rfl rfl (by decide +kernel) ⟨by decide, by decide⟩) (rh_prel hE hnc9 hS (fun q h => h.1.1) hAA1 hW) rfl rfl hl.1 rfl (lv_room (Nat.le_of_ble_eq_true rfl)) dL_law_950 ⟨by show cells + 5 ≤ 626516; omega, by show slots + 40 ≤ 7216556; omega⟩) hS (fun q h => h.1.1) (fun E ce q9 H locs hX9 hz9 hk9 hS g1 g2 g3 => hX9.elim) (fun o H locs hN9 hz9 hk9 hS => ?_)
    have hM := hM.keptA (fun q h1 h2 => hk9 q h1 (fun z => h2 z.1))
    have hsz9 := hS.1
    have hout := hout.kept (hk9 _ hout.lt (fun z => z.2 rfl))
    rcases hN9 with ⟨i9, hc0, hc1, hc2, rfl, hW⟩ | ⟨hc9, rfl, hW⟩ | ⟨hc9, rfl, hW⟩
    · skip
      refine W.eq (g2 := F0 m 953 ls [.int 0]) rfl ?_
      refine lv_istore (lv' := [(5, .int 0), (0, .ref b), (1, .ref (ad 0 0)), (2, .ref (adm 10 0)), (3, .ref oa), (4, .int (nI i))]) hx hb dL_law_953 hl (by decide) rfl (fun ls hl => ?_)
      refine lv_aload_n hx hb dL_law_955 rfl (lv_at hl 3 rfl) ?_
      refine lv_aload_n hx hb dL_law_956 rfl (lv_at hl 1 rfl) ?_
      refine lv_iload hx hb dL_law_957 (lv_at hl 5 rfl) ?_
      refine lv_iconst (v := 1) hx hb dL_law_959 (by decide) ?_
      refine lv_iadd hx hb dL_law_960 ?_
      refine l_sld hx hb hX hbl hbA hS hLm (i + 1) (by omega) (nI_add i 1) dL_law_961 ?_
      refine lv_aload_n hx hb dL_law_962 rfl (lv_at hl 1 rfl) ?_
      refine lv_iload hx hb dL_law_963 (lv_at hl 5 rfl) ?_
      refine lv_iconst (v := 2) hx hb dL_law_965 (by decide) ?_
      refine lv_iadd hx hb dL_law_966 ?_
      refine l_sld hx hb hX hbl hbA hS hLm (i + 2) (by omega) (nI_add i 2) dL_law_967 ?_
      refine lv_if_eq (tgt := 975) hx hb dL_law_968 (by decide) (fun c8 => absurd c8 hbz) (fun c8 => ?_)
      · refine lv_iconst (v := 1) hx hb dL_law_971 (by decide) ?_
        refine lv_goto (tgt := 976) hx hb dL_law_972 (by decide) ?_
        skip
        have hDB := lB_D hD hDm
        have hBB := lB_up (ad := ad) (oa := oa) hA0 hsz9 hW hout
        refine rh_call2 (vx_runV (As := [.int (xs (i + 1)), .int 1]) (rest := []) ⟨hx, hb, hml, hown, hts⟩ (ct_X5_answer l hDB hI.2.1.1 (xs (i + 1)) 1) (cwV 2 hts gL_law_X5_answer rfl rfl rfl (by decide +kernel) ⟨by decide, by decide⟩) (rh_preV2 hE hS (fun q h => h.1) hBB (hM.at 10 0 Nat.zero_lt_one) rfl hM) rfl rfl hl.1 rfl (lv_room (Nat.le_of_ble_eq_true rfl)) dL_law_976 ⟨by show cells + 5 + 0 ≤ 626516; omega, by show slots + 40 + 0 ≤ 7216556; omega⟩) hS (fun q h => h.1) (fun E ce q9 H locs hX9 hz9 hk9 hS g1 g2 g3 => hX9.elim) (fun o H locs hN9 hz9 hk9 hS => ?_)
        have hW := hW.keptB hk9
        have hout := hout.kept (hk9 _ hout.lt (fun z => z.2.2 rfl))
        have hsz9 := hS.1
        rcases hN9 with ⟨i8, hd0, hd1, hd2, rfl, hM⟩ | ⟨hd0, rfl, hM⟩ | ⟨i8, hd0, hd1, hd2, rfl, hM⟩
        · obtain rfl : i9 = i8 := m_inj (by omega) (by omega) (hc1.symm.trans hd1)
          refine W.eq (g2 := F0 m 979 ls []) rfl ?_
          refine lv_aload_n hx hb dL_law_979 rfl (lv_at hl 3 rfl) ?_
          have hDB := lB_D hD hDm
          have hBB := lB_up (ad := ad) (oa := oa) hA0 hsz9 hW hout
          refine rh_call2 (vx_runV (As := []) (rest := []) ⟨hx, hb, hml, hown, hts⟩ (ct_X5_thrown l hDB  ) (cwV 0 hts gL_law_X5_thrown rfl rfl rfl (by decide +kernel) ⟨by decide, by decide⟩) (rh_preV2 hE hS (fun q h => h.1) hBB (hM.at 10 0 Nat.zero_lt_one) rfl hM) rfl rfl hl.1 rfl (lv_room (Nat.le_of_ble_eq_true rfl)) dL_law_980 ⟨by show cells + 5 + 0 + 0 ≤ 626516; omega, by show slots + 40 + 0 + 0 ≤ 7216556; omega⟩) hS (fun q h => h.1) (fun E ce q9 H locs hX9 hz9 hk9 hS g1 g2 g3 => hX9.elim) (fun o H locs hN9 hz9 hk9 hS => ?_)
          have hW := hW.keptB hk9
          have hout := hout.kept (hk9 _ hout.lt (fun z => z.2.2 rfl))
          have hsz9 := hS.1
          obtain ⟨rfl, hM⟩ := hN9
          refine W.eq (g2 := F0 m 983 ls [.int 0]) rfl ?_
          refine lv_iload hx hb dL_law_983 (lv_at hl 0 rfl) ?_
          refine lv_icmp_eq (tgt := 990) hx hb dL_law_985 (by decide) (fun c9 => ?_) (fun c9 => absurd c9 (by decide))
          refine lv_goto (tgt := 1523) hx hb dL_law_990 (by decide) ?_
          exact hK _ _ _ _ _ _ _ _ _ _ _ _ ⟨rfl, rfl, hW, hM, hout, i_answer hI hc0 ((hI.2.2.2.2.2.1 _ hc0).2.2.1.symm.trans hc2) (by split <;> simp), hD, hDm, hAo⟩ hS (lv_sub hl [1, 2, 3, 4, 5] rfl)
        · exfalso
          exact (hd0 (l_ix (by omega) hc0 hc1)).elim
        · exfalso
          obtain rfl : i9 = i8 := m_inj (by omega) (by omega) (hc1.symm.trans hd1)
          exact absurd ((hI.2.2.2.2.2.1 _ hc0).2.2.1.symm.trans hc2) hd2
    · skip
      refine W.eq (g2 := F0 m 953 ls [.int 1]) rfl ?_
      refine lv_istore (lv' := [(5, .int 1), (0, .ref b), (1, .ref (ad 0 0)), (2, .ref (adm 10 0)), (3, .ref oa), (4, .int (nI i))]) hx hb dL_law_953 hl (by decide) rfl (fun ls hl => ?_)
      refine lv_aload_n hx hb dL_law_955 rfl (lv_at hl 3 rfl) ?_
      refine lv_aload_n hx hb dL_law_956 rfl (lv_at hl 1 rfl) ?_
      refine lv_iload hx hb dL_law_957 (lv_at hl 5 rfl) ?_
      refine lv_iconst (v := 1) hx hb dL_law_959 (by decide) ?_
      refine lv_iadd hx hb dL_law_960 ?_
      refine l_sld hx hb hX hbl hbA hS hLm (i + 1) (by omega) (nI_add i 1) dL_law_961 ?_
      refine lv_aload_n hx hb dL_law_962 rfl (lv_at hl 1 rfl) ?_
      refine lv_iload hx hb dL_law_963 (lv_at hl 5 rfl) ?_
      refine lv_iconst (v := 2) hx hb dL_law_965 (by decide) ?_
      refine lv_iadd hx hb dL_law_966 ?_
      refine l_sld hx hb hX hbl hbA hS hLm (i + 2) (by omega) (nI_add i 2) dL_law_967 ?_
      refine lv_if_eq (tgt := 975) hx hb dL_law_968 (by decide) (fun c10 => absurd c10 hbz) (fun c10 => ?_)
      · refine lv_iconst (v := 1) hx hb dL_law_971 (by decide) ?_
        refine lv_goto (tgt := 976) hx hb dL_law_972 (by decide) ?_
        skip
        have hDB := lB_D hD hDm
        have hBB := lB_up (ad := ad) (oa := oa) hA0 hsz9 hW hout
        refine rh_call2 (vx_runV (As := [.int (xs (i + 1)), .int 1]) (rest := []) ⟨hx, hb, hml, hown, hts⟩ (ct_X5_answer l hDB hI.2.1.1 (xs (i + 1)) 1) (cwV 2 hts gL_law_X5_answer rfl rfl rfl (by decide +kernel) ⟨by decide, by decide⟩) (rh_preV2 hE hS (fun q h => h.1) hBB (hM.at 10 0 Nat.zero_lt_one) rfl hM) rfl rfl hl.1 rfl (lv_room (Nat.le_of_ble_eq_true rfl)) dL_law_976 ⟨by show cells + 5 + 0 ≤ 626516; omega, by show slots + 40 + 0 ≤ 7216556; omega⟩) hS (fun q h => h.1) (fun E ce q9 H locs hX9 hz9 hk9 hS g1 g2 g3 => hX9.elim) (fun o H locs hN9 hz9 hk9 hS => ?_)
        have hW := hW.keptB hk9
        have hout := hout.kept (hk9 _ hout.lt (fun z => z.2.2 rfl))
        have hsz9 := hS.1
        rcases hN9 with ⟨i8, hd0, hd1, hd2, rfl, hM⟩ | ⟨hd0, rfl, hM⟩ | ⟨i8, hd0, hd1, hd2, rfl, hM⟩
        · exfalso
          exact absurd (l_ix (by omega) hd0 hd1) hc9
        · skip
          refine W.eq (g2 := F0 m 979 ls []) rfl ?_
          refine lv_aload_n hx hb dL_law_979 rfl (lv_at hl 3 rfl) ?_
          have hDB := lB_D hD hDm
          have hBB := lB_up (ad := ad) (oa := oa) hA0 hsz9 hW hout
          refine rh_call2 (vx_runV (As := []) (rest := []) ⟨hx, hb, hml, hown, hts⟩ (ct_X5_thrown l hDB  ) (cwV 0 hts gL_law_X5_thrown rfl rfl rfl (by decide +kernel) ⟨by decide, by decide⟩) (rh_preV2 hE hS (fun q h => h.1) hBB (hM.at 10 0 Nat.zero_lt_one) rfl hM) rfl rfl hl.1 rfl (lv_room (Nat.le_of_ble_eq_true rfl)) dL_law_980 ⟨by show cells + 5 + 0 + 0 ≤ 626516; omega, by show slots + 40 + 0 + 0 ≤ 7216556; omega⟩) hS (fun q h => h.1) (fun E ce q9 H locs hX9 hz9 hk9 hS g1 g2 g3 => hX9.elim) (fun o H locs hN9 hz9 hk9 hS => ?_)
          have hW := hW.keptB hk9
          have hout := hout.kept (hk9 _ hout.lt (fun z => z.2.2 rfl))
          have hsz9 := hS.1
          obtain ⟨rfl, hM⟩ := hN9
          refine W.eq (g2 := F0 m 983 ls [.int 1]) rfl ?_
          refine lv_iload hx hb dL_law_983 (lv_at hl 0 rfl) ?_
          refine lv_icmp_eq (tgt := 990) hx hb dL_law_985 (by decide) (fun c11 => ?_) (fun c11 => absurd c11 (by decide))
          refine lv_goto (tgt := 1523) hx hb dL_law_990 (by decide) ?_
          exact hK _ _ _ _ _ _ _ _ _ _ _ _ ⟨rfl, rfl, hW, hM, hout, hI, hD, hDm, hAo⟩ hS (lv_sub hl [1, 2, 3, 4, 5] rfl)
        · exfalso
          exact absurd (l_ix (by omega) hd0 hd1) hc9
    · skip
      refine W.eq (g2 := F0 m 953 ls [.int 2]) rfl ?_
      refine lv_istore (lv' := [(5, .int 2), (0, .ref b), (1, .ref (ad 0 0)), (2, .ref (adm 10 0)), (3, .ref oa), (4, .int (nI i))]) hx hb dL_law_953 hl (by decide) rfl (fun ls hl => ?_)
      refine lv_aload_n hx hb dL_law_955 rfl (lv_at hl 3 rfl) ?_
      refine lv_aload_n hx hb dL_law_956 rfl (lv_at hl 1 rfl) ?_
      refine lv_iload hx hb dL_law_957 (lv_at hl 5 rfl) ?_
      refine lv_iconst (v := 1) hx hb dL_law_959 (by decide) ?_
      refine lv_iadd hx hb dL_law_960 ?_
      refine l_sld hx hb hX hbl hbA hS hLm (i + 1) (by omega) (nI_add i 1) dL_law_961 ?_
      refine lv_aload_n hx hb dL_law_962 rfl (lv_at hl 1 rfl) ?_
      refine lv_iload hx hb dL_law_963 (lv_at hl 5 rfl) ?_
      refine lv_iconst (v := 2) hx hb dL_law_965 (by decide) ?_
      refine lv_iadd hx hb dL_law_966 ?_
      refine l_sld hx hb hX hbl hbA hS hLm (i + 2) (by omega) (nI_add i 2) dL_law_967 ?_
      refine lv_if_eq (tgt := 975) hx hb dL_law_968 (by decide) (fun c12 => absurd c12 hbz) (fun c12 => ?_)
      · refine lv_iconst (v := 1) hx hb dL_law_971 (by decide) ?_
        refine lv_goto (tgt := 976) hx hb dL_law_972 (by decide) ?_
        skip
        have hDB := lB_D hD hDm
        have hBB := lB_up (ad := ad) (oa := oa) hA0 hsz9 hW hout
        refine rh_call2 (vx_runV (As := [.int (xs (i + 1)), .int 1]) (rest := []) ⟨hx, hb, hml, hown, hts⟩ (ct_X5_answer l hDB hI.2.1.1 (xs (i + 1)) 1) (cwV 2 hts gL_law_X5_answer rfl rfl rfl (by decide +kernel) ⟨by decide, by decide⟩) (rh_preV2 hE hS (fun q h => h.1) hBB (hM.at 10 0 Nat.zero_lt_one) rfl hM) rfl rfl hl.1 rfl (lv_room (Nat.le_of_ble_eq_true rfl)) dL_law_976 ⟨by show cells + 5 + 0 ≤ 626516; omega, by show slots + 40 + 0 ≤ 7216556; omega⟩) hS (fun q h => h.1) (fun E ce q9 H locs hX9 hz9 hk9 hS g1 g2 g3 => hX9.elim) (fun o H locs hN9 hz9 hk9 hS => ?_)
        have hW := hW.keptB hk9
        have hout := hout.kept (hk9 _ hout.lt (fun z => z.2.2 rfl))
        have hsz9 := hS.1
        rcases hN9 with ⟨i8, hd0, hd1, hd2, rfl, hM⟩ | ⟨hd0, rfl, hM⟩ | ⟨i8, hd0, hd1, hd2, rfl, hM⟩
        · exfalso
          obtain ⟨i9, hc0, hc1, hc2⟩ := hc9
          obtain rfl : i9 = i8 := m_inj (by omega) (by omega) (hc1.symm.trans hd1)
          exact absurd ((hI.2.2.2.2.2.1 _ hc0).2.2.1.trans hd2) hc2
        · exfalso
          exact (hd0 (hc9.elim fun _ z => l_ix (by omega) z.1 z.2.1)).elim
        · skip
          refine W.eq (g2 := F0 m 979 ls []) rfl ?_
          refine lv_aload_n hx hb dL_law_979 rfl (lv_at hl 3 rfl) ?_
          have hDB := lB_D hD hDm
          have hBB := lB_up (ad := ad) (oa := oa) hA0 hsz9 hW hout
          refine rh_call2 (vx_runV (As := []) (rest := []) ⟨hx, hb, hml, hown, hts⟩ (ct_X5_thrown l hDB  ) (cwV 0 hts gL_law_X5_thrown rfl rfl rfl (by decide +kernel) ⟨by decide, by decide⟩) (rh_preV2 hE hS (fun q h => h.1) hBB (hM.at 10 0 Nat.zero_lt_one) rfl hM) rfl rfl hl.1 rfl (lv_room (Nat.le_of_ble_eq_true rfl)) dL_law_980 ⟨by show cells + 5 + 0 + 0 ≤ 626516; omega, by show slots + 40 + 0 + 0 ≤ 7216556; omega⟩) hS (fun q h => h.1) (fun E ce q9 H locs hX9 hz9 hk9 hS g1 g2 g3 => hX9.elim) (fun o H locs hN9 hz9 hk9 hS => ?_)
          have hW := hW.keptB hk9
          have hout := hout.kept (hk9 _ hout.lt (fun z => z.2.2 rfl))
          have hsz9 := hS.1
          obtain ⟨rfl, hM⟩ := hN9
          refine W.eq (g2 := F0 m 983 ls [.int 2]) rfl ?_
          refine lv_iload hx hb dL_law_983 (lv_at hl 0 rfl) ?_
          refine lv_icmp_eq (tgt := 990) hx hb dL_law_985 (by decide) (fun c13 => ?_) (fun c13 => absurd c13 (by decide))
          refine lv_goto (tgt := 1523) hx hb dL_law_990 (by decide) ?_
          exact hK _ _ _ _ _ _ _ _ _ _ _ _ ⟨rfl, rfl, hW, hM, hout, hI, hD, hDm, hAo⟩ hS (lv_sub hl [1, 2, 3, 4, 5] rfl)
set_option maxHeartbeats 8000000 in
set_option maxRecDepth 100000 in
theorem op_agree {p : Program} {l : Launch} {e : Env} {s : State} {m : MethodId} {below : List Frame} {meth : Method} {c : Code} {G : va_G} {ca : Nat → ClassId} {A0 : Nat → Prop} {b L : Nat} {xs : Nat → Int32} {h9 hm oa i : Nat} {cells slots : Nat} {Q : State → Prop} {ad adm : Nat → Nat → Nat} {nf nc : Nat} {r : rh_R} {v : rh_V} {w : rh_Wm} {th : Int32} {f : Nat → Int64} {H : Heap} {locs : List Loc} {ls : Array Slot} (C : lwC p l s m c G ca A0 b L xs) (hLS : lwS G ca A0 h9 hm oa ad adm nf nc r v w th f H) (hS : va_S A0 s.heap H locs) (hl : lv_has ls 8 [(0, .ref b), (1, .ref h9), (2, .ref hm), (3, .ref oa), (4, .int (nI i))]) (hi : i + 5 < L) (hcl : cells + 5 ≤ 626516) (hsl : slots + 40 ≤ 7216556) (hK : lwK p l e s m below meth c G ca A0 b h9 hm oa i cells slots Q) : W p l e room_1 s m #[Value.ref b] below meth c H locs cells slots Q (F0 m 993 ls []) := by
  obtain ⟨hx, hb, hml, hown, hts, hE, hnc9, hlf, hA0, hbA, hbl, hX, hLm⟩ := C
  obtain ⟨rfl, rfl, hW, hM, hout, hI, hD, hDm, hAo⟩ := hLS
  have hnf9 := hI.1.1
  have hnn9 := hI.1.2.1
  have hnow := l_now hI
  have hsz9 := hS.1
  have hl : lv_has ls 8 [(0, .ref b), (1, .ref (ad 0 0)), (2, .ref (adm 10 0)), (3, .ref oa), (4, .int (nI i))] := hl
  refine lv_aload_n hx hb dL_law_993 rfl (lv_at hl 1 rfl) ?_
  refine lv_aload_n hx hb dL_law_994 rfl (lv_at hl 0 rfl) ?_
  refine lv_iload hx hb dL_law_995 (lv_at hl 4 rfl) ?_
  refine lv_iconst (v := 1) hx hb dL_law_997 (by decide) ?_
  refine lv_iadd hx hb dL_law_998 ?_
  refine l_sld hx hb hX hbl hbA hS hLm (i + 1) (by omega) (nI_add i 1) dL_law_999 ?_
  refine lv_aload_n hx hb dL_law_1000 rfl (lv_at hl 0 rfl) ?_
  refine lv_iload hx hb dL_law_1001 (lv_at hl 4 rfl) ?_
  refine lv_iconst (v := 2) hx hb dL_law_1003 (by decide) ?_
  refine lv_iadd hx hb dL_law_1004 ?_
  refine l_sld hx hb hX hbl hbA hS hLm (i + 2) (by omega) (nI_add i 2) dL_law_1005 ?_
  refine lv_aload_n hx hb dL_law_1006 rfl (lv_at hl 0 rfl) ?_
  refine lv_iload hx hb dL_law_1007 (lv_at hl 4 rfl) ?_
  refine lv_iconst (v := 3) hx hb dL_law_1009 (by decide) ?_
  refine lv_iadd hx hb dL_law_1010 ?_
  refine l_sld hx hb hX hbl hbA hS hLm (i + 3) (by omega) (nI_add i 3) dL_law_1011 ?_
  refine lv_aload_n hx hb dL_law_1012 rfl (lv_at hl 0 rfl) ?_
  refine lv_iload hx hb dL_law_1013 (lv_at hl 4 rfl) ?_
  refine lv_iconst (v := 4) hx hb dL_law_1015 (by decide) ?_
  refine lv_iadd hx hb dL_law_1016 ?_
  refine l_sld hx hb hX hbl hbA hS hLm (i + 4) (by omega) (nI_add i 4) dL_law_1017 ?_
  refine lv_aload_n hx hb dL_law_1018 rfl (lv_at hl 0 rfl) ?_
  refine lv_iload hx hb dL_law_1019 (lv_at hl 4 rfl) ?_
  refine lv_iconst (v := 5) hx hb dL_law_1021 (by decide) ?_
  refine lv_iadd hx hb dL_law_1022 ?_
  refine l_sld hx hb hX hbl hbA hS hLm (i + 5) (by omega) (nI_add i 5) dL_law_1023 ?_
  refine lv_if_eq (tgt := 1031) hx hb dL_law_1024 (by decide) (fun c1 => ?_) (fun c1 => ?_)
  · have hbz := c1
    refine lv_iconst (v := 0) hx hb dL_law_1031 (by decide) ?_
    have hAA := lA_up (adm := adm) hA0 hsz9 hM
    have hAA1 : ∀ q : Nat, H.size ≤ q → rh_A1 (lA A0 adm) oa q := fun q h => ⟨hAA q h, fun z => by have := hout.lt; omega⟩
    refine rh_call2 (vx_runSX (As := [.ref (ad 0 0), .int (xs (i + 1)), .int (xs (i + 2)), .int (xs (i + 3)), .int (xs (i + 4)), .int 0]) (rest := []) ⟨hx, hb, hml, hown, hts⟩ (hl_agree l hlf hD hI.1 (xs (i + 1)) (xs (i + 2)) (xs (i + 3)) (xs (i + 4)) 0 (by first | exact Or.inl rfl | exact Or.inr rfl)) (vx_cwSW 6 hts gL_law_L_agree rfl rfl rfl (by decide +kernel) ⟨by decide, by decide⟩) (rh_prel hE hnc9 hS (fun q h => h.1.1) hAA1 hW) rfl rfl hl.1 rfl (lv_room (Nat.le_of_ble_eq_true rfl)) dL_law_1032 ⟨by show cells + 5 ≤ 626516; omega, by show slots + 40 ≤ 7216556; omega⟩) hS (fun q h => h.1.1) (fun E ce q9 H locs hX9 hz9 hk9 hS g1 g2 g3 => hX9.elim) (fun o H locs hN9 hz9 hk9 hS => ?_)
    have hM := hM.keptA (fun q h1 h2 => hk9 q h1 (fun z => h2 z.1))
    have hsz9 := hS.1
    have hout := hout.kept (hk9 _ hout.lt (fun z => z.2 rfl))
    rcases hN9 with ⟨h9, k9, hc0, hc1, hc2, hc3, hc4, hc5, hc6, rfl, hW⟩ | ⟨hc9, rfl, hW⟩ | ⟨hc9, rfl, hW⟩
    · skip
      refine W.eq (g2 := F0 m 1035 ls [.int 0]) rfl ?_
      refine lv_istore (lv' := [(5, .int 0), (0, .ref b), (1, .ref (ad 0 0)), (2, .ref (adm 10 0)), (3, .ref oa), (4, .int (nI i))]) hx hb dL_law_1035 hl (by decide) rfl (fun ls hl => ?_)
      refine lv_aload_n hx hb dL_law_1037 rfl (lv_at hl 3 rfl) ?_
      refine lv_aload_n hx hb dL_law_1038 rfl (lv_at hl 1 rfl) ?_
      refine lv_iload hx hb dL_law_1039 (lv_at hl 5 rfl) ?_
      refine lv_iconst (v := 1) hx hb dL_law_1041 (by decide) ?_
      refine lv_iadd hx hb dL_law_1042 ?_
      refine l_sld hx hb hX hbl hbA hS hLm (i + 1) (by omega) (nI_add i 1) dL_law_1043 ?_
      refine lv_aload_n hx hb dL_law_1044 rfl (lv_at hl 1 rfl) ?_
      refine lv_iload hx hb dL_law_1045 (lv_at hl 5 rfl) ?_
      refine lv_iconst (v := 2) hx hb dL_law_1047 (by decide) ?_
      refine lv_iadd hx hb dL_law_1048 ?_
      refine l_sld hx hb hX hbl hbA hS hLm (i + 2) (by omega) (nI_add i 2) dL_law_1049 ?_
      refine lv_aload_n hx hb dL_law_1050 rfl (lv_at hl 1 rfl) ?_
      refine lv_iload hx hb dL_law_1051 (lv_at hl 5 rfl) ?_
      refine lv_iconst (v := 3) hx hb dL_law_1053 (by decide) ?_
      refine lv_iadd hx hb dL_law_1054 ?_
      refine l_sld hx hb hX hbl hbA hS hLm (i + 3) (by omega) (nI_add i 3) dL_law_1055 ?_
      refine lv_aload_n hx hb dL_law_1056 rfl (lv_at hl 1 rfl) ?_
      refine lv_iload hx hb dL_law_1057 (lv_at hl 5 rfl) ?_
      refine lv_iconst (v := 4) hx hb dL_law_1059 (by decide) ?_
      refine lv_iadd hx hb dL_law_1060 ?_
      refine l_sld hx hb hX hbl hbA hS hLm (i + 4) (by omega) (nI_add i 4) dL_law_1061 ?_
      refine lv_aload_n hx hb dL_law_1062 rfl (lv_at hl 1 rfl) ?_
      refine lv_iload hx hb dL_law_1063 (lv_at hl 5 rfl) ?_
      refine lv_iconst (v := 5) hx hb dL_law_1065 (by decide) ?_
      refine lv_iadd hx hb dL_law_1066 ?_
      refine l_sld hx hb hX hbl hbA hS hLm (i + 5) (by omega) (nI_add i 5) dL_law_1067 ?_
      refine lv_if_eq (tgt := 1075) hx hb dL_law_1068 (by decide) (fun c2 => ?_) (fun c2 => absurd hbz c2)
      · refine lv_iconst (v := 0) hx hb dL_law_1075 (by decide) ?_
        skip
        have hDB := lB_D hD hDm
        have hBB := lB_up (ad := ad) (oa := oa) hA0 hsz9 hW hout
        refine rh_call2 (vx_runV (As := [.int (xs (i + 1)), .int (xs (i + 2)), .int (xs (i + 3)), .int (xs (i + 4)), .int 0]) (rest := []) ⟨hx, hb, hml, hown, hts⟩ (ct_X5_agree l hDB  (xs (i + 1)) (xs (i + 2)) (xs (i + 3)) (xs (i + 4)) 0 (by first | exact Or.inl rfl | exact Or.inr rfl)) (cwV 5 hts gL_law_X5_agree rfl rfl rfl (by decide +kernel) ⟨by decide, by decide⟩) (rh_preV2 hE hS (fun q h => h.1) hBB (hM.at 10 0 Nat.zero_lt_one) rfl hM) rfl rfl hl.1 rfl (lv_room (Nat.le_of_ble_eq_true rfl)) dL_law_1076 ⟨by show cells + 5 + 0 ≤ 626516; omega, by show slots + 40 + 0 ≤ 7216556; omega⟩) hS (fun q h => h.1) (fun E ce q9 H locs hX9 hz9 hk9 hS g1 g2 g3 => hX9.elim) (fun o H locs hN9 hz9 hk9 hS => ?_)
        have hW := hW.keptB hk9
        have hout := hout.kept (hk9 _ hout.lt (fun z => z.2.2 rfl))
        have hsz9 := hS.1
        rcases hN9 with ⟨h8, k8, hd0, hd1, hd2, hd3, hd4, hd5, hd6, rfl, hM⟩ | ⟨hd0, rfl, hM⟩ | ⟨hd0, hd1, hd2, rfl, hM⟩
        · obtain rfl : h9 = h8 := m_inj (by omega) (by omega) (hc3.symm.trans hd3)
          obtain rfl : k9 = k8 := m_inj (by omega) (by omega) (hc4.symm.trans hd4)
          refine W.eq (g2 := F0 m 1079 ls []) rfl ?_
          refine lv_aload_n hx hb dL_law_1079 rfl (lv_at hl 3 rfl) ?_
          have hDB := lB_D hD hDm
          have hBB := lB_up (ad := ad) (oa := oa) hA0 hsz9 hW hout
          refine rh_call2 (vx_runV (As := []) (rest := []) ⟨hx, hb, hml, hown, hts⟩ (ct_X5_thrown l hDB  ) (cwV 0 hts gL_law_X5_thrown rfl rfl rfl (by decide +kernel) ⟨by decide, by decide⟩) (rh_preV2 hE hS (fun q h => h.1) hBB (hM.at 10 0 Nat.zero_lt_one) rfl hM) rfl rfl hl.1 rfl (lv_room (Nat.le_of_ble_eq_true rfl)) dL_law_1080 ⟨by show cells + 5 + 0 + 0 ≤ 626516; omega, by show slots + 40 + 0 + 0 ≤ 7216556; omega⟩) hS (fun q h => h.1) (fun E ce q9 H locs hX9 hz9 hk9 hS g1 g2 g3 => hX9.elim) (fun o H locs hN9 hz9 hk9 hS => ?_)
          have hW := hW.keptB hk9
          have hout := hout.kept (hk9 _ hout.lt (fun z => z.2.2 rfl))
          have hsz9 := hS.1
          obtain ⟨rfl, hM⟩ := hN9
          refine W.eq (g2 := F0 m 1083 ls [.int 0]) rfl ?_
          refine lv_iload hx hb dL_law_1083 (lv_at hl 0 rfl) ?_
          refine lv_icmp_eq (tgt := 1090) hx hb dL_law_1085 (by decide) (fun c3 => ?_) (fun c3 => absurd c3 (by decide))
          refine lv_goto (tgt := 1523) hx hb dL_law_1090 (by decide) ?_
          exact hK _ _ _ _ _ _ _ _ _ _ _ _ ⟨rfl, rfl, hW, hM, hout, i_agree hI _ _ _, hD, hDm, hAo⟩ hS (lv_sub hl [1, 2, 3, 4, 5] rfl)
        · exfalso
          exact (hd0 ⟨l_ix (by omega) hc0 hc3, l_ix (by omega) hc1 hc4⟩).elim
        · exfalso
          exact (hd2.elim (fun z => hc2 (m_inj (by omega) (by omega) (hc3.symm.trans (z.trans hc4)))) (fun z => z ⟨hc5, hc6⟩)).elim
    · skip
      refine W.eq (g2 := F0 m 1035 ls [.int 1]) rfl ?_
      refine lv_istore (lv' := [(5, .int 1), (0, .ref b), (1, .ref (ad 0 0)), (2, .ref (adm 10 0)), (3, .ref oa), (4, .int (nI i))]) hx hb dL_law_1035 hl (by decide) rfl (fun ls hl => ?_)
      refine lv_aload_n hx hb dL_law_1037 rfl (lv_at hl 3 rfl) ?_
      refine lv_aload_n hx hb dL_law_1038 rfl (lv_at hl 1 rfl) ?_
      refine lv_iload hx hb dL_law_1039 (lv_at hl 5 rfl) ?_
      refine lv_iconst (v := 1) hx hb dL_law_1041 (by decide) ?_
      refine lv_iadd hx hb dL_law_1042 ?_
      refine l_sld hx hb hX hbl hbA hS hLm (i + 1) (by omega) (nI_add i 1) dL_law_1043 ?_
      refine lv_aload_n hx hb dL_law_1044 rfl (lv_at hl 1 rfl) ?_
      refine lv_iload hx hb dL_law_1045 (lv_at hl 5 rfl) ?_
      refine lv_iconst (v := 2) hx hb dL_law_1047 (by decide) ?_
      refine lv_iadd hx hb dL_law_1048 ?_
      refine l_sld hx hb hX hbl hbA hS hLm (i + 2) (by omega) (nI_add i 2) dL_law_1049 ?_
      refine lv_aload_n hx hb dL_law_1050 rfl (lv_at hl 1 rfl) ?_
      refine lv_iload hx hb dL_law_1051 (lv_at hl 5 rfl) ?_
      refine lv_iconst (v := 3) hx hb dL_law_1053 (by decide) ?_
      refine lv_iadd hx hb dL_law_1054 ?_
      refine l_sld hx hb hX hbl hbA hS hLm (i + 3) (by omega) (nI_add i 3) dL_law_1055 ?_
      refine lv_aload_n hx hb dL_law_1056 rfl (lv_at hl 1 rfl) ?_
      refine lv_iload hx hb dL_law_1057 (lv_at hl 5 rfl) ?_
      refine lv_iconst (v := 4) hx hb dL_law_1059 (by decide) ?_
      refine lv_iadd hx hb dL_law_1060 ?_
      refine l_sld hx hb hX hbl hbA hS hLm (i + 4) (by omega) (nI_add i 4) dL_law_1061 ?_
      refine lv_aload_n hx hb dL_law_1062 rfl (lv_at hl 1 rfl) ?_
      refine lv_iload hx hb dL_law_1063 (lv_at hl 5 rfl) ?_
      refine lv_iconst (v := 5) hx hb dL_law_1065 (by decide) ?_
      refine lv_iadd hx hb dL_law_1066 ?_
      refine l_sld hx hb hX hbl hbA hS hLm (i + 5) (by omega) (nI_add i 5) dL_law_1067 ?_
      refine lv_if_eq (tgt := 1075) hx hb dL_law_1068 (by decide) (fun c4 => ?_) (fun c4 => absurd hbz c4)
      · refine lv_iconst (v := 0) hx hb dL_law_1075 (by decide) ?_
        skip
        have hDB := lB_D hD hDm
        have hBB := lB_up (ad := ad) (oa := oa) hA0 hsz9 hW hout
        refine rh_call2 (vx_runV (As := [.int (xs (i + 1)), .int (xs (i + 2)), .int (xs (i + 3)), .int (xs (i + 4)), .int 0]) (rest := []) ⟨hx, hb, hml, hown, hts⟩ (ct_X5_agree l hDB  (xs (i + 1)) (xs (i + 2)) (xs (i + 3)) (xs (i + 4)) 0 (by first | exact Or.inl rfl | exact Or.inr rfl)) (cwV 5 hts gL_law_X5_agree rfl rfl rfl (by decide +kernel) ⟨by decide, by decide⟩) (rh_preV2 hE hS (fun q h => h.1) hBB (hM.at 10 0 Nat.zero_lt_one) rfl hM) rfl rfl hl.1 rfl (lv_room (Nat.le_of_ble_eq_true rfl)) dL_law_1076 ⟨by show cells + 5 + 0 ≤ 626516; omega, by show slots + 40 + 0 ≤ 7216556; omega⟩) hS (fun q h => h.1) (fun E ce q9 H locs hX9 hz9 hk9 hS g1 g2 g3 => hX9.elim) (fun o H locs hN9 hz9 hk9 hS => ?_)
        have hW := hW.keptB hk9
        have hout := hout.kept (hk9 _ hout.lt (fun z => z.2.2 rfl))
        have hsz9 := hS.1
        rcases hN9 with ⟨h8, k8, hd0, hd1, hd2, hd3, hd4, hd5, hd6, rfl, hM⟩ | ⟨hd0, rfl, hM⟩ | ⟨hd0, hd1, hd2, rfl, hM⟩
        · exfalso
          exact (hc9 ⟨l_ix (by omega) hd0 hd3, l_ix (by omega) hd1 hd4⟩).elim
        · skip
          refine W.eq (g2 := F0 m 1079 ls []) rfl ?_
          refine lv_aload_n hx hb dL_law_1079 rfl (lv_at hl 3 rfl) ?_
          have hDB := lB_D hD hDm
          have hBB := lB_up (ad := ad) (oa := oa) hA0 hsz9 hW hout
          refine rh_call2 (vx_runV (As := []) (rest := []) ⟨hx, hb, hml, hown, hts⟩ (ct_X5_thrown l hDB  ) (cwV 0 hts gL_law_X5_thrown rfl rfl rfl (by decide +kernel) ⟨by decide, by decide⟩) (rh_preV2 hE hS (fun q h => h.1) hBB (hM.at 10 0 Nat.zero_lt_one) rfl hM) rfl rfl hl.1 rfl (lv_room (Nat.le_of_ble_eq_true rfl)) dL_law_1080 ⟨by show cells + 5 + 0 + 0 ≤ 626516; omega, by show slots + 40 + 0 + 0 ≤ 7216556; omega⟩) hS (fun q h => h.1) (fun E ce q9 H locs hX9 hz9 hk9 hS g1 g2 g3 => hX9.elim) (fun o H locs hN9 hz9 hk9 hS => ?_)
          have hW := hW.keptB hk9
          have hout := hout.kept (hk9 _ hout.lt (fun z => z.2.2 rfl))
          have hsz9 := hS.1
          obtain ⟨rfl, hM⟩ := hN9
          refine W.eq (g2 := F0 m 1083 ls [.int 1]) rfl ?_
          refine lv_iload hx hb dL_law_1083 (lv_at hl 0 rfl) ?_
          refine lv_icmp_eq (tgt := 1090) hx hb dL_law_1085 (by decide) (fun c5 => ?_) (fun c5 => absurd c5 (by decide))
          refine lv_goto (tgt := 1523) hx hb dL_law_1090 (by decide) ?_
          exact hK _ _ _ _ _ _ _ _ _ _ _ _ ⟨rfl, rfl, hW, hM, hout, hI, hD, hDm, hAo⟩ hS (lv_sub hl [1, 2, 3, 4, 5] rfl)
        · exfalso
          exact (hc9 ⟨hd0, hd1⟩).elim
    · skip
      refine W.eq (g2 := F0 m 1035 ls [.int 2]) rfl ?_
      refine lv_istore (lv' := [(5, .int 2), (0, .ref b), (1, .ref (ad 0 0)), (2, .ref (adm 10 0)), (3, .ref oa), (4, .int (nI i))]) hx hb dL_law_1035 hl (by decide) rfl (fun ls hl => ?_)
      refine lv_aload_n hx hb dL_law_1037 rfl (lv_at hl 3 rfl) ?_
      refine lv_aload_n hx hb dL_law_1038 rfl (lv_at hl 1 rfl) ?_
      refine lv_iload hx hb dL_law_1039 (lv_at hl 5 rfl) ?_
      refine lv_iconst (v := 1) hx hb dL_law_1041 (by decide) ?_
      refine lv_iadd hx hb dL_law_1042 ?_
      refine l_sld hx hb hX hbl hbA hS hLm (i + 1) (by omega) (nI_add i 1) dL_law_1043 ?_
      refine lv_aload_n hx hb dL_law_1044 rfl (lv_at hl 1 rfl) ?_
      refine lv_iload hx hb dL_law_1045 (lv_at hl 5 rfl) ?_
      refine lv_iconst (v := 2) hx hb dL_law_1047 (by decide) ?_
      refine lv_iadd hx hb dL_law_1048 ?_
      refine l_sld hx hb hX hbl hbA hS hLm (i + 2) (by omega) (nI_add i 2) dL_law_1049 ?_
      refine lv_aload_n hx hb dL_law_1050 rfl (lv_at hl 1 rfl) ?_
      refine lv_iload hx hb dL_law_1051 (lv_at hl 5 rfl) ?_
      refine lv_iconst (v := 3) hx hb dL_law_1053 (by decide) ?_
      refine lv_iadd hx hb dL_law_1054 ?_
      refine l_sld hx hb hX hbl hbA hS hLm (i + 3) (by omega) (nI_add i 3) dL_law_1055 ?_
      refine lv_aload_n hx hb dL_law_1056 rfl (lv_at hl 1 rfl) ?_
      refine lv_iload hx hb dL_law_1057 (lv_at hl 5 rfl) ?_
      refine lv_iconst (v := 4) hx hb dL_law_1059 (by decide) ?_
      refine lv_iadd hx hb dL_law_1060 ?_
      refine l_sld hx hb hX hbl hbA hS hLm (i + 4) (by omega) (nI_add i 4) dL_law_1061 ?_
      refine lv_aload_n hx hb dL_law_1062 rfl (lv_at hl 1 rfl) ?_
      refine lv_iload hx hb dL_law_1063 (lv_at hl 5 rfl) ?_
      refine lv_iconst (v := 5) hx hb dL_law_1065 (by decide) ?_
      refine lv_iadd hx hb dL_law_1066 ?_
      refine l_sld hx hb hX hbl hbA hS hLm (i + 5) (by omega) (nI_add i 5) dL_law_1067 ?_
      refine lv_if_eq (tgt := 1075) hx hb dL_law_1068 (by decide) (fun c6 => ?_) (fun c6 => absurd hbz c6)
      · refine lv_iconst (v := 0) hx hb dL_law_1075 (by decide) ?_
        skip
        have hDB := lB_D hD hDm
        have hBB := lB_up (ad := ad) (oa := oa) hA0 hsz9 hW hout
        refine rh_call2 (vx_runV (As := [.int (xs (i + 1)), .int (xs (i + 2)), .int (xs (i + 3)), .int (xs (i + 4)), .int 0]) (rest := []) ⟨hx, hb, hml, hown, hts⟩ (ct_X5_agree l hDB  (xs (i + 1)) (xs (i + 2)) (xs (i + 3)) (xs (i + 4)) 0 (by first | exact Or.inl rfl | exact Or.inr rfl)) (cwV 5 hts gL_law_X5_agree rfl rfl rfl (by decide +kernel) ⟨by decide, by decide⟩) (rh_preV2 hE hS (fun q h => h.1) hBB (hM.at 10 0 Nat.zero_lt_one) rfl hM) rfl rfl hl.1 rfl (lv_room (Nat.le_of_ble_eq_true rfl)) dL_law_1076 ⟨by show cells + 5 + 0 ≤ 626516; omega, by show slots + 40 + 0 ≤ 7216556; omega⟩) hS (fun q h => h.1) (fun E ce q9 H locs hX9 hz9 hk9 hS g1 g2 g3 => hX9.elim) (fun o H locs hN9 hz9 hk9 hS => ?_)
        have hW := hW.keptB hk9
        have hout := hout.kept (hk9 _ hout.lt (fun z => z.2.2 rfl))
        have hsz9 := hS.1
        rcases hN9 with ⟨h8, k8, hd0, hd1, hd2, hd3, hd4, hd5, hd6, rfl, hM⟩ | ⟨hd0, rfl, hM⟩ | ⟨hd0, hd1, hd2, rfl, hM⟩
        · exfalso
          exact (hc9.2.2.elim (fun z => hd2 (m_inj (by omega) (by omega) (hd3.symm.trans (z.trans hd4)))) (fun z => z ⟨hd5, hd6⟩)).elim
        · exfalso
          exact (hd0 ⟨hc9.1, hc9.2.1⟩).elim
        · skip
          refine W.eq (g2 := F0 m 1079 ls []) rfl ?_
          refine lv_aload_n hx hb dL_law_1079 rfl (lv_at hl 3 rfl) ?_
          have hDB := lB_D hD hDm
          have hBB := lB_up (ad := ad) (oa := oa) hA0 hsz9 hW hout
          refine rh_call2 (vx_runV (As := []) (rest := []) ⟨hx, hb, hml, hown, hts⟩ (ct_X5_thrown l hDB  ) (cwV 0 hts gL_law_X5_thrown rfl rfl rfl (by decide +kernel) ⟨by decide, by decide⟩) (rh_preV2 hE hS (fun q h => h.1) hBB (hM.at 10 0 Nat.zero_lt_one) rfl hM) rfl rfl hl.1 rfl (lv_room (Nat.le_of_ble_eq_true rfl)) dL_law_1080 ⟨by show cells + 5 + 0 + 0 ≤ 626516; omega, by show slots + 40 + 0 + 0 ≤ 7216556; omega⟩) hS (fun q h => h.1) (fun E ce q9 H locs hX9 hz9 hk9 hS g1 g2 g3 => hX9.elim) (fun o H locs hN9 hz9 hk9 hS => ?_)
          have hW := hW.keptB hk9
          have hout := hout.kept (hk9 _ hout.lt (fun z => z.2.2 rfl))
          have hsz9 := hS.1
          obtain ⟨rfl, hM⟩ := hN9
          refine W.eq (g2 := F0 m 1083 ls [.int 2]) rfl ?_
          refine lv_iload hx hb dL_law_1083 (lv_at hl 0 rfl) ?_
          refine lv_icmp_eq (tgt := 1090) hx hb dL_law_1085 (by decide) (fun c7 => ?_) (fun c7 => absurd c7 (by decide))
          refine lv_goto (tgt := 1523) hx hb dL_law_1090 (by decide) ?_
          exact hK _ _ _ _ _ _ _ _ _ _ _ _ ⟨rfl, rfl, hW, hM, hout, hI, hD, hDm, hAo⟩ hS (lv_sub hl [1, 2, 3, 4, 5] rfl)
  · have hbz := c1
    refine lv_iconst (v := 1) hx hb dL_law_1027 (by decide) ?_
    refine lv_goto (tgt := 1032) hx hb dL_law_1028 (by decide) ?_
    have hAA := lA_up (adm := adm) hA0 hsz9 hM
    have hAA1 : ∀ q : Nat, H.size ≤ q → rh_A1 (lA A0 adm) oa q := fun q h => ⟨hAA q h, fun z => by have := hout.lt; omega⟩
    refine rh_call2 (vx_runSX (As := [.ref (ad 0 0), .int (xs (i + 1)), .int (xs (i + 2)), .int (xs (i + 3)), .int (xs (i + 4)), .int 1]) (rest := []) ⟨hx, hb, hml, hown, hts⟩ (hl_agree l hlf hD hI.1 (xs (i + 1)) (xs (i + 2)) (xs (i + 3)) (xs (i + 4)) 1 (by first | exact Or.inl rfl | exact Or.inr rfl)) (vx_cwSW 6 hts gL_law_L_agree rfl rfl rfl (by decide +kernel) ⟨by decide, by decide⟩) (rh_prel hE hnc9 hS (fun q h => h.1.1) hAA1 hW) rfl rfl hl.1 rfl (lv_room (Nat.le_of_ble_eq_true rfl)) dL_law_1032 ⟨by show cells + 5 ≤ 626516; omega, by show slots + 40 ≤ 7216556; omega⟩) hS (fun q h => h.1.1) (fun E ce q9 H locs hX9 hz9 hk9 hS g1 g2 g3 => hX9.elim) (fun o H locs hN9 hz9 hk9 hS => ?_)
    have hM := hM.keptA (fun q h1 h2 => hk9 q h1 (fun z => h2 z.1))
    have hsz9 := hS.1
    have hout := hout.kept (hk9 _ hout.lt (fun z => z.2 rfl))
    rcases hN9 with ⟨h9, k9, hc0, hc1, hc2, hc3, hc4, hc5, hc6, rfl, hW⟩ | ⟨hc9, rfl, hW⟩ | ⟨hc9, rfl, hW⟩
    · skip
      refine W.eq (g2 := F0 m 1035 ls [.int 0]) rfl ?_
      refine lv_istore (lv' := [(5, .int 0), (0, .ref b), (1, .ref (ad 0 0)), (2, .ref (adm 10 0)), (3, .ref oa), (4, .int (nI i))]) hx hb dL_law_1035 hl (by decide) rfl (fun ls hl => ?_)
      refine lv_aload_n hx hb dL_law_1037 rfl (lv_at hl 3 rfl) ?_
      refine lv_aload_n hx hb dL_law_1038 rfl (lv_at hl 1 rfl) ?_
      refine lv_iload hx hb dL_law_1039 (lv_at hl 5 rfl) ?_
      refine lv_iconst (v := 1) hx hb dL_law_1041 (by decide) ?_
      refine lv_iadd hx hb dL_law_1042 ?_
      refine l_sld hx hb hX hbl hbA hS hLm (i + 1) (by omega) (nI_add i 1) dL_law_1043 ?_
      refine lv_aload_n hx hb dL_law_1044 rfl (lv_at hl 1 rfl) ?_
      refine lv_iload hx hb dL_law_1045 (lv_at hl 5 rfl) ?_
      refine lv_iconst (v := 2) hx hb dL_law_1047 (by decide) ?_
      refine lv_iadd hx hb dL_law_1048 ?_
      refine l_sld hx hb hX hbl hbA hS hLm (i + 2) (by omega) (nI_add i 2) dL_law_1049 ?_
      refine lv_aload_n hx hb dL_law_1050 rfl (lv_at hl 1 rfl) ?_
      refine lv_iload hx hb dL_law_1051 (lv_at hl 5 rfl) ?_
      refine lv_iconst (v := 3) hx hb dL_law_1053 (by decide) ?_
      refine lv_iadd hx hb dL_law_1054 ?_
      refine l_sld hx hb hX hbl hbA hS hLm (i + 3) (by omega) (nI_add i 3) dL_law_1055 ?_
      refine lv_aload_n hx hb dL_law_1056 rfl (lv_at hl 1 rfl) ?_
      refine lv_iload hx hb dL_law_1057 (lv_at hl 5 rfl) ?_
      refine lv_iconst (v := 4) hx hb dL_law_1059 (by decide) ?_
      refine lv_iadd hx hb dL_law_1060 ?_
      refine l_sld hx hb hX hbl hbA hS hLm (i + 4) (by omega) (nI_add i 4) dL_law_1061 ?_
      refine lv_aload_n hx hb dL_law_1062 rfl (lv_at hl 1 rfl) ?_
      refine lv_iload hx hb dL_law_1063 (lv_at hl 5 rfl) ?_
      refine lv_iconst (v := 5) hx hb dL_law_1065 (by decide) ?_
      refine lv_iadd hx hb dL_law_1066 ?_
      refine l_sld hx hb hX hbl hbA hS hLm (i + 5) (by omega) (nI_add i 5) dL_law_1067 ?_
      refine lv_if_eq (tgt := 1075) hx hb dL_law_1068 (by decide) (fun c8 => absurd c8 hbz) (fun c8 => ?_)
      · refine lv_iconst (v := 1) hx hb dL_law_1071 (by decide) ?_
        refine lv_goto (tgt := 1076) hx hb dL_law_1072 (by decide) ?_
        skip
        have hDB := lB_D hD hDm
        have hBB := lB_up (ad := ad) (oa := oa) hA0 hsz9 hW hout
        refine rh_call2 (vx_runV (As := [.int (xs (i + 1)), .int (xs (i + 2)), .int (xs (i + 3)), .int (xs (i + 4)), .int 1]) (rest := []) ⟨hx, hb, hml, hown, hts⟩ (ct_X5_agree l hDB  (xs (i + 1)) (xs (i + 2)) (xs (i + 3)) (xs (i + 4)) 1 (by first | exact Or.inl rfl | exact Or.inr rfl)) (cwV 5 hts gL_law_X5_agree rfl rfl rfl (by decide +kernel) ⟨by decide, by decide⟩) (rh_preV2 hE hS (fun q h => h.1) hBB (hM.at 10 0 Nat.zero_lt_one) rfl hM) rfl rfl hl.1 rfl (lv_room (Nat.le_of_ble_eq_true rfl)) dL_law_1076 ⟨by show cells + 5 + 0 ≤ 626516; omega, by show slots + 40 + 0 ≤ 7216556; omega⟩) hS (fun q h => h.1) (fun E ce q9 H locs hX9 hz9 hk9 hS g1 g2 g3 => hX9.elim) (fun o H locs hN9 hz9 hk9 hS => ?_)
        have hW := hW.keptB hk9
        have hout := hout.kept (hk9 _ hout.lt (fun z => z.2.2 rfl))
        have hsz9 := hS.1
        rcases hN9 with ⟨h8, k8, hd0, hd1, hd2, hd3, hd4, hd5, hd6, rfl, hM⟩ | ⟨hd0, rfl, hM⟩ | ⟨hd0, hd1, hd2, rfl, hM⟩
        · obtain rfl : h9 = h8 := m_inj (by omega) (by omega) (hc3.symm.trans hd3)
          obtain rfl : k9 = k8 := m_inj (by omega) (by omega) (hc4.symm.trans hd4)
          refine W.eq (g2 := F0 m 1079 ls []) rfl ?_
          refine lv_aload_n hx hb dL_law_1079 rfl (lv_at hl 3 rfl) ?_
          have hDB := lB_D hD hDm
          have hBB := lB_up (ad := ad) (oa := oa) hA0 hsz9 hW hout
          refine rh_call2 (vx_runV (As := []) (rest := []) ⟨hx, hb, hml, hown, hts⟩ (ct_X5_thrown l hDB  ) (cwV 0 hts gL_law_X5_thrown rfl rfl rfl (by decide +kernel) ⟨by decide, by decide⟩) (rh_preV2 hE hS (fun q h => h.1) hBB (hM.at 10 0 Nat.zero_lt_one) rfl hM) rfl rfl hl.1 rfl (lv_room (Nat.le_of_ble_eq_true rfl)) dL_law_1080 ⟨by show cells + 5 + 0 + 0 ≤ 626516; omega, by show slots + 40 + 0 + 0 ≤ 7216556; omega⟩) hS (fun q h => h.1) (fun E ce q9 H locs hX9 hz9 hk9 hS g1 g2 g3 => hX9.elim) (fun o H locs hN9 hz9 hk9 hS => ?_)
          have hW := hW.keptB hk9
          have hout := hout.kept (hk9 _ hout.lt (fun z => z.2.2 rfl))
          have hsz9 := hS.1
          obtain ⟨rfl, hM⟩ := hN9
          refine W.eq (g2 := F0 m 1083 ls [.int 0]) rfl ?_
          refine lv_iload hx hb dL_law_1083 (lv_at hl 0 rfl) ?_
          refine lv_icmp_eq (tgt := 1090) hx hb dL_law_1085 (by decide) (fun c9 => ?_) (fun c9 => absurd c9 (by decide))
          refine lv_goto (tgt := 1523) hx hb dL_law_1090 (by decide) ?_
          exact hK _ _ _ _ _ _ _ _ _ _ _ _ ⟨rfl, rfl, hW, hM, hout, i_agree hI _ _ _, hD, hDm, hAo⟩ hS (lv_sub hl [1, 2, 3, 4, 5] rfl)
        · exfalso
          exact (hd0 ⟨l_ix (by omega) hc0 hc3, l_ix (by omega) hc1 hc4⟩).elim
        · exfalso
          exact (hd2.elim (fun z => hc2 (m_inj (by omega) (by omega) (hc3.symm.trans (z.trans hc4)))) (fun z => z ⟨hc5, hc6⟩)).elim
    · skip
      refine W.eq (g2 := F0 m 1035 ls [.int 1]) rfl ?_
      refine lv_istore (lv' := [(5, .int 1), (0, .ref b), (1, .ref (ad 0 0)), (2, .ref (adm 10 0)), (3, .ref oa), (4, .int (nI i))]) hx hb dL_law_1035 hl (by decide) rfl (fun ls hl => ?_)
      refine lv_aload_n hx hb dL_law_1037 rfl (lv_at hl 3 rfl) ?_
      refine lv_aload_n hx hb dL_law_1038 rfl (lv_at hl 1 rfl) ?_
      refine lv_iload hx hb dL_law_1039 (lv_at hl 5 rfl) ?_
      refine lv_iconst (v := 1) hx hb dL_law_1041 (by decide) ?_
      refine lv_iadd hx hb dL_law_1042 ?_
      refine l_sld hx hb hX hbl hbA hS hLm (i + 1) (by omega) (nI_add i 1) dL_law_1043 ?_
      refine lv_aload_n hx hb dL_law_1044 rfl (lv_at hl 1 rfl) ?_
      refine lv_iload hx hb dL_law_1045 (lv_at hl 5 rfl) ?_
      refine lv_iconst (v := 2) hx hb dL_law_1047 (by decide) ?_
      refine lv_iadd hx hb dL_law_1048 ?_
      refine l_sld hx hb hX hbl hbA hS hLm (i + 2) (by omega) (nI_add i 2) dL_law_1049 ?_
      refine lv_aload_n hx hb dL_law_1050 rfl (lv_at hl 1 rfl) ?_
      refine lv_iload hx hb dL_law_1051 (lv_at hl 5 rfl) ?_
      refine lv_iconst (v := 3) hx hb dL_law_1053 (by decide) ?_
      refine lv_iadd hx hb dL_law_1054 ?_
      refine l_sld hx hb hX hbl hbA hS hLm (i + 3) (by omega) (nI_add i 3) dL_law_1055 ?_
      refine lv_aload_n hx hb dL_law_1056 rfl (lv_at hl 1 rfl) ?_
      refine lv_iload hx hb dL_law_1057 (lv_at hl 5 rfl) ?_
      refine lv_iconst (v := 4) hx hb dL_law_1059 (by decide) ?_
      refine lv_iadd hx hb dL_law_1060 ?_
      refine l_sld hx hb hX hbl hbA hS hLm (i + 4) (by omega) (nI_add i 4) dL_law_1061 ?_
      refine lv_aload_n hx hb dL_law_1062 rfl (lv_at hl 1 rfl) ?_
      refine lv_iload hx hb dL_law_1063 (lv_at hl 5 rfl) ?_
      refine lv_iconst (v := 5) hx hb dL_law_1065 (by decide) ?_
      refine lv_iadd hx hb dL_law_1066 ?_
      refine l_sld hx hb hX hbl hbA hS hLm (i + 5) (by omega) (nI_add i 5) dL_law_1067 ?_
      refine lv_if_eq (tgt := 1075) hx hb dL_law_1068 (by decide) (fun c10 => absurd c10 hbz) (fun c10 => ?_)
      · refine lv_iconst (v := 1) hx hb dL_law_1071 (by decide) ?_
        refine lv_goto (tgt := 1076) hx hb dL_law_1072 (by decide) ?_
        skip
        have hDB := lB_D hD hDm
        have hBB := lB_up (ad := ad) (oa := oa) hA0 hsz9 hW hout
        refine rh_call2 (vx_runV (As := [.int (xs (i + 1)), .int (xs (i + 2)), .int (xs (i + 3)), .int (xs (i + 4)), .int 1]) (rest := []) ⟨hx, hb, hml, hown, hts⟩ (ct_X5_agree l hDB  (xs (i + 1)) (xs (i + 2)) (xs (i + 3)) (xs (i + 4)) 1 (by first | exact Or.inl rfl | exact Or.inr rfl)) (cwV 5 hts gL_law_X5_agree rfl rfl rfl (by decide +kernel) ⟨by decide, by decide⟩) (rh_preV2 hE hS (fun q h => h.1) hBB (hM.at 10 0 Nat.zero_lt_one) rfl hM) rfl rfl hl.1 rfl (lv_room (Nat.le_of_ble_eq_true rfl)) dL_law_1076 ⟨by show cells + 5 + 0 ≤ 626516; omega, by show slots + 40 + 0 ≤ 7216556; omega⟩) hS (fun q h => h.1) (fun E ce q9 H locs hX9 hz9 hk9 hS g1 g2 g3 => hX9.elim) (fun o H locs hN9 hz9 hk9 hS => ?_)
        have hW := hW.keptB hk9
        have hout := hout.kept (hk9 _ hout.lt (fun z => z.2.2 rfl))
        have hsz9 := hS.1
        rcases hN9 with ⟨h8, k8, hd0, hd1, hd2, hd3, hd4, hd5, hd6, rfl, hM⟩ | ⟨hd0, rfl, hM⟩ | ⟨hd0, hd1, hd2, rfl, hM⟩
        · exfalso
          exact (hc9 ⟨l_ix (by omega) hd0 hd3, l_ix (by omega) hd1 hd4⟩).elim
        · skip
          refine W.eq (g2 := F0 m 1079 ls []) rfl ?_
          refine lv_aload_n hx hb dL_law_1079 rfl (lv_at hl 3 rfl) ?_
          have hDB := lB_D hD hDm
          have hBB := lB_up (ad := ad) (oa := oa) hA0 hsz9 hW hout
          refine rh_call2 (vx_runV (As := []) (rest := []) ⟨hx, hb, hml, hown, hts⟩ (ct_X5_thrown l hDB  ) (cwV 0 hts gL_law_X5_thrown rfl rfl rfl (by decide +kernel) ⟨by decide, by decide⟩) (rh_preV2 hE hS (fun q h => h.1) hBB (hM.at 10 0 Nat.zero_lt_one) rfl hM) rfl rfl hl.1 rfl (lv_room (Nat.le_of_ble_eq_true rfl)) dL_law_1080 ⟨by show cells + 5 + 0 + 0 ≤ 626516; omega, by show slots + 40 + 0 + 0 ≤ 7216556; omega⟩) hS (fun q h => h.1) (fun E ce q9 H locs hX9 hz9 hk9 hS g1 g2 g3 => hX9.elim) (fun o H locs hN9 hz9 hk9 hS => ?_)
          have hW := hW.keptB hk9
          have hout := hout.kept (hk9 _ hout.lt (fun z => z.2.2 rfl))
          have hsz9 := hS.1
          obtain ⟨rfl, hM⟩ := hN9
          refine W.eq (g2 := F0 m 1083 ls [.int 1]) rfl ?_
          refine lv_iload hx hb dL_law_1083 (lv_at hl 0 rfl) ?_
          refine lv_icmp_eq (tgt := 1090) hx hb dL_law_1085 (by decide) (fun c11 => ?_) (fun c11 => absurd c11 (by decide))
          refine lv_goto (tgt := 1523) hx hb dL_law_1090 (by decide) ?_
          exact hK _ _ _ _ _ _ _ _ _ _ _ _ ⟨rfl, rfl, hW, hM, hout, hI, hD, hDm, hAo⟩ hS (lv_sub hl [1, 2, 3, 4, 5] rfl)
        · exfalso
          exact (hc9 ⟨hd0, hd1⟩).elim
    · skip
      refine W.eq (g2 := F0 m 1035 ls [.int 2]) rfl ?_
      refine lv_istore (lv' := [(5, .int 2), (0, .ref b), (1, .ref (ad 0 0)), (2, .ref (adm 10 0)), (3, .ref oa), (4, .int (nI i))]) hx hb dL_law_1035 hl (by decide) rfl (fun ls hl => ?_)
      refine lv_aload_n hx hb dL_law_1037 rfl (lv_at hl 3 rfl) ?_
      refine lv_aload_n hx hb dL_law_1038 rfl (lv_at hl 1 rfl) ?_
      refine lv_iload hx hb dL_law_1039 (lv_at hl 5 rfl) ?_
      refine lv_iconst (v := 1) hx hb dL_law_1041 (by decide) ?_
      refine lv_iadd hx hb dL_law_1042 ?_
      refine l_sld hx hb hX hbl hbA hS hLm (i + 1) (by omega) (nI_add i 1) dL_law_1043 ?_
      refine lv_aload_n hx hb dL_law_1044 rfl (lv_at hl 1 rfl) ?_
      refine lv_iload hx hb dL_law_1045 (lv_at hl 5 rfl) ?_
      refine lv_iconst (v := 2) hx hb dL_law_1047 (by decide) ?_
      refine lv_iadd hx hb dL_law_1048 ?_
      refine l_sld hx hb hX hbl hbA hS hLm (i + 2) (by omega) (nI_add i 2) dL_law_1049 ?_
      refine lv_aload_n hx hb dL_law_1050 rfl (lv_at hl 1 rfl) ?_
      refine lv_iload hx hb dL_law_1051 (lv_at hl 5 rfl) ?_
      refine lv_iconst (v := 3) hx hb dL_law_1053 (by decide) ?_
      refine lv_iadd hx hb dL_law_1054 ?_
      refine l_sld hx hb hX hbl hbA hS hLm (i + 3) (by omega) (nI_add i 3) dL_law_1055 ?_
      refine lv_aload_n hx hb dL_law_1056 rfl (lv_at hl 1 rfl) ?_
      refine lv_iload hx hb dL_law_1057 (lv_at hl 5 rfl) ?_
      refine lv_iconst (v := 4) hx hb dL_law_1059 (by decide) ?_
      refine lv_iadd hx hb dL_law_1060 ?_
      refine l_sld hx hb hX hbl hbA hS hLm (i + 4) (by omega) (nI_add i 4) dL_law_1061 ?_
      refine lv_aload_n hx hb dL_law_1062 rfl (lv_at hl 1 rfl) ?_
      refine lv_iload hx hb dL_law_1063 (lv_at hl 5 rfl) ?_
      refine lv_iconst (v := 5) hx hb dL_law_1065 (by decide) ?_
      refine lv_iadd hx hb dL_law_1066 ?_
      refine l_sld hx hb hX hbl hbA hS hLm (i + 5) (by omega) (nI_add i 5) dL_law_1067 ?_
      refine lv_if_eq (tgt := 1075) hx hb dL_law_1068 (by decide) (fun c12 => absurd c12 hbz) (fun c12 => ?_)
      · refine lv_iconst (v := 1) hx hb dL_law_1071 (by decide) ?_
        refine lv_goto (tgt := 1076) hx hb dL_law_1072 (by decide) ?_
        skip
        have hDB := lB_D hD hDm
        have hBB := lB_up (ad := ad) (oa := oa) hA0 hsz9 hW hout
        refine rh_call2 (vx_runV (As := [.int (xs (i + 1)), .int (xs (i + 2)), .int (xs (i + 3)), .int (xs (i + 4)), .int 1]) (rest := []) ⟨hx, hb, hml, hown, hts⟩ (ct_X5_agree l hDB  (xs (i + 1)) (xs (i + 2)) (xs (i + 3)) (xs (i + 4)) 1 (by first | exact Or.inl rfl | exact Or.inr rfl)) (cwV 5 hts gL_law_X5_agree rfl rfl rfl (by decide +kernel) ⟨by decide, by decide⟩) (rh_preV2 hE hS (fun q h => h.1) hBB (hM.at 10 0 Nat.zero_lt_one) rfl hM) rfl rfl hl.1 rfl (lv_room (Nat.le_of_ble_eq_true rfl)) dL_law_1076 ⟨by show cells + 5 + 0 ≤ 626516; omega, by show slots + 40 + 0 ≤ 7216556; omega⟩) hS (fun q h => h.1) (fun E ce q9 H locs hX9 hz9 hk9 hS g1 g2 g3 => hX9.elim) (fun o H locs hN9 hz9 hk9 hS => ?_)
        have hW := hW.keptB hk9
        have hout := hout.kept (hk9 _ hout.lt (fun z => z.2.2 rfl))
        have hsz9 := hS.1
        rcases hN9 with ⟨h8, k8, hd0, hd1, hd2, hd3, hd4, hd5, hd6, rfl, hM⟩ | ⟨hd0, rfl, hM⟩ | ⟨hd0, hd1, hd2, rfl, hM⟩
        · exfalso
          exact (hc9.2.2.elim (fun z => hd2 (m_inj (by omega) (by omega) (hd3.symm.trans (z.trans hd4)))) (fun z => z ⟨hd5, hd6⟩)).elim
        · exfalso
          exact (hd0 ⟨hc9.1, hc9.2.1⟩).elim
        · skip
          refine W.eq (g2 := F0 m 1079 ls []) rfl ?_
          refine lv_aload_n hx hb dL_law_1079 rfl (lv_at hl 3 rfl) ?_
          have hDB := lB_D hD hDm
          have hBB := lB_up (ad := ad) (oa := oa) hA0 hsz9 hW hout
          refine rh_call2 (vx_runV (As := []) (rest := []) ⟨hx, hb, hml, hown, hts⟩ (ct_X5_thrown l hDB  ) (cwV 0 hts gL_law_X5_thrown rfl rfl rfl (by decide +kernel) ⟨by decide, by decide⟩) (rh_preV2 hE hS (fun q h => h.1) hBB (hM.at 10 0 Nat.zero_lt_one) rfl hM) rfl rfl hl.1 rfl (lv_room (Nat.le_of_ble_eq_true rfl)) dL_law_1080 ⟨by show cells + 5 + 0 + 0 ≤ 626516; omega, by show slots + 40 + 0 + 0 ≤ 7216556; omega⟩) hS (fun q h => h.1) (fun E ce q9 H locs hX9 hz9 hk9 hS g1 g2 g3 => hX9.elim) (fun o H locs hN9 hz9 hk9 hS => ?_)
          have hW := hW.keptB hk9
          have hout := hout.kept (hk9 _ hout.lt (fun z => z.2.2 rfl))
          have hsz9 := hS.1
          obtain ⟨rfl, hM⟩ := hN9
          refine W.eq (g2 := F0 m 1083 ls [.int 2]) rfl ?_
          refine lv_iload hx hb dL_law_1083 (lv_at hl 0 rfl) ?_
          refine lv_icmp_eq (tgt := 1090) hx hb dL_law_1085 (by decide) (fun c13 => ?_) (fun c13 => absurd c13 (by decide))
          refine lv_goto (tgt := 1523) hx hb dL_law_1090 (by decide) ?_
          exact hK _ _ _ _ _ _ _ _ _ _ _ _ ⟨rfl, rfl, hW, hM, hout, hI, hD, hDm, hAo⟩ hS (lv_sub hl [1, 2, 3, 4, 5] rfl)
set_option maxHeartbeats 8000000 in
set_option maxRecDepth 100000 in
theorem op_promise {p : Program} {l : Launch} {e : Env} {s : State} {m : MethodId} {below : List Frame} {meth : Method} {c : Code} {G : va_G} {ca : Nat → ClassId} {A0 : Nat → Prop} {b L : Nat} {xs : Nat → Int32} {h9 hm oa i : Nat} {cells slots : Nat} {Q : State → Prop} {ad adm : Nat → Nat → Nat} {nf nc : Nat} {r : rh_R} {v : rh_V} {w : rh_Wm} {th : Int32} {f : Nat → Int64} {H : Heap} {locs : List Loc} {ls : Array Slot} (C : lwC p l s m c G ca A0 b L xs) (hLS : lwS G ca A0 h9 hm oa ad adm nf nc r v w th f H) (hS : va_S A0 s.heap H locs) (hl : lv_has ls 8 [(0, .ref b), (1, .ref h9), (2, .ref hm), (3, .ref oa), (4, .int (nI i))]) (hi : i + 5 < L) (hcl : cells + 5 ≤ 626516) (hsl : slots + 40 ≤ 7216556) (hK : lwK p l e s m below meth c G ca A0 b h9 hm oa i cells slots Q) : W p l e room_1 s m #[Value.ref b] below meth c H locs cells slots Q (F0 m 1093 ls []) := by
  obtain ⟨hx, hb, hml, hown, hts, hE, hnc9, hlf, hA0, hbA, hbl, hX, hLm⟩ := C
  obtain ⟨rfl, rfl, hW, hM, hout, hI, hD, hDm, hAo⟩ := hLS
  have hnf9 := hI.1.1
  have hnn9 := hI.1.2.1
  have hnow := l_now hI
  have hsz9 := hS.1
  have hl : lv_has ls 8 [(0, .ref b), (1, .ref (ad 0 0)), (2, .ref (adm 10 0)), (3, .ref oa), (4, .int (nI i))] := hl
  refine lv_aload_n hx hb dL_law_1093 rfl (lv_at hl 1 rfl) ?_
  refine lv_aload_n hx hb dL_law_1094 rfl (lv_at hl 0 rfl) ?_
  refine lv_iload hx hb dL_law_1095 (lv_at hl 4 rfl) ?_
  refine lv_iconst (v := 1) hx hb dL_law_1097 (by decide) ?_
  refine lv_iadd hx hb dL_law_1098 ?_
  refine l_sld hx hb hX hbl hbA hS hLm (i + 1) (by omega) (nI_add i 1) dL_law_1099 ?_
  refine lv_aload_n hx hb dL_law_1100 rfl (lv_at hl 0 rfl) ?_
  refine lv_iload hx hb dL_law_1101 (lv_at hl 4 rfl) ?_
  refine lv_iconst (v := 2) hx hb dL_law_1103 (by decide) ?_
  refine lv_iadd hx hb dL_law_1104 ?_
  refine l_sld hx hb hX hbl hbA hS hLm (i + 2) (by omega) (nI_add i 2) dL_law_1105 ?_
  refine lv_aload_n hx hb dL_law_1106 rfl (lv_at hl 0 rfl) ?_
  refine lv_iload hx hb dL_law_1107 (lv_at hl 4 rfl) ?_
  refine lv_iconst (v := 3) hx hb dL_law_1109 (by decide) ?_
  refine lv_iadd hx hb dL_law_1110 ?_
  refine l_sld hx hb hX hbl hbA hS hLm (i + 3) (by omega) (nI_add i 3) dL_law_1111 ?_
  refine lv_aload_n hx hb dL_law_1112 rfl (lv_at hl 3 rfl) ?_
  have hAA := lA_up (adm := adm) hA0 hsz9 hM
  refine rh_call2 (vx_runSX (As := [.ref (ad 0 0), .int (xs (i + 1)), .int (xs (i + 2)), .int (xs (i + 3)), .ref oa]) (rest := []) ⟨hx, hb, hml, hown, hts⟩ (hl_promise l hlf (l_Ao hM hout hDm hAo) hD hI.1 (xs (i + 1)) (xs (i + 2)) (xs (i + 3))) (vx_cwSW 5 hts gL_law_L_promise rfl rfl rfl (by decide +kernel) ⟨by decide, by decide⟩) (rh_prel hE hnc9 hS (fun q h => h.1) hAA ⟨hW, hout⟩) rfl rfl hl.1 rfl (lv_room (Nat.le_of_ble_eq_true rfl)) dL_law_1113 ⟨by show cells + 5 ≤ 626516; omega, by show slots + 40 ≤ 7216556; omega⟩) hS (fun q h => h.1) (fun E ce q9 H locs hX9 hz9 hk9 hS g1 g2 g3 => hX9.elim) (fun o H locs hN9 hz9 hk9 hS => ?_)
  have hM := hM.keptA hk9
  have hsz9 := hS.1
  rcases hN9 with ⟨h9, k9, hc0, hc1, hc2, hc3, hc4, hc5, rfl, ⟨f8, hf8, hout⟩, hW⟩ | ⟨hc9, rfl, ⟨f8, hout⟩, hW⟩ | ⟨hc9, rfl, ⟨f8, hout⟩, hW⟩
  · refine W.eq (g2 := F0 m 1116 ls [.int 0]) rfl ?_
    refine lv_istore (lv' := [(5, .int 0), (0, .ref b), (1, .ref (ad 0 0)), (2, .ref (adm 10 0)), (3, .ref oa), (4, .int (nI i))]) hx hb dL_law_1116 hl (by decide) rfl (fun ls hl => ?_)
    refine lv_aload_n hx hb dL_law_1118 rfl (lv_at hl 3 rfl) ?_
    refine lv_aload_n hx hb dL_law_1119 rfl (lv_at hl 1 rfl) ?_
    refine lv_iload hx hb dL_law_1120 (lv_at hl 5 rfl) ?_
    refine lv_iconst (v := 1) hx hb dL_law_1122 (by decide) ?_
    refine lv_iadd hx hb dL_law_1123 ?_
    refine l_sld hx hb hX hbl hbA hS hLm (i + 1) (by omega) (nI_add i 1) dL_law_1124 ?_
    refine lv_aload_n hx hb dL_law_1125 rfl (lv_at hl 1 rfl) ?_
    refine lv_iload hx hb dL_law_1126 (lv_at hl 5 rfl) ?_
    refine lv_iconst (v := 2) hx hb dL_law_1128 (by decide) ?_
    refine lv_iadd hx hb dL_law_1129 ?_
    refine l_sld hx hb hX hbl hbA hS hLm (i + 2) (by omega) (nI_add i 2) dL_law_1130 ?_
    refine lv_aload_n hx hb dL_law_1131 rfl (lv_at hl 1 rfl) ?_
    refine lv_iload hx hb dL_law_1132 (lv_at hl 5 rfl) ?_
    refine lv_iconst (v := 3) hx hb dL_law_1134 (by decide) ?_
    refine lv_iadd hx hb dL_law_1135 ?_
    refine l_sld hx hb hX hbl hbA hS hLm (i + 3) (by omega) (nI_add i 3) dL_law_1136 ?_
    have hDB := lB_D hD hDm
    have hBB := lB_up (ad := ad) (oa := oa) hA0 hsz9 hW hout
    refine rh_call2 (vx_runV (As := [.int (xs (i + 1)), .int (xs (i + 2)), .int (xs (i + 3))]) (rest := []) ⟨hx, hb, hml, hown, hts⟩ (ct_X5_promise l hDB  (xs (i + 1)) (xs (i + 2)) (xs (i + 3))) (cwV 3 hts gL_law_X5_promise rfl rfl rfl (by decide +kernel) ⟨by decide, by decide⟩) (rh_preV2 hE hS (fun q h => h.1) hBB (hM.at 10 0 Nat.zero_lt_one) rfl hM) rfl rfl hl.1 rfl (lv_room (Nat.le_of_ble_eq_true rfl)) dL_law_1137 ⟨by show cells + 5 + 0 ≤ 626516; omega, by show slots + 40 + 0 ≤ 7216556; omega⟩) hS (fun q h => h.1) (fun E ce q9 H locs hX9 hz9 hk9 hS g1 g2 g3 => hX9.elim) (fun o H locs hN9 hz9 hk9 hS => ?_)
    have hW := hW.keptB hk9
    have hout := hout.kept (hk9 _ hout.lt (fun z => z.2.2 rfl))
    have hsz9 := hS.1
    rcases hN9 with ⟨h8, k8, hd0, hd1, hd2, hd3, hd4, hd5, rfl, hM⟩ | ⟨hd0, ⟨z8, rfl⟩, hM⟩ | ⟨hd0, hd1, hd2, ⟨z8, rfl⟩, hM⟩
    · obtain rfl : h9 = h8 := m_inj (by omega) (by omega) (hc3.symm.trans hd3)
      obtain rfl : k9 = k8 := m_inj (by omega) (by omega) (hc4.symm.trans hd4)
      refine W.eq (g2 := F0 m 1140 ls [.int (w 23 (h9 * 4 + k9))]) rfl ?_
      refine lv_istore (lv' := [(6, .int (w 23 (h9 * 4 + k9))), (5, .int 0), (0, .ref b), (1, .ref (ad 0 0)), (2, .ref (adm 10 0)), (3, .ref oa), (4, .int (nI i))]) hx hb dL_law_1140 hl (by decide) rfl (fun ls hl => ?_)
      refine lv_aload_n hx hb dL_law_1142 rfl (lv_at hl 4 rfl) ?_
      have hDB := lB_D hD hDm
      have hBB := lB_up (ad := ad) (oa := oa) hA0 hsz9 hW hout
      refine rh_call2 (vx_runV (As := []) (rest := []) ⟨hx, hb, hml, hown, hts⟩ (ct_X5_thrown l hDB  ) (cwV 0 hts gL_law_X5_thrown rfl rfl rfl (by decide +kernel) ⟨by decide, by decide⟩) (rh_preV2 hE hS (fun q h => h.1) hBB (hM.at 10 0 Nat.zero_lt_one) rfl hM) rfl rfl hl.1 rfl (lv_room (Nat.le_of_ble_eq_true rfl)) dL_law_1143 ⟨by show cells + 5 + 0 + 0 ≤ 626516; omega, by show slots + 40 + 0 + 0 ≤ 7216556; omega⟩) hS (fun q h => h.1) (fun E ce q9 H locs hX9 hz9 hk9 hS g1 g2 g3 => hX9.elim) (fun o H locs hN9 hz9 hk9 hS => ?_)
      have hW := hW.keptB hk9
      have hout := hout.kept (hk9 _ hout.lt (fun z => z.2.2 rfl))
      have hsz9 := hS.1
      obtain ⟨rfl, hM⟩ := hN9
      refine W.eq (g2 := F0 m 1146 ls [.int 0]) rfl ?_
      refine lv_iload hx hb dL_law_1146 (lv_at hl 1 rfl) ?_
      refine lv_icmp_eq (tgt := 1153) hx hb dL_law_1148 (by decide) (fun c1 => ?_) (fun c1 => absurd c1 (by decide))
      refine lv_iload hx hb dL_law_1153 (lv_at hl 1 rfl) ?_
      refine lv_if_ne (tgt := 1170) hx hb dL_law_1155 (by decide) (fun c2 => absurd c2 (by decide)) (fun c2 => ?_)
      refine lv_aload_n hx hb dL_law_1158 rfl (lv_at hl 5 rfl) ?_
      refine lv_iconst (v := 0) hx hb dL_law_1159 (by decide) ?_
      refine rh_lald (n := 1) (f := f8) hx hb hE hout 0 (by decide) (by decide) rfl dL_law_1160 ?_
      have hval : f8 0 = ((w 23 (h9 * 4 + k9))).toInt64 := by rw [hf8, (hI.2.2.2.1 _ (m_4pq hc0 hc1).2).2.1]
      refine lv_iload hx hb dL_law_1161 (lv_at hl 0 rfl) ?_
      refine lv_i2l hx hb dL_law_1163 rfl ?_
      refine W.lcmp hx hb dL_law_1164 ?_
      refine lv_if_eq (tgt := 1170) hx hb dL_law_1165 (by decide) (fun c3 => ?_) (fun c3 => (c3 ((lg_cmp_eq _ _).mpr hval)).elim)
      · refine lv_goto (tgt := 1523) hx hb dL_law_1170 (by decide) ?_
        exact hK _ _ _ _ _ _ _ _ _ _ _ _ ⟨rfl, rfl, hW, hM, hout, i_promise hI _, hD, hDm, hAo⟩ hS (lv_sub hl [2, 3, 4, 5, 6] rfl)
    · exfalso
      exact (hd0 ⟨l_ix (by omega) hc0 hc3, l_ix (by omega) hc1 hc4⟩).elim
    · exfalso
      exact (hd2.elim (fun z => hc2 (m_inj (by omega) (by omega) (hc3.symm.trans (z.trans hc4)))) (fun z => z hc5)).elim
  · refine W.eq (g2 := F0 m 1116 ls [.int 1]) rfl ?_
    refine lv_istore (lv' := [(5, .int 1), (0, .ref b), (1, .ref (ad 0 0)), (2, .ref (adm 10 0)), (3, .ref oa), (4, .int (nI i))]) hx hb dL_law_1116 hl (by decide) rfl (fun ls hl => ?_)
    refine lv_aload_n hx hb dL_law_1118 rfl (lv_at hl 3 rfl) ?_
    refine lv_aload_n hx hb dL_law_1119 rfl (lv_at hl 1 rfl) ?_
    refine lv_iload hx hb dL_law_1120 (lv_at hl 5 rfl) ?_
    refine lv_iconst (v := 1) hx hb dL_law_1122 (by decide) ?_
    refine lv_iadd hx hb dL_law_1123 ?_
    refine l_sld hx hb hX hbl hbA hS hLm (i + 1) (by omega) (nI_add i 1) dL_law_1124 ?_
    refine lv_aload_n hx hb dL_law_1125 rfl (lv_at hl 1 rfl) ?_
    refine lv_iload hx hb dL_law_1126 (lv_at hl 5 rfl) ?_
    refine lv_iconst (v := 2) hx hb dL_law_1128 (by decide) ?_
    refine lv_iadd hx hb dL_law_1129 ?_
    refine l_sld hx hb hX hbl hbA hS hLm (i + 2) (by omega) (nI_add i 2) dL_law_1130 ?_
    refine lv_aload_n hx hb dL_law_1131 rfl (lv_at hl 1 rfl) ?_
    refine lv_iload hx hb dL_law_1132 (lv_at hl 5 rfl) ?_
    refine lv_iconst (v := 3) hx hb dL_law_1134 (by decide) ?_
    refine lv_iadd hx hb dL_law_1135 ?_
    refine l_sld hx hb hX hbl hbA hS hLm (i + 3) (by omega) (nI_add i 3) dL_law_1136 ?_
    have hDB := lB_D hD hDm
    have hBB := lB_up (ad := ad) (oa := oa) hA0 hsz9 hW hout
    refine rh_call2 (vx_runV (As := [.int (xs (i + 1)), .int (xs (i + 2)), .int (xs (i + 3))]) (rest := []) ⟨hx, hb, hml, hown, hts⟩ (ct_X5_promise l hDB  (xs (i + 1)) (xs (i + 2)) (xs (i + 3))) (cwV 3 hts gL_law_X5_promise rfl rfl rfl (by decide +kernel) ⟨by decide, by decide⟩) (rh_preV2 hE hS (fun q h => h.1) hBB (hM.at 10 0 Nat.zero_lt_one) rfl hM) rfl rfl hl.1 rfl (lv_room (Nat.le_of_ble_eq_true rfl)) dL_law_1137 ⟨by show cells + 5 + 0 ≤ 626516; omega, by show slots + 40 + 0 ≤ 7216556; omega⟩) hS (fun q h => h.1) (fun E ce q9 H locs hX9 hz9 hk9 hS g1 g2 g3 => hX9.elim) (fun o H locs hN9 hz9 hk9 hS => ?_)
    have hW := hW.keptB hk9
    have hout := hout.kept (hk9 _ hout.lt (fun z => z.2.2 rfl))
    have hsz9 := hS.1
    rcases hN9 with ⟨h8, k8, hd0, hd1, hd2, hd3, hd4, hd5, rfl, hM⟩ | ⟨hd0, ⟨z8, rfl⟩, hM⟩ | ⟨hd0, hd1, hd2, ⟨z8, rfl⟩, hM⟩
    · exfalso
      exact (hc9 ⟨l_ix (by omega) hd0 hd3, l_ix (by omega) hd1 hd4⟩).elim
    · skip
      refine W.eq (g2 := F0 m 1140 ls [.int z8]) rfl ?_
      refine lv_istore (lv' := [(6, .int z8), (5, .int 1), (0, .ref b), (1, .ref (ad 0 0)), (2, .ref (adm 10 0)), (3, .ref oa), (4, .int (nI i))]) hx hb dL_law_1140 hl (by decide) rfl (fun ls hl => ?_)
      refine lv_aload_n hx hb dL_law_1142 rfl (lv_at hl 4 rfl) ?_
      have hDB := lB_D hD hDm
      have hBB := lB_up (ad := ad) (oa := oa) hA0 hsz9 hW hout
      refine rh_call2 (vx_runV (As := []) (rest := []) ⟨hx, hb, hml, hown, hts⟩ (ct_X5_thrown l hDB  ) (cwV 0 hts gL_law_X5_thrown rfl rfl rfl (by decide +kernel) ⟨by decide, by decide⟩) (rh_preV2 hE hS (fun q h => h.1) hBB (hM.at 10 0 Nat.zero_lt_one) rfl hM) rfl rfl hl.1 rfl (lv_room (Nat.le_of_ble_eq_true rfl)) dL_law_1143 ⟨by show cells + 5 + 0 + 0 ≤ 626516; omega, by show slots + 40 + 0 + 0 ≤ 7216556; omega⟩) hS (fun q h => h.1) (fun E ce q9 H locs hX9 hz9 hk9 hS g1 g2 g3 => hX9.elim) (fun o H locs hN9 hz9 hk9 hS => ?_)
      have hW := hW.keptB hk9
      have hout := hout.kept (hk9 _ hout.lt (fun z => z.2.2 rfl))
      have hsz9 := hS.1
      obtain ⟨rfl, hM⟩ := hN9
      refine W.eq (g2 := F0 m 1146 ls [.int 1]) rfl ?_
      refine lv_iload hx hb dL_law_1146 (lv_at hl 1 rfl) ?_
      refine lv_icmp_eq (tgt := 1153) hx hb dL_law_1148 (by decide) (fun c4 => ?_) (fun c4 => absurd c4 (by decide))
      refine lv_iload hx hb dL_law_1153 (lv_at hl 1 rfl) ?_
      refine lv_if_ne (tgt := 1170) hx hb dL_law_1155 (by decide) (fun c5 => ?_) (fun c5 => absurd c5 (by decide))
      refine lv_goto (tgt := 1523) hx hb dL_law_1170 (by decide) ?_
      exact hK _ _ _ _ _ _ _ _ _ _ _ _ ⟨rfl, rfl, hW, hM, hout, hI, hD, hDm, hAo⟩ hS (lv_sub hl [2, 3, 4, 5, 6] rfl)
    · exfalso
      exact (hc9 ⟨hd0, hd1⟩).elim
  · refine W.eq (g2 := F0 m 1116 ls [.int 2]) rfl ?_
    refine lv_istore (lv' := [(5, .int 2), (0, .ref b), (1, .ref (ad 0 0)), (2, .ref (adm 10 0)), (3, .ref oa), (4, .int (nI i))]) hx hb dL_law_1116 hl (by decide) rfl (fun ls hl => ?_)
    refine lv_aload_n hx hb dL_law_1118 rfl (lv_at hl 3 rfl) ?_
    refine lv_aload_n hx hb dL_law_1119 rfl (lv_at hl 1 rfl) ?_
    refine lv_iload hx hb dL_law_1120 (lv_at hl 5 rfl) ?_
    refine lv_iconst (v := 1) hx hb dL_law_1122 (by decide) ?_
    refine lv_iadd hx hb dL_law_1123 ?_
    refine l_sld hx hb hX hbl hbA hS hLm (i + 1) (by omega) (nI_add i 1) dL_law_1124 ?_
    refine lv_aload_n hx hb dL_law_1125 rfl (lv_at hl 1 rfl) ?_
    refine lv_iload hx hb dL_law_1126 (lv_at hl 5 rfl) ?_
    refine lv_iconst (v := 2) hx hb dL_law_1128 (by decide) ?_
    refine lv_iadd hx hb dL_law_1129 ?_
    refine l_sld hx hb hX hbl hbA hS hLm (i + 2) (by omega) (nI_add i 2) dL_law_1130 ?_
    refine lv_aload_n hx hb dL_law_1131 rfl (lv_at hl 1 rfl) ?_
    refine lv_iload hx hb dL_law_1132 (lv_at hl 5 rfl) ?_
    refine lv_iconst (v := 3) hx hb dL_law_1134 (by decide) ?_
    refine lv_iadd hx hb dL_law_1135 ?_
    refine l_sld hx hb hX hbl hbA hS hLm (i + 3) (by omega) (nI_add i 3) dL_law_1136 ?_
    have hDB := lB_D hD hDm
    have hBB := lB_up (ad := ad) (oa := oa) hA0 hsz9 hW hout
    refine rh_call2 (vx_runV (As := [.int (xs (i + 1)), .int (xs (i + 2)), .int (xs (i + 3))]) (rest := []) ⟨hx, hb, hml, hown, hts⟩ (ct_X5_promise l hDB  (xs (i + 1)) (xs (i + 2)) (xs (i + 3))) (cwV 3 hts gL_law_X5_promise rfl rfl rfl (by decide +kernel) ⟨by decide, by decide⟩) (rh_preV2 hE hS (fun q h => h.1) hBB (hM.at 10 0 Nat.zero_lt_one) rfl hM) rfl rfl hl.1 rfl (lv_room (Nat.le_of_ble_eq_true rfl)) dL_law_1137 ⟨by show cells + 5 + 0 ≤ 626516; omega, by show slots + 40 + 0 ≤ 7216556; omega⟩) hS (fun q h => h.1) (fun E ce q9 H locs hX9 hz9 hk9 hS g1 g2 g3 => hX9.elim) (fun o H locs hN9 hz9 hk9 hS => ?_)
    have hW := hW.keptB hk9
    have hout := hout.kept (hk9 _ hout.lt (fun z => z.2.2 rfl))
    have hsz9 := hS.1
    rcases hN9 with ⟨h8, k8, hd0, hd1, hd2, hd3, hd4, hd5, rfl, hM⟩ | ⟨hd0, ⟨z8, rfl⟩, hM⟩ | ⟨hd0, hd1, hd2, ⟨z8, rfl⟩, hM⟩
    · exfalso
      exact (hc9.2.2.elim (fun z => hd2 (m_inj (by omega) (by omega) (hd3.symm.trans (z.trans hd4)))) (fun z => z hd5)).elim
    · exfalso
      exact (hd0 ⟨hc9.1, hc9.2.1⟩).elim
    · skip
      refine W.eq (g2 := F0 m 1140 ls [.int z8]) rfl ?_
      refine lv_istore (lv' := [(6, .int z8), (5, .int 2), (0, .ref b), (1, .ref (ad 0 0)), (2, .ref (adm 10 0)), (3, .ref oa), (4, .int (nI i))]) hx hb dL_law_1140 hl (by decide) rfl (fun ls hl => ?_)
      refine lv_aload_n hx hb dL_law_1142 rfl (lv_at hl 4 rfl) ?_
      have hDB := lB_D hD hDm
      have hBB := lB_up (ad := ad) (oa := oa) hA0 hsz9 hW hout
      refine rh_call2 (vx_runV (As := []) (rest := []) ⟨hx, hb, hml, hown, hts⟩ (ct_X5_thrown l hDB  ) (cwV 0 hts gL_law_X5_thrown rfl rfl rfl (by decide +kernel) ⟨by decide, by decide⟩) (rh_preV2 hE hS (fun q h => h.1) hBB (hM.at 10 0 Nat.zero_lt_one) rfl hM) rfl rfl hl.1 rfl (lv_room (Nat.le_of_ble_eq_true rfl)) dL_law_1143 ⟨by show cells + 5 + 0 + 0 ≤ 626516; omega, by show slots + 40 + 0 + 0 ≤ 7216556; omega⟩) hS (fun q h => h.1) (fun E ce q9 H locs hX9 hz9 hk9 hS g1 g2 g3 => hX9.elim) (fun o H locs hN9 hz9 hk9 hS => ?_)
      have hW := hW.keptB hk9
      have hout := hout.kept (hk9 _ hout.lt (fun z => z.2.2 rfl))
      have hsz9 := hS.1
      obtain ⟨rfl, hM⟩ := hN9
      refine W.eq (g2 := F0 m 1146 ls [.int 2]) rfl ?_
      refine lv_iload hx hb dL_law_1146 (lv_at hl 1 rfl) ?_
      refine lv_icmp_eq (tgt := 1153) hx hb dL_law_1148 (by decide) (fun c6 => ?_) (fun c6 => absurd c6 (by decide))
      refine lv_iload hx hb dL_law_1153 (lv_at hl 1 rfl) ?_
      refine lv_if_ne (tgt := 1170) hx hb dL_law_1155 (by decide) (fun c7 => ?_) (fun c7 => absurd c7 (by decide))
      refine lv_goto (tgt := 1523) hx hb dL_law_1170 (by decide) ?_
      exact hK _ _ _ _ _ _ _ _ _ _ _ _ ⟨rfl, rfl, hW, hM, hout, hI, hD, hDm, hAo⟩ hS (lv_sub hl [2, 3, 4, 5, 6] rfl)
set_option maxHeartbeats 8000000 in
set_option maxRecDepth 100000 in
theorem op_setRate {p : Program} {l : Launch} {e : Env} {s : State} {m : MethodId} {below : List Frame} {meth : Method} {c : Code} {G : va_G} {ca : Nat → ClassId} {A0 : Nat → Prop} {b L : Nat} {xs : Nat → Int32} {h9 hm oa i : Nat} {cells slots : Nat} {Q : State → Prop} {ad adm : Nat → Nat → Nat} {nf nc : Nat} {r : rh_R} {v : rh_V} {w : rh_Wm} {th : Int32} {f : Nat → Int64} {H : Heap} {locs : List Loc} {ls : Array Slot} (C : lwC p l s m c G ca A0 b L xs) (hLS : lwS G ca A0 h9 hm oa ad adm nf nc r v w th f H) (hS : va_S A0 s.heap H locs) (hl : lv_has ls 8 [(0, .ref b), (1, .ref h9), (2, .ref hm), (3, .ref oa), (4, .int (nI i))]) (hi : i + 5 < L) (hcl : cells + 5 ≤ 626516) (hsl : slots + 40 ≤ 7216556) (hK : lwK p l e s m below meth c G ca A0 b h9 hm oa i cells slots Q) : W p l e room_1 s m #[Value.ref b] below meth c H locs cells slots Q (F0 m 1173 ls []) := by
  obtain ⟨hx, hb, hml, hown, hts, hE, hnc9, hlf, hA0, hbA, hbl, hX, hLm⟩ := C
  obtain ⟨rfl, rfl, hW, hM, hout, hI, hD, hDm, hAo⟩ := hLS
  have hnf9 := hI.1.1
  have hnn9 := hI.1.2.1
  have hnow := l_now hI
  have hsz9 := hS.1
  have hl : lv_has ls 8 [(0, .ref b), (1, .ref (ad 0 0)), (2, .ref (adm 10 0)), (3, .ref oa), (4, .int (nI i))] := hl
  refine lv_aload_n hx hb dL_law_1173 rfl (lv_at hl 1 rfl) ?_
  refine lv_aload_n hx hb dL_law_1174 rfl (lv_at hl 0 rfl) ?_
  refine lv_iload hx hb dL_law_1175 (lv_at hl 4 rfl) ?_
  refine lv_iconst (v := 1) hx hb dL_law_1177 (by decide) ?_
  refine lv_iadd hx hb dL_law_1178 ?_
  refine l_sld hx hb hX hbl hbA hS hLm (i + 1) (by omega) (nI_add i 1) dL_law_1179 ?_
  refine lv_aload_n hx hb dL_law_1180 rfl (lv_at hl 0 rfl) ?_
  refine lv_iload hx hb dL_law_1181 (lv_at hl 4 rfl) ?_
  refine lv_iconst (v := 2) hx hb dL_law_1183 (by decide) ?_
  refine lv_iadd hx hb dL_law_1184 ?_
  refine l_sld hx hb hX hbl hbA hS hLm (i + 2) (by omega) (nI_add i 2) dL_law_1185 ?_
  refine lv_aload_n hx hb dL_law_1186 rfl (lv_at hl 3 rfl) ?_
  have hAA := lA_up (adm := adm) hA0 hsz9 hM
  refine rh_call2 (vx_runSX (As := [.ref (ad 0 0), .int (xs (i + 1)), .int (xs (i + 2)), .ref oa]) (rest := []) ⟨hx, hb, hml, hown, hts⟩ (hl_setRate l hlf (l_Ao hM hout hDm hAo) hD hI.1 (xs (i + 1)) (xs (i + 2))) (vx_cwSW 4 hts gL_law_L_setRate rfl rfl rfl (by decide +kernel) ⟨by decide, by decide⟩) (rh_prel hE hnc9 hS (fun q h => h.1) hAA ⟨hW, hout⟩) rfl rfl hl.1 rfl (lv_room (Nat.le_of_ble_eq_true rfl)) dL_law_1187 ⟨by show cells + 5 ≤ 626516; omega, by show slots + 40 ≤ 7216556; omega⟩) hS (fun q h => h.1) (fun E ce q9 H locs hX9 hz9 hk9 hS g1 g2 g3 => hX9.elim) (fun o H locs hN9 hz9 hk9 hS => ?_)
  have hM := hM.keptA hk9
  have hsz9 := hS.1
  rcases hN9 with ⟨i9, hc0, hc1, hc2, rfl, ⟨f8, hf8, hout⟩, hW⟩ | ⟨hc9, rfl, ⟨f8, hout⟩, hW⟩ | ⟨hc9, rfl, ⟨f8, hout⟩, hW⟩
  · refine W.eq (g2 := F0 m 1190 ls [.int 0]) rfl ?_
    refine lv_istore (lv' := [(5, .int 0), (0, .ref b), (1, .ref (ad 0 0)), (2, .ref (adm 10 0)), (3, .ref oa), (4, .int (nI i))]) hx hb dL_law_1190 hl (by decide) rfl (fun ls hl => ?_)
    refine lv_aload_n hx hb dL_law_1192 rfl (lv_at hl 3 rfl) ?_
    refine lv_aload_n hx hb dL_law_1193 rfl (lv_at hl 1 rfl) ?_
    refine lv_iload hx hb dL_law_1194 (lv_at hl 5 rfl) ?_
    refine lv_iconst (v := 1) hx hb dL_law_1196 (by decide) ?_
    refine lv_iadd hx hb dL_law_1197 ?_
    refine l_sld hx hb hX hbl hbA hS hLm (i + 1) (by omega) (nI_add i 1) dL_law_1198 ?_
    refine lv_aload_n hx hb dL_law_1199 rfl (lv_at hl 1 rfl) ?_
    refine lv_iload hx hb dL_law_1200 (lv_at hl 5 rfl) ?_
    refine lv_iconst (v := 2) hx hb dL_law_1202 (by decide) ?_
    refine lv_iadd hx hb dL_law_1203 ?_
    refine l_sld hx hb hX hbl hbA hS hLm (i + 2) (by omega) (nI_add i 2) dL_law_1204 ?_
    have hDB := lB_D hD hDm
    have hBB := lB_up (ad := ad) (oa := oa) hA0 hsz9 hW hout
    refine rh_call2 (vx_runV (As := [.int (xs (i + 1)), .int (xs (i + 2))]) (rest := []) ⟨hx, hb, hml, hown, hts⟩ (ct_X5_setRate l hDB  (xs (i + 1)) (xs (i + 2))) (cwV 2 hts gL_law_X5_setRate rfl rfl rfl (by decide +kernel) ⟨by decide, by decide⟩) (rh_preV2 hE hS (fun q h => h.1) hBB (hM.at 10 0 Nat.zero_lt_one) rfl hM) rfl rfl hl.1 rfl (lv_room (Nat.le_of_ble_eq_true rfl)) dL_law_1205 ⟨by show cells + 5 + 0 ≤ 626516; omega, by show slots + 40 + 0 ≤ 7216556; omega⟩) hS (fun q h => h.1) (fun E ce q9 H locs hX9 hz9 hk9 hS g1 g2 g3 => hX9.elim) (fun o H locs hN9 hz9 hk9 hS => ?_)
    have hW := hW.keptB hk9
    have hout := hout.kept (hk9 _ hout.lt (fun z => z.2.2 rfl))
    have hsz9 := hS.1
    rcases hN9 with ⟨i8, hd0, hd1, hd2, rfl, hM⟩ | ⟨hd0, ⟨z8, rfl⟩, hM⟩ | ⟨hd0, hd1, ⟨z8, rfl⟩, hM⟩
    · obtain rfl : i9 = i8 := m_inj (by omega) (by omega) (hc1.symm.trans hd1)
      refine W.eq (g2 := F0 m 1208 ls [.int (w 3 i9)]) rfl ?_
      refine lv_istore (lv' := [(6, .int (w 3 i9)), (5, .int 0), (0, .ref b), (1, .ref (ad 0 0)), (2, .ref (adm 10 0)), (3, .ref oa), (4, .int (nI i))]) hx hb dL_law_1208 hl (by decide) rfl (fun ls hl => ?_)
      refine lv_aload_n hx hb dL_law_1210 rfl (lv_at hl 4 rfl) ?_
      have hDB := lB_D hD hDm
      have hBB := lB_up (ad := ad) (oa := oa) hA0 hsz9 hW hout
      refine rh_call2 (vx_runV (As := []) (rest := []) ⟨hx, hb, hml, hown, hts⟩ (ct_X5_thrown l hDB  ) (cwV 0 hts gL_law_X5_thrown rfl rfl rfl (by decide +kernel) ⟨by decide, by decide⟩) (rh_preV2 hE hS (fun q h => h.1) hBB (hM.at 10 0 Nat.zero_lt_one) rfl hM) rfl rfl hl.1 rfl (lv_room (Nat.le_of_ble_eq_true rfl)) dL_law_1211 ⟨by show cells + 5 + 0 + 0 ≤ 626516; omega, by show slots + 40 + 0 + 0 ≤ 7216556; omega⟩) hS (fun q h => h.1) (fun E ce q9 H locs hX9 hz9 hk9 hS g1 g2 g3 => hX9.elim) (fun o H locs hN9 hz9 hk9 hS => ?_)
      have hW := hW.keptB hk9
      have hout := hout.kept (hk9 _ hout.lt (fun z => z.2.2 rfl))
      have hsz9 := hS.1
      obtain ⟨rfl, hM⟩ := hN9
      refine W.eq (g2 := F0 m 1214 ls [.int 0]) rfl ?_
      refine lv_iload hx hb dL_law_1214 (lv_at hl 1 rfl) ?_
      refine lv_icmp_eq (tgt := 1221) hx hb dL_law_1216 (by decide) (fun c1 => ?_) (fun c1 => absurd c1 (by decide))
      refine lv_iload hx hb dL_law_1221 (lv_at hl 1 rfl) ?_
      refine lv_if_ne (tgt := 1238) hx hb dL_law_1223 (by decide) (fun c2 => absurd c2 (by decide)) (fun c2 => ?_)
      refine lv_aload_n hx hb dL_law_1226 rfl (lv_at hl 5 rfl) ?_
      refine lv_iconst (v := 0) hx hb dL_law_1227 (by decide) ?_
      refine rh_lald (n := 1) (f := f8) hx hb hE hout 0 (by decide) (by decide) rfl dL_law_1228 ?_
      have hval : f8 0 = ((w 3 i9)).toInt64 := by rw [hf8, (hI.2.2.1 _ hc0).2.2.2]
      refine lv_iload hx hb dL_law_1229 (lv_at hl 0 rfl) ?_
      refine lv_i2l hx hb dL_law_1231 rfl ?_
      refine W.lcmp hx hb dL_law_1232 ?_
      refine lv_if_eq (tgt := 1238) hx hb dL_law_1233 (by decide) (fun c3 => ?_) (fun c3 => (c3 ((lg_cmp_eq _ _).mpr hval)).elim)
      · refine lv_goto (tgt := 1523) hx hb dL_law_1238 (by decide) ?_
        exact hK _ _ _ _ _ _ _ _ _ _ _ _ ⟨rfl, rfl, hW, hM, hout, i_rate hI hc0 _, hD, hDm, hAo⟩ hS (lv_sub hl [2, 3, 4, 5, 6] rfl)
    · exfalso
      exact (hd0 (l_ix (by omega) hc0 hc1)).elim
    · exfalso
      exact (hd1 hc2).elim
  · refine W.eq (g2 := F0 m 1190 ls [.int 1]) rfl ?_
    refine lv_istore (lv' := [(5, .int 1), (0, .ref b), (1, .ref (ad 0 0)), (2, .ref (adm 10 0)), (3, .ref oa), (4, .int (nI i))]) hx hb dL_law_1190 hl (by decide) rfl (fun ls hl => ?_)
    refine lv_aload_n hx hb dL_law_1192 rfl (lv_at hl 3 rfl) ?_
    refine lv_aload_n hx hb dL_law_1193 rfl (lv_at hl 1 rfl) ?_
    refine lv_iload hx hb dL_law_1194 (lv_at hl 5 rfl) ?_
    refine lv_iconst (v := 1) hx hb dL_law_1196 (by decide) ?_
    refine lv_iadd hx hb dL_law_1197 ?_
    refine l_sld hx hb hX hbl hbA hS hLm (i + 1) (by omega) (nI_add i 1) dL_law_1198 ?_
    refine lv_aload_n hx hb dL_law_1199 rfl (lv_at hl 1 rfl) ?_
    refine lv_iload hx hb dL_law_1200 (lv_at hl 5 rfl) ?_
    refine lv_iconst (v := 2) hx hb dL_law_1202 (by decide) ?_
    refine lv_iadd hx hb dL_law_1203 ?_
    refine l_sld hx hb hX hbl hbA hS hLm (i + 2) (by omega) (nI_add i 2) dL_law_1204 ?_
    have hDB := lB_D hD hDm
    have hBB := lB_up (ad := ad) (oa := oa) hA0 hsz9 hW hout
    refine rh_call2 (vx_runV (As := [.int (xs (i + 1)), .int (xs (i + 2))]) (rest := []) ⟨hx, hb, hml, hown, hts⟩ (ct_X5_setRate l hDB  (xs (i + 1)) (xs (i + 2))) (cwV 2 hts gL_law_X5_setRate rfl rfl rfl (by decide +kernel) ⟨by decide, by decide⟩) (rh_preV2 hE hS (fun q h => h.1) hBB (hM.at 10 0 Nat.zero_lt_one) rfl hM) rfl rfl hl.1 rfl (lv_room (Nat.le_of_ble_eq_true rfl)) dL_law_1205 ⟨by show cells + 5 + 0 ≤ 626516; omega, by show slots + 40 + 0 ≤ 7216556; omega⟩) hS (fun q h => h.1) (fun E ce q9 H locs hX9 hz9 hk9 hS g1 g2 g3 => hX9.elim) (fun o H locs hN9 hz9 hk9 hS => ?_)
    have hW := hW.keptB hk9
    have hout := hout.kept (hk9 _ hout.lt (fun z => z.2.2 rfl))
    have hsz9 := hS.1
    rcases hN9 with ⟨i8, hd0, hd1, hd2, rfl, hM⟩ | ⟨hd0, ⟨z8, rfl⟩, hM⟩ | ⟨hd0, hd1, ⟨z8, rfl⟩, hM⟩
    · exfalso
      exact absurd (l_ix (by omega) hd0 hd1) hc9
    · skip
      refine W.eq (g2 := F0 m 1208 ls [.int z8]) rfl ?_
      refine lv_istore (lv' := [(6, .int z8), (5, .int 1), (0, .ref b), (1, .ref (ad 0 0)), (2, .ref (adm 10 0)), (3, .ref oa), (4, .int (nI i))]) hx hb dL_law_1208 hl (by decide) rfl (fun ls hl => ?_)
      refine lv_aload_n hx hb dL_law_1210 rfl (lv_at hl 4 rfl) ?_
      have hDB := lB_D hD hDm
      have hBB := lB_up (ad := ad) (oa := oa) hA0 hsz9 hW hout
      refine rh_call2 (vx_runV (As := []) (rest := []) ⟨hx, hb, hml, hown, hts⟩ (ct_X5_thrown l hDB  ) (cwV 0 hts gL_law_X5_thrown rfl rfl rfl (by decide +kernel) ⟨by decide, by decide⟩) (rh_preV2 hE hS (fun q h => h.1) hBB (hM.at 10 0 Nat.zero_lt_one) rfl hM) rfl rfl hl.1 rfl (lv_room (Nat.le_of_ble_eq_true rfl)) dL_law_1211 ⟨by show cells + 5 + 0 + 0 ≤ 626516; omega, by show slots + 40 + 0 + 0 ≤ 7216556; omega⟩) hS (fun q h => h.1) (fun E ce q9 H locs hX9 hz9 hk9 hS g1 g2 g3 => hX9.elim) (fun o H locs hN9 hz9 hk9 hS => ?_)
      have hW := hW.keptB hk9
      have hout := hout.kept (hk9 _ hout.lt (fun z => z.2.2 rfl))
      have hsz9 := hS.1
      obtain ⟨rfl, hM⟩ := hN9
      refine W.eq (g2 := F0 m 1214 ls [.int 1]) rfl ?_
      refine lv_iload hx hb dL_law_1214 (lv_at hl 1 rfl) ?_
      refine lv_icmp_eq (tgt := 1221) hx hb dL_law_1216 (by decide) (fun c4 => ?_) (fun c4 => absurd c4 (by decide))
      refine lv_iload hx hb dL_law_1221 (lv_at hl 1 rfl) ?_
      refine lv_if_ne (tgt := 1238) hx hb dL_law_1223 (by decide) (fun c5 => ?_) (fun c5 => absurd c5 (by decide))
      refine lv_goto (tgt := 1523) hx hb dL_law_1238 (by decide) ?_
      exact hK _ _ _ _ _ _ _ _ _ _ _ _ ⟨rfl, rfl, hW, hM, hout, hI, hD, hDm, hAo⟩ hS (lv_sub hl [2, 3, 4, 5, 6] rfl)
    · exfalso
      exact absurd hd0 hc9
  · refine W.eq (g2 := F0 m 1190 ls [.int 2]) rfl ?_
    refine lv_istore (lv' := [(5, .int 2), (0, .ref b), (1, .ref (ad 0 0)), (2, .ref (adm 10 0)), (3, .ref oa), (4, .int (nI i))]) hx hb dL_law_1190 hl (by decide) rfl (fun ls hl => ?_)
    refine lv_aload_n hx hb dL_law_1192 rfl (lv_at hl 3 rfl) ?_
    refine lv_aload_n hx hb dL_law_1193 rfl (lv_at hl 1 rfl) ?_
    refine lv_iload hx hb dL_law_1194 (lv_at hl 5 rfl) ?_
    refine lv_iconst (v := 1) hx hb dL_law_1196 (by decide) ?_
    refine lv_iadd hx hb dL_law_1197 ?_
    refine l_sld hx hb hX hbl hbA hS hLm (i + 1) (by omega) (nI_add i 1) dL_law_1198 ?_
    refine lv_aload_n hx hb dL_law_1199 rfl (lv_at hl 1 rfl) ?_
    refine lv_iload hx hb dL_law_1200 (lv_at hl 5 rfl) ?_
    refine lv_iconst (v := 2) hx hb dL_law_1202 (by decide) ?_
    refine lv_iadd hx hb dL_law_1203 ?_
    refine l_sld hx hb hX hbl hbA hS hLm (i + 2) (by omega) (nI_add i 2) dL_law_1204 ?_
    have hDB := lB_D hD hDm
    have hBB := lB_up (ad := ad) (oa := oa) hA0 hsz9 hW hout
    refine rh_call2 (vx_runV (As := [.int (xs (i + 1)), .int (xs (i + 2))]) (rest := []) ⟨hx, hb, hml, hown, hts⟩ (ct_X5_setRate l hDB  (xs (i + 1)) (xs (i + 2))) (cwV 2 hts gL_law_X5_setRate rfl rfl rfl (by decide +kernel) ⟨by decide, by decide⟩) (rh_preV2 hE hS (fun q h => h.1) hBB (hM.at 10 0 Nat.zero_lt_one) rfl hM) rfl rfl hl.1 rfl (lv_room (Nat.le_of_ble_eq_true rfl)) dL_law_1205 ⟨by show cells + 5 + 0 ≤ 626516; omega, by show slots + 40 + 0 ≤ 7216556; omega⟩) hS (fun q h => h.1) (fun E ce q9 H locs hX9 hz9 hk9 hS g1 g2 g3 => hX9.elim) (fun o H locs hN9 hz9 hk9 hS => ?_)
    have hW := hW.keptB hk9
    have hout := hout.kept (hk9 _ hout.lt (fun z => z.2.2 rfl))
    have hsz9 := hS.1
    rcases hN9 with ⟨i8, hd0, hd1, hd2, rfl, hM⟩ | ⟨hd0, ⟨z8, rfl⟩, hM⟩ | ⟨hd0, hd1, ⟨z8, rfl⟩, hM⟩
    · exfalso
      exact (hc9.2 hd2).elim
    · exfalso
      exact (hd0 hc9.1).elim
    · skip
      refine W.eq (g2 := F0 m 1208 ls [.int z8]) rfl ?_
      refine lv_istore (lv' := [(6, .int z8), (5, .int 2), (0, .ref b), (1, .ref (ad 0 0)), (2, .ref (adm 10 0)), (3, .ref oa), (4, .int (nI i))]) hx hb dL_law_1208 hl (by decide) rfl (fun ls hl => ?_)
      refine lv_aload_n hx hb dL_law_1210 rfl (lv_at hl 4 rfl) ?_
      have hDB := lB_D hD hDm
      have hBB := lB_up (ad := ad) (oa := oa) hA0 hsz9 hW hout
      refine rh_call2 (vx_runV (As := []) (rest := []) ⟨hx, hb, hml, hown, hts⟩ (ct_X5_thrown l hDB  ) (cwV 0 hts gL_law_X5_thrown rfl rfl rfl (by decide +kernel) ⟨by decide, by decide⟩) (rh_preV2 hE hS (fun q h => h.1) hBB (hM.at 10 0 Nat.zero_lt_one) rfl hM) rfl rfl hl.1 rfl (lv_room (Nat.le_of_ble_eq_true rfl)) dL_law_1211 ⟨by show cells + 5 + 0 + 0 ≤ 626516; omega, by show slots + 40 + 0 + 0 ≤ 7216556; omega⟩) hS (fun q h => h.1) (fun E ce q9 H locs hX9 hz9 hk9 hS g1 g2 g3 => hX9.elim) (fun o H locs hN9 hz9 hk9 hS => ?_)
      have hW := hW.keptB hk9
      have hout := hout.kept (hk9 _ hout.lt (fun z => z.2.2 rfl))
      have hsz9 := hS.1
      obtain ⟨rfl, hM⟩ := hN9
      refine W.eq (g2 := F0 m 1214 ls [.int 2]) rfl ?_
      refine lv_iload hx hb dL_law_1214 (lv_at hl 1 rfl) ?_
      refine lv_icmp_eq (tgt := 1221) hx hb dL_law_1216 (by decide) (fun c6 => ?_) (fun c6 => absurd c6 (by decide))
      refine lv_iload hx hb dL_law_1221 (lv_at hl 1 rfl) ?_
      refine lv_if_ne (tgt := 1238) hx hb dL_law_1223 (by decide) (fun c7 => ?_) (fun c7 => absurd c7 (by decide))
      refine lv_goto (tgt := 1523) hx hb dL_law_1238 (by decide) ?_
      exact hK _ _ _ _ _ _ _ _ _ _ _ _ ⟨rfl, rfl, hW, hM, hout, hI, hD, hDm, hAo⟩ hS (lv_sub hl [2, 3, 4, 5, 6] rfl)
set_option maxHeartbeats 8000000 in
set_option maxRecDepth 100000 in
theorem op_nextMonth {p : Program} {l : Launch} {e : Env} {s : State} {m : MethodId} {below : List Frame} {meth : Method} {c : Code} {G : va_G} {ca : Nat → ClassId} {A0 : Nat → Prop} {b L : Nat} {xs : Nat → Int32} {h9 hm oa i : Nat} {cells slots : Nat} {Q : State → Prop} {ad adm : Nat → Nat → Nat} {nf nc : Nat} {r : rh_R} {v : rh_V} {w : rh_Wm} {th : Int32} {f : Nat → Int64} {H : Heap} {locs : List Loc} {ls : Array Slot} (C : lwC p l s m c G ca A0 b L xs) (hLS : lwS G ca A0 h9 hm oa ad adm nf nc r v w th f H) (hS : va_S A0 s.heap H locs) (hl : lv_has ls 8 [(0, .ref b), (1, .ref h9), (2, .ref hm), (3, .ref oa), (4, .int (nI i))]) (hi : i + 5 < L) (hcl : cells + 5 ≤ 626516) (hsl : slots + 40 ≤ 7216556) (hK : lwK p l e s m below meth c G ca A0 b h9 hm oa i cells slots Q) : W p l e room_1 s m #[Value.ref b] below meth c H locs cells slots Q (F0 m 1241 ls []) := by
  obtain ⟨hx, hb, hml, hown, hts, hE, hnc9, hlf, hA0, hbA, hbl, hX, hLm⟩ := C
  obtain ⟨rfl, rfl, hW, hM, hout, hI, hD, hDm, hAo⟩ := hLS
  have hnf9 := hI.1.1
  have hnn9 := hI.1.2.1
  have hnow := l_now hI
  have hsz9 := hS.1
  have hl : lv_has ls 8 [(0, .ref b), (1, .ref (ad 0 0)), (2, .ref (adm 10 0)), (3, .ref oa), (4, .int (nI i))] := hl
  refine lv_aload_n hx hb dL_law_1241 rfl (lv_at hl 1 rfl) ?_
  refine lv_aload_n hx hb dL_law_1242 rfl (lv_at hl 3 rfl) ?_
  have hAA := lA_up (adm := adm) hA0 hsz9 hM
  refine rh_call2 (vx_runSX (As := [.ref (ad 0 0), .ref oa]) (rest := []) ⟨hx, hb, hml, hown, hts⟩ (hl_nextMonth l hlf (l_Ao hM hout hDm hAo) hD hI.1 ) (vx_cwSW 2 hts gL_law_L_nextMonth rfl rfl rfl (by decide +kernel) ⟨by decide, by decide⟩) (rh_prel hE hnc9 hS (fun q h => h.1) hAA ⟨hW, hout⟩) rfl rfl hl.1 rfl (lv_room (Nat.le_of_ble_eq_true rfl)) dL_law_1243 ⟨by show cells + 5 ≤ 626516; omega, by show slots + 40 ≤ 7216556; omega⟩) hS (fun q h => h.1) (fun E ce q9 H locs hX9 hz9 hk9 hS g1 g2 g3 => hX9.elim) (fun o H locs hN9 hz9 hk9 hS => ?_)
  have hM := hM.keptA hk9
  have hsz9 := hS.1
  rcases hN9 with ⟨hc0, rfl, ⟨f8, hf8, hout⟩, hW⟩ | ⟨hc9, rfl, ⟨f8, hout⟩, hW⟩
  · refine W.eq (g2 := F0 m 1246 ls [.int 0]) rfl ?_
    refine lv_istore (lv' := [(5, .int 0), (0, .ref b), (1, .ref (ad 0 0)), (2, .ref (adm 10 0)), (3, .ref oa), (4, .int (nI i))]) hx hb dL_law_1246 hl (by decide) rfl (fun ls hl => ?_)
    refine lv_aload_n hx hb dL_law_1248 rfl (lv_at hl 3 rfl) ?_
    have hDB := lB_D hD hDm
    have hBB := lB_up (ad := ad) (oa := oa) hA0 hsz9 hW hout
    refine rh_call2 (vx_runV (As := []) (rest := []) ⟨hx, hb, hml, hown, hts⟩ (ct_X5_nextMonth l hDB hI.2.1.1 ) (cwV 0 hts gL_law_X5_nextMonth rfl rfl rfl (by decide +kernel) ⟨by decide, by decide⟩) (rh_preV2 hE hS (fun q h => h.1) hBB (hM.at 10 0 Nat.zero_lt_one) rfl hM) rfl rfl hl.1 rfl (lv_room (Nat.le_of_ble_eq_true rfl)) dL_law_1249 ⟨by show cells + 5 + 0 ≤ 626516; omega, by show slots + 40 + 0 ≤ 7216556; omega⟩) hS (fun q h => h.1) (fun E ce q9 H locs hX9 hz9 hk9 hS g1 g2 g3 => hX9.elim) (fun o H locs hN9 hz9 hk9 hS => ?_)
    have hW := hW.keptB hk9
    have hout := hout.kept (hk9 _ hout.lt (fun z => z.2.2 rfl))
    have hsz9 := hS.1
    rcases hN9 with ⟨hd0, rfl, hM⟩ | ⟨hd0, ⟨z8, rfl⟩, hM⟩
    · skip
      refine W.eq (g2 := F0 m 1252 ls [.int (w 26 24 + 1)]) rfl ?_
      refine lv_istore (lv' := [(6, .int (w 26 24 + 1)), (5, .int 0), (0, .ref b), (1, .ref (ad 0 0)), (2, .ref (adm 10 0)), (3, .ref oa), (4, .int (nI i))]) hx hb dL_law_1252 hl (by decide) rfl (fun ls hl => ?_)
      refine lv_aload_n hx hb dL_law_1254 rfl (lv_at hl 4 rfl) ?_
      have hDB := lB_D hD hDm
      have hBB := lB_up (ad := ad) (oa := oa) hA0 hsz9 hW hout
      refine rh_call2 (vx_runV (As := []) (rest := []) ⟨hx, hb, hml, hown, hts⟩ (ct_X5_thrown l hDB  ) (cwV 0 hts gL_law_X5_thrown rfl rfl rfl (by decide +kernel) ⟨by decide, by decide⟩) (rh_preV2 hE hS (fun q h => h.1) hBB (hM.at 10 0 Nat.zero_lt_one) rfl hM) rfl rfl hl.1 rfl (lv_room (Nat.le_of_ble_eq_true rfl)) dL_law_1255 ⟨by show cells + 5 + 0 + 0 ≤ 626516; omega, by show slots + 40 + 0 + 0 ≤ 7216556; omega⟩) hS (fun q h => h.1) (fun E ce q9 H locs hX9 hz9 hk9 hS g1 g2 g3 => hX9.elim) (fun o H locs hN9 hz9 hk9 hS => ?_)
      have hW := hW.keptB hk9
      have hout := hout.kept (hk9 _ hout.lt (fun z => z.2.2 rfl))
      have hsz9 := hS.1
      obtain ⟨rfl, hM⟩ := hN9
      refine W.eq (g2 := F0 m 1258 ls [.int 0]) rfl ?_
      refine lv_iload hx hb dL_law_1258 (lv_at hl 1 rfl) ?_
      refine lv_icmp_eq (tgt := 1265) hx hb dL_law_1260 (by decide) (fun c1 => ?_) (fun c1 => absurd c1 (by decide))
      refine lv_iload hx hb dL_law_1265 (lv_at hl 1 rfl) ?_
      refine lv_if_ne (tgt := 1282) hx hb dL_law_1267 (by decide) (fun c2 => absurd c2 (by decide)) (fun c2 => ?_)
      refine lv_aload_n hx hb dL_law_1270 rfl (lv_at hl 5 rfl) ?_
      refine lv_iconst (v := 0) hx hb dL_law_1271 (by decide) ?_
      refine rh_lald (n := 1) (f := f8) hx hb hE hout 0 (by decide) (by decide) rfl dL_law_1272 ?_
      have hval : f8 0 = ((w 26 24 + 1)).toInt64 := by rw [hf8, hnow]
      refine lv_iload hx hb dL_law_1273 (lv_at hl 0 rfl) ?_
      refine lv_i2l hx hb dL_law_1275 rfl ?_
      refine W.lcmp hx hb dL_law_1276 ?_
      refine lv_if_eq (tgt := 1282) hx hb dL_law_1277 (by decide) (fun c3 => ?_) (fun c3 => (c3 ((lg_cmp_eq _ _).mpr hval)).elim)
      · refine lv_goto (tgt := 1523) hx hb dL_law_1282 (by decide) ?_
        exact hK _ _ _ _ _ _ _ _ _ _ _ _ ⟨rfl, rfl, hW, hM, hout, i_next hI hc0, hD, hDm, hAo⟩ hS (lv_sub hl [2, 3, 4, 5, 6] rfl)
    · exfalso
      exact absurd hd0 ((l_next hI).mp hc0)
  · refine W.eq (g2 := F0 m 1246 ls [.int 1]) rfl ?_
    refine lv_istore (lv' := [(5, .int 1), (0, .ref b), (1, .ref (ad 0 0)), (2, .ref (adm 10 0)), (3, .ref oa), (4, .int (nI i))]) hx hb dL_law_1246 hl (by decide) rfl (fun ls hl => ?_)
    refine lv_aload_n hx hb dL_law_1248 rfl (lv_at hl 3 rfl) ?_
    have hDB := lB_D hD hDm
    have hBB := lB_up (ad := ad) (oa := oa) hA0 hsz9 hW hout
    refine rh_call2 (vx_runV (As := []) (rest := []) ⟨hx, hb, hml, hown, hts⟩ (ct_X5_nextMonth l hDB hI.2.1.1 ) (cwV 0 hts gL_law_X5_nextMonth rfl rfl rfl (by decide +kernel) ⟨by decide, by decide⟩) (rh_preV2 hE hS (fun q h => h.1) hBB (hM.at 10 0 Nat.zero_lt_one) rfl hM) rfl rfl hl.1 rfl (lv_room (Nat.le_of_ble_eq_true rfl)) dL_law_1249 ⟨by show cells + 5 + 0 ≤ 626516; omega, by show slots + 40 + 0 ≤ 7216556; omega⟩) hS (fun q h => h.1) (fun E ce q9 H locs hX9 hz9 hk9 hS g1 g2 g3 => hX9.elim) (fun o H locs hN9 hz9 hk9 hS => ?_)
    have hW := hW.keptB hk9
    have hout := hout.kept (hk9 _ hout.lt (fun z => z.2.2 rfl))
    have hsz9 := hS.1
    rcases hN9 with ⟨hd0, rfl, hM⟩ | ⟨hd0, ⟨z8, rfl⟩, hM⟩
    · exfalso
      exact absurd ((l_next hI).mpr hd0) hc9
    · skip
      refine W.eq (g2 := F0 m 1252 ls [.int z8]) rfl ?_
      refine lv_istore (lv' := [(6, .int z8), (5, .int 1), (0, .ref b), (1, .ref (ad 0 0)), (2, .ref (adm 10 0)), (3, .ref oa), (4, .int (nI i))]) hx hb dL_law_1252 hl (by decide) rfl (fun ls hl => ?_)
      refine lv_aload_n hx hb dL_law_1254 rfl (lv_at hl 4 rfl) ?_
      have hDB := lB_D hD hDm
      have hBB := lB_up (ad := ad) (oa := oa) hA0 hsz9 hW hout
      refine rh_call2 (vx_runV (As := []) (rest := []) ⟨hx, hb, hml, hown, hts⟩ (ct_X5_thrown l hDB  ) (cwV 0 hts gL_law_X5_thrown rfl rfl rfl (by decide +kernel) ⟨by decide, by decide⟩) (rh_preV2 hE hS (fun q h => h.1) hBB (hM.at 10 0 Nat.zero_lt_one) rfl hM) rfl rfl hl.1 rfl (lv_room (Nat.le_of_ble_eq_true rfl)) dL_law_1255 ⟨by show cells + 5 + 0 + 0 ≤ 626516; omega, by show slots + 40 + 0 + 0 ≤ 7216556; omega⟩) hS (fun q h => h.1) (fun E ce q9 H locs hX9 hz9 hk9 hS g1 g2 g3 => hX9.elim) (fun o H locs hN9 hz9 hk9 hS => ?_)
      have hW := hW.keptB hk9
      have hout := hout.kept (hk9 _ hout.lt (fun z => z.2.2 rfl))
      have hsz9 := hS.1
      obtain ⟨rfl, hM⟩ := hN9
      refine W.eq (g2 := F0 m 1258 ls [.int 1]) rfl ?_
      refine lv_iload hx hb dL_law_1258 (lv_at hl 1 rfl) ?_
      refine lv_icmp_eq (tgt := 1265) hx hb dL_law_1260 (by decide) (fun c4 => ?_) (fun c4 => absurd c4 (by decide))
      refine lv_iload hx hb dL_law_1265 (lv_at hl 1 rfl) ?_
      refine lv_if_ne (tgt := 1282) hx hb dL_law_1267 (by decide) (fun c5 => ?_) (fun c5 => absurd c5 (by decide))
      refine lv_goto (tgt := 1523) hx hb dL_law_1282 (by decide) ?_
      exact hK _ _ _ _ _ _ _ _ _ _ _ _ ⟨rfl, rfl, hW, hM, hout, hI, hD, hDm, hAo⟩ hS (lv_sub hl [2, 3, 4, 5, 6] rfl)
set_option maxHeartbeats 8000000 in
set_option maxRecDepth 100000 in
theorem op_month {p : Program} {l : Launch} {e : Env} {s : State} {m : MethodId} {below : List Frame} {meth : Method} {c : Code} {G : va_G} {ca : Nat → ClassId} {A0 : Nat → Prop} {b L : Nat} {xs : Nat → Int32} {h9 hm oa i : Nat} {cells slots : Nat} {Q : State → Prop} {ad adm : Nat → Nat → Nat} {nf nc : Nat} {r : rh_R} {v : rh_V} {w : rh_Wm} {th : Int32} {f : Nat → Int64} {H : Heap} {locs : List Loc} {ls : Array Slot} (C : lwC p l s m c G ca A0 b L xs) (hLS : lwS G ca A0 h9 hm oa ad adm nf nc r v w th f H) (hS : va_S A0 s.heap H locs) (hl : lv_has ls 8 [(0, .ref b), (1, .ref h9), (2, .ref hm), (3, .ref oa), (4, .int (nI i))]) (hi : i + 5 < L) (hcl : cells + 5 ≤ 626516) (hsl : slots + 40 ≤ 7216556) (hK : lwK p l e s m below meth c G ca A0 b h9 hm oa i cells slots Q) : W p l e room_1 s m #[Value.ref b] below meth c H locs cells slots Q (F0 m 1285 ls []) := by
  obtain ⟨hx, hb, hml, hown, hts, hE, hnc9, hlf, hA0, hbA, hbl, hX, hLm⟩ := C
  obtain ⟨rfl, rfl, hW, hM, hout, hI, hD, hDm, hAo⟩ := hLS
  have hnf9 := hI.1.1
  have hnn9 := hI.1.2.1
  have hnow := l_now hI
  have hsz9 := hS.1
  have hl : lv_has ls 8 [(0, .ref b), (1, .ref (ad 0 0)), (2, .ref (adm 10 0)), (3, .ref oa), (4, .int (nI i))] := hl
  refine lv_aload_n hx hb dL_law_1285 rfl (lv_at hl 1 rfl) ?_
  have hAA := lA_up (adm := adm) hA0 hsz9 hM
  have hAA1 : ∀ q : Nat, H.size ≤ q → rh_A1 (lA A0 adm) oa q := fun q h => ⟨hAA q h, fun z => by have := hout.lt; omega⟩
  refine rh_call2 (vx_runV (As := []) (rest := []) ⟨hx, hb, hml, hown, hts⟩ (ct_X4_month l hD) (cwV 0 hts gL_law_X4_month rfl rfl rfl (by decide +kernel) ⟨by decide, by decide⟩) (rh_preV2 hE hS (fun q h => h.1.1) hAA1 (hW.at 0 0 Nat.zero_lt_one) rfl hW) rfl rfl hl.1 rfl (lv_room (Nat.le_of_ble_eq_true rfl)) dL_law_1286 ⟨by show cells + 0 ≤ 626516; omega, by show slots + 0 ≤ 7216556; omega⟩) hS (fun q h => h.1.1) (fun E ce q9 H locs hX9 hz9 hk9 hS g1 g2 g3 => hX9.elim) (fun o H locs hN9 hz9 hk9 hS => ?_)
  have hM := hM.keptA (fun q h1 h2 => hk9 q h1 (fun z => h2 z.1))
  have hsz9 := hS.1
  have hout := hout.kept (hk9 _ hout.lt (fun z => z.2 rfl))
  obtain ⟨rfl, hW⟩ := hN9
  refine W.eq (g2 := F0 m 1289 ls [.int (v 0 0 6)]) rfl ?_
  refine lv_aload_n hx hb dL_law_1289 rfl (lv_at hl 2 rfl) ?_
  skip
  have hDB := lB_D hD hDm
  have hBB := lB_up (ad := ad) (oa := oa) hA0 hsz9 hW hout
  refine rh_call2 (vx_runV (As := []) (rest := [.int (v 0 0 6)]) ⟨hx, hb, hml, hown, hts⟩ (ct_X5_month l hDB  ) (cwV 0 hts gL_law_X5_month rfl rfl rfl (by decide +kernel) ⟨by decide, by decide⟩) (rh_preV2 hE hS (fun q h => h.1) hBB (hM.at 10 0 Nat.zero_lt_one) rfl hM) rfl rfl hl.1 rfl (lv_room (Nat.le_of_ble_eq_true rfl)) dL_law_1290 ⟨by show cells + 0 + 0 ≤ 626516; omega, by show slots + 0 + 0 ≤ 7216556; omega⟩) hS (fun q h => h.1) (fun E ce q9 H locs hX9 hz9 hk9 hS g1 g2 g3 => hX9.elim) (fun o H locs hN9 hz9 hk9 hS => ?_)
  have hW := hW.keptB hk9
  have hout := hout.kept (hk9 _ hout.lt (fun z => z.2.2 rfl))
  have hsz9 := hS.1
  obtain ⟨rfl, hM⟩ := hN9
  refine W.eq (g2 := F0 m 1293 ls [.int (w 26 24), .int (v 0 0 6)]) rfl ?_
  refine lv_icmp_eq (tgt := 1523) hx hb dL_law_1293 (by decide) (fun c1 => ?_) (fun c1 => absurd hnow c1)
  · exact W.widen (by omega) (by omega) (hK _ _ _ _ _ _ _ _ _ _ _ _ ⟨rfl, rfl, hW, hM, hout, hI, hD, hDm, hAo⟩ hS (lv_sub hl [0, 1, 2, 3, 4] rfl))
set_option maxHeartbeats 8000000 in
set_option maxRecDepth 100000 in
theorem op_owed {p : Program} {l : Launch} {e : Env} {s : State} {m : MethodId} {below : List Frame} {meth : Method} {c : Code} {G : va_G} {ca : Nat → ClassId} {A0 : Nat → Prop} {b L : Nat} {xs : Nat → Int32} {h9 hm oa i : Nat} {cells slots : Nat} {Q : State → Prop} {ad adm : Nat → Nat → Nat} {nf nc : Nat} {r : rh_R} {v : rh_V} {w : rh_Wm} {th : Int32} {f : Nat → Int64} {H : Heap} {locs : List Loc} {ls : Array Slot} (C : lwC p l s m c G ca A0 b L xs) (hLS : lwS G ca A0 h9 hm oa ad adm nf nc r v w th f H) (hS : va_S A0 s.heap H locs) (hl : lv_has ls 8 [(0, .ref b), (1, .ref h9), (2, .ref hm), (3, .ref oa), (4, .int (nI i))]) (hi : i + 5 < L) (hcl : cells + 5 ≤ 626516) (hsl : slots + 40 ≤ 7216556) (hK : lwK p l e s m below meth c G ca A0 b h9 hm oa i cells slots Q) : W p l e room_1 s m #[Value.ref b] below meth c H locs cells slots Q (F0 m 1298 ls []) := by
  obtain ⟨hx, hb, hml, hown, hts, hE, hnc9, hlf, hA0, hbA, hbl, hX, hLm⟩ := C
  obtain ⟨rfl, rfl, hW, hM, hout, hI, hD, hDm, hAo⟩ := hLS
  have hnf9 := hI.1.1
  have hnn9 := hI.1.2.1
  have hnow := l_now hI
  have hsz9 := hS.1
  have hl : lv_has ls 8 [(0, .ref b), (1, .ref (ad 0 0)), (2, .ref (adm 10 0)), (3, .ref oa), (4, .int (nI i))] := hl
  refine lv_aload_n hx hb dL_law_1298 rfl (lv_at hl 1 rfl) ?_
  refine lv_aload_n hx hb dL_law_1299 rfl (lv_at hl 0 rfl) ?_
  refine lv_iload hx hb dL_law_1300 (lv_at hl 4 rfl) ?_
  refine lv_iconst (v := 1) hx hb dL_law_1302 (by decide) ?_
  refine lv_iadd hx hb dL_law_1303 ?_
  refine l_sld hx hb hX hbl hbA hS hLm (i + 1) (by omega) (nI_add i 1) dL_law_1304 ?_
  refine lv_aload_n hx hb dL_law_1305 rfl (lv_at hl 0 rfl) ?_
  refine lv_iload hx hb dL_law_1306 (lv_at hl 4 rfl) ?_
  refine lv_iconst (v := 2) hx hb dL_law_1308 (by decide) ?_
  refine lv_iadd hx hb dL_law_1309 ?_
  refine l_sld hx hb hX hbl hbA hS hLm (i + 2) (by omega) (nI_add i 2) dL_law_1310 ?_
  refine lv_aload_n hx hb dL_law_1311 rfl (lv_at hl 0 rfl) ?_
  refine lv_iload hx hb dL_law_1312 (lv_at hl 4 rfl) ?_
  refine lv_iconst (v := 3) hx hb dL_law_1314 (by decide) ?_
  refine lv_iadd hx hb dL_law_1315 ?_
  refine l_sld hx hb hX hbl hbA hS hLm (i + 3) (by omega) (nI_add i 3) dL_law_1316 ?_
  refine lv_aload_n hx hb dL_law_1317 rfl (lv_at hl 3 rfl) ?_
  have hAA := lA_up (adm := adm) hA0 hsz9 hM
  refine rh_call2 (vx_runSX (As := [.ref (ad 0 0), .int (xs (i + 1)), .int (xs (i + 2)), .int (xs (i + 3)), .ref oa]) (rest := []) ⟨hx, hb, hml, hown, hts⟩ (hl_owed l hlf (l_Ao hM hout hDm hAo) hD hI.1 (xs (i + 1)) (xs (i + 2)) (xs (i + 3))) (vx_cwSW 5 hts gL_law_L_owed rfl rfl rfl (by decide +kernel) ⟨by decide, by decide⟩) (rh_prel hE hnc9 hS (fun q h => h.1) hAA ⟨hW, hout⟩) rfl rfl hl.1 rfl (lv_room (Nat.le_of_ble_eq_true rfl)) dL_law_1318 ⟨by show cells + 5 ≤ 626516; omega, by show slots + 40 ≤ 7216556; omega⟩) hS (fun q h => h.1) (fun E ce q9 H locs hX9 hz9 hk9 hS g1 g2 g3 => hX9.elim) (fun o H locs hN9 hz9 hk9 hS => ?_)
  have hM := hM.keptA hk9
  have hsz9 := hS.1
  rcases hN9 with ⟨h9, k9, hc0, hc1, hc2, hc3, hc4, hc5, rfl, ⟨f8, hf8, hout⟩, hW⟩ | ⟨hc9, rfl, ⟨f8, hout⟩, hW⟩ | ⟨hc9, rfl, ⟨f8, hout⟩, hW⟩
  · rw [hnow] at hc5
    refine W.eq (g2 := F0 m 1321 ls [.int 0]) rfl ?_
    refine lv_istore (lv' := [(5, .int 0), (0, .ref b), (1, .ref (ad 0 0)), (2, .ref (adm 10 0)), (3, .ref oa), (4, .int (nI i))]) hx hb dL_law_1321 hl (by decide) rfl (fun ls hl => ?_)
    refine lv_aload_n hx hb dL_law_1323 rfl (lv_at hl 3 rfl) ?_
    refine lv_aload_n hx hb dL_law_1324 rfl (lv_at hl 1 rfl) ?_
    refine lv_iload hx hb dL_law_1325 (lv_at hl 5 rfl) ?_
    refine lv_iconst (v := 1) hx hb dL_law_1327 (by decide) ?_
    refine lv_iadd hx hb dL_law_1328 ?_
    refine l_sld hx hb hX hbl hbA hS hLm (i + 1) (by omega) (nI_add i 1) dL_law_1329 ?_
    refine lv_aload_n hx hb dL_law_1330 rfl (lv_at hl 1 rfl) ?_
    refine lv_iload hx hb dL_law_1331 (lv_at hl 5 rfl) ?_
    refine lv_iconst (v := 2) hx hb dL_law_1333 (by decide) ?_
    refine lv_iadd hx hb dL_law_1334 ?_
    refine l_sld hx hb hX hbl hbA hS hLm (i + 2) (by omega) (nI_add i 2) dL_law_1335 ?_
    refine lv_aload_n hx hb dL_law_1336 rfl (lv_at hl 1 rfl) ?_
    refine lv_iload hx hb dL_law_1337 (lv_at hl 5 rfl) ?_
    refine lv_iconst (v := 3) hx hb dL_law_1339 (by decide) ?_
    refine lv_iadd hx hb dL_law_1340 ?_
    refine l_sld hx hb hX hbl hbA hS hLm (i + 3) (by omega) (nI_add i 3) dL_law_1341 ?_
    have hDB := lB_D hD hDm
    have hBB := lB_up (ad := ad) (oa := oa) hA0 hsz9 hW hout
    refine rh_call2 (vx_runV (As := [.int (xs (i + 1)), .int (xs (i + 2)), .int (xs (i + 3))]) (rest := []) ⟨hx, hb, hml, hown, hts⟩ (ct_X5_owed l hDB hI.2.1 (xs (i + 1)) (xs (i + 2)) (xs (i + 3))) (cwV 3 hts gL_law_X5_owed rfl rfl rfl (by decide +kernel) ⟨by decide, by decide⟩) (rh_preV2 hE hS (fun q h => h.1) hBB (hM.at 10 0 Nat.zero_lt_one) rfl hM) rfl rfl hl.1 rfl (lv_room (Nat.le_of_ble_eq_true rfl)) dL_law_1342 ⟨by show cells + 5 + 0 ≤ 626516; omega, by show slots + 40 + 0 ≤ 7216556; omega⟩) hS (fun q h => h.1) (fun E ce q9 H locs hX9 hz9 hk9 hS g1 g2 g3 => hX9.elim) (fun o H locs hN9 hz9 hk9 hS => ?_)
    have hW := hW.keptB hk9
    have hout := hout.kept (hk9 _ hout.lt (fun z => z.2.2 rfl))
    have hsz9 := hS.1
    rcases hN9 with ⟨h8, k8, hd0, hd1, hd2, hd3, hd4, hd5, rfl, hM⟩ | ⟨hd0, ⟨z8, rfl⟩, hM⟩ | ⟨hd0, hd1, hd2, ⟨z8, rfl⟩, hM⟩
    · obtain rfl : h9 = h8 := m_inj (by omega) (by omega) (hc3.symm.trans hd3)
      obtain rfl : k9 = k8 := m_inj (by omega) (by omega) (hc4.symm.trans hd4)
      refine W.eq (g2 := F0 m 1345 ls [.long (m_sum r w (h9 * 4 + k9) (xs (i + 3)) (xs (i + 3)) nc)]) rfl ?_
      refine lv_lstore (lv' := [(6, .long (m_sum r w (h9 * 4 + k9) (xs (i + 3)) (xs (i + 3)) nc)), (5, .int 0), (0, .ref b), (1, .ref (ad 0 0)), (2, .ref (adm 10 0)), (3, .ref oa), (4, .int (nI i))]) hx hb dL_law_1345 hl (by decide) rfl (fun ls hl => ?_)
      refine lv_aload_n hx hb dL_law_1347 rfl (lv_at hl 4 rfl) ?_
      have hDB := lB_D hD hDm
      have hBB := lB_up (ad := ad) (oa := oa) hA0 hsz9 hW hout
      refine rh_call2 (vx_runV (As := []) (rest := []) ⟨hx, hb, hml, hown, hts⟩ (ct_X5_thrown l hDB  ) (cwV 0 hts gL_law_X5_thrown rfl rfl rfl (by decide +kernel) ⟨by decide, by decide⟩) (rh_preV2 hE hS (fun q h => h.1) hBB (hM.at 10 0 Nat.zero_lt_one) rfl hM) rfl rfl hl.1 rfl (lv_room (Nat.le_of_ble_eq_true rfl)) dL_law_1348 ⟨by show cells + 5 + 0 + 0 ≤ 626516; omega, by show slots + 40 + 0 + 0 ≤ 7216556; omega⟩) hS (fun q h => h.1) (fun E ce q9 H locs hX9 hz9 hk9 hS g1 g2 g3 => hX9.elim) (fun o H locs hN9 hz9 hk9 hS => ?_)
      have hW := hW.keptB hk9
      have hout := hout.kept (hk9 _ hout.lt (fun z => z.2.2 rfl))
      have hsz9 := hS.1
      obtain ⟨rfl, hM⟩ := hN9
      refine W.eq (g2 := F0 m 1351 ls [.int 0]) rfl ?_
      refine lv_iload hx hb dL_law_1351 (lv_at hl 1 rfl) ?_
      refine lv_icmp_eq (tgt := 1358) hx hb dL_law_1353 (by decide) (fun c1 => ?_) (fun c1 => absurd c1 (by decide))
      refine lv_iload hx hb dL_law_1358 (lv_at hl 1 rfl) ?_
      refine lv_if_ne (tgt := 1374) hx hb dL_law_1360 (by decide) (fun c2 => absurd c2 (by decide)) (fun c2 => ?_)
      refine lv_aload_n hx hb dL_law_1363 rfl (lv_at hl 5 rfl) ?_
      refine lv_iconst (v := 0) hx hb dL_law_1364 (by decide) ?_
      refine rh_lald (n := 1) (f := f8) hx hb hE hout 0 (by decide) (by decide) rfl dL_law_1365 ?_
      have hval : f8 0 = (m_sum r w (h9 * 4 + k9) (xs (i + 3)) (xs (i + 3)) nc) := by rw [hf8, s_sum hI hc5.1 nc (Nat.le_refl _)]
      refine lv_lload hx hb dL_law_1366 (lv_at hl 0 rfl) ?_
      refine W.lcmp hx hb dL_law_1368 ?_
      refine lv_if_eq (tgt := 1374) hx hb dL_law_1369 (by decide) (fun c3 => ?_) (fun c3 => (c3 ((lg_cmp_eq _ _).mpr hval)).elim)
      · refine lv_goto (tgt := 1523) hx hb dL_law_1374 (by decide) ?_
        exact hK _ _ _ _ _ _ _ _ _ _ _ _ ⟨rfl, rfl, hW, hM, hout, hI, hD, hDm, hAo⟩ hS (lv_sub hl [2, 3, 4, 5, 6] rfl)
    · exfalso
      exact (hd0 ⟨l_ix (by omega) hc0 hc3, l_ix (by omega) hc1 hc4⟩).elim
    · exfalso
      exact (hd2.elim (fun z => hc2 (m_inj (by omega) (by omega) (hc3.symm.trans (z.trans hc4)))) (fun z => z hc5)).elim
  · refine W.eq (g2 := F0 m 1321 ls [.int 1]) rfl ?_
    refine lv_istore (lv' := [(5, .int 1), (0, .ref b), (1, .ref (ad 0 0)), (2, .ref (adm 10 0)), (3, .ref oa), (4, .int (nI i))]) hx hb dL_law_1321 hl (by decide) rfl (fun ls hl => ?_)
    refine lv_aload_n hx hb dL_law_1323 rfl (lv_at hl 3 rfl) ?_
    refine lv_aload_n hx hb dL_law_1324 rfl (lv_at hl 1 rfl) ?_
    refine lv_iload hx hb dL_law_1325 (lv_at hl 5 rfl) ?_
    refine lv_iconst (v := 1) hx hb dL_law_1327 (by decide) ?_
    refine lv_iadd hx hb dL_law_1328 ?_
    refine l_sld hx hb hX hbl hbA hS hLm (i + 1) (by omega) (nI_add i 1) dL_law_1329 ?_
    refine lv_aload_n hx hb dL_law_1330 rfl (lv_at hl 1 rfl) ?_
    refine lv_iload hx hb dL_law_1331 (lv_at hl 5 rfl) ?_
    refine lv_iconst (v := 2) hx hb dL_law_1333 (by decide) ?_
    refine lv_iadd hx hb dL_law_1334 ?_
    refine l_sld hx hb hX hbl hbA hS hLm (i + 2) (by omega) (nI_add i 2) dL_law_1335 ?_
    refine lv_aload_n hx hb dL_law_1336 rfl (lv_at hl 1 rfl) ?_
    refine lv_iload hx hb dL_law_1337 (lv_at hl 5 rfl) ?_
    refine lv_iconst (v := 3) hx hb dL_law_1339 (by decide) ?_
    refine lv_iadd hx hb dL_law_1340 ?_
    refine l_sld hx hb hX hbl hbA hS hLm (i + 3) (by omega) (nI_add i 3) dL_law_1341 ?_
    have hDB := lB_D hD hDm
    have hBB := lB_up (ad := ad) (oa := oa) hA0 hsz9 hW hout
    refine rh_call2 (vx_runV (As := [.int (xs (i + 1)), .int (xs (i + 2)), .int (xs (i + 3))]) (rest := []) ⟨hx, hb, hml, hown, hts⟩ (ct_X5_owed l hDB hI.2.1 (xs (i + 1)) (xs (i + 2)) (xs (i + 3))) (cwV 3 hts gL_law_X5_owed rfl rfl rfl (by decide +kernel) ⟨by decide, by decide⟩) (rh_preV2 hE hS (fun q h => h.1) hBB (hM.at 10 0 Nat.zero_lt_one) rfl hM) rfl rfl hl.1 rfl (lv_room (Nat.le_of_ble_eq_true rfl)) dL_law_1342 ⟨by show cells + 5 + 0 ≤ 626516; omega, by show slots + 40 + 0 ≤ 7216556; omega⟩) hS (fun q h => h.1) (fun E ce q9 H locs hX9 hz9 hk9 hS g1 g2 g3 => hX9.elim) (fun o H locs hN9 hz9 hk9 hS => ?_)
    have hW := hW.keptB hk9
    have hout := hout.kept (hk9 _ hout.lt (fun z => z.2.2 rfl))
    have hsz9 := hS.1
    rcases hN9 with ⟨h8, k8, hd0, hd1, hd2, hd3, hd4, hd5, rfl, hM⟩ | ⟨hd0, ⟨z8, rfl⟩, hM⟩ | ⟨hd0, hd1, hd2, ⟨z8, rfl⟩, hM⟩
    · exfalso
      exact (hc9 ⟨l_ix (by omega) hd0 hd3, l_ix (by omega) hd1 hd4⟩).elim
    · skip
      refine W.eq (g2 := F0 m 1345 ls [.long z8]) rfl ?_
      refine lv_lstore (lv' := [(6, .long z8), (5, .int 1), (0, .ref b), (1, .ref (ad 0 0)), (2, .ref (adm 10 0)), (3, .ref oa), (4, .int (nI i))]) hx hb dL_law_1345 hl (by decide) rfl (fun ls hl => ?_)
      refine lv_aload_n hx hb dL_law_1347 rfl (lv_at hl 4 rfl) ?_
      have hDB := lB_D hD hDm
      have hBB := lB_up (ad := ad) (oa := oa) hA0 hsz9 hW hout
      refine rh_call2 (vx_runV (As := []) (rest := []) ⟨hx, hb, hml, hown, hts⟩ (ct_X5_thrown l hDB  ) (cwV 0 hts gL_law_X5_thrown rfl rfl rfl (by decide +kernel) ⟨by decide, by decide⟩) (rh_preV2 hE hS (fun q h => h.1) hBB (hM.at 10 0 Nat.zero_lt_one) rfl hM) rfl rfl hl.1 rfl (lv_room (Nat.le_of_ble_eq_true rfl)) dL_law_1348 ⟨by show cells + 5 + 0 + 0 ≤ 626516; omega, by show slots + 40 + 0 + 0 ≤ 7216556; omega⟩) hS (fun q h => h.1) (fun E ce q9 H locs hX9 hz9 hk9 hS g1 g2 g3 => hX9.elim) (fun o H locs hN9 hz9 hk9 hS => ?_)
      have hW := hW.keptB hk9
      have hout := hout.kept (hk9 _ hout.lt (fun z => z.2.2 rfl))
      have hsz9 := hS.1
      obtain ⟨rfl, hM⟩ := hN9
      refine W.eq (g2 := F0 m 1351 ls [.int 1]) rfl ?_
      refine lv_iload hx hb dL_law_1351 (lv_at hl 1 rfl) ?_
      refine lv_icmp_eq (tgt := 1358) hx hb dL_law_1353 (by decide) (fun c4 => ?_) (fun c4 => absurd c4 (by decide))
      refine lv_iload hx hb dL_law_1358 (lv_at hl 1 rfl) ?_
      refine lv_if_ne (tgt := 1374) hx hb dL_law_1360 (by decide) (fun c5 => ?_) (fun c5 => absurd c5 (by decide))
      refine lv_goto (tgt := 1523) hx hb dL_law_1374 (by decide) ?_
      exact hK _ _ _ _ _ _ _ _ _ _ _ _ ⟨rfl, rfl, hW, hM, hout, hI, hD, hDm, hAo⟩ hS (lv_sub hl [2, 3, 4, 5, 6] rfl)
    · exfalso
      exact (hc9 ⟨hd0, hd1⟩).elim
  · rw [hnow] at hc9
    refine W.eq (g2 := F0 m 1321 ls [.int 2]) rfl ?_
    refine lv_istore (lv' := [(5, .int 2), (0, .ref b), (1, .ref (ad 0 0)), (2, .ref (adm 10 0)), (3, .ref oa), (4, .int (nI i))]) hx hb dL_law_1321 hl (by decide) rfl (fun ls hl => ?_)
    refine lv_aload_n hx hb dL_law_1323 rfl (lv_at hl 3 rfl) ?_
    refine lv_aload_n hx hb dL_law_1324 rfl (lv_at hl 1 rfl) ?_
    refine lv_iload hx hb dL_law_1325 (lv_at hl 5 rfl) ?_
    refine lv_iconst (v := 1) hx hb dL_law_1327 (by decide) ?_
    refine lv_iadd hx hb dL_law_1328 ?_
    refine l_sld hx hb hX hbl hbA hS hLm (i + 1) (by omega) (nI_add i 1) dL_law_1329 ?_
    refine lv_aload_n hx hb dL_law_1330 rfl (lv_at hl 1 rfl) ?_
    refine lv_iload hx hb dL_law_1331 (lv_at hl 5 rfl) ?_
    refine lv_iconst (v := 2) hx hb dL_law_1333 (by decide) ?_
    refine lv_iadd hx hb dL_law_1334 ?_
    refine l_sld hx hb hX hbl hbA hS hLm (i + 2) (by omega) (nI_add i 2) dL_law_1335 ?_
    refine lv_aload_n hx hb dL_law_1336 rfl (lv_at hl 1 rfl) ?_
    refine lv_iload hx hb dL_law_1337 (lv_at hl 5 rfl) ?_
    refine lv_iconst (v := 3) hx hb dL_law_1339 (by decide) ?_
    refine lv_iadd hx hb dL_law_1340 ?_
    refine l_sld hx hb hX hbl hbA hS hLm (i + 3) (by omega) (nI_add i 3) dL_law_1341 ?_
    have hDB := lB_D hD hDm
    have hBB := lB_up (ad := ad) (oa := oa) hA0 hsz9 hW hout
    refine rh_call2 (vx_runV (As := [.int (xs (i + 1)), .int (xs (i + 2)), .int (xs (i + 3))]) (rest := []) ⟨hx, hb, hml, hown, hts⟩ (ct_X5_owed l hDB hI.2.1 (xs (i + 1)) (xs (i + 2)) (xs (i + 3))) (cwV 3 hts gL_law_X5_owed rfl rfl rfl (by decide +kernel) ⟨by decide, by decide⟩) (rh_preV2 hE hS (fun q h => h.1) hBB (hM.at 10 0 Nat.zero_lt_one) rfl hM) rfl rfl hl.1 rfl (lv_room (Nat.le_of_ble_eq_true rfl)) dL_law_1342 ⟨by show cells + 5 + 0 ≤ 626516; omega, by show slots + 40 + 0 ≤ 7216556; omega⟩) hS (fun q h => h.1) (fun E ce q9 H locs hX9 hz9 hk9 hS g1 g2 g3 => hX9.elim) (fun o H locs hN9 hz9 hk9 hS => ?_)
    have hW := hW.keptB hk9
    have hout := hout.kept (hk9 _ hout.lt (fun z => z.2.2 rfl))
    have hsz9 := hS.1
    rcases hN9 with ⟨h8, k8, hd0, hd1, hd2, hd3, hd4, hd5, rfl, hM⟩ | ⟨hd0, ⟨z8, rfl⟩, hM⟩ | ⟨hd0, hd1, hd2, ⟨z8, rfl⟩, hM⟩
    · exfalso
      exact (hc9.2.2.elim (fun z => hd2 (m_inj (by omega) (by omega) (hd3.symm.trans (z.trans hd4)))) (fun z => z hd5)).elim
    · exfalso
      exact (hd0 ⟨hc9.1, hc9.2.1⟩).elim
    · skip
      refine W.eq (g2 := F0 m 1345 ls [.long z8]) rfl ?_
      refine lv_lstore (lv' := [(6, .long z8), (5, .int 2), (0, .ref b), (1, .ref (ad 0 0)), (2, .ref (adm 10 0)), (3, .ref oa), (4, .int (nI i))]) hx hb dL_law_1345 hl (by decide) rfl (fun ls hl => ?_)
      refine lv_aload_n hx hb dL_law_1347 rfl (lv_at hl 4 rfl) ?_
      have hDB := lB_D hD hDm
      have hBB := lB_up (ad := ad) (oa := oa) hA0 hsz9 hW hout
      refine rh_call2 (vx_runV (As := []) (rest := []) ⟨hx, hb, hml, hown, hts⟩ (ct_X5_thrown l hDB  ) (cwV 0 hts gL_law_X5_thrown rfl rfl rfl (by decide +kernel) ⟨by decide, by decide⟩) (rh_preV2 hE hS (fun q h => h.1) hBB (hM.at 10 0 Nat.zero_lt_one) rfl hM) rfl rfl hl.1 rfl (lv_room (Nat.le_of_ble_eq_true rfl)) dL_law_1348 ⟨by show cells + 5 + 0 + 0 ≤ 626516; omega, by show slots + 40 + 0 + 0 ≤ 7216556; omega⟩) hS (fun q h => h.1) (fun E ce q9 H locs hX9 hz9 hk9 hS g1 g2 g3 => hX9.elim) (fun o H locs hN9 hz9 hk9 hS => ?_)
      have hW := hW.keptB hk9
      have hout := hout.kept (hk9 _ hout.lt (fun z => z.2.2 rfl))
      have hsz9 := hS.1
      obtain ⟨rfl, hM⟩ := hN9
      refine W.eq (g2 := F0 m 1351 ls [.int 2]) rfl ?_
      refine lv_iload hx hb dL_law_1351 (lv_at hl 1 rfl) ?_
      refine lv_icmp_eq (tgt := 1358) hx hb dL_law_1353 (by decide) (fun c6 => ?_) (fun c6 => absurd c6 (by decide))
      refine lv_iload hx hb dL_law_1358 (lv_at hl 1 rfl) ?_
      refine lv_if_ne (tgt := 1374) hx hb dL_law_1360 (by decide) (fun c7 => ?_) (fun c7 => absurd c7 (by decide))
      refine lv_goto (tgt := 1523) hx hb dL_law_1374 (by decide) ?_
      exact hK _ _ _ _ _ _ _ _ _ _ _ _ ⟨rfl, rfl, hW, hM, hout, hI, hD, hDm, hAo⟩ hS (lv_sub hl [2, 3, 4, 5, 6] rfl)
set_option maxHeartbeats 8000000 in
set_option maxRecDepth 100000 in
theorem op_shortfall {p : Program} {l : Launch} {e : Env} {s : State} {m : MethodId} {below : List Frame} {meth : Method} {c : Code} {G : va_G} {ca : Nat → ClassId} {A0 : Nat → Prop} {b L : Nat} {xs : Nat → Int32} {h9 hm oa i : Nat} {cells slots : Nat} {Q : State → Prop} {ad adm : Nat → Nat → Nat} {nf nc : Nat} {r : rh_R} {v : rh_V} {w : rh_Wm} {th : Int32} {f : Nat → Int64} {H : Heap} {locs : List Loc} {ls : Array Slot} (C : lwC p l s m c G ca A0 b L xs) (hLS : lwS G ca A0 h9 hm oa ad adm nf nc r v w th f H) (hS : va_S A0 s.heap H locs) (hl : lv_has ls 8 [(0, .ref b), (1, .ref h9), (2, .ref hm), (3, .ref oa), (4, .int (nI i))]) (hi : i + 5 < L) (hcl : cells + 5 ≤ 626516) (hsl : slots + 40 ≤ 7216556) (hK : lwK p l e s m below meth c G ca A0 b h9 hm oa i cells slots Q) : W p l e room_1 s m #[Value.ref b] below meth c H locs cells slots Q (F0 m 1377 ls []) := by
  obtain ⟨hx, hb, hml, hown, hts, hE, hnc9, hlf, hA0, hbA, hbl, hX, hLm⟩ := C
  obtain ⟨rfl, rfl, hW, hM, hout, hI, hD, hDm, hAo⟩ := hLS
  have hnf9 := hI.1.1
  have hnn9 := hI.1.2.1
  have hnow := l_now hI
  have hsz9 := hS.1
  have hl : lv_has ls 8 [(0, .ref b), (1, .ref (ad 0 0)), (2, .ref (adm 10 0)), (3, .ref oa), (4, .int (nI i))] := hl
  refine lv_aload_n hx hb dL_law_1377 rfl (lv_at hl 1 rfl) ?_
  refine lv_aload_n hx hb dL_law_1378 rfl (lv_at hl 0 rfl) ?_
  refine lv_iload hx hb dL_law_1379 (lv_at hl 4 rfl) ?_
  refine lv_iconst (v := 1) hx hb dL_law_1381 (by decide) ?_
  refine lv_iadd hx hb dL_law_1382 ?_
  refine l_sld hx hb hX hbl hbA hS hLm (i + 1) (by omega) (nI_add i 1) dL_law_1383 ?_
  refine lv_aload_n hx hb dL_law_1384 rfl (lv_at hl 0 rfl) ?_
  refine lv_iload hx hb dL_law_1385 (lv_at hl 4 rfl) ?_
  refine lv_iconst (v := 2) hx hb dL_law_1387 (by decide) ?_
  refine lv_iadd hx hb dL_law_1388 ?_
  refine l_sld hx hb hX hbl hbA hS hLm (i + 2) (by omega) (nI_add i 2) dL_law_1389 ?_
  refine lv_aload_n hx hb dL_law_1390 rfl (lv_at hl 0 rfl) ?_
  refine lv_iload hx hb dL_law_1391 (lv_at hl 4 rfl) ?_
  refine lv_iconst (v := 3) hx hb dL_law_1393 (by decide) ?_
  refine lv_iadd hx hb dL_law_1394 ?_
  refine l_sld hx hb hX hbl hbA hS hLm (i + 3) (by omega) (nI_add i 3) dL_law_1395 ?_
  refine lv_aload_n hx hb dL_law_1396 rfl (lv_at hl 3 rfl) ?_
  have hAA := lA_up (adm := adm) hA0 hsz9 hM
  refine rh_call2 (vx_runSX (As := [.ref (ad 0 0), .int (xs (i + 1)), .int (xs (i + 2)), .int (xs (i + 3)), .ref oa]) (rest := []) ⟨hx, hb, hml, hown, hts⟩ (hl_shortfall l hlf (l_Ao hM hout hDm hAo) hD hI.1 (xs (i + 1)) (xs (i + 2)) (xs (i + 3))) (vx_cwSW 5 hts gL_law_L_shortfall rfl rfl rfl (by decide +kernel) ⟨by decide, by decide⟩) (rh_prel hE hnc9 hS (fun q h => h.1) hAA ⟨hW, hout⟩) rfl rfl hl.1 rfl (lv_room (Nat.le_of_ble_eq_true rfl)) dL_law_1397 ⟨by show cells + 5 ≤ 626516; omega, by show slots + 40 ≤ 7216556; omega⟩) hS (fun q h => h.1) (fun E ce q9 H locs hX9 hz9 hk9 hS g1 g2 g3 => hX9.elim) (fun o H locs hN9 hz9 hk9 hS => ?_)
  have hM := hM.keptA hk9
  have hsz9 := hS.1
  rcases hN9 with ⟨h9, k9, hc0, hc1, hc2, hc3, hc4, hc5, hc6, rfl, ⟨f8, hf8, hout⟩, hW⟩ | ⟨hc9, rfl, ⟨f8, hout⟩, hW⟩ | ⟨hc9, rfl, ⟨f8, hout⟩, hW⟩ | ⟨hc9, rfl, ⟨f8, hout⟩, hW⟩
  · refine W.eq (g2 := F0 m 1400 ls [.int 0]) rfl ?_
    refine lv_istore (lv' := [(5, .int 0), (0, .ref b), (1, .ref (ad 0 0)), (2, .ref (adm 10 0)), (3, .ref oa), (4, .int (nI i))]) hx hb dL_law_1400 hl (by decide) rfl (fun ls hl => ?_)
    refine lv_aload_n hx hb dL_law_1402 rfl (lv_at hl 3 rfl) ?_
    refine lv_aload_n hx hb dL_law_1403 rfl (lv_at hl 1 rfl) ?_
    refine lv_iload hx hb dL_law_1404 (lv_at hl 5 rfl) ?_
    refine lv_iconst (v := 1) hx hb dL_law_1406 (by decide) ?_
    refine lv_iadd hx hb dL_law_1407 ?_
    refine l_sld hx hb hX hbl hbA hS hLm (i + 1) (by omega) (nI_add i 1) dL_law_1408 ?_
    refine lv_aload_n hx hb dL_law_1409 rfl (lv_at hl 1 rfl) ?_
    refine lv_iload hx hb dL_law_1410 (lv_at hl 5 rfl) ?_
    refine lv_iconst (v := 2) hx hb dL_law_1412 (by decide) ?_
    refine lv_iadd hx hb dL_law_1413 ?_
    refine l_sld hx hb hX hbl hbA hS hLm (i + 2) (by omega) (nI_add i 2) dL_law_1414 ?_
    refine lv_aload_n hx hb dL_law_1415 rfl (lv_at hl 1 rfl) ?_
    refine lv_iload hx hb dL_law_1416 (lv_at hl 5 rfl) ?_
    refine lv_iconst (v := 3) hx hb dL_law_1418 (by decide) ?_
    refine lv_iadd hx hb dL_law_1419 ?_
    refine l_sld hx hb hX hbl hbA hS hLm (i + 3) (by omega) (nI_add i 3) dL_law_1420 ?_
    have hDB := lB_D hD hDm
    have hBB := lB_up (ad := ad) (oa := oa) hA0 hsz9 hW hout
    refine rh_call2 (vx_runV (As := [.int (xs (i + 1)), .int (xs (i + 2)), .int (xs (i + 3))]) (rest := []) ⟨hx, hb, hml, hown, hts⟩ (ct_X5_shortfall l hDB hI.2.1 (xs (i + 1)) (xs (i + 2)) (xs (i + 3))) (cwV 3 hts gL_law_X5_shortfall rfl rfl rfl (by decide +kernel) ⟨by decide, by decide⟩) (rh_preV2 hE hS (fun q h => h.1) hBB (hM.at 10 0 Nat.zero_lt_one) rfl hM) rfl rfl hl.1 rfl (lv_room (Nat.le_of_ble_eq_true rfl)) dL_law_1421 ⟨by show cells + 5 + 0 ≤ 626516; omega, by show slots + 40 + 0 ≤ 7216556; omega⟩) hS (fun q h => h.1) (fun E ce q9 H locs hX9 hz9 hk9 hS g1 g2 g3 => hX9.elim) (fun o H locs hN9 hz9 hk9 hS => ?_)
    have hW := hW.keptB hk9
    have hout := hout.kept (hk9 _ hout.lt (fun z => z.2.2 rfl))
    have hsz9 := hS.1
    rcases hN9 with ⟨h8, k8, hd0, hd1, hd2, hd3, hd4, hd5, hd6, rfl, hM⟩ | ⟨hd0, ⟨z8, rfl⟩, hM⟩ | ⟨hd0, hd1, hd2, ⟨z8, rfl⟩, hM⟩ | ⟨h8, k8, hd0, hd1, hd2, hd3, hd4, hd5, hd6, ⟨z8, rfl⟩, hM⟩
    · obtain rfl : h9 = h8 := m_inj (by omega) (by omega) (hc3.symm.trans hd3)
      obtain rfl : k9 = k8 := m_inj (by omega) (by omega) (hc4.symm.trans hd4)
      refine W.eq (g2 := F0 m 1424 ls [.long (if ((w 23 (h9 * 4 + k9)).toInt64 - m_sum r w (h9 * 4 + k9) (12 * (xs (i + 3))) (12 * (xs (i + 3)) + 11) nc) ≤ 0 then 0 else ((w 23 (h9 * 4 + k9)).toInt64 - m_sum r w (h9 * 4 + k9) (12 * (xs (i + 3))) (12 * (xs (i + 3)) + 11) nc))]) rfl ?_
      refine lv_lstore (lv' := [(6, .long (if ((w 23 (h9 * 4 + k9)).toInt64 - m_sum r w (h9 * 4 + k9) (12 * (xs (i + 3))) (12 * (xs (i + 3)) + 11) nc) ≤ 0 then 0 else ((w 23 (h9 * 4 + k9)).toInt64 - m_sum r w (h9 * 4 + k9) (12 * (xs (i + 3))) (12 * (xs (i + 3)) + 11) nc))), (5, .int 0), (0, .ref b), (1, .ref (ad 0 0)), (2, .ref (adm 10 0)), (3, .ref oa), (4, .int (nI i))]) hx hb dL_law_1424 hl (by decide) rfl (fun ls hl => ?_)
      refine lv_aload_n hx hb dL_law_1426 rfl (lv_at hl 4 rfl) ?_
      have hDB := lB_D hD hDm
      have hBB := lB_up (ad := ad) (oa := oa) hA0 hsz9 hW hout
      refine rh_call2 (vx_runV (As := []) (rest := []) ⟨hx, hb, hml, hown, hts⟩ (ct_X5_thrown l hDB  ) (cwV 0 hts gL_law_X5_thrown rfl rfl rfl (by decide +kernel) ⟨by decide, by decide⟩) (rh_preV2 hE hS (fun q h => h.1) hBB (hM.at 10 0 Nat.zero_lt_one) rfl hM) rfl rfl hl.1 rfl (lv_room (Nat.le_of_ble_eq_true rfl)) dL_law_1427 ⟨by show cells + 5 + 0 + 0 ≤ 626516; omega, by show slots + 40 + 0 + 0 ≤ 7216556; omega⟩) hS (fun q h => h.1) (fun E ce q9 H locs hX9 hz9 hk9 hS g1 g2 g3 => hX9.elim) (fun o H locs hN9 hz9 hk9 hS => ?_)
      have hW := hW.keptB hk9
      have hout := hout.kept (hk9 _ hout.lt (fun z => z.2.2 rfl))
      have hsz9 := hS.1
      obtain ⟨rfl, hM⟩ := hN9
      refine W.eq (g2 := F0 m 1430 ls [.int 0]) rfl ?_
      refine lv_iload hx hb dL_law_1430 (lv_at hl 1 rfl) ?_
      refine lv_icmp_eq (tgt := 1437) hx hb dL_law_1432 (by decide) (fun c1 => ?_) (fun c1 => absurd c1 (by decide))
      refine lv_iload hx hb dL_law_1437 (lv_at hl 1 rfl) ?_
      refine lv_if_ne (tgt := 1453) hx hb dL_law_1439 (by decide) (fun c2 => absurd c2 (by decide)) (fun c2 => ?_)
      refine lv_aload_n hx hb dL_law_1442 rfl (lv_at hl 5 rfl) ?_
      refine lv_iconst (v := 0) hx hb dL_law_1443 (by decide) ?_
      refine rh_lald (n := 1) (f := f8) hx hb hE hout 0 (by decide) (by decide) rfl dL_law_1444 ?_
      have hval : f8 0 = (if ((w 23 (h9 * 4 + k9)).toInt64 - m_sum r w (h9 * 4 + k9) (12 * (xs (i + 3))) (12 * (xs (i + 3)) + 11) nc) ≤ 0 then 0 else ((w 23 (h9 * 4 + k9)).toInt64 - m_sum r w (h9 * 4 + k9) (12 * (xs (i + 3))) (12 * (xs (i + 3)) + 11) nc)) := by rw [hf8, l_short hI (m_4pq hc0 hc1).2 hc5]
      refine lv_lload hx hb dL_law_1445 (lv_at hl 0 rfl) ?_
      refine W.lcmp hx hb dL_law_1447 ?_
      refine lv_if_eq (tgt := 1453) hx hb dL_law_1448 (by decide) (fun c3 => ?_) (fun c3 => (c3 ((lg_cmp_eq _ _).mpr hval)).elim)
      · refine lv_goto (tgt := 1523) hx hb dL_law_1453 (by decide) ?_
        exact hK _ _ _ _ _ _ _ _ _ _ _ _ ⟨rfl, rfl, hW, hM, hout, hI, hD, hDm, hAo⟩ hS (lv_sub hl [2, 3, 4, 5, 6] rfl)
    · exfalso
      exact (hd0 ⟨l_ix (by omega) hc0 hc3, l_ix (by omega) hc1 hc4⟩).elim
    · exfalso
      exact (hd2.elim (fun z => hc2 (m_inj (by omega) (by omega) (hc3.symm.trans (z.trans hc4)))) (fun z => z hc5)).elim
    · exfalso
      exact absurd hd6 ((l_year hI hc5).mp hc6)
  · refine W.eq (g2 := F0 m 1400 ls [.int 1]) rfl ?_
    refine lv_istore (lv' := [(5, .int 1), (0, .ref b), (1, .ref (ad 0 0)), (2, .ref (adm 10 0)), (3, .ref oa), (4, .int (nI i))]) hx hb dL_law_1400 hl (by decide) rfl (fun ls hl => ?_)
    refine lv_aload_n hx hb dL_law_1402 rfl (lv_at hl 3 rfl) ?_
    refine lv_aload_n hx hb dL_law_1403 rfl (lv_at hl 1 rfl) ?_
    refine lv_iload hx hb dL_law_1404 (lv_at hl 5 rfl) ?_
    refine lv_iconst (v := 1) hx hb dL_law_1406 (by decide) ?_
    refine lv_iadd hx hb dL_law_1407 ?_
    refine l_sld hx hb hX hbl hbA hS hLm (i + 1) (by omega) (nI_add i 1) dL_law_1408 ?_
    refine lv_aload_n hx hb dL_law_1409 rfl (lv_at hl 1 rfl) ?_
    refine lv_iload hx hb dL_law_1410 (lv_at hl 5 rfl) ?_
    refine lv_iconst (v := 2) hx hb dL_law_1412 (by decide) ?_
    refine lv_iadd hx hb dL_law_1413 ?_
    refine l_sld hx hb hX hbl hbA hS hLm (i + 2) (by omega) (nI_add i 2) dL_law_1414 ?_
    refine lv_aload_n hx hb dL_law_1415 rfl (lv_at hl 1 rfl) ?_
    refine lv_iload hx hb dL_law_1416 (lv_at hl 5 rfl) ?_
    refine lv_iconst (v := 3) hx hb dL_law_1418 (by decide) ?_
    refine lv_iadd hx hb dL_law_1419 ?_
    refine l_sld hx hb hX hbl hbA hS hLm (i + 3) (by omega) (nI_add i 3) dL_law_1420 ?_
    have hDB := lB_D hD hDm
    have hBB := lB_up (ad := ad) (oa := oa) hA0 hsz9 hW hout
    refine rh_call2 (vx_runV (As := [.int (xs (i + 1)), .int (xs (i + 2)), .int (xs (i + 3))]) (rest := []) ⟨hx, hb, hml, hown, hts⟩ (ct_X5_shortfall l hDB hI.2.1 (xs (i + 1)) (xs (i + 2)) (xs (i + 3))) (cwV 3 hts gL_law_X5_shortfall rfl rfl rfl (by decide +kernel) ⟨by decide, by decide⟩) (rh_preV2 hE hS (fun q h => h.1) hBB (hM.at 10 0 Nat.zero_lt_one) rfl hM) rfl rfl hl.1 rfl (lv_room (Nat.le_of_ble_eq_true rfl)) dL_law_1421 ⟨by show cells + 5 + 0 ≤ 626516; omega, by show slots + 40 + 0 ≤ 7216556; omega⟩) hS (fun q h => h.1) (fun E ce q9 H locs hX9 hz9 hk9 hS g1 g2 g3 => hX9.elim) (fun o H locs hN9 hz9 hk9 hS => ?_)
    have hW := hW.keptB hk9
    have hout := hout.kept (hk9 _ hout.lt (fun z => z.2.2 rfl))
    have hsz9 := hS.1
    rcases hN9 with ⟨h8, k8, hd0, hd1, hd2, hd3, hd4, hd5, hd6, rfl, hM⟩ | ⟨hd0, ⟨z8, rfl⟩, hM⟩ | ⟨hd0, hd1, hd2, ⟨z8, rfl⟩, hM⟩ | ⟨h8, k8, hd0, hd1, hd2, hd3, hd4, hd5, hd6, ⟨z8, rfl⟩, hM⟩
    · exfalso
      exact (hc9 ⟨l_ix (by omega) hd0 hd3, l_ix (by omega) hd1 hd4⟩).elim
    · skip
      refine W.eq (g2 := F0 m 1424 ls [.long z8]) rfl ?_
      refine lv_lstore (lv' := [(6, .long z8), (5, .int 1), (0, .ref b), (1, .ref (ad 0 0)), (2, .ref (adm 10 0)), (3, .ref oa), (4, .int (nI i))]) hx hb dL_law_1424 hl (by decide) rfl (fun ls hl => ?_)
      refine lv_aload_n hx hb dL_law_1426 rfl (lv_at hl 4 rfl) ?_
      have hDB := lB_D hD hDm
      have hBB := lB_up (ad := ad) (oa := oa) hA0 hsz9 hW hout
      refine rh_call2 (vx_runV (As := []) (rest := []) ⟨hx, hb, hml, hown, hts⟩ (ct_X5_thrown l hDB  ) (cwV 0 hts gL_law_X5_thrown rfl rfl rfl (by decide +kernel) ⟨by decide, by decide⟩) (rh_preV2 hE hS (fun q h => h.1) hBB (hM.at 10 0 Nat.zero_lt_one) rfl hM) rfl rfl hl.1 rfl (lv_room (Nat.le_of_ble_eq_true rfl)) dL_law_1427 ⟨by show cells + 5 + 0 + 0 ≤ 626516; omega, by show slots + 40 + 0 + 0 ≤ 7216556; omega⟩) hS (fun q h => h.1) (fun E ce q9 H locs hX9 hz9 hk9 hS g1 g2 g3 => hX9.elim) (fun o H locs hN9 hz9 hk9 hS => ?_)
      have hW := hW.keptB hk9
      have hout := hout.kept (hk9 _ hout.lt (fun z => z.2.2 rfl))
      have hsz9 := hS.1
      obtain ⟨rfl, hM⟩ := hN9
      refine W.eq (g2 := F0 m 1430 ls [.int 1]) rfl ?_
      refine lv_iload hx hb dL_law_1430 (lv_at hl 1 rfl) ?_
      refine lv_icmp_eq (tgt := 1437) hx hb dL_law_1432 (by decide) (fun c4 => ?_) (fun c4 => absurd c4 (by decide))
      refine lv_iload hx hb dL_law_1437 (lv_at hl 1 rfl) ?_
      refine lv_if_ne (tgt := 1453) hx hb dL_law_1439 (by decide) (fun c5 => ?_) (fun c5 => absurd c5 (by decide))
      refine lv_goto (tgt := 1523) hx hb dL_law_1453 (by decide) ?_
      exact hK _ _ _ _ _ _ _ _ _ _ _ _ ⟨rfl, rfl, hW, hM, hout, hI, hD, hDm, hAo⟩ hS (lv_sub hl [2, 3, 4, 5, 6] rfl)
    · exfalso
      exact (hc9 ⟨hd0, hd1⟩).elim
    · exfalso
      exact (hc9 ⟨l_ix (by omega) hd0 hd3, l_ix (by omega) hd1 hd4⟩).elim
  · refine W.eq (g2 := F0 m 1400 ls [.int 2]) rfl ?_
    refine lv_istore (lv' := [(5, .int 2), (0, .ref b), (1, .ref (ad 0 0)), (2, .ref (adm 10 0)), (3, .ref oa), (4, .int (nI i))]) hx hb dL_law_1400 hl (by decide) rfl (fun ls hl => ?_)
    refine lv_aload_n hx hb dL_law_1402 rfl (lv_at hl 3 rfl) ?_
    refine lv_aload_n hx hb dL_law_1403 rfl (lv_at hl 1 rfl) ?_
    refine lv_iload hx hb dL_law_1404 (lv_at hl 5 rfl) ?_
    refine lv_iconst (v := 1) hx hb dL_law_1406 (by decide) ?_
    refine lv_iadd hx hb dL_law_1407 ?_
    refine l_sld hx hb hX hbl hbA hS hLm (i + 1) (by omega) (nI_add i 1) dL_law_1408 ?_
    refine lv_aload_n hx hb dL_law_1409 rfl (lv_at hl 1 rfl) ?_
    refine lv_iload hx hb dL_law_1410 (lv_at hl 5 rfl) ?_
    refine lv_iconst (v := 2) hx hb dL_law_1412 (by decide) ?_
    refine lv_iadd hx hb dL_law_1413 ?_
    refine l_sld hx hb hX hbl hbA hS hLm (i + 2) (by omega) (nI_add i 2) dL_law_1414 ?_
    refine lv_aload_n hx hb dL_law_1415 rfl (lv_at hl 1 rfl) ?_
    refine lv_iload hx hb dL_law_1416 (lv_at hl 5 rfl) ?_
    refine lv_iconst (v := 3) hx hb dL_law_1418 (by decide) ?_
    refine lv_iadd hx hb dL_law_1419 ?_
    refine l_sld hx hb hX hbl hbA hS hLm (i + 3) (by omega) (nI_add i 3) dL_law_1420 ?_
    have hDB := lB_D hD hDm
    have hBB := lB_up (ad := ad) (oa := oa) hA0 hsz9 hW hout
    refine rh_call2 (vx_runV (As := [.int (xs (i + 1)), .int (xs (i + 2)), .int (xs (i + 3))]) (rest := []) ⟨hx, hb, hml, hown, hts⟩ (ct_X5_shortfall l hDB hI.2.1 (xs (i + 1)) (xs (i + 2)) (xs (i + 3))) (cwV 3 hts gL_law_X5_shortfall rfl rfl rfl (by decide +kernel) ⟨by decide, by decide⟩) (rh_preV2 hE hS (fun q h => h.1) hBB (hM.at 10 0 Nat.zero_lt_one) rfl hM) rfl rfl hl.1 rfl (lv_room (Nat.le_of_ble_eq_true rfl)) dL_law_1421 ⟨by show cells + 5 + 0 ≤ 626516; omega, by show slots + 40 + 0 ≤ 7216556; omega⟩) hS (fun q h => h.1) (fun E ce q9 H locs hX9 hz9 hk9 hS g1 g2 g3 => hX9.elim) (fun o H locs hN9 hz9 hk9 hS => ?_)
    have hW := hW.keptB hk9
    have hout := hout.kept (hk9 _ hout.lt (fun z => z.2.2 rfl))
    have hsz9 := hS.1
    rcases hN9 with ⟨h8, k8, hd0, hd1, hd2, hd3, hd4, hd5, hd6, rfl, hM⟩ | ⟨hd0, ⟨z8, rfl⟩, hM⟩ | ⟨hd0, hd1, hd2, ⟨z8, rfl⟩, hM⟩ | ⟨h8, k8, hd0, hd1, hd2, hd3, hd4, hd5, hd6, ⟨z8, rfl⟩, hM⟩
    · exfalso
      exact (hc9.2.2.elim (fun z => hd2 (m_inj (by omega) (by omega) (hd3.symm.trans (z.trans hd4)))) (fun z => z hd5)).elim
    · exfalso
      exact (hd0 ⟨hc9.1, hc9.2.1⟩).elim
    · skip
      refine W.eq (g2 := F0 m 1424 ls [.long z8]) rfl ?_
      refine lv_lstore (lv' := [(6, .long z8), (5, .int 2), (0, .ref b), (1, .ref (ad 0 0)), (2, .ref (adm 10 0)), (3, .ref oa), (4, .int (nI i))]) hx hb dL_law_1424 hl (by decide) rfl (fun ls hl => ?_)
      refine lv_aload_n hx hb dL_law_1426 rfl (lv_at hl 4 rfl) ?_
      have hDB := lB_D hD hDm
      have hBB := lB_up (ad := ad) (oa := oa) hA0 hsz9 hW hout
      refine rh_call2 (vx_runV (As := []) (rest := []) ⟨hx, hb, hml, hown, hts⟩ (ct_X5_thrown l hDB  ) (cwV 0 hts gL_law_X5_thrown rfl rfl rfl (by decide +kernel) ⟨by decide, by decide⟩) (rh_preV2 hE hS (fun q h => h.1) hBB (hM.at 10 0 Nat.zero_lt_one) rfl hM) rfl rfl hl.1 rfl (lv_room (Nat.le_of_ble_eq_true rfl)) dL_law_1427 ⟨by show cells + 5 + 0 + 0 ≤ 626516; omega, by show slots + 40 + 0 + 0 ≤ 7216556; omega⟩) hS (fun q h => h.1) (fun E ce q9 H locs hX9 hz9 hk9 hS g1 g2 g3 => hX9.elim) (fun o H locs hN9 hz9 hk9 hS => ?_)
      have hW := hW.keptB hk9
      have hout := hout.kept (hk9 _ hout.lt (fun z => z.2.2 rfl))
      have hsz9 := hS.1
      obtain ⟨rfl, hM⟩ := hN9
      refine W.eq (g2 := F0 m 1430 ls [.int 2]) rfl ?_
      refine lv_iload hx hb dL_law_1430 (lv_at hl 1 rfl) ?_
      refine lv_icmp_eq (tgt := 1437) hx hb dL_law_1432 (by decide) (fun c6 => ?_) (fun c6 => absurd c6 (by decide))
      refine lv_iload hx hb dL_law_1437 (lv_at hl 1 rfl) ?_
      refine lv_if_ne (tgt := 1453) hx hb dL_law_1439 (by decide) (fun c7 => ?_) (fun c7 => absurd c7 (by decide))
      refine lv_goto (tgt := 1523) hx hb dL_law_1453 (by decide) ?_
      exact hK _ _ _ _ _ _ _ _ _ _ _ _ ⟨rfl, rfl, hW, hM, hout, hI, hD, hDm, hAo⟩ hS (lv_sub hl [2, 3, 4, 5, 6] rfl)
    · exfalso
      exact (hc9.2.2.elim (fun z => hd2 (m_inj (by omega) (by omega) (hd3.symm.trans (z.trans hd4)))) (fun z => z hd5)).elim
  · refine W.eq (g2 := F0 m 1400 ls [.int 3]) rfl ?_
    refine lv_istore (lv' := [(5, .int 3), (0, .ref b), (1, .ref (ad 0 0)), (2, .ref (adm 10 0)), (3, .ref oa), (4, .int (nI i))]) hx hb dL_law_1400 hl (by decide) rfl (fun ls hl => ?_)
    refine lv_aload_n hx hb dL_law_1402 rfl (lv_at hl 3 rfl) ?_
    refine lv_aload_n hx hb dL_law_1403 rfl (lv_at hl 1 rfl) ?_
    refine lv_iload hx hb dL_law_1404 (lv_at hl 5 rfl) ?_
    refine lv_iconst (v := 1) hx hb dL_law_1406 (by decide) ?_
    refine lv_iadd hx hb dL_law_1407 ?_
    refine l_sld hx hb hX hbl hbA hS hLm (i + 1) (by omega) (nI_add i 1) dL_law_1408 ?_
    refine lv_aload_n hx hb dL_law_1409 rfl (lv_at hl 1 rfl) ?_
    refine lv_iload hx hb dL_law_1410 (lv_at hl 5 rfl) ?_
    refine lv_iconst (v := 2) hx hb dL_law_1412 (by decide) ?_
    refine lv_iadd hx hb dL_law_1413 ?_
    refine l_sld hx hb hX hbl hbA hS hLm (i + 2) (by omega) (nI_add i 2) dL_law_1414 ?_
    refine lv_aload_n hx hb dL_law_1415 rfl (lv_at hl 1 rfl) ?_
    refine lv_iload hx hb dL_law_1416 (lv_at hl 5 rfl) ?_
    refine lv_iconst (v := 3) hx hb dL_law_1418 (by decide) ?_
    refine lv_iadd hx hb dL_law_1419 ?_
    refine l_sld hx hb hX hbl hbA hS hLm (i + 3) (by omega) (nI_add i 3) dL_law_1420 ?_
    have hDB := lB_D hD hDm
    have hBB := lB_up (ad := ad) (oa := oa) hA0 hsz9 hW hout
    refine rh_call2 (vx_runV (As := [.int (xs (i + 1)), .int (xs (i + 2)), .int (xs (i + 3))]) (rest := []) ⟨hx, hb, hml, hown, hts⟩ (ct_X5_shortfall l hDB hI.2.1 (xs (i + 1)) (xs (i + 2)) (xs (i + 3))) (cwV 3 hts gL_law_X5_shortfall rfl rfl rfl (by decide +kernel) ⟨by decide, by decide⟩) (rh_preV2 hE hS (fun q h => h.1) hBB (hM.at 10 0 Nat.zero_lt_one) rfl hM) rfl rfl hl.1 rfl (lv_room (Nat.le_of_ble_eq_true rfl)) dL_law_1421 ⟨by show cells + 5 + 0 ≤ 626516; omega, by show slots + 40 + 0 ≤ 7216556; omega⟩) hS (fun q h => h.1) (fun E ce q9 H locs hX9 hz9 hk9 hS g1 g2 g3 => hX9.elim) (fun o H locs hN9 hz9 hk9 hS => ?_)
    have hW := hW.keptB hk9
    have hout := hout.kept (hk9 _ hout.lt (fun z => z.2.2 rfl))
    have hsz9 := hS.1
    rcases hN9 with ⟨h8, k8, hd0, hd1, hd2, hd3, hd4, hd5, hd6, rfl, hM⟩ | ⟨hd0, ⟨z8, rfl⟩, hM⟩ | ⟨hd0, hd1, hd2, ⟨z8, rfl⟩, hM⟩ | ⟨h8, k8, hd0, hd1, hd2, hd3, hd4, hd5, hd6, ⟨z8, rfl⟩, hM⟩
    · exfalso
      exact absurd ((l_year hI hd5).mpr hd6) hc9.2.2.2.2
    · exfalso
      exact (hd0 ⟨hc9.1, hc9.2.1⟩).elim
    · exfalso
      exact (hd2.elim hc9.2.2.1 (fun z => z hc9.2.2.2.1)).elim
    · skip
      refine W.eq (g2 := F0 m 1424 ls [.long z8]) rfl ?_
      refine lv_lstore (lv' := [(6, .long z8), (5, .int 3), (0, .ref b), (1, .ref (ad 0 0)), (2, .ref (adm 10 0)), (3, .ref oa), (4, .int (nI i))]) hx hb dL_law_1424 hl (by decide) rfl (fun ls hl => ?_)
      refine lv_aload_n hx hb dL_law_1426 rfl (lv_at hl 4 rfl) ?_
      have hDB := lB_D hD hDm
      have hBB := lB_up (ad := ad) (oa := oa) hA0 hsz9 hW hout
      refine rh_call2 (vx_runV (As := []) (rest := []) ⟨hx, hb, hml, hown, hts⟩ (ct_X5_thrown l hDB  ) (cwV 0 hts gL_law_X5_thrown rfl rfl rfl (by decide +kernel) ⟨by decide, by decide⟩) (rh_preV2 hE hS (fun q h => h.1) hBB (hM.at 10 0 Nat.zero_lt_one) rfl hM) rfl rfl hl.1 rfl (lv_room (Nat.le_of_ble_eq_true rfl)) dL_law_1427 ⟨by show cells + 5 + 0 + 0 ≤ 626516; omega, by show slots + 40 + 0 + 0 ≤ 7216556; omega⟩) hS (fun q h => h.1) (fun E ce q9 H locs hX9 hz9 hk9 hS g1 g2 g3 => hX9.elim) (fun o H locs hN9 hz9 hk9 hS => ?_)
      have hW := hW.keptB hk9
      have hout := hout.kept (hk9 _ hout.lt (fun z => z.2.2 rfl))
      have hsz9 := hS.1
      obtain ⟨rfl, hM⟩ := hN9
      refine W.eq (g2 := F0 m 1430 ls [.int 3]) rfl ?_
      refine lv_iload hx hb dL_law_1430 (lv_at hl 1 rfl) ?_
      refine lv_icmp_eq (tgt := 1437) hx hb dL_law_1432 (by decide) (fun c8 => ?_) (fun c8 => absurd c8 (by decide))
      refine lv_iload hx hb dL_law_1437 (lv_at hl 1 rfl) ?_
      refine lv_if_ne (tgt := 1453) hx hb dL_law_1439 (by decide) (fun c9 => ?_) (fun c9 => absurd c9 (by decide))
      refine lv_goto (tgt := 1523) hx hb dL_law_1453 (by decide) ?_
      exact hK _ _ _ _ _ _ _ _ _ _ _ _ ⟨rfl, rfl, hW, hM, hout, hI, hD, hDm, hAo⟩ hS (lv_sub hl [2, 3, 4, 5, 6] rfl)
set_option maxHeartbeats 8000000 in
set_option maxRecDepth 100000 in
theorem op_net {p : Program} {l : Launch} {e : Env} {s : State} {m : MethodId} {below : List Frame} {meth : Method} {c : Code} {G : va_G} {ca : Nat → ClassId} {A0 : Nat → Prop} {b L : Nat} {xs : Nat → Int32} {h9 hm oa i : Nat} {cells slots : Nat} {Q : State → Prop} {ad adm : Nat → Nat → Nat} {nf nc : Nat} {r : rh_R} {v : rh_V} {w : rh_Wm} {th : Int32} {f : Nat → Int64} {H : Heap} {locs : List Loc} {ls : Array Slot} (C : lwC p l s m c G ca A0 b L xs) (hLS : lwS G ca A0 h9 hm oa ad adm nf nc r v w th f H) (hS : va_S A0 s.heap H locs) (hl : lv_has ls 8 [(0, .ref b), (1, .ref h9), (2, .ref hm), (3, .ref oa), (4, .int (nI i))]) (hi : i + 5 < L) (hcl : cells + 5 ≤ 626516) (hsl : slots + 40 ≤ 7216556) (hK : lwK p l e s m below meth c G ca A0 b h9 hm oa i cells slots Q) : W p l e room_1 s m #[Value.ref b] below meth c H locs cells slots Q (F0 m 1456 ls []) := by
  obtain ⟨hx, hb, hml, hown, hts, hE, hnc9, hlf, hA0, hbA, hbl, hX, hLm⟩ := C
  obtain ⟨rfl, rfl, hW, hM, hout, hI, hD, hDm, hAo⟩ := hLS
  have hnf9 := hI.1.1
  have hnn9 := hI.1.2.1
  have hnow := l_now hI
  have hsz9 := hS.1
  have hl : lv_has ls 8 [(0, .ref b), (1, .ref (ad 0 0)), (2, .ref (adm 10 0)), (3, .ref oa), (4, .int (nI i))] := hl
  refine lv_aload_n hx hb dL_law_1456 rfl (lv_at hl 1 rfl) ?_
  refine lv_aload_n hx hb dL_law_1457 rfl (lv_at hl 0 rfl) ?_
  refine lv_iload hx hb dL_law_1458 (lv_at hl 4 rfl) ?_
  refine lv_iconst (v := 1) hx hb dL_law_1460 (by decide) ?_
  refine lv_iadd hx hb dL_law_1461 ?_
  refine l_sld hx hb hX hbl hbA hS hLm (i + 1) (by omega) (nI_add i 1) dL_law_1462 ?_
  refine lv_aload_n hx hb dL_law_1463 rfl (lv_at hl 0 rfl) ?_
  refine lv_iload hx hb dL_law_1464 (lv_at hl 4 rfl) ?_
  refine lv_iconst (v := 2) hx hb dL_law_1466 (by decide) ?_
  refine lv_iadd hx hb dL_law_1467 ?_
  refine l_sld hx hb hX hbl hbA hS hLm (i + 2) (by omega) (nI_add i 2) dL_law_1468 ?_
  refine lv_aload_n hx hb dL_law_1469 rfl (lv_at hl 3 rfl) ?_
  have hAA := lA_up (adm := adm) hA0 hsz9 hM
  refine rh_call2 (vx_runSX (As := [.ref (ad 0 0), .int (xs (i + 1)), .int (xs (i + 2)), .ref oa]) (rest := []) ⟨hx, hb, hml, hown, hts⟩ (hl_net l hlf (l_Ao hM hout hDm hAo) hD hI.1 (xs (i + 1)) (xs (i + 2))) (vx_cwSW 4 hts gL_law_L_net rfl rfl rfl (by decide +kernel) ⟨by decide, by decide⟩) (rh_prel hE hnc9 hS (fun q h => h.1) hAA ⟨hW, hout⟩) rfl rfl hl.1 rfl (lv_room (Nat.le_of_ble_eq_true rfl)) dL_law_1470 ⟨by show cells + 5 ≤ 626516; omega, by show slots + 40 ≤ 7216556; omega⟩) hS (fun q h => h.1) (fun E ce q9 H locs hX9 hz9 hk9 hS g1 g2 g3 => hX9.elim) (fun o H locs hN9 hz9 hk9 hS => ?_)
  have hM := hM.keptA hk9
  have hsz9 := hS.1
  rcases hN9 with ⟨i9, hc0, hc1, hc2, rfl, ⟨f8, hf8, hout⟩, hW⟩ | ⟨hc9, rfl, ⟨f8, hout⟩, hW⟩ | ⟨hc9, rfl, ⟨f8, hout⟩, hW⟩
  · rw [hnow] at hc2
    refine W.eq (g2 := F0 m 1473 ls [.int 0]) rfl ?_
    refine lv_istore (lv' := [(5, .int 0), (0, .ref b), (1, .ref (ad 0 0)), (2, .ref (adm 10 0)), (3, .ref oa), (4, .int (nI i))]) hx hb dL_law_1473 hl (by decide) rfl (fun ls hl => ?_)
    refine lv_aload_n hx hb dL_law_1475 rfl (lv_at hl 3 rfl) ?_
    refine lv_aload_n hx hb dL_law_1476 rfl (lv_at hl 1 rfl) ?_
    refine lv_iload hx hb dL_law_1477 (lv_at hl 5 rfl) ?_
    refine lv_iconst (v := 1) hx hb dL_law_1479 (by decide) ?_
    refine lv_iadd hx hb dL_law_1480 ?_
    refine l_sld hx hb hX hbl hbA hS hLm (i + 1) (by omega) (nI_add i 1) dL_law_1481 ?_
    refine lv_aload_n hx hb dL_law_1482 rfl (lv_at hl 1 rfl) ?_
    refine lv_iload hx hb dL_law_1483 (lv_at hl 5 rfl) ?_
    refine lv_iconst (v := 2) hx hb dL_law_1485 (by decide) ?_
    refine lv_iadd hx hb dL_law_1486 ?_
    refine l_sld hx hb hX hbl hbA hS hLm (i + 2) (by omega) (nI_add i 2) dL_law_1487 ?_
    have hDB := lB_D hD hDm
    have hBB := lB_up (ad := ad) (oa := oa) hA0 hsz9 hW hout
    refine rh_call2 (vx_runV (As := [.int (xs (i + 1)), .int (xs (i + 2))]) (rest := []) ⟨hx, hb, hml, hown, hts⟩ (ct_X5_net l hDB hI.2.1 (xs (i + 1)) (xs (i + 2))) (cwV 2 hts gL_law_X5_net rfl rfl rfl (by decide +kernel) ⟨by decide, by decide⟩) (rh_preV2 hE hS (fun q h => h.1) hBB (hM.at 10 0 Nat.zero_lt_one) rfl hM) rfl rfl hl.1 rfl (lv_room (Nat.le_of_ble_eq_true rfl)) dL_law_1488 ⟨by show cells + 5 + 0 ≤ 626516; omega, by show slots + 40 + 0 ≤ 7216556; omega⟩) hS (fun q h => h.1) (fun E ce q9 H locs hX9 hz9 hk9 hS g1 g2 g3 => hX9.elim) (fun o H locs hN9 hz9 hk9 hS => ?_)
    have hW := hW.keptB hk9
    have hout := hout.kept (hk9 _ hout.lt (fun z => z.2.2 rfl))
    have hsz9 := hS.1
    rcases hN9 with ⟨i8, hd0, hd1, hd2, rfl, hM⟩ | ⟨hd0, ⟨z8, rfl⟩, hM⟩ | ⟨hd0, hd1, ⟨z8, rfl⟩, hM⟩
    · obtain rfl : i9 = i8 := m_inj (by omega) (by omega) (hc1.symm.trans hd1)
      refine W.eq (g2 := F0 m 1491 ls [.long (m_net r w nc i9 (xs (i + 2)) 4)]) rfl ?_
      refine lv_lstore (lv' := [(6, .long (m_net r w nc i9 (xs (i + 2)) 4)), (5, .int 0), (0, .ref b), (1, .ref (ad 0 0)), (2, .ref (adm 10 0)), (3, .ref oa), (4, .int (nI i))]) hx hb dL_law_1491 hl (by decide) rfl (fun ls hl => ?_)
      refine lv_aload_n hx hb dL_law_1493 rfl (lv_at hl 4 rfl) ?_
      have hDB := lB_D hD hDm
      have hBB := lB_up (ad := ad) (oa := oa) hA0 hsz9 hW hout
      refine rh_call2 (vx_runV (As := []) (rest := []) ⟨hx, hb, hml, hown, hts⟩ (ct_X5_thrown l hDB  ) (cwV 0 hts gL_law_X5_thrown rfl rfl rfl (by decide +kernel) ⟨by decide, by decide⟩) (rh_preV2 hE hS (fun q h => h.1) hBB (hM.at 10 0 Nat.zero_lt_one) rfl hM) rfl rfl hl.1 rfl (lv_room (Nat.le_of_ble_eq_true rfl)) dL_law_1494 ⟨by show cells + 5 + 0 + 0 ≤ 626516; omega, by show slots + 40 + 0 + 0 ≤ 7216556; omega⟩) hS (fun q h => h.1) (fun E ce q9 H locs hX9 hz9 hk9 hS g1 g2 g3 => hX9.elim) (fun o H locs hN9 hz9 hk9 hS => ?_)
      have hW := hW.keptB hk9
      have hout := hout.kept (hk9 _ hout.lt (fun z => z.2.2 rfl))
      have hsz9 := hS.1
      obtain ⟨rfl, hM⟩ := hN9
      refine W.eq (g2 := F0 m 1497 ls [.int 0]) rfl ?_
      refine lv_iload hx hb dL_law_1497 (lv_at hl 1 rfl) ?_
      refine lv_icmp_eq (tgt := 1504) hx hb dL_law_1499 (by decide) (fun c1 => ?_) (fun c1 => absurd c1 (by decide))
      refine lv_iload hx hb dL_law_1504 (lv_at hl 1 rfl) ?_
      refine lv_if_ne (tgt := 1520) hx hb dL_law_1506 (by decide) (fun c2 => absurd c2 (by decide)) (fun c2 => ?_)
      refine lv_aload_n hx hb dL_law_1509 rfl (lv_at hl 5 rfl) ?_
      refine lv_iconst (v := 0) hx hb dL_law_1510 (by decide) ?_
      refine rh_lald (n := 1) (f := f8) hx hb hE hout 0 (by decide) (by decide) rfl dL_law_1511 ?_
      have hval : f8 0 = (m_net r w nc i9 (xs (i + 2)) 4) := by rw [hf8, s_net hI hc0 hc2.1 4 (Nat.le_refl _)]
      refine lv_lload hx hb dL_law_1512 (lv_at hl 0 rfl) ?_
      refine W.lcmp hx hb dL_law_1514 ?_
      refine lv_if_eq (tgt := 1520) hx hb dL_law_1515 (by decide) (fun c3 => ?_) (fun c3 => (c3 ((lg_cmp_eq _ _).mpr hval)).elim)
      · refine lv_goto (tgt := 1523) hx hb dL_law_1520 (by decide) ?_
        exact hK _ _ _ _ _ _ _ _ _ _ _ _ ⟨rfl, rfl, hW, hM, hout, hI, hD, hDm, hAo⟩ hS (lv_sub hl [2, 3, 4, 5, 6] rfl)
    · exfalso
      exact (hd0 (l_ix (by omega) hc0 hc1)).elim
    · exfalso
      exact (hd1 hc2).elim
  · refine W.eq (g2 := F0 m 1473 ls [.int 1]) rfl ?_
    refine lv_istore (lv' := [(5, .int 1), (0, .ref b), (1, .ref (ad 0 0)), (2, .ref (adm 10 0)), (3, .ref oa), (4, .int (nI i))]) hx hb dL_law_1473 hl (by decide) rfl (fun ls hl => ?_)
    refine lv_aload_n hx hb dL_law_1475 rfl (lv_at hl 3 rfl) ?_
    refine lv_aload_n hx hb dL_law_1476 rfl (lv_at hl 1 rfl) ?_
    refine lv_iload hx hb dL_law_1477 (lv_at hl 5 rfl) ?_
    refine lv_iconst (v := 1) hx hb dL_law_1479 (by decide) ?_
    refine lv_iadd hx hb dL_law_1480 ?_
    refine l_sld hx hb hX hbl hbA hS hLm (i + 1) (by omega) (nI_add i 1) dL_law_1481 ?_
    refine lv_aload_n hx hb dL_law_1482 rfl (lv_at hl 1 rfl) ?_
    refine lv_iload hx hb dL_law_1483 (lv_at hl 5 rfl) ?_
    refine lv_iconst (v := 2) hx hb dL_law_1485 (by decide) ?_
    refine lv_iadd hx hb dL_law_1486 ?_
    refine l_sld hx hb hX hbl hbA hS hLm (i + 2) (by omega) (nI_add i 2) dL_law_1487 ?_
    have hDB := lB_D hD hDm
    have hBB := lB_up (ad := ad) (oa := oa) hA0 hsz9 hW hout
    refine rh_call2 (vx_runV (As := [.int (xs (i + 1)), .int (xs (i + 2))]) (rest := []) ⟨hx, hb, hml, hown, hts⟩ (ct_X5_net l hDB hI.2.1 (xs (i + 1)) (xs (i + 2))) (cwV 2 hts gL_law_X5_net rfl rfl rfl (by decide +kernel) ⟨by decide, by decide⟩) (rh_preV2 hE hS (fun q h => h.1) hBB (hM.at 10 0 Nat.zero_lt_one) rfl hM) rfl rfl hl.1 rfl (lv_room (Nat.le_of_ble_eq_true rfl)) dL_law_1488 ⟨by show cells + 5 + 0 ≤ 626516; omega, by show slots + 40 + 0 ≤ 7216556; omega⟩) hS (fun q h => h.1) (fun E ce q9 H locs hX9 hz9 hk9 hS g1 g2 g3 => hX9.elim) (fun o H locs hN9 hz9 hk9 hS => ?_)
    have hW := hW.keptB hk9
    have hout := hout.kept (hk9 _ hout.lt (fun z => z.2.2 rfl))
    have hsz9 := hS.1
    rcases hN9 with ⟨i8, hd0, hd1, hd2, rfl, hM⟩ | ⟨hd0, ⟨z8, rfl⟩, hM⟩ | ⟨hd0, hd1, ⟨z8, rfl⟩, hM⟩
    · exfalso
      exact absurd (l_ix (by omega) hd0 hd1) hc9
    · skip
      refine W.eq (g2 := F0 m 1491 ls [.long z8]) rfl ?_
      refine lv_lstore (lv' := [(6, .long z8), (5, .int 1), (0, .ref b), (1, .ref (ad 0 0)), (2, .ref (adm 10 0)), (3, .ref oa), (4, .int (nI i))]) hx hb dL_law_1491 hl (by decide) rfl (fun ls hl => ?_)
      refine lv_aload_n hx hb dL_law_1493 rfl (lv_at hl 4 rfl) ?_
      have hDB := lB_D hD hDm
      have hBB := lB_up (ad := ad) (oa := oa) hA0 hsz9 hW hout
      refine rh_call2 (vx_runV (As := []) (rest := []) ⟨hx, hb, hml, hown, hts⟩ (ct_X5_thrown l hDB  ) (cwV 0 hts gL_law_X5_thrown rfl rfl rfl (by decide +kernel) ⟨by decide, by decide⟩) (rh_preV2 hE hS (fun q h => h.1) hBB (hM.at 10 0 Nat.zero_lt_one) rfl hM) rfl rfl hl.1 rfl (lv_room (Nat.le_of_ble_eq_true rfl)) dL_law_1494 ⟨by show cells + 5 + 0 + 0 ≤ 626516; omega, by show slots + 40 + 0 + 0 ≤ 7216556; omega⟩) hS (fun q h => h.1) (fun E ce q9 H locs hX9 hz9 hk9 hS g1 g2 g3 => hX9.elim) (fun o H locs hN9 hz9 hk9 hS => ?_)
      have hW := hW.keptB hk9
      have hout := hout.kept (hk9 _ hout.lt (fun z => z.2.2 rfl))
      have hsz9 := hS.1
      obtain ⟨rfl, hM⟩ := hN9
      refine W.eq (g2 := F0 m 1497 ls [.int 1]) rfl ?_
      refine lv_iload hx hb dL_law_1497 (lv_at hl 1 rfl) ?_
      refine lv_icmp_eq (tgt := 1504) hx hb dL_law_1499 (by decide) (fun c4 => ?_) (fun c4 => absurd c4 (by decide))
      refine lv_iload hx hb dL_law_1504 (lv_at hl 1 rfl) ?_
      refine lv_if_ne (tgt := 1520) hx hb dL_law_1506 (by decide) (fun c5 => ?_) (fun c5 => absurd c5 (by decide))
      refine lv_goto (tgt := 1523) hx hb dL_law_1520 (by decide) ?_
      exact hK _ _ _ _ _ _ _ _ _ _ _ _ ⟨rfl, rfl, hW, hM, hout, hI, hD, hDm, hAo⟩ hS (lv_sub hl [2, 3, 4, 5, 6] rfl)
    · exfalso
      exact absurd hd0 hc9
  · rw [hnow] at hc9
    refine W.eq (g2 := F0 m 1473 ls [.int 2]) rfl ?_
    refine lv_istore (lv' := [(5, .int 2), (0, .ref b), (1, .ref (ad 0 0)), (2, .ref (adm 10 0)), (3, .ref oa), (4, .int (nI i))]) hx hb dL_law_1473 hl (by decide) rfl (fun ls hl => ?_)
    refine lv_aload_n hx hb dL_law_1475 rfl (lv_at hl 3 rfl) ?_
    refine lv_aload_n hx hb dL_law_1476 rfl (lv_at hl 1 rfl) ?_
    refine lv_iload hx hb dL_law_1477 (lv_at hl 5 rfl) ?_
    refine lv_iconst (v := 1) hx hb dL_law_1479 (by decide) ?_
    refine lv_iadd hx hb dL_law_1480 ?_
    refine l_sld hx hb hX hbl hbA hS hLm (i + 1) (by omega) (nI_add i 1) dL_law_1481 ?_
    refine lv_aload_n hx hb dL_law_1482 rfl (lv_at hl 1 rfl) ?_
    refine lv_iload hx hb dL_law_1483 (lv_at hl 5 rfl) ?_
    refine lv_iconst (v := 2) hx hb dL_law_1485 (by decide) ?_
    refine lv_iadd hx hb dL_law_1486 ?_
    refine l_sld hx hb hX hbl hbA hS hLm (i + 2) (by omega) (nI_add i 2) dL_law_1487 ?_
    have hDB := lB_D hD hDm
    have hBB := lB_up (ad := ad) (oa := oa) hA0 hsz9 hW hout
    refine rh_call2 (vx_runV (As := [.int (xs (i + 1)), .int (xs (i + 2))]) (rest := []) ⟨hx, hb, hml, hown, hts⟩ (ct_X5_net l hDB hI.2.1 (xs (i + 1)) (xs (i + 2))) (cwV 2 hts gL_law_X5_net rfl rfl rfl (by decide +kernel) ⟨by decide, by decide⟩) (rh_preV2 hE hS (fun q h => h.1) hBB (hM.at 10 0 Nat.zero_lt_one) rfl hM) rfl rfl hl.1 rfl (lv_room (Nat.le_of_ble_eq_true rfl)) dL_law_1488 ⟨by show cells + 5 + 0 ≤ 626516; omega, by show slots + 40 + 0 ≤ 7216556; omega⟩) hS (fun q h => h.1) (fun E ce q9 H locs hX9 hz9 hk9 hS g1 g2 g3 => hX9.elim) (fun o H locs hN9 hz9 hk9 hS => ?_)
    have hW := hW.keptB hk9
    have hout := hout.kept (hk9 _ hout.lt (fun z => z.2.2 rfl))
    have hsz9 := hS.1
    rcases hN9 with ⟨i8, hd0, hd1, hd2, rfl, hM⟩ | ⟨hd0, ⟨z8, rfl⟩, hM⟩ | ⟨hd0, hd1, ⟨z8, rfl⟩, hM⟩
    · exfalso
      exact (hc9.2 hd2).elim
    · exfalso
      exact (hd0 hc9.1).elim
    · skip
      refine W.eq (g2 := F0 m 1491 ls [.long z8]) rfl ?_
      refine lv_lstore (lv' := [(6, .long z8), (5, .int 2), (0, .ref b), (1, .ref (ad 0 0)), (2, .ref (adm 10 0)), (3, .ref oa), (4, .int (nI i))]) hx hb dL_law_1491 hl (by decide) rfl (fun ls hl => ?_)
      refine lv_aload_n hx hb dL_law_1493 rfl (lv_at hl 4 rfl) ?_
      have hDB := lB_D hD hDm
      have hBB := lB_up (ad := ad) (oa := oa) hA0 hsz9 hW hout
      refine rh_call2 (vx_runV (As := []) (rest := []) ⟨hx, hb, hml, hown, hts⟩ (ct_X5_thrown l hDB  ) (cwV 0 hts gL_law_X5_thrown rfl rfl rfl (by decide +kernel) ⟨by decide, by decide⟩) (rh_preV2 hE hS (fun q h => h.1) hBB (hM.at 10 0 Nat.zero_lt_one) rfl hM) rfl rfl hl.1 rfl (lv_room (Nat.le_of_ble_eq_true rfl)) dL_law_1494 ⟨by show cells + 5 + 0 + 0 ≤ 626516; omega, by show slots + 40 + 0 + 0 ≤ 7216556; omega⟩) hS (fun q h => h.1) (fun E ce q9 H locs hX9 hz9 hk9 hS g1 g2 g3 => hX9.elim) (fun o H locs hN9 hz9 hk9 hS => ?_)
      have hW := hW.keptB hk9
      have hout := hout.kept (hk9 _ hout.lt (fun z => z.2.2 rfl))
      have hsz9 := hS.1
      obtain ⟨rfl, hM⟩ := hN9
      refine W.eq (g2 := F0 m 1497 ls [.int 2]) rfl ?_
      refine lv_iload hx hb dL_law_1497 (lv_at hl 1 rfl) ?_
      refine lv_icmp_eq (tgt := 1504) hx hb dL_law_1499 (by decide) (fun c6 => ?_) (fun c6 => absurd c6 (by decide))
      refine lv_iload hx hb dL_law_1504 (lv_at hl 1 rfl) ?_
      refine lv_if_ne (tgt := 1520) hx hb dL_law_1506 (by decide) (fun c7 => ?_) (fun c7 => absurd c7 (by decide))
      refine lv_goto (tgt := 1523) hx hb dL_law_1520 (by decide) ?_
      exact hK _ _ _ _ _ _ _ _ _ _ _ _ ⟨rfl, rfl, hW, hM, hout, hI, hD, hDm, hAo⟩ hS (lv_sub hl [2, 3, 4, 5, 6] rfl)
