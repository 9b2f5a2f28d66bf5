/-! ===== one call of the house under a table of exceptions ===== -/
theorem u_rng01 {y : Nat} (h : y ≤ 1) : rng (nI y) 0 1 := by
  have : y = 0 ∨ y = 1 := by omega
  rcases this with rfl | rfl <;> decide
set_option maxHeartbeats 4000000 in
set_option maxRecDepth 100000 in
theorem hl_does0 (l : Launch) (hlf : l.stackTraces = false) {G : va_G} {ca : Nat → ClassId} {A : Nat → Prop} {ad : Nat → Nat → Nat} {nf nc : Nat} {r : rh_R} {v : rh_V} (hD : rh_D A ad (fun k i => i < rh_n nf nc k)) (hwf : rh_wf nf nc r v) (h0 k0 : Nat) : vx_Met l yL_does wsL_does ({ frames := 9, cells := 5, slots := 40, locals := 270 } : Room) (rh_Pl G ca A [.ref (ad 0 0), .int (nI 0), .int (nI h0), .int (nI k0), .int (nI 0)] (fun H => rh_W G ca ad nf nc r v H)) (rh_Q A (fun o H => (∃ h9 k9 : Nat, h9 < 4 ∧ k9 < 4 ∧ h9 ≠ k9 ∧ (nI h0) = nI h9 ∧ (nI k0) = nI k9 ∧ nf < 30 ∧ o = some (.int (nI nf)) ∧ ∃ q : Nat, rh_W G ca (ad2 ad 8 nf q) (nf + 1) nc (ad2 r 8 nf (h9 * 4 + k9)) (wr (c_file v nf (v 0 0 6)) 0 0 3 (nI (nf + 1))) H ∧ rh_D A (ad2 ad 8 nf q) (fun k9 i => i < rh_n (nf + 1) nc k9)) ∨ ((¬ (ix (nI h0) 4 ∧ ix (nI k0) 4)) ∧ o = some (.int (-11)) ∧ rh_W G ca ad nf nc r v H) ∨ ((ix (nI h0) 4 ∧ ix (nI k0) 4 ∧ (nI h0) = (nI k0)) ∧ o = some (.int (-12)) ∧ rh_W G ca ad nf nc r v H) ∨ ((ix (nI h0) 4 ∧ ix (nI k0) 4 ∧ ¬ (nI h0) = (nI k0) ∧ 30 ≤ nf) ∧ o = some (.int (-13)) ∧ rh_W G ca ad nf nc r v H))) (rh_XC A rh_no) 5 40 A := by
  refine rh_enterl (cc := cL_does) (maxL := 6) (ret := (some .int)) (hh := [(0, 47, 48, 47), (0, 47, 53, 49), (0, 47, 58, 51)]) (by decide) rfl (Nat.le_of_ble_eq_true rfl) ?_
  intro p e s m below meth c ls hx hb hr hml hown hts hlocks hex hin hE hnc9 hA hW hl
  have hS : va_S A s.heap s.heap [] := va_S.rf
  have hl : lv_has ls 6 [(0, .ref (ad 0 0)), (1, .int (nI 0)), (2, .int (nI h0)), (3, .int (nI k0)), (4, .int (nI 0))] := hl
  refine lv_iload_n hx hb dL_does_0 rfl (lv_at hl 1 rfl) ?_
  refine un_ine (tgt := 13) hx hb dL_does_1 (by decide) (by decide) (fun c1 => absurd (show ¬ (0 : Nat) = 0 from c1) (by decide)) (fun c1 => ?_)
  refine lv_aload_n hx hb dL_does_4 rfl (lv_at hl 0 rfl) ?_
  refine lv_iload_n hx hb dL_does_5 rfl (lv_at hl 2 rfl) ?_
  refine lv_iload_n hx hb dL_does_6 rfl (lv_at hl 3 rfl) ?_
  have hA19 : ∀ q, A q → A q := fun q h => h
  have hB19 : ∀ q : Nat, s.heap.size ≤ q → A q := hA
  refine rh_call2 (vx_runV (As := [.int (nI h0), .int (nI k0)]) (rest := []) ⟨hx, hb, hml, hown, hts⟩ (ct_X4_begin l hlf hD hwf (nI h0) (nI k0)) (cwV 2 hts gL_does_X4_begin rfl rfl rfl (by decide +kernel) ⟨by decide, by decide⟩) (rh_preV2 hE hS hA19 hB19 (hW.at 0 0 Nat.zero_lt_one) rfl hW) rfl rfl hl.1 rfl (lv_room (Nat.le_of_ble_eq_true rfl)) dL_does_7 ⟨by decide, by decide⟩) hS hA19 (fun E ce q9 H locs hX9 hz9 hk9 hS g1 g2 g3 => ?_) (fun o H locs hN9 hz9 hk9 hS => ?_)
  · obtain ⟨hX9, hW⟩ := hX9
    rcases hX9 with ⟨rfl, hc9⟩ | ⟨rfl, hc9⟩ | ⟨rfl, hc9⟩
    · refine vx_catch (name := exn 1) hown [] ⟨0, 47, 48, 47⟩ [⟨0, 47, 53, 49⟩, ⟨0, 47, 58, 51⟩] (hex.trans rfl) (fun z hz => absurd hz (List.not_mem_nil)) (by decide) (by decide) (hts (.classLink RL 47 (exn 1)) (by decide +kernel)) (va_Nw.use rfl (hE.2.2.2.1 (exn 1) (by decide))) g1 g2 g3 ?_
      refine W.eq (g2 := F0 m 48 ls [.ref q9]) rfl ?_
      refine lv_astore (lv' := [(5, .ref q9), (0, .ref (ad 0 0)), (1, .int (nI 0)), (2, .int (nI h0)), (3, .int (nI k0)), (4, .int (nI 0))]) hx hb dL_does_48 hl (by decide) rfl (fun ls hl => ?_)
      refine lv_bipush (v := -11) hx hb dL_does_50 (by decide) ?_
      exact rh_iret hx hb hr hlocks (Or.inr (Or.inl ⟨hc9, rfl, hW⟩)) hS (by decide) (by decide) dL_does_52
    · refine vx_catch (name := exn 2) hown [⟨0, 47, 48, 47⟩] ⟨0, 47, 53, 49⟩ [⟨0, 47, 58, 51⟩] (hex.trans rfl) (fun z hz => by rw [List.mem_singleton] at hz; subst hz; exact Or.inr ⟨by decide, exn 1, (hts (.classLink RL 47 (exn 1)) (by decide +kernel)), hnc9 (exn 2, exn 1) (by decide)⟩) (by decide) (by decide) (hts (.classLink RL 49 (exn 2)) (by decide +kernel)) (va_Nw.use rfl (hE.2.2.2.1 (exn 2) (by decide))) g1 g2 g3 ?_
      refine W.eq (g2 := F0 m 53 ls [.ref q9]) rfl ?_
      refine lv_astore (lv' := [(5, .ref q9), (0, .ref (ad 0 0)), (1, .int (nI 0)), (2, .int (nI h0)), (3, .int (nI k0)), (4, .int (nI 0))]) hx hb dL_does_53 hl (by decide) rfl (fun ls hl => ?_)
      refine lv_bipush (v := -12) hx hb dL_does_55 (by decide) ?_
      exact rh_iret hx hb hr hlocks (Or.inr (Or.inr (Or.inl ⟨hc9, rfl, hW⟩))) hS (by decide) (by decide) dL_does_57
    · refine vx_catch (name := exn 3) hown [⟨0, 47, 48, 47⟩, ⟨0, 47, 53, 49⟩] ⟨0, 47, 58, 51⟩ [] (hex.trans rfl) (fun z hz => by rcases List.mem_cons.mp hz with rfl | hz; exact Or.inr ⟨by decide, exn 1, (hts (.classLink RL 47 (exn 1)) (by decide +kernel)), hnc9 (exn 3, exn 1) (by decide)⟩; rw [List.mem_singleton] at hz; subst hz; exact Or.inr ⟨by decide, exn 2, (hts (.classLink RL 49 (exn 2)) (by decide +kernel)), hnc9 (exn 3, exn 2) (by decide)⟩) (by decide) (by decide) (hts (.classLink RL 51 (exn 3)) (by decide +kernel)) (va_Nw.use rfl (hE.2.2.2.1 (exn 3) (by decide))) g1 g2 g3 ?_
      refine W.eq (g2 := F0 m 58 ls [.ref q9]) rfl ?_
      refine lv_astore (lv' := [(5, .ref q9), (0, .ref (ad 0 0)), (1, .int (nI 0)), (2, .int (nI h0)), (3, .int (nI k0)), (4, .int (nI 0))]) hx hb dL_does_58 hl (by decide) rfl (fun ls hl => ?_)
      refine lv_bipush (v := -13) hx hb dL_does_60 (by decide) ?_
      exact rh_iret hx hb hr hlocks (Or.inr (Or.inr (Or.inr (⟨hc9, rfl, hW⟩)))) hS (by decide) (by decide) dL_does_62
  · obtain ⟨h9, k9, hc0, hc1, hc2, hc3, hc4, hc5, rfl, q8, hW, hD8⟩ := hN9
    refine W.eq (g2 := F0 m 10 ls [.int (nI nf)]) rfl ?_
    refine lv_goto (tgt := 47) hx hb dL_does_10 (by decide) ?_
    exact rh_iret hx hb hr hlocks (Or.inl ⟨h9, k9, hc0, hc1, hc2, hc3, hc4, hc5, rfl, q8, hW, hD8⟩) hS (by decide) (by decide) dL_does_47
set_option maxHeartbeats 4000000 in
set_option maxRecDepth 100000 in
theorem hl_does1 (l : Launch) (hlf : l.stackTraces = false) {G : va_G} {ca : Nat → ClassId} {A : Nat → Prop} {ad : Nat → Nat → Nat} {nf nc : Nat} {r : rh_R} {v : rh_V} (hD : rh_D A ad (fun k i => i < rh_n nf nc k)) (hwf : rh_wf nf nc r v) (f0 s0 t0 : Nat) : vx_Met l yL_does wsL_does ({ frames := 9, cells := 5, slots := 40, locals := 270 } : Room) (rh_Pl G ca A [.ref (ad 0 0), .int (nI 1), .int (nI f0), .int (nI s0), .int (nI t0)] (fun H => rh_W G ca ad nf nc r v H)) (rh_Q A (fun o H => (∃ i9 : Nat, i9 < nf ∧ (nI f0) = nI i9 ∧ rng (nI s0) 1 36000 ∧ rng (nI t0) 0 50000000 ∧ v 8 i9 2 = 0 ∧ nc < 60 ∧ o = some (.int (nI nc)) ∧ ∃ q : Nat, rh_W G ca (ad2 ad 9 nc q) nf (nc + 1) (ad2 r 9 nc i9) (wr (wr (c_call v nc (nI s0) (nI t0)) 0 0 5 (nI (nc + 1))) 8 i9 3 (v 8 i9 3 + 1)) H ∧ rh_D A (ad2 ad 9 nc q) (fun k i9 => i9 < rh_n nf (nc + 1) k)) ∨ ((¬ ix (nI f0) nf) ∧ o = some (.int (-11)) ∧ rh_W G ca ad nf nc r v H) ∨ ((ix (nI f0) nf ∧ ¬ (rng (nI s0) 1 36000 ∧ rng (nI t0) 0 50000000)) ∧ o = some (.int (-12)) ∧ rh_W G ca ad nf nc r v H) ∨ ((∃ i : Nat, i < nf ∧ (nI f0) = nI i ∧ rng (nI s0) 1 36000 ∧ rng (nI t0) 0 50000000 ∧ (¬ v 8 i 2 = 0 ∨ 60 ≤ nc)) ∧ o = some (.int (-13)) ∧ rh_W G ca ad nf nc r v H))) (rh_XC A rh_no) 5 40 A := by
  refine rh_enterl (cc := cL_does) (maxL := 6) (ret := (some .int)) (hh := [(0, 47, 48, 47), (0, 47, 53, 49), (0, 47, 58, 51)]) (by decide) rfl (Nat.le_of_ble_eq_true rfl) ?_
  intro p e s m below meth c ls hx hb hr hml hown hts hlocks hex hin hE hnc9 hA hW hl
  have hS : va_S A s.heap s.heap [] := va_S.rf
  have hl : lv_has ls 6 [(0, .ref (ad 0 0)), (1, .int (nI 1)), (2, .int (nI f0)), (3, .int (nI s0)), (4, .int (nI t0))] := hl
  refine lv_iload_n hx hb dL_does_0 rfl (lv_at hl 1 rfl) ?_
  refine un_ine (tgt := 13) hx hb dL_does_1 (by decide) (by decide) (fun c1 => ?_) (fun c1 => absurd (show (1 : Nat) = 0 from c1) (by decide))
  refine lv_iload_n hx hb dL_does_13 rfl (lv_at hl 1 rfl) ?_
  refine lv_iconst (v := nI 1) hx hb dL_does_14 (by decide) ?_
  refine un_cne (tgt := 29) hx hb dL_does_15 (by decide) (by decide) (by decide) (fun c2 => absurd (show ¬ (1 : Nat) = 1 from c2) (by decide)) (fun c2 => ?_)
  refine lv_aload_n hx hb dL_does_18 rfl (lv_at hl 0 rfl) ?_
  refine lv_iload_n hx hb dL_does_19 rfl (lv_at hl 2 rfl) ?_
  refine lv_iload_n hx hb dL_does_20 rfl (lv_at hl 3 rfl) ?_
  refine lv_iload hx hb dL_does_21 (lv_at hl 4 rfl) ?_
  have hA19 : ∀ q, A q → A q := fun q h => h
  have hB19 : ∀ q : Nat, s.heap.size ≤ q → A q := hA
  refine rh_call2 (vx_runV (As := [.int (nI f0), .int (nI s0), .int (nI t0)]) (rest := []) ⟨hx, hb, hml, hown, hts⟩ (ct_X4_enter l hlf hD hwf (nI f0) (nI s0) (nI t0)) (cwV 3 hts gL_does_X4_enter rfl rfl rfl (by decide +kernel) ⟨by decide, by decide⟩) (rh_preV2 hE hS hA19 hB19 (hW.at 0 0 Nat.zero_lt_one) rfl hW) rfl rfl hl.1 rfl (lv_room (Nat.le_of_ble_eq_true rfl)) dL_does_23 ⟨by decide, by decide⟩) hS hA19 (fun E ce q9 H locs hX9 hz9 hk9 hS g1 g2 g3 => ?_) (fun o H locs hN9 hz9 hk9 hS => ?_)
  · obtain ⟨hX9, hW⟩ := hX9
    rcases hX9 with ⟨rfl, hc9⟩ | ⟨rfl, hc9⟩ | ⟨rfl, hc9⟩
    · refine vx_catch (name := exn 1) hown [] ⟨0, 47, 48, 47⟩ [⟨0, 47, 53, 49⟩, ⟨0, 47, 58, 51⟩] (hex.trans rfl) (fun z hz => absurd hz (List.not_mem_nil)) (by decide) (by decide) (hts (.classLink RL 47 (exn 1)) (by decide +kernel)) (va_Nw.use rfl (hE.2.2.2.1 (exn 1) (by decide))) g1 g2 g3 ?_
      refine W.eq (g2 := F0 m 48 ls [.ref q9]) rfl ?_
      refine lv_astore (lv' := [(5, .ref q9), (0, .ref (ad 0 0)), (1, .int (nI 1)), (2, .int (nI f0)), (3, .int (nI s0)), (4, .int (nI t0))]) hx hb dL_does_48 hl (by decide) rfl (fun ls hl => ?_)
      refine lv_bipush (v := -11) hx hb dL_does_50 (by decide) ?_
      exact rh_iret hx hb hr hlocks (Or.inr (Or.inl ⟨hc9, rfl, hW⟩)) hS (by decide) (by decide) dL_does_52
    · refine vx_catch (name := exn 2) hown [⟨0, 47, 48, 47⟩] ⟨0, 47, 53, 49⟩ [⟨0, 47, 58, 51⟩] (hex.trans rfl) (fun z hz => by rw [List.mem_singleton] at hz; subst hz; exact Or.inr ⟨by decide, exn 1, (hts (.classLink RL 47 (exn 1)) (by decide +kernel)), hnc9 (exn 2, exn 1) (by decide)⟩) (by decide) (by decide) (hts (.classLink RL 49 (exn 2)) (by decide +kernel)) (va_Nw.use rfl (hE.2.2.2.1 (exn 2) (by decide))) g1 g2 g3 ?_
      refine W.eq (g2 := F0 m 53 ls [.ref q9]) rfl ?_
      refine lv_astore (lv' := [(5, .ref q9), (0, .ref (ad 0 0)), (1, .int (nI 1)), (2, .int (nI f0)), (3, .int (nI s0)), (4, .int (nI t0))]) hx hb dL_does_53 hl (by decide) rfl (fun ls hl => ?_)
      refine lv_bipush (v := -12) hx hb dL_does_55 (by decide) ?_
      exact rh_iret hx hb hr hlocks (Or.inr (Or.inr (Or.inl ⟨hc9, rfl, hW⟩))) hS (by decide) (by decide) dL_does_57
    · refine vx_catch (name := exn 3) hown [⟨0, 47, 48, 47⟩, ⟨0, 47, 53, 49⟩] ⟨0, 47, 58, 51⟩ [] (hex.trans rfl) (fun z hz => by rcases List.mem_cons.mp hz with rfl | hz; exact Or.inr ⟨by decide, exn 1, (hts (.classLink RL 47 (exn 1)) (by decide +kernel)), hnc9 (exn 3, exn 1) (by decide)⟩; rw [List.mem_singleton] at hz; subst hz; exact Or.inr ⟨by decide, exn 2, (hts (.classLink RL 49 (exn 2)) (by decide +kernel)), hnc9 (exn 3, exn 2) (by decide)⟩) (by decide) (by decide) (hts (.classLink RL 51 (exn 3)) (by decide +kernel)) (va_Nw.use rfl (hE.2.2.2.1 (exn 3) (by decide))) g1 g2 g3 ?_
      refine W.eq (g2 := F0 m 58 ls [.ref q9]) rfl ?_
      refine lv_astore (lv' := [(5, .ref q9), (0, .ref (ad 0 0)), (1, .int (nI 1)), (2, .int (nI f0)), (3, .int (nI s0)), (4, .int (nI t0))]) hx hb dL_does_58 hl (by decide) rfl (fun ls hl => ?_)
      refine lv_bipush (v := -13) hx hb dL_does_60 (by decide) ?_
      exact rh_iret hx hb hr hlocks (Or.inr (Or.inr (Or.inr (⟨hc9, rfl, hW⟩)))) hS (by decide) (by decide) dL_does_62
  · obtain ⟨i9, hc0, hc1, hc2, hc3, hc4, hc5, rfl, q8, hW, hD8⟩ := hN9
    refine W.eq (g2 := F0 m 26 ls [.int (nI nc)]) rfl ?_
    refine lv_goto (tgt := 47) hx hb dL_does_26 (by decide) ?_
    exact rh_iret hx hb hr hlocks (Or.inl ⟨i9, hc0, hc1, hc2, hc3, hc4, hc5, rfl, q8, hW, hD8⟩) hS (by decide) (by decide) dL_does_47
set_option maxHeartbeats 4000000 in
set_option maxRecDepth 100000 in
theorem hl_does2 (l : Launch) (hlf : l.stackTraces = false) {G : va_G} {ca : Nat → ClassId} {A : Nat → Prop} {ad : Nat → Nat → Nat} {nf nc : Nat} {r : rh_R} {v : rh_V} (hD : rh_D A ad (fun k i => i < rh_n nf nc k)) (hwf : rh_wf nf nc r v) (f0 y0 : Nat) : vx_Met l yL_does wsL_does ({ frames := 9, cells := 5, slots := 40, locals := 270 } : Room) (rh_Pl G ca A [.ref (ad 0 0), .int (nI 2), .int (nI f0), .int (nI y0), .int (nI 0)] (fun H => rh_W G ca ad nf nc r v H)) (rh_Q A (fun o H => (∃ i9 : Nat, i9 < nf ∧ (nI f0) = nI i9 ∧ rng (nI y0) 1 99 ∧ v 8 i9 2 = 0 ∧ ¬ v 8 i9 3 = 0 ∧ o = some (.int (c_send r v nf nc i9 (nI y0) 8 i9 2)) ∧ rh_W G ca ad nf nc r (c_send r v nf nc i9 (nI y0)) H) ∨ ((¬ ix (nI f0) nf) ∧ o = some (.int (-11)) ∧ rh_W G ca ad nf nc r v H) ∨ ((ix (nI f0) nf ∧ ¬ rng (nI y0) 1 99) ∧ o = some (.int (-12)) ∧ rh_W G ca ad nf nc r v H) ∨ ((∃ i : Nat, i < nf ∧ (nI f0) = nI i ∧ rng (nI y0) 1 99 ∧ (¬ v 8 i 2 = 0 ∨ v 8 i 3 = 0)) ∧ o = some (.int (-13)) ∧ rh_W G ca ad nf nc r v H))) (rh_XC A rh_no) 5 40 A := by
  refine rh_enterl (cc := cL_does) (maxL := 6) (ret := (some .int)) (hh := [(0, 47, 48, 47), (0, 47, 53, 49), (0, 47, 58, 51)]) (by decide) rfl (Nat.le_of_ble_eq_true rfl) ?_
  intro p e s m below meth c ls hx hb hr hml hown hts hlocks hex hin hE hnc9 hA hW hl
  have hS : va_S A s.heap s.heap [] := va_S.rf
  have hl : lv_has ls 6 [(0, .ref (ad 0 0)), (1, .int (nI 2)), (2, .int (nI f0)), (3, .int (nI y0)), (4, .int (nI 0))] := hl
  refine lv_iload_n hx hb dL_does_0 rfl (lv_at hl 1 rfl) ?_
  refine un_ine (tgt := 13) hx hb dL_does_1 (by decide) (by decide) (fun c1 => ?_) (fun c1 => absurd (show (2 : Nat) = 0 from c1) (by decide))
  refine lv_iload_n hx hb dL_does_13 rfl (lv_at hl 1 rfl) ?_
  refine lv_iconst (v := nI 1) hx hb dL_does_14 (by decide) ?_
  refine un_cne (tgt := 29) hx hb dL_does_15 (by decide) (by decide) (by decide) (fun c2 => ?_) (fun c2 => absurd (show (2 : Nat) = 1 from c2) (by decide))
  refine lv_iload_n hx hb dL_does_29 rfl (lv_at hl 1 rfl) ?_
  refine lv_iconst (v := nI 2) hx hb dL_does_30 (by decide) ?_
  refine un_cne (tgt := 43) hx hb dL_does_31 (by decide) (by decide) (by decide) (fun c3 => absurd (show ¬ (2 : Nat) = 2 from c3) (by decide)) (fun c3 => ?_)
  refine lv_aload_n hx hb dL_does_34 rfl (lv_at hl 0 rfl) ?_
  refine lv_iload_n hx hb dL_does_35 rfl (lv_at hl 2 rfl) ?_
  refine lv_iload_n hx hb dL_does_36 rfl (lv_at hl 3 rfl) ?_
  have hA19 : ∀ q, A q → A q := fun q h => h
  have hB19 : ∀ q : Nat, s.heap.size ≤ q → A q := hA
  refine rh_call2 (vx_runV (As := [.int (nI f0), .int (nI y0)]) (rest := []) ⟨hx, hb, hml, hown, hts⟩ (ct_X4_send l hlf hD hwf (nI f0) (nI y0)) (cwV 2 hts gL_does_X4_send rfl rfl rfl (by decide +kernel) ⟨by decide, by decide⟩) (rh_preV2 hE hS hA19 hB19 (hW.at 0 0 Nat.zero_lt_one) rfl hW) rfl rfl hl.1 rfl (lv_room (Nat.le_of_ble_eq_true rfl)) dL_does_37 ⟨by decide, by decide⟩) hS hA19 (fun E ce q9 H locs hX9 hz9 hk9 hS g1 g2 g3 => ?_) (fun o H locs hN9 hz9 hk9 hS => ?_)
  · obtain ⟨hX9, hW⟩ := hX9
    rcases hX9 with ⟨rfl, hc9⟩ | ⟨rfl, hc9⟩ | ⟨rfl, hc9⟩
    · refine vx_catch (name := exn 1) hown [] ⟨0, 47, 48, 47⟩ [⟨0, 47, 53, 49⟩, ⟨0, 47, 58, 51⟩] (hex.trans rfl) (fun z hz => absurd hz (List.not_mem_nil)) (by decide) (by decide) (hts (.classLink RL 47 (exn 1)) (by decide +kernel)) (va_Nw.use rfl (hE.2.2.2.1 (exn 1) (by decide))) g1 g2 g3 ?_
      refine W.eq (g2 := F0 m 48 ls [.ref q9]) rfl ?_
      refine lv_astore (lv' := [(5, .ref q9), (0, .ref (ad 0 0)), (1, .int (nI 2)), (2, .int (nI f0)), (3, .int (nI y0)), (4, .int (nI 0))]) hx hb dL_does_48 hl (by decide) rfl (fun ls hl => ?_)
      refine lv_bipush (v := -11) hx hb dL_does_50 (by decide) ?_
      exact rh_iret hx hb hr hlocks (Or.inr (Or.inl ⟨hc9, rfl, hW⟩)) hS (by decide) (by decide) dL_does_52
    · refine vx_catch (name := exn 2) hown [⟨0, 47, 48, 47⟩] ⟨0, 47, 53, 49⟩ [⟨0, 47, 58, 51⟩] (hex.trans rfl) (fun z hz => by rw [List.mem_singleton] at hz; subst hz; exact Or.inr ⟨by decide, exn 1, (hts (.classLink RL 47 (exn 1)) (by decide +kernel)), hnc9 (exn 2, exn 1) (by decide)⟩) (by decide) (by decide) (hts (.classLink RL 49 (exn 2)) (by decide +kernel)) (va_Nw.use rfl (hE.2.2.2.1 (exn 2) (by decide))) g1 g2 g3 ?_
      refine W.eq (g2 := F0 m 53 ls [.ref q9]) rfl ?_
      refine lv_astore (lv' := [(5, .ref q9), (0, .ref (ad 0 0)), (1, .int (nI 2)), (2, .int (nI f0)), (3, .int (nI y0)), (4, .int (nI 0))]) hx hb dL_does_53 hl (by decide) rfl (fun ls hl => ?_)
      refine lv_bipush (v := -12) hx hb dL_does_55 (by decide) ?_
      exact rh_iret hx hb hr hlocks (Or.inr (Or.inr (Or.inl ⟨hc9, rfl, hW⟩))) hS (by decide) (by decide) dL_does_57
    · refine vx_catch (name := exn 3) hown [⟨0, 47, 48, 47⟩, ⟨0, 47, 53, 49⟩] ⟨0, 47, 58, 51⟩ [] (hex.trans rfl) (fun z hz => by rcases List.mem_cons.mp hz with rfl | hz; exact Or.inr ⟨by decide, exn 1, (hts (.classLink RL 47 (exn 1)) (by decide +kernel)), hnc9 (exn 3, exn 1) (by decide)⟩; rw [List.mem_singleton] at hz; subst hz; exact Or.inr ⟨by decide, exn 2, (hts (.classLink RL 49 (exn 2)) (by decide +kernel)), hnc9 (exn 3, exn 2) (by decide)⟩) (by decide) (by decide) (hts (.classLink RL 51 (exn 3)) (by decide +kernel)) (va_Nw.use rfl (hE.2.2.2.1 (exn 3) (by decide))) g1 g2 g3 ?_
      refine W.eq (g2 := F0 m 58 ls [.ref q9]) rfl ?_
      refine lv_astore (lv' := [(5, .ref q9), (0, .ref (ad 0 0)), (1, .int (nI 2)), (2, .int (nI f0)), (3, .int (nI y0)), (4, .int (nI 0))]) hx hb dL_does_58 hl (by decide) rfl (fun ls hl => ?_)
      refine lv_bipush (v := -13) hx hb dL_does_60 (by decide) ?_
      exact rh_iret hx hb hr hlocks (Or.inr (Or.inr (Or.inr (⟨hc9, rfl, hW⟩)))) hS (by decide) (by decide) dL_does_62
  · obtain ⟨i9, hc0, hc1, hc2, hc3, hc4, rfl, hW⟩ := hN9
    refine W.eq (g2 := F0 m 40 ls [.int (c_send r v nf nc i9 (nI y0) 8 i9 2)]) rfl ?_
    refine lv_goto (tgt := 47) hx hb dL_does_40 (by decide) ?_
    exact rh_iret hx hb hr hlocks (Or.inl ⟨i9, hc0, hc1, hc2, hc3, hc4, rfl, hW⟩) hS (by decide) (by decide) dL_does_47
set_option maxHeartbeats 4000000 in
set_option maxRecDepth 100000 in
theorem hl_does3 (l : Launch) (hlf : l.stackTraces = false) {G : va_G} {ca : Nat → ClassId} {A : Nat → Prop} {ad : Nat → Nat → Nat} {nf nc : Nat} {r : rh_R} {v : rh_V} (hD : rh_D A ad (fun k i => i < rh_n nf nc k)) (hwf : rh_wf nf nc r v)  : vx_Met l yL_does wsL_does ({ frames := 9, cells := 5, slots := 40, locals := 270 } : Room) (rh_Pl G ca A [.ref (ad 0 0), .int (nI 3), .int (nI 0), .int (nI 0), .int (nI 0)] (fun H => rh_W G ca ad nf nc r v H)) (rh_Q A (fun o H => (v 0 0 6 < 35 ∧ o = some (.int (v 0 0 6 + 1)) ∧ rh_W G ca ad nf nc r (c_gb (wr v 0 0 6 (v 0 0 6 + 1)) nc) H) ∨ ((¬ v 0 0 6 < 35) ∧ o = some (.int (-13)) ∧ rh_W G ca ad nf nc r v H))) (rh_XC A rh_no) 5 40 A := by
  refine rh_enterl (cc := cL_does) (maxL := 6) (ret := (some .int)) (hh := [(0, 47, 48, 47), (0, 47, 53, 49), (0, 47, 58, 51)]) (by decide) rfl (Nat.le_of_ble_eq_true rfl) ?_
  intro p e s m below meth c ls hx hb hr hml hown hts hlocks hex hin hE hnc9 hA hW hl
  have hS : va_S A s.heap s.heap [] := va_S.rf
  have hl : lv_has ls 6 [(0, .ref (ad 0 0)), (1, .int (nI 3)), (2, .int (nI 0)), (3, .int (nI 0)), (4, .int (nI 0))] := hl
  refine lv_iload_n hx hb dL_does_0 rfl (lv_at hl 1 rfl) ?_
  refine un_ine (tgt := 13) hx hb dL_does_1 (by decide) (by decide) (fun c1 => ?_) (fun c1 => absurd (show (3 : Nat) = 0 from c1) (by decide))
  refine lv_iload_n hx hb dL_does_13 rfl (lv_at hl 1 rfl) ?_
  refine lv_iconst (v := nI 1) hx hb dL_does_14 (by decide) ?_
  refine un_cne (tgt := 29) hx hb dL_does_15 (by decide) (by decide) (by decide) (fun c2 => ?_) (fun c2 => absurd (show (3 : Nat) = 1 from c2) (by decide))
  refine lv_iload_n hx hb dL_does_29 rfl (lv_at hl 1 rfl) ?_
  refine lv_iconst (v := nI 2) hx hb dL_does_30 (by decide) ?_
  refine un_cne (tgt := 43) hx hb dL_does_31 (by decide) (by decide) (by decide) (fun c3 => ?_) (fun c3 => absurd (show (3 : Nat) = 2 from c3) (by decide))
  refine lv_aload_n hx hb dL_does_43 rfl (lv_at hl 0 rfl) ?_
  have hA19 : ∀ q, A q → A q := fun q h => h
  have hB19 : ∀ q : Nat, s.heap.size ≤ q → A q := hA
  refine rh_call2 (vx_runV (As := []) (rest := []) ⟨hx, hb, hml, hown, hts⟩ (ct_X4_nextMonth l hlf hD hwf ) (cwV 0 hts gL_does_X4_nextMonth rfl rfl rfl (by decide +kernel) ⟨by decide, by decide⟩) (rh_preV2 hE hS hA19 hB19 (hW.at 0 0 Nat.zero_lt_one) rfl hW) rfl rfl hl.1 rfl (lv_room (Nat.le_of_ble_eq_true rfl)) dL_does_44 ⟨by decide, by decide⟩) hS hA19 (fun E ce q9 H locs hX9 hz9 hk9 hS g1 g2 g3 => ?_) (fun o H locs hN9 hz9 hk9 hS => ?_)
  · obtain ⟨hX9, hW⟩ := hX9
    obtain ⟨rfl, hc9⟩ := hX9
    refine vx_catch (name := exn 3) hown [⟨0, 47, 48, 47⟩, ⟨0, 47, 53, 49⟩] ⟨0, 47, 58, 51⟩ [] (hex.trans rfl) (fun z hz => by rcases List.mem_cons.mp hz with rfl | hz; exact Or.inr ⟨by decide, exn 1, (hts (.classLink RL 47 (exn 1)) (by decide +kernel)), hnc9 (exn 3, exn 1) (by decide)⟩; rw [List.mem_singleton] at hz; subst hz; exact Or.inr ⟨by decide, exn 2, (hts (.classLink RL 49 (exn 2)) (by decide +kernel)), hnc9 (exn 3, exn 2) (by decide)⟩) (by decide) (by decide) (hts (.classLink RL 51 (exn 3)) (by decide +kernel)) (va_Nw.use rfl (hE.2.2.2.1 (exn 3) (by decide))) g1 g2 g3 ?_
    refine W.eq (g2 := F0 m 58 ls [.ref q9]) rfl ?_
    refine lv_astore (lv' := [(5, .ref q9), (0, .ref (ad 0 0)), (1, .int (nI 3)), (2, .int (nI 0)), (3, .int (nI 0)), (4, .int (nI 0))]) hx hb dL_does_58 hl (by decide) rfl (fun ls hl => ?_)
    refine lv_bipush (v := -13) hx hb dL_does_60 (by decide) ?_
    exact rh_iret hx hb hr hlocks (Or.inr (⟨hc9, rfl, hW⟩)) hS (by decide) (by decide) dL_does_62
  · obtain ⟨hc0, rfl, hW⟩ := hN9
    refine W.eq (g2 := F0 m 47 ls [.int (v 0 0 6 + 1)]) rfl ?_
    exact rh_iret hx hb hr hlocks (Or.inl ⟨hc0, rfl, hW⟩) hS (by decide) (by decide) dL_does_47
set_option maxHeartbeats 4000000 in
set_option maxRecDepth 100000 in
theorem hl_isDisputed (l : Launch) (hlf : l.stackTraces = false) {G : va_G} {ca : Nat → ClassId} {A : Nat → Prop} {ad : Nat → Nat → Nat} {nf nc : Nat} {r : rh_R} {v : rh_V} (hD : rh_D A ad (fun k i => i < rh_n nf nc k)) (hwf : rh_wf nf nc r v) (i0 : Nat) (hi0 : i0 < nc) : vx_Met l yL_isDisputed wsL_isDisputed ({ frames := 9, cells := 5, slots := 40, locals := 270 } : Room) (rh_Pl G ca A [.ref (ad 0 0), .int (nI i0)] (fun H => rh_W G ca ad nf nc r v H)) (rh_Q A (fun o H => (∃ i9 : Nat, i9 < nc ∧ (nI i0) = nI i9 ∧ v 9 i9 3 = 1 ∧ ¬ 1 < v 0 0 6 - v 9 i9 4 ∧ o = some (.int 1) ∧ rh_W G ca ad nf nc r (wr (wr v 9 i9 3 2) 9 i9 5 (v 0 0 6)) H) ∨ ((∃ i : Nat, i < nc ∧ (nI i0) = nI i ∧ ¬ (v 9 i 3 = 1 ∧ ¬ 1 < v 0 0 6 - v 9 i 4)) ∧ o = some (.int 0) ∧ rh_W G ca ad nf nc r v H))) (rh_XC A rh_no) 5 40 A := by
  refine rh_enterl (cc := cL_isDisputed) (maxL := 3) (ret := (some .boolean)) (hh := [(0, 6, 7, 51)]) (by decide) rfl (Nat.le_of_ble_eq_true rfl) ?_
  intro p e s m below meth c ls hx hb hr hml hown hts hlocks hex hin hE hnc9 hA hW hl
  have hS : va_S A s.heap s.heap [] := va_S.rf
  have hl : lv_has ls 3 [(0, .ref (ad 0 0)), (1, .int (nI i0))] := hl
  refine lv_aload_n hx hb dL_isDisputed_0 rfl (lv_at hl 0 rfl) ?_
  refine lv_iload_n hx hb dL_isDisputed_1 rfl (lv_at hl 1 rfl) ?_
  have hA19 : ∀ q, A q → A q := fun q h => h
  have hB19 : ∀ q : Nat, s.heap.size ≤ q → A q := hA
  refine rh_call2 (vx_runV (As := [.int (nI i0)]) (rest := []) ⟨hx, hb, hml, hown, hts⟩ (ct_X4_dispute l hlf hD hwf (nI i0)) (cwV 1 hts gL_isDisputed_X4_dispute rfl rfl rfl (by decide +kernel) ⟨by decide, by decide⟩) (rh_preV2 hE hS hA19 hB19 (hW.at 0 0 Nat.zero_lt_one) rfl hW) rfl rfl hl.1 rfl (lv_room (Nat.le_of_ble_eq_true rfl)) dL_isDisputed_2 ⟨by decide, by decide⟩) hS hA19 (fun E ce q9 H locs hX9 hz9 hk9 hS g1 g2 g3 => ?_) (fun o H locs hN9 hz9 hk9 hS => ?_)
  · obtain ⟨hX9, hW⟩ := hX9
    rcases hX9 with ⟨rfl, hc9⟩ | ⟨rfl, hc9⟩
    · exact absurd hc9 (fun z => z (ix_nI hi0 (by have := hwf.2.1; omega)))
    · refine vx_catch (name := exn 3) hown [] ⟨0, 6, 7, 51⟩ [] (hex.trans rfl) (fun z hz => absurd hz (List.not_mem_nil)) (by decide) (by decide) (hts (.classLink RL 51 (exn 3)) (by decide +kernel)) (va_Nw.use rfl (hE.2.2.2.1 (exn 3) (by decide))) g1 g2 g3 ?_
      refine W.eq (g2 := F0 m 7 ls [.ref q9]) rfl ?_
      refine lv_astore_n (lv' := [(2, .ref q9), (0, .ref (ad 0 0)), (1, .int (nI i0))]) hx hb dL_isDisputed_7 rfl hl (by decide) rfl (fun ls hl => ?_)
      refine lv_iconst (v := nI 0) hx hb dL_isDisputed_8 (by decide) ?_
      exact rh_zret hx hb hr hlocks rfl (Or.inr (⟨hc9, rfl, hW⟩)) hS (by decide) (by decide) dL_isDisputed_9
  · obtain ⟨i9, hc0, hc1, hc2, hc3, rfl, hW⟩ := hN9
    refine W.eq (g2 := F0 m 5 ls []) rfl ?_
    refine lv_iconst (v := nI 1) hx hb dL_isDisputed_5 (by decide) ?_
    exact rh_zret hx hb hr hlocks rfl (Or.inl ⟨i9, hc0, hc1, hc2, hc3, rfl, hW⟩) hS (by decide) (by decide) dL_isDisputed_6
set_option maxHeartbeats 4000000 in
set_option maxRecDepth 100000 in
theorem hl_isAnswered (l : Launch) (hlf : l.stackTraces = false) {G : va_G} {ca : Nat → ClassId} {A : Nat → Prop} {ad : Nat → Nat → Nat} {nf nc : Nat} {r : rh_R} {v : rh_V} (hD : rh_D A ad (fun k i => i < rh_n nf nc k)) (hwf : rh_wf nf nc r v) (i0 b0 : Nat) (hi0 : i0 < nc) : vx_Met l yL_isAnswered wsL_isAnswered ({ frames := 9, cells := 5, slots := 40, locals := 270 } : Room) (rh_Pl G ca A [.ref (ad 0 0), .int (nI i0), .int (nI b0)] (fun H => rh_W G ca ad nf nc r v H)) (rh_Q A (fun o H => (∃ i9 : Nat, i9 < nc ∧ (nI i0) = nI i9 ∧ v 9 i9 3 = 2 ∧ o = some (.int 1) ∧ rh_W G ca ad nf nc r (wr v 9 i9 3 (if (nI b0) = 0 then 4 else 3)) H) ∨ ((∃ i : Nat, i < nc ∧ (nI i0) = nI i ∧ ¬ v 9 i 3 = 2) ∧ o = some (.int 0) ∧ rh_W G ca ad nf nc r v H))) (rh_XC A rh_no) 5 40 A := by
  refine rh_enterl (cc := cL_isAnswered) (maxL := 4) (ret := (some .boolean)) (hh := [(0, 7, 8, 51)]) (by decide) rfl (Nat.le_of_ble_eq_true rfl) ?_
  intro p e s m below meth c ls hx hb hr hml hown hts hlocks hex hin hE hnc9 hA hW hl
  have hS : va_S A s.heap s.heap [] := va_S.rf
  have hl : lv_has ls 4 [(0, .ref (ad 0 0)), (1, .int (nI i0)), (2, .int (nI b0))] := hl
  refine lv_aload_n hx hb dL_isAnswered_0 rfl (lv_at hl 0 rfl) ?_
  refine lv_iload_n hx hb dL_isAnswered_1 rfl (lv_at hl 1 rfl) ?_
  refine lv_iload_n hx hb dL_isAnswered_2 rfl (lv_at hl 2 rfl) ?_
  have hA19 : ∀ q, A q → A q := fun q h => h
  have hB19 : ∀ q : Nat, s.heap.size ≤ q → A q := hA
  refine rh_call2 (vx_runV (As := [.int (nI i0), .int (nI b0)]) (rest := []) ⟨hx, hb, hml, hown, hts⟩ (ct_X4_answer l hlf hD hwf (nI i0) (nI b0)) (cwV 2 hts gL_isAnswered_X4_answer rfl rfl rfl (by decide +kernel) ⟨by decide, by decide⟩) (rh_preV2 hE hS hA19 hB19 (hW.at 0 0 Nat.zero_lt_one) rfl hW) rfl rfl hl.1 rfl (lv_room (Nat.le_of_ble_eq_true rfl)) dL_isAnswered_3 ⟨by decide, by decide⟩) hS hA19 (fun E ce q9 H locs hX9 hz9 hk9 hS g1 g2 g3 => ?_) (fun o H locs hN9 hz9 hk9 hS => ?_)
  · obtain ⟨hX9, hW⟩ := hX9
    rcases hX9 with ⟨rfl, hc9⟩ | ⟨rfl, hc9⟩
    · exact absurd hc9 (fun z => z (ix_nI hi0 (by have := hwf.2.1; omega)))
    · refine vx_catch (name := exn 3) hown [] ⟨0, 7, 8, 51⟩ [] (hex.trans rfl) (fun z hz => absurd hz (List.not_mem_nil)) (by decide) (by decide) (hts (.classLink RL 51 (exn 3)) (by decide +kernel)) (va_Nw.use rfl (hE.2.2.2.1 (exn 3) (by decide))) g1 g2 g3 ?_
      refine W.eq (g2 := F0 m 8 ls [.ref q9]) rfl ?_
      refine lv_astore_n (lv' := [(3, .ref q9), (0, .ref (ad 0 0)), (1, .int (nI i0)), (2, .int (nI b0))]) hx hb dL_isAnswered_8 rfl hl (by decide) rfl (fun ls hl => ?_)
      refine lv_iconst (v := nI 0) hx hb dL_isAnswered_9 (by decide) ?_
      exact rh_zret hx hb hr hlocks rfl (Or.inr (⟨hc9, rfl, hW⟩)) hS (by decide) (by decide) dL_isAnswered_10
  · obtain ⟨i9, hc0, hc1, hc2, rfl, hW⟩ := hN9
    refine W.eq (g2 := F0 m 6 ls []) rfl ?_
    refine lv_iconst (v := nI 1) hx hb dL_isAnswered_6 (by decide) ?_
    exact rh_zret hx hb hr hlocks rfl (Or.inl ⟨i9, hc0, hc1, hc2, rfl, hW⟩) hS (by decide) (by decide) dL_isAnswered_7
set_option maxHeartbeats 4000000 in
set_option maxRecDepth 100000 in
theorem hl_short1 (l : Launch) (hlf : l.stackTraces = false) {G : va_G} {ca : Nat → ClassId} {A : Nat → Prop} {ad : Nat → Nat → Nat} {nf nc : Nat} {r : rh_R} {v : rh_V} (hD : rh_D A ad (fun k i => i < rh_n nf nc k)) (hwf : rh_wf nf nc r v) (h0 k0 y0 : Nat) (hh0 : h0 < 4) (hk0 : k0 < 4) (hne0 : h0 ≠ k0) (hy0 : y0 ≤ 1) : vx_Met l yL_short1 wsL_short1 ({ frames := 9, cells := 5, slots := 40, locals := 270 } : Room) (rh_Pl G ca A [.ref (ad 0 0), .int (nI h0), .int (nI k0), .int (nI y0)] (fun H => rh_W G ca ad nf nc r v H)) (rh_Q A (fun o H => (∃ h9 k9 : Nat, h9 < 4 ∧ k9 < 4 ∧ h9 ≠ k9 ∧ (nI h0) = nI h9 ∧ (nI k0) = nI k9 ∧ rng (nI y0) 0 1 ∧ (nI y0) < v 0 0 6 / 12 ∧ o = some (.long (if ((v 6 (h9 * 4 + k9) 2).toInt64 - c_sum r v (h9 * 4 + k9) ((nI y0) * 12) ((nI y0) * 12 + 12 - 1) nc) < 0 then 0 else ((v 6 (h9 * 4 + k9) 2).toInt64 - c_sum r v (h9 * 4 + k9) ((nI y0) * 12) ((nI y0) * 12 + 12 - 1) nc))) ∧ rh_W G ca ad nf nc r v H) ∨ ((ix (nI h0) 4 ∧ ix (nI k0) 4 ∧ ¬ (nI h0) = (nI k0) ∧ rng (nI y0) 0 1 ∧ ¬ (nI y0) < v 0 0 6 / 12) ∧ o = some (.long (-13)) ∧ rh_W G ca ad nf nc r v H))) (rh_XC A rh_no) 5 40 A := by
  refine rh_enterl (cc := cL_short1) (maxL := 5) (ret := (some .long)) (hh := [(0, 7, 8, 51)]) (by decide) rfl (Nat.le_of_ble_eq_true rfl) ?_
  intro p e s m below meth c ls hx hb hr hml hown hts hlocks hex hin hE hnc9 hA hW hl
  have hS : va_S A s.heap s.heap [] := va_S.rf
  have hl : lv_has ls 5 [(0, .ref (ad 0 0)), (1, .int (nI h0)), (2, .int (nI k0)), (3, .int (nI y0))] := hl
  refine lv_aload_n hx hb dL_short1_0 rfl (lv_at hl 0 rfl) ?_
  refine lv_iload_n hx hb dL_short1_1 rfl (lv_at hl 1 rfl) ?_
  refine lv_iload_n hx hb dL_short1_2 rfl (lv_at hl 2 rfl) ?_
  refine lv_iload_n hx hb dL_short1_3 rfl (lv_at hl 3 rfl) ?_
  have hA19 : ∀ q, A q → A q := fun q h => h
  have hB19 : ∀ q : Nat, s.heap.size ≤ q → A q := hA
  refine rh_call2 (vx_runV (As := [.int (nI h0), .int (nI k0), .int (nI y0)]) (rest := []) ⟨hx, hb, hml, hown, hts⟩ (ct_X4_shortfall l hlf hD hwf (nI h0) (nI k0) (nI y0)) (cwV 3 hts gL_short1_X4_shortfall rfl rfl rfl (by decide +kernel) ⟨by decide, by decide⟩) (rh_preV2 hE hS hA19 hB19 (hW.at 0 0 Nat.zero_lt_one) rfl hW) rfl rfl hl.1 rfl (lv_room (Nat.le_of_ble_eq_true rfl)) dL_short1_4 ⟨by decide, by decide⟩) hS hA19 (fun E ce q9 H locs hX9 hz9 hk9 hS g1 g2 g3 => ?_) (fun o H locs hN9 hz9 hk9 hS => ?_)
  · obtain ⟨hX9, hW⟩ := hX9
    rcases hX9 with ⟨rfl, hc9⟩ | ⟨rfl, hc9⟩ | ⟨rfl, hc9⟩
    · exact absurd hc9 (fun z => z ⟨ix_nI hh0 (by decide), ix_nI hk0 (by decide)⟩)
    · exact absurd hc9 (fun z => z.2.2.elim (fun y => hne0 (m_inj (by omega) (by omega) y)) (fun y => y (u_rng01 hy0)))
    · refine vx_catch (name := exn 3) hown [] ⟨0, 7, 8, 51⟩ [] (hex.trans rfl) (fun z hz => absurd hz (List.not_mem_nil)) (by decide) (by decide) (hts (.classLink RL 51 (exn 3)) (by decide +kernel)) (va_Nw.use rfl (hE.2.2.2.1 (exn 3) (by decide))) g1 g2 g3 ?_
      refine W.eq (g2 := F0 m 8 ls [.ref q9]) rfl ?_
      refine lv_astore (lv' := [(4, .ref q9), (0, .ref (ad 0 0)), (1, .int (nI h0)), (2, .int (nI k0)), (3, .int (nI y0))]) hx hb dL_short1_8 hl (by decide) rfl (fun ls hl => ?_)
      refine lv_ldc2 (v := -13) hx hb hown (hts (.constantLong RL 65 (-13)) (by decide +kernel)) dL_short1_10 ?_
      exact rh_lret hx hb hr hlocks (Or.inr (⟨hc9, rfl, hW⟩)) hS (by decide) (by decide) dL_short1_13
  · obtain ⟨h9, k9, hc0, hc1, hc2, hc3, hc4, hc5, hc6, rfl, hW⟩ := hN9
    refine W.eq (g2 := F0 m 7 ls [.long (if ((v 6 (h9 * 4 + k9) 2).toInt64 - c_sum r v (h9 * 4 + k9) ((nI y0) * 12) ((nI y0) * 12 + 12 - 1) nc) < 0 then 0 else ((v 6 (h9 * 4 + k9) 2).toInt64 - c_sum r v (h9 * 4 + k9) ((nI y0) * 12) ((nI y0) * 12 + 12 - 1) nc))]) rfl ?_
    exact rh_lret hx hb hr hlocks (Or.inl ⟨h9, k9, hc0, hc1, hc2, hc3, hc4, hc5, hc6, rfl, hW⟩) hS (by decide) (by decide) dL_short1_7
