/-! ===== files and calls that are made ===== -/
def ad2 (ad : Nat → Nat → Nat) (k i q : Nat) : Nat → Nat → Nat := va_up ad k (va_up (ad k) i q)
def c_file (v : rh_V) (n : Nat) (t : Int32) : rh_V := wr (wr (wr (wr v 8 n 1 t) 8 n 2 0) 8 n 3 0) 8 n 4 (-1)
def c_call (v : rh_V) (n : Nat) (se to : Int32) : rh_V := wr (wr (wr (wr (wr (wr v 9 n 1 se) 9 n 2 to) 9 n 3 0) 9 n 4 (-1)) 9 n 5 (-1)) 9 n 6 0
theorem ad2_self (ad : Nat → Nat → Nat) (k i q : Nat) : ad2 ad k i q k i = q := by simp [ad2, va_up]
theorem ad2_ne (ad : Nat → Nat → Nat) (k i q : Nat) {a b : Nat} (h : ¬ (a = k ∧ b = i)) : ad2 ad k i q a b = ad a b := by
  by_cases h1 : a = k
  · subst h1
    have h2 : b ≠ i := fun z => h ⟨rfl, z⟩
    simp [ad2, va_up, h2]
  · simp [ad2, va_up, h1]
theorem c_file_ne (v : rh_V) (n : Nat) (t : Int32) {a b : Nat} (h : ¬ (a = 8 ∧ b = n)) : c_file v n t a b = v a b := by
  unfold c_file
  rw [wr_other _ _ _ _ _ h, wr_other _ _ _ _ _ h, wr_other _ _ _ _ _ h, wr_other _ _ _ _ _ h]
theorem c_call_ne (v : rh_V) (n : Nat) (se to : Int32) {a b : Nat} (h : ¬ (a = 9 ∧ b = n)) : c_call v n se to a b = v a b := by
  unfold c_call
  rw [wr_other _ _ _ _ _ h, wr_other _ _ _ _ _ h, wr_other _ _ _ _ _ h, wr_other _ _ _ _ _ h, wr_other _ _ _ _ _ h, wr_other _ _ _ _ _ h]
theorem rh_D.grow {A : Nat → Prop} {ad : Nat → Nat → Nat} {ok ok' : Nat → Nat → Prop} {k0 i0 q sz : Nat} (h : rh_D A ad ok) (hok : ∀ k i, ok' k i → ok k i ∨ (k = k0 ∧ i = i0)) (hn : ¬ ok k0 i0) (hlt : ∀ k i, ok k i → ad k i < sz) (hq : q = sz) (hA : A q) : rh_D A (ad2 ad k0 i0 q) ok' := by
  have key : ∀ k i, ok' k i → (ok k i ∧ ¬ (k = k0 ∧ i = i0)) ∨ (k = k0 ∧ i = i0) := by
    intro k i hk
    by_cases he : k = k0 ∧ i = i0
    · exact Or.inr he
    · exact Or.inl ⟨(hok k i hk).resolve_right he, he⟩
  refine ⟨fun k i k' i' h1 h2 e => ?_, fun k i h1 => ?_⟩
  · rcases key k i h1 with ⟨o1, n1⟩ | ⟨rfl, rfl⟩ <;> rcases key k' i' h2 with ⟨o2, n2⟩ | ⟨rfl, rfl⟩
    · rw [ad2_ne _ _ _ _ n1, ad2_ne _ _ _ _ n2] at e
      exact h.1 k i k' i' o1 o2 e
    · rw [ad2_ne _ _ _ _ n1, ad2_self] at e
      have := hlt k i o1
      omega
    · rw [ad2_ne _ _ _ _ n2, ad2_self] at e
      have := hlt k' i' o2
      omega
    · exact ⟨rfl, rfl⟩
  · rcases key k i h1 with ⟨o1, n1⟩ | ⟨rfl, rfl⟩
    · rw [ad2_ne _ _ _ _ n1]; exact h.2 k i o1
    · rw [ad2_self]; exact hA
theorem rh_n_file {nf nc k i : Nat} (h : i < rh_n (nf + 1) nc k) : i < rh_n nf nc k ∨ (k = 8 ∧ i = nf) := by
  by_cases hk : k = 8
  · subst hk
    have h' : i < nf + 1 := h
    by_cases hi : i = nf
    · exact Or.inr ⟨rfl, hi⟩
    · exact Or.inl (show i < nf by omega)
  · refine Or.inl ?_
    unfold rh_n at h ⊢
    split at h <;> first | exact h | (exact absurd rfl hk) | omega
theorem rh_n_call {nf nc k i : Nat} (h : i < rh_n nf (nc + 1) k) : i < rh_n nf nc k ∨ (k = 9 ∧ i = nc) := by
  by_cases hk : k = 9
  · subst hk
    have h' : i < nc + 1 := h
    by_cases hi : i = nc
    · exact Or.inr ⟨rfl, hi⟩
    · exact Or.inl (show i < nc by omega)
  · refine Or.inl ?_
    unfold rh_n at h ⊢
    split at h <;> first | exact h | (exact absurd rfl hk) | omega
theorem rh_c_file {ca : Nat → ClassId} {ad : Nat → Nat → Nat} {nf nc : Nat} {r : rh_R} {v : rh_V} {q pr : Nat} {t : Int32} (hr9 : ∀ i, i < nc → r 9 i < nf) {k i : Nat} (hi : i < rh_n nf nc k) (h3 : k ≠ 3) (h8 : ¬ (k = 8 ∧ i = nf)) :
    rh_c ca (ad2 ad 8 nf q) (nf + 1) nc (ad2 r 8 nf pr) (c_file v nf t k i) k i = rh_c ca ad nf nc r (v k i) k i := by
  rw [c_file_ne v nf t h8]
  match k, hi, h3, h8 with
  | 0, _, _, _ => rfl
  | 1, _, _, _ => rfl
  | 2, _, _, _ => rfl
  | 3, _, h, _ => exact absurd rfl h
  | 4, _, _, _ => rfl
  | 5, _, _, _ => rfl
  | 6, _, _, _ => rfl
  | 7, _, _, _ => rfl
  | 8, _, _, h =>
    show Sum.inr (1, [Value.ref (ad2 ad 8 nf q 6 (ad2 r 8 nf pr 8 i)), _, _, _, _]) = _
    rw [ad2_ne r 8 nf pr h, ad2_ne ad 8 nf q (by omega)]
    rfl
  | 9, hi, _, _ =>
    have hi' : i < nc := hi
    have := hr9 i hi'
    show Sum.inr (0, [Value.ref (ad2 ad 8 nf q 8 (ad2 r 8 nf pr 9 i)), _, _, _, _, _, _]) = _
    rw [ad2_ne r 8 nf pr (by omega), ad2_ne ad 8 nf q (by omega)]
    rfl
  | k + 10, hi, _, _ => exact absurd (show i < 0 from hi) (Nat.not_lt_zero _)
theorem rh_c_call {ca : Nat → ClassId} {ad : Nat → Nat → Nat} {nf nc : Nat} {r : rh_R} {v : rh_V} {q f : Nat} {se to : Int32} {k i : Nat} (hi : i < rh_n nf nc k) (h3 : k ≠ 4) (h8 : ¬ (k = 9 ∧ i = nc)) :
    rh_c ca (ad2 ad 9 nc q) nf (nc + 1) (ad2 r 9 nc f) (c_call v nc se to k i) k i = rh_c ca ad nf nc r (v k i) k i := by
  rw [c_call_ne v nc se to h8]
  match k, hi, h3, h8 with
  | 0, _, _, _ => rfl
  | 1, _, _, _ => rfl
  | 2, _, _, _ => rfl
  | 3, _, _, _ => rfl
  | 4, _, h, _ => exact absurd rfl h
  | 5, _, _, _ => rfl
  | 6, _, _, _ => rfl
  | 7, _, _, _ => rfl
  | 8, _, _, _ => rfl
  | 9, _, _, h =>
    show Sum.inr (0, [Value.ref (ad2 ad 9 nc q 8 (ad2 r 9 nc f 9 i)), _, _, _, _, _, _]) = _
    rw [ad2_ne r 9 nc f h, ad2_ne ad 9 nc q (by omega)]
    rfl
  | k + 10, hi, _, _ => exact absurd (show i < 0 from hi) (Nat.not_lt_zero _)
theorem rh_W.file {G : va_G} {ca : Nat → ClassId} {A : Nat → Prop} {ad : Nat → Nat → Nat} {nf nc : Nat} {r : rh_R} {v : rh_V} {H H3 : Heap} (h : rh_W G ca ad nf nc r v H) (hD : rh_D A ad (fun k i => i < rh_n nf nc k)) (hr9 : ∀ i, i < nc → r 9 i < nf) {q pr : Nat} {t : Int32} (hq : q = H.size) (hqA : A q)
    (hf : va_at G vwCl (q, .inr (1, [.ref (ad 6 pr), .int t, .int 0, .int 0, .int (-1)])) H3) (hrow : va_at G vwCl (ad 3 0, .inl (ca 5, 30, .inr (.inr (.inr (.inr (va_up (fun j => if j < nf then some (ad 8 j) else none) nf (some q))))))) H3) (ho : ∀ x : Nat, x < H.size → x ≠ ad 3 0 → H3[x]? = H[x]?) :
    rh_W G ca (ad2 ad 8 nf q) (nf + 1) nc (ad2 r 8 nf pr) (c_file v nf t) H3 ∧ rh_D A (ad2 ad 8 nf q) (fun k i => i < rh_n (nf + 1) nc k) := by
  refine ⟨fun k i e he => ?_, hD.grow (sz := H.size) (fun k i hk => rh_n_file hk) (fun z => Nat.lt_irrefl nf z) (fun k i hk => (h.at k i hk).lt) hq hqA⟩
  unfold rh_ce at he
  by_cases hi : i < rh_n (nf + 1) nc k
  · rw [if_pos hi] at he
    have he := Option.some.inj he
    by_cases h8 : k = 8 ∧ i = nf
    · obtain ⟨rfl, rfl⟩ := h8
      rw [← he, ad2_self]
      have e1 : rh_c ca (ad2 ad 8 i q) (i + 1) nc (ad2 r 8 i pr) (c_file v i t 8 i) 8 i = .inr (1, [.ref (ad 6 pr), .int t, .int 0, .int 0, .int (-1)]) := by
        show Sum.inr (1, [Value.ref (ad2 ad 8 i q 6 (ad2 r 8 i pr 8 i)), .int (c_file v i t 8 i 1), .int (c_file v i t 8 i 2), .int (c_file v i t 8 i 3), .int (c_file v i t 8 i 4)]) = _
        rw [ad2_self, ad2_ne ad 8 i q (by omega)]
        simp [c_file, wr_at]
      rw [e1]; exact hf
    · have hi' := (rh_n_file hi).resolve_right h8
      rw [← he, ad2_ne ad 8 nf q h8]
      by_cases h3 : k = 3
      · subst h3
        have hi0 : i = 0 := Nat.lt_one_iff.mp (show i < 1 from hi')
        subst hi0
        have e1 : rh_c ca (ad2 ad 8 nf q) (nf + 1) nc (ad2 r 8 nf pr) (c_file v nf t 3 0) 3 0 = .inl (ca 5, 30, .inr (.inr (.inr (.inr (va_up (fun j => if j < nf then some (ad 8 j) else none) nf (some q)))))) := by
          have hfun : (fun j => if j < nf + 1 then some (ad2 ad 8 nf q 8 j) else none) = va_up (fun j => if j < nf then some (ad 8 j) else none) nf (some q) := by
            funext j
            by_cases hj : j = nf
            · subst hj
              rw [ad2_self, va_up_self, if_pos (Nat.lt_succ_self _)]
            · rw [va_up_ne _ _ hj, ad2_ne ad 8 nf q (by omega)]
              by_cases hjn : j < nf
              · rw [if_pos hjn, if_pos (by omega)]
              · rw [if_neg hjn, if_neg (by omega)]
          show (Sum.inl (ca 5, 30, .inr (.inr (.inr (.inr (fun j => if j < nf + 1 then some (ad2 ad 8 nf q 8 j) else none))))) : va_E) = _
          rw [hfun]
        rw [e1]; exact hrow
      · rw [rh_c_file hr9 hi' h3 h8]
        have hold := h.at k i hi'
        exact hold.kept (ho _ hold.lt (fun z => h3 (hD.1 k i 3 0 hi' Nat.zero_lt_one z).1))
  · rw [if_neg hi] at he; cases he
theorem rh_W.call {G : va_G} {ca : Nat → ClassId} {A : Nat → Prop} {ad : Nat → Nat → Nat} {nf nc : Nat} {r : rh_R} {v : rh_V} {H H3 : Heap} (h : rh_W G ca ad nf nc r v H) (hD : rh_D A ad (fun k i => i < rh_n nf nc k)) {q f : Nat} {se to : Int32} (hq : q = H.size) (hqA : A q)
    (hf : va_at G vwCl (q, .inr (0, [.ref (ad 8 f), .int se, .int to, .int 0, .int (-1), .int (-1), .int 0])) H3) (hrow : va_at G vwCl (ad 4 0, .inl (ca 6, 60, .inr (.inr (.inr (.inr (va_up (fun j => if j < nc then some (ad 9 j) else none) nc (some q))))))) H3) (ho : ∀ x : Nat, x < H.size → x ≠ ad 4 0 → H3[x]? = H[x]?) :
    rh_W G ca (ad2 ad 9 nc q) nf (nc + 1) (ad2 r 9 nc f) (c_call v nc se to) H3 ∧ rh_D A (ad2 ad 9 nc q) (fun k i => i < rh_n nf (nc + 1) k) := by
  refine ⟨fun k i e he => ?_, hD.grow (sz := H.size) (fun k i hk => rh_n_call hk) (fun z => Nat.lt_irrefl nc z) (fun k i hk => (h.at k i hk).lt) hq hqA⟩
  unfold rh_ce at he
  by_cases hi : i < rh_n nf (nc + 1) k
  · rw [if_pos hi] at he
    have he := Option.some.inj he
    by_cases h8 : k = 9 ∧ i = nc
    · obtain ⟨rfl, rfl⟩ := h8
      rw [← he, ad2_self]
      have e1 : rh_c ca (ad2 ad 9 i q) nf (i + 1) (ad2 r 9 i f) (c_call v i se to 9 i) 9 i = .inr (0, [.ref (ad 8 f), .int se, .int to, .int 0, .int (-1), .int (-1), .int 0]) := by
        show Sum.inr (0, [Value.ref (ad2 ad 9 i q 8 (ad2 r 9 i f 9 i)), .int (c_call v i se to 9 i 1), .int (c_call v i se to 9 i 2), .int (c_call v i se to 9 i 3), .int (c_call v i se to 9 i 4), .int (c_call v i se to 9 i 5), .int (c_call v i se to 9 i 6)]) = _
        rw [ad2_self, ad2_ne ad 9 i q (by omega)]
        simp [c_call, wr_at]
      rw [e1]; exact hf
    · have hi' := (rh_n_call hi).resolve_right h8
      rw [← he, ad2_ne ad 9 nc q h8]
      by_cases h3 : k = 4
      · subst h3
        have hi0 : i = 0 := Nat.lt_one_iff.mp (show i < 1 from hi')
        subst hi0
        have e1 : rh_c ca (ad2 ad 9 nc q) nf (nc + 1) (ad2 r 9 nc f) (c_call v nc se to 4 0) 4 0 = .inl (ca 6, 60, .inr (.inr (.inr (.inr (va_up (fun j => if j < nc then some (ad 9 j) else none) nc (some q)))))) := by
          have hfun : (fun j => if j < nc + 1 then some (ad2 ad 9 nc q 9 j) else none) = va_up (fun j => if j < nc then some (ad 9 j) else none) nc (some q) := by
            funext j
            by_cases hj : j = nc
            · subst hj
              rw [ad2_self, va_up_self, if_pos (Nat.lt_succ_self _)]
            · rw [va_up_ne _ _ hj, ad2_ne ad 9 nc q (by omega)]
              by_cases hjn : j < nc
              · rw [if_pos hjn, if_pos (by omega)]
              · rw [if_neg hjn, if_neg (by omega)]
          show (Sum.inl (ca 6, 60, .inr (.inr (.inr (.inr (fun j => if j < nc + 1 then some (ad2 ad 9 nc q 9 j) else none))))) : va_E) = _
          rw [hfun]
        rw [e1]; exact hrow
      · rw [rh_c_call hi' h3 h8]
        have hold := h.at k i hi'
        exact hold.kept (ho _ hold.lt (fun z => h3 (hD.1 k i 4 0 hi' Nat.zero_lt_one z).1))
  · rw [if_neg hi] at he; cases he
set_option maxHeartbeats 4000000 in
set_option maxRecDepth 100000 in
/-- a file is begun -/
theorem ct_X4_begin (l : Launch) (hlf : l.stackTraces = false) {G : va_G} {ca : Nat → ClassId} {A : Nat → Prop} {ad : Nat → Nat → Nat} {nf nc : Nat} {r : rh_R} {v : rh_V} (hD : rh_D A ad (fun k i => i < rh_n nf nc k)) (hwf : rh_wf nf nc r v) (x y : Int32) : rh_M l yX4_begin wsX4_begin ({ frames := 8, cells := 5, slots := 40, locals := 240 } : Room) G ca A [.ref (ad 0 0), .int x, .int y] (rh_W G ca ad nf nc r v) (fun o H => (∃ h k : Nat, h < 4 ∧ k < 4 ∧ h ≠ k ∧ x = nI h ∧ y = nI k ∧ nf < 30 ∧ o = some (.int (nI nf)) ∧ ∃ q : Nat, rh_W G ca (ad2 ad 8 nf q) (nf + 1) nc (ad2 r 8 nf (h * 4 + k)) (wr (c_file v nf (v 0 0 6)) 0 0 3 (nI (nf + 1))) H ∧ rh_D A (ad2 ad 8 nf q) (fun k i => i < rh_n (nf + 1) nc k))) (fun E H => (E = exn 1 ∧ ¬ (ix x 4 ∧ ix y 4) ∨ E = exn 2 ∧ ix x 4 ∧ ix y 4 ∧ x = y ∨ E = exn 3 ∧ ix x 4 ∧ ix y 4 ∧ ¬ x = y ∧ 30 ≤ nf) ∧ rh_W G ca ad nf nc r v H) 5 40 := by
  obtain ⟨hnf, hnc, hr8, hr9, hfc, hcc, hst, ⟨tt, htt, hnow⟩, hai⟩ := id hwf
  refine rh_enter (cc := cX4_begin) (maxL := 5) (ret := (some .int)) (by decide) rfl (Nat.le_of_ble_eq_true rfl) ?_
  intro p e s m below meth c ls hx hb hr hml hown hts hlocks hex hin hE hA hW hl
  have hS : va_S A s.heap s.heap [] := va_S.rf
  have hl : lv_has ls 5 [(0, .ref (ad 0 0)), (1, .int x), (2, .int y)] := hl
  refine lv_aload_n hx hb dX4_begin_0 rfl (lv_at hl 0 rfl) ?_
  refine lv_iload_n hx hb dX4_begin_1 rfl (lv_at hl 1 rfl) ?_
  refine lv_iload_n hx hb dX4_begin_2 rfl (lv_at hl 2 rfl) ?_
  refine rh_call (vx_runV (As := [.int x, .int y]) (rest := []) ⟨hx, hb, hml, hown, hts⟩ (ct_X4_pairAt l hlf hD x y) (cwV 2 hts gX4_begin_X4_pairAt rfl rfl rfl (by decide +kernel) ⟨by decide, by decide⟩) (rh_preV hE hS hA (hW.at 0 0 Nat.zero_lt_one) rfl hW) rfl rfl hl.1 rfl (lv_room (Nat.le_of_ble_eq_true rfl)) dX4_begin_3 ⟨by decide, by decide⟩) hS (fun E ce q9 H locs hX2 hS g1 g2 g3 => rh_out hex hlocks g1 g2 g3 ⟨(hX2.1.elim Or.inl (fun z => Or.inr (Or.inl z))), hX2.2⟩ hS (by decide) (by decide)) (fun o H locs hN1 hS => ?_)
  obtain ⟨⟨h, k, hh, hk, hne, hxh, hyk, rfl⟩, hW⟩ := hN1
  refine W.eq (g2 := F0 m 6 ls [.ref (ad 6 (h * 4 + k))]) rfl ?_
  refine lv_astore_n (lv' := [(3, .ref (ad 6 (h * 4 + k))), (0, .ref (ad 0 0)), (1, .int x), (2, .int y)]) hx hb dX4_begin_6 rfl hl (by decide) rfl (fun ls hl => ?_)
  refine lv_aload_n hx hb dX4_begin_7 rfl (lv_at hl 1 rfl) ?_
  refine rh_get (ci := 4) (C := RX4) (T := TX4) (N := 7) (v := .int (v 0 0 3)) hx hb hts (fun _ h => List.mem_cons_of_mem _ (List.mem_append_left _ (List.mem_append_left _ (List.mem_append_left _ (List.mem_append_left _ (List.mem_append_right _ (h))))))) hown hE (hW.at 0 0 Nat.zero_lt_one) rfl 3 (by decide) (hts (.fieldLink RX4 27 "RoamingHouse" "fileCount" "I") (by decide +kernel)) rfl dX4_begin_8 ?_
  refine lv_bipush (v := 30) hx hb dX4_begin_11 (by decide) ?_
  refine lv_icmp_lt (tgt := 26) hx hb dX4_begin_13 (by decide) (fun c3 => ?_) (fun c3 => ?_)
  · have hlt30 : nf < 30 := by
      rw [hfc] at c3
      exact (nI_ltI (b := 30) (by omega) (by decide)).mp c3
    refine lv_aload_n hx hb dX4_begin_26 rfl (lv_at hl 1 rfl) ?_
    refine rh_get (ci := 4) (C := RX4) (T := TX4) (N := 7) (v := .int (v 0 0 3)) hx hb hts (fun _ h => List.mem_cons_of_mem _ (List.mem_append_left _ (List.mem_append_left _ (List.mem_append_left _ (List.mem_append_left _ (List.mem_append_right _ (h))))))) hown hE (hW.at 0 0 Nat.zero_lt_one) rfl 3 (by decide) (hts (.fieldLink RX4 27 "RoamingHouse" "fileCount" "I") (by decide +kernel)) rfl dX4_begin_27 ?_
    refine lv_istore (lv' := [(4, .int (v 0 0 3)), (3, .ref (ad 6 (h * 4 + k))), (0, .ref (ad 0 0)), (1, .int x), (2, .int y)]) hx hb dX4_begin_30 hl (by decide) rfl (fun ls hl => ?_)
    refine lv_aload_n hx hb dX4_begin_32 rfl (lv_at hl 2 rfl) ?_
    refine rh_get (ci := 4) (C := RX4) (T := TX4) (N := 7) (v := .ref (ad 3 0)) hx hb hts (fun _ h => List.mem_cons_of_mem _ (List.mem_append_left _ (List.mem_append_left _ (List.mem_append_left _ (List.mem_append_left _ (List.mem_append_right _ (h))))))) hown hE (hW.at 0 0 Nat.zero_lt_one) rfl 2 (by decide) (hts (.fieldLink RX4 23 "RoamingHouse" "fileRows" "[LRoamingHouse$CallFile;") (by decide +kernel)) rfl dX4_begin_33 ?_
    refine lv_iload hx hb dX4_begin_36 (lv_at hl 0 rfl) ?_
    have hsz : s.heap.size ≤ Array.size _ := hS.1
    refine rh_new0 (ci := 1) (C := RX1) (T := TX1) (N := 5) hx hb hts (fun _ h => List.mem_cons_of_mem _ (List.mem_append_left _ (List.mem_append_left _ (List.mem_append_left _ (List.mem_append_right _ (h)))))) tyX1 tyX1_ok hown (hts (.classLink RX4 21 RX1) (by decide +kernel)) (hts (.instantiable RX1 5) (by decide +kernel)) (hts (.initialized RX1) (by decide +kernel)) hE hS rfl [.null, .int 0, .int 0, .int 0, .int 0] (fun j hj => by rcases (show j = 0 ∨ j = 1 ∨ j = 2 ∨ j = 3 ∨ j = 4 by omega) with rfl | rfl | rfl | rfl | rfl <;> rfl) (by decide) (by decide) dX4_begin_38 (fun q H1 hq hat hz ho1 hS => ?_)
    have hqA : A q := hA q (by rw [hq]; exact hsz)
    have hW1 := hW.grow ho1
    have hA1 : ∀ z : Nat, (z = q ∨ H1.size ≤ z) → A z := fun z hz9 => hz9.elim (fun e => by rw [e]; exact hqA) (fun e => hA z (Nat.le_trans hS.1 e))
    refine lv_dup hx hb dX4_begin_41 rfl ?_
    refine lv_aload_n hx hb dX4_begin_42 rfl (lv_at hl 1 rfl) ?_
    refine lv_aload_n hx hb dX4_begin_43 rfl (lv_at hl 2 rfl) ?_
    refine rh_get (ci := 4) (C := RX4) (T := TX4) (N := 7) (v := .int (v 0 0 6)) hx hb hts (fun _ h => List.mem_cons_of_mem _ (List.mem_append_left _ (List.mem_append_left _ (List.mem_append_left _ (List.mem_append_left _ (List.mem_append_right _ (h))))))) hown hE (hW1.at 0 0 Nat.zero_lt_one) rfl 6 (by decide) (hts (.fieldLink RX4 40 "RoamingHouse" "now" "I") (by decide +kernel)) rfl dX4_begin_44 ?_
    refine rh_callm2 (A1 := fun z => z = q ∨ H1.size ≤ z) (va_runI (As := [.ref (ad 6 (h * 4 + k)), .int (v 0 0 6)]) (rest := [.ref q, .int (v 0 0 3), .ref (ad 3 0)]) ⟨hx, hb, hml, hown, hts⟩ (ci_X1_init l q (Or.inl rfl) (ad 6 (h * 4 + k)) (v 0 0 6)) (cwI 2 hts gX4_begin_X1_init rfl rfl rfl (hts (.initialized RX1) (by decide +kernel)) (hts (.methodLink RX4 80 yX1_init) (by decide +kernel)) (hts (.instanceMethod yX1_init) (by decide +kernel)) rfl (by decide +kernel) ⟨by decide, by decide⟩) (rh_pre2 hE hS hA1 (fun z hz9 => Or.inr hz9) hat) rfl rfl hl.1 rfl (lv_room (Nat.le_of_ble_eq_true rfl)) dX4_begin_47 ⟨by decide, by decide⟩) hS hA1 (fun o H2 locs hN hz2 ho2 hS => ?_)
    obtain ⟨rfl, hat2⟩ := hN
    refine W.eq (g2 := F0 m 50 ls [.ref q, .int (v 0 0 3), .ref (ad 3 0)]) rfl ?_
    have ho2x : ∀ x : Nat, x < Array.size _ → H2[x]? = _ := fun x hx9 => (ho2 x (by rw [hz]; omega) (fun z => z.elim (fun z => by omega) (fun z => by omega))).trans (ho1 x hx9)
    have hW2 := hW.grow ho2x
    refine rh_aast0 hx hb hE 5 (r := (RX1, TX1, 5)) (hW2.at 3 0 Nat.zero_lt_one) rfl hat2 rfl hS (hD.2 3 0 Nat.zero_lt_one) nf (by omega) (by decide) hfc dX4_begin_50 (fun H3 locs hrow hz3 ho3 hS => ?_)
    have hnq : q ≠ ad 3 0 := fun z => by have := (hW.at 3 0 Nat.zero_lt_one).lt; omega
    obtain ⟨hW, hD⟩ := rh_W.file hW hD hr9 hq hqA (hat2.kept (ho3 q hnq)) hrow (fun x h1 h2 => (ho3 x h2).trans (ho2x x h1))
    refine lv_aload_n hx hb dX4_begin_51 rfl (lv_at hl 2 rfl) ?_
    refine lv_dup hx hb dX4_begin_52 rfl ?_
    refine rh_get (ci := 4) (C := RX4) (T := TX4) (N := 7) (v := .int (v 0 0 3)) hx hb hts (fun _ h => List.mem_cons_of_mem _ (List.mem_append_left _ (List.mem_append_left _ (List.mem_append_left _ (List.mem_append_left _ (List.mem_append_right _ (h))))))) hown hE (hW.at 0 0 Nat.zero_lt_one) rfl 3 (by decide) (hts (.fieldLink RX4 27 "RoamingHouse" "fileCount" "I") (by decide +kernel)) rfl dX4_begin_53 ?_
    refine lv_iconst (v := 1) hx hb dX4_begin_56 (by decide) ?_
    refine lv_iadd hx hb dX4_begin_57 ?_
    refine rh_put (ci := 4) (C := RX4) (T := TX4) (N := 7) (x := (v 0 0 3 + 1)) hx hb hts (fun _ h => List.mem_cons_of_mem _ (List.mem_append_left _ (List.mem_append_left _ (List.mem_append_left _ (List.mem_append_left _ (List.mem_append_right _ (h))))))) tyX4 tyX4_ok nmX4 hown hE hW hD hS rfl 0 0 Nat.zero_lt_one rfl 3 (by decide) (hts (.fieldLink RX4 27 "RoamingHouse" "fileCount" "I") (by decide +kernel)) rfl rfl rfl (Nat.le_of_ble_eq_true rfl) rfl dX4_begin_58 (fun H locs hW hS => ?_)
    refine lv_iload hx hb dX4_begin_61 (lv_at hl 0 rfl) ?_
    rw [hfc] at hW ⊢
    rw [nI_1] at hW
    exact rh_iret hx hb hr hlocks ⟨h, k, hh, hk, hne, hxh, hyk, hlt30, rfl, q, hW, hD⟩ hS (by decide) (by decide) dX4_begin_63
  · have hfull : 30 ≤ nf := by
      rw [hfc] at c3
      exact (nI_leI (a := 30) (by decide) (by omega)).mp (nlt_le c3)
    exact rh_throw hx hb hlf "java/lang/IllegalStateException" "there are 30 files" 73 75 77 (by decide) (by decide) (by decide +kernel) rh_t3b rh_t3g hown (hts (.classLink RX4 73 "java/lang/IllegalStateException") (by decide +kernel)) (hts (.initialized "java/lang/IllegalStateException") (by decide +kernel)) (fun w h => hts w (List.mem_cons_of_mem _ (List.mem_append_left _ (List.mem_append_left _ (List.mem_append_right _ (h)))))) hE hS (hl.1.trans hml.symm) dX4_begin_16 dX4_begin_19 dX4_begin_20 dX4_begin_22 dX4_begin_25 hex hlocks (by decide) (Nat.le_of_ble_eq_true rfl) (by decide) (by decide) (fun H1 _ hk9 => ⟨Or.inr (Or.inr ⟨rfl, ((ix_iff (by decide)).mpr ⟨h, hh, hxh⟩), ((ix_iff (by decide)).mpr ⟨k, hk, hyk⟩), fun z => hne (by rw [hxh, hyk] at z; exact (nI_eq (by omega) (by omega)).mp z), hfull⟩), hW.grow hk9⟩) (by decide) (by decide)
set_option maxHeartbeats 4000000 in
set_option maxRecDepth 100000 in
/-- a call is entered -/
theorem ct_X4_enter (l : Launch) (hlf : l.stackTraces = false) {G : va_G} {ca : Nat → ClassId} {A : Nat → Prop} {ad : Nat → Nat → Nat} {nf nc : Nat} {r : rh_R} {v : rh_V} (hD : rh_D A ad (fun k i => i < rh_n nf nc k)) (hwf : rh_wf nf nc r v) (x se to : Int32) : rh_M l yX4_enter wsX4_enter ({ frames := 8, cells := 5, slots := 40, locals := 240 } : Room) G ca A [.ref (ad 0 0), .int x, .int se, .int to] (rh_W G ca ad nf nc r v) (fun o H => (∃ i : Nat, i < nf ∧ x = nI i ∧ rng se 1 36000 ∧ rng to 0 50000000 ∧ v 8 i 2 = 0 ∧ nc < 60 ∧ o = some (.int (nI nc)) ∧ ∃ q : Nat, rh_W G ca (ad2 ad 9 nc q) nf (nc + 1) (ad2 r 9 nc i) (wr (wr (c_call v nc se to) 0 0 5 (nI (nc + 1))) 8 i 3 (v 8 i 3 + 1)) H ∧ rh_D A (ad2 ad 9 nc q) (fun k i => i < rh_n nf (nc + 1) k))) (fun E H => (E = exn 1 ∧ ¬ ix x nf ∨ E = exn 2 ∧ ix x nf ∧ ¬ (rng se 1 36000 ∧ rng to 0 50000000) ∨ E = exn 3 ∧ ∃ i : Nat, i < nf ∧ x = nI i ∧ rng se 1 36000 ∧ rng to 0 50000000 ∧ (¬ v 8 i 2 = 0 ∨ 60 ≤ nc)) ∧ rh_W G ca ad nf nc r v H) 5 40 := by
  obtain ⟨hnf, hnc, hr8, hr9, hfc, hcc, hst, ⟨tt, htt, hnow⟩, hai⟩ := id hwf
  refine rh_enter (cc := cX4_enter) (maxL := 6) (ret := (some .int)) (by decide) rfl (Nat.le_of_ble_eq_true rfl) ?_
  intro p e s m below meth c ls hx hb hr hml hown hts hlocks hex hin hE hA hW hl
  have hS : va_S A s.heap s.heap [] := va_S.rf
  have hl : lv_has ls 6 [(0, .ref (ad 0 0)), (1, .int x), (2, .int se), (3, .int to)] := hl
  refine lv_aload_n hx hb dX4_enter_0 rfl (lv_at hl 0 rfl) ?_
  refine lv_iload_n hx hb dX4_enter_1 rfl (lv_at hl 1 rfl) ?_
  refine rh_call (vx_runV (As := [.int x]) (rest := []) ⟨hx, hb, hml, hown, hts⟩ (ct_X4_fileAt l hlf hD hwf x) (cwV 1 hts gX4_enter_X4_fileAt rfl rfl rfl (by decide +kernel) ⟨by decide, by decide⟩) (rh_preV hE hS hA (hW.at 0 0 Nat.zero_lt_one) rfl hW) rfl rfl hl.1 rfl (lv_room (Nat.le_of_ble_eq_true rfl)) dX4_enter_2 ⟨by decide, by decide⟩) hS (fun E ce q9 H locs hX2 hS g1 g2 g3 => rh_out hex hlocks g1 g2 g3 ⟨Or.inl hX2.1, hX2.2⟩ hS (by decide) (by decide)) (fun o H locs hN1 hS => ?_)
  obtain ⟨⟨i, hi, he, rfl⟩, hW⟩ := hN1
  refine W.eq (g2 := F0 m 5 ls [.ref (ad 8 i)]) rfl ?_
  refine lv_astore (lv' := [(4, .ref (ad 8 i)), (0, .ref (ad 0 0)), (1, .int x), (2, .int se), (3, .int to)]) hx hb dX4_enter_5 hl (by decide) rfl (fun ls hl => ?_)
  refine lv_iload_n hx hb dX4_enter_7 rfl (lv_at hl 3 rfl) ?_
  refine lv_iconst (v := 1) hx hb dX4_enter_8 (by decide) ?_
  refine lv_ldc (v := 36000) hx hb hown (hts (.constant RX4 64 (36000)) (by decide +kernel)) dX4_enter_9 ?_
  refine rh_call (vx_runS (As := [.int se, .int 1, .int 36000]) (rest := []) ⟨hx, hb, hml, hown, hts⟩ (ct_X4_refuseOutside l hlf hD se 1 36000) (va_cwS 3 hts gX4_enter_X4_refuseOutside rfl rfl rfl (by decide +kernel) ⟨by decide, by decide⟩) (rh_pre hE hS hA hW) rfl rfl hl.1 rfl (lv_room (Nat.le_of_ble_eq_true rfl)) dX4_enter_11 ⟨by decide, by decide⟩) hS (fun E ce q9 H locs hX4 hS g1 g2 g3 => rh_out hex hlocks g1 g2 g3 ⟨Or.inr (Or.inl ⟨hX4.1.1, ((ix_iff (by omega)).mpr ⟨i, hi, he⟩), fun z => hX4.1.2 z.1⟩), hX4.2⟩ hS (by decide) (by decide)) (fun o H locs hN3 hS => ?_)
  obtain ⟨⟨hg1, rfl⟩, hW⟩ := hN3
  refine W.eq (g2 := F0 m 14 ls []) rfl ?_
  refine lv_iload_n hx hb dX4_enter_14 rfl (lv_at hl 4 rfl) ?_
  refine lv_iconst (v := 0) hx hb dX4_enter_15 (by decide) ?_
  refine lv_ldc (v := 50000000) hx hb hown (hts (.constant RX4 87 (50000000)) (by decide +kernel)) dX4_enter_16 ?_
  refine rh_call (vx_runS (As := [.int to, .int 0, .int 50000000]) (rest := []) ⟨hx, hb, hml, hown, hts⟩ (ct_X4_refuseOutside l hlf hD to 0 50000000) (va_cwS 3 hts gX4_enter_X4_refuseOutside rfl rfl rfl (by decide +kernel) ⟨by decide, by decide⟩) (rh_pre hE hS hA hW) rfl rfl hl.1 rfl (lv_room (Nat.le_of_ble_eq_true rfl)) dX4_enter_18 ⟨by decide, by decide⟩) hS (fun E ce q9 H locs hX6 hS g1 g2 g3 => rh_out hex hlocks g1 g2 g3 ⟨Or.inr (Or.inl ⟨hX6.1.1, ((ix_iff (by omega)).mpr ⟨i, hi, he⟩), fun z => hX6.1.2 z.2⟩), hX6.2⟩ hS (by decide) (by decide)) (fun o H locs hN5 hS => ?_)
  obtain ⟨⟨hg2, rfl⟩, hW⟩ := hN5
  refine W.eq (g2 := F0 m 21 ls []) rfl ?_
  refine lv_aload hx hb dX4_enter_21 (lv_at hl 0 rfl) ?_
  refine rh_get (ci := 1) (C := RX1) (T := TX1) (N := 5) (v := .int (v 8 i 2)) hx hb hts (fun _ h => List.mem_cons_of_mem _ (List.mem_append_left _ (List.mem_append_left _ (List.mem_append_left _ (List.mem_append_left _ (List.mem_append_left _ (List.mem_append_right _ (h)))))))) hown hE (hW.at 8 i hi) rfl 2 (by decide) (hts (.fieldLink RX4 88 "RoamingHouse$CallFile" "state" "I") (by decide +kernel)) rfl dX4_enter_23 ?_
  refine lv_if_eq (tgt := 39) hx hb dX4_enter_26 (by decide) (fun c7 => ?_) (fun c7 => ?_)
  · have hd0 := c7
    refine lv_aload_n hx hb dX4_enter_39 rfl (lv_at hl 1 rfl) ?_
    refine rh_get (ci := 4) (C := RX4) (T := TX4) (N := 7) (v := .int (v 0 0 5)) hx hb hts (fun _ h => List.mem_cons_of_mem _ (List.mem_append_left _ (List.mem_append_left _ (List.mem_append_left _ (List.mem_append_left _ (List.mem_append_right _ (h))))))) hown hE (hW.at 0 0 Nat.zero_lt_one) rfl 5 (by decide) (hts (.fieldLink RX4 37 "RoamingHouse" "callCount" "I") (by decide +kernel)) rfl dX4_enter_40 ?_
    refine lv_bipush (v := 60) hx hb dX4_enter_43 (by decide) ?_
    refine lv_icmp_lt (tgt := 58) hx hb dX4_enter_45 (by decide) (fun c8 => ?_) (fun c8 => ?_)
    · have hlt60 : nc < 60 := by
        rw [hcc] at c8
        exact (nI_ltI (b := 60) (by omega) (by decide)).mp c8
      refine lv_aload_n hx hb dX4_enter_58 rfl (lv_at hl 1 rfl) ?_
      refine rh_get (ci := 4) (C := RX4) (T := TX4) (N := 7) (v := .int (v 0 0 5)) hx hb hts (fun _ h => List.mem_cons_of_mem _ (List.mem_append_left _ (List.mem_append_left _ (List.mem_append_left _ (List.mem_append_left _ (List.mem_append_right _ (h))))))) hown hE (hW.at 0 0 Nat.zero_lt_one) rfl 5 (by decide) (hts (.fieldLink RX4 37 "RoamingHouse" "callCount" "I") (by decide +kernel)) rfl dX4_enter_59 ?_
      refine lv_istore (lv' := [(5, .int (v 0 0 5)), (4, .ref (ad 8 i)), (0, .ref (ad 0 0)), (1, .int x), (2, .int se), (3, .int to)]) hx hb dX4_enter_62 hl (by decide) rfl (fun ls hl => ?_)
      refine lv_aload_n hx hb dX4_enter_64 rfl (lv_at hl 2 rfl) ?_
      refine rh_get (ci := 4) (C := RX4) (T := TX4) (N := 7) (v := .ref (ad 4 0)) hx hb hts (fun _ h => List.mem_cons_of_mem _ (List.mem_append_left _ (List.mem_append_left _ (List.mem_append_left _ (List.mem_append_left _ (List.mem_append_right _ (h))))))) hown hE (hW.at 0 0 Nat.zero_lt_one) rfl 4 (by decide) (hts (.fieldLink RX4 33 "RoamingHouse" "callRows" "[LRoamingHouse$Call;") (by decide +kernel)) rfl dX4_enter_65 ?_
      refine lv_iload hx hb dX4_enter_68 (lv_at hl 0 rfl) ?_
      have hsz : s.heap.size ≤ Array.size _ := hS.1
      refine rh_new0 (ci := 0) (C := RX0) (T := TX0) (N := 7) hx hb hts (fun _ h => List.mem_cons_of_mem _ (List.mem_append_left _ (List.mem_append_left _ (List.mem_append_left _ (List.mem_append_right _ (h)))))) tyX0 tyX0_ok hown (hts (.classLink RX4 31 RX0) (by decide +kernel)) (hts (.instantiable RX0 7) (by decide +kernel)) (hts (.initialized RX0) (by decide +kernel)) hE hS rfl [.null, .int 0, .int 0, .int 0, .int 0, .int 0, .int 0] (fun j hj => by rcases (show j = 0 ∨ j = 1 ∨ j = 2 ∨ j = 3 ∨ j = 4 ∨ j = 5 ∨ j = 6 by omega) with rfl | rfl | rfl | rfl | rfl | rfl | rfl <;> rfl) (by decide) (by decide) dX4_enter_70 (fun q H1 hq hat hz ho1 hS => ?_)
      have hqA : A q := hA q (by rw [hq]; exact hsz)
      have hW1 := hW.grow ho1
      have hA1 : ∀ z : Nat, (z = q ∨ H1.size ≤ z) → A z := fun z hz9 => hz9.elim (fun e => by rw [e]; exact hqA) (fun e => hA z (Nat.le_trans hS.1 e))
      refine lv_dup hx hb dX4_enter_73 rfl ?_
      refine lv_aload hx hb dX4_enter_74 (lv_at hl 1 rfl) ?_
      refine lv_iload_n hx hb dX4_enter_76 rfl (lv_at hl 4 rfl) ?_
      refine lv_iload_n hx hb dX4_enter_77 rfl (lv_at hl 5 rfl) ?_
      refine rh_callm2 (A1 := fun z => z = q ∨ H1.size ≤ z) (va_runI (As := [.ref (ad 8 i), .int se, .int to]) (rest := [.ref q, .int (v 0 0 5), .ref (ad 4 0)]) ⟨hx, hb, hml, hown, hts⟩ (ci_X0_init l q (Or.inl rfl) (ad 8 i) se to) (cwI 3 hts gX4_enter_X0_init rfl rfl rfl (hts (.initialized RX0) (by decide +kernel)) (hts (.methodLink RX4 95 yX0_init) (by decide +kernel)) (hts (.instanceMethod yX0_init) (by decide +kernel)) rfl (by decide +kernel) ⟨by decide, by decide⟩) (rh_pre2 hE hS hA1 (fun z hz9 => Or.inr hz9) hat) rfl rfl hl.1 rfl (lv_room (Nat.le_of_ble_eq_true rfl)) dX4_enter_78 ⟨by decide, by decide⟩) hS hA1 (fun o H2 locs hN hz2 ho2 hS => ?_)
      obtain ⟨rfl, hat2⟩ := hN
      refine W.eq (g2 := F0 m 81 ls [.ref q, .int (v 0 0 5), .ref (ad 4 0)]) rfl ?_
      have ho2x : ∀ x : Nat, x < Array.size _ → H2[x]? = _ := fun x hx9 => (ho2 x (by rw [hz]; omega) (fun z => z.elim (fun z => by omega) (fun z => by omega))).trans (ho1 x hx9)
      have hW2 := hW.grow ho2x
      refine rh_aast0 hx hb hE 6 (r := (RX0, TX0, 7)) (hW2.at 4 0 Nat.zero_lt_one) rfl hat2 rfl hS (hD.2 4 0 Nat.zero_lt_one) nc (by omega) (by decide) hcc dX4_enter_81 (fun H3 locs hrow hz3 ho3 hS => ?_)
      have hnq : q ≠ ad 4 0 := fun z => by have := (hW.at 4 0 Nat.zero_lt_one).lt; omega
      obtain ⟨hW, hD⟩ := rh_W.call hW hD hq hqA (hat2.kept (ho3 q hnq)) hrow (fun x h1 h2 => (ho3 x h2).trans (ho2x x h1))
      refine lv_aload_n hx hb dX4_enter_82 rfl (lv_at hl 2 rfl) ?_
      refine lv_dup hx hb dX4_enter_83 rfl ?_
      refine rh_get (ci := 4) (C := RX4) (T := TX4) (N := 7) (v := .int (v 0 0 5)) hx hb hts (fun _ h => List.mem_cons_of_mem _ (List.mem_append_left _ (List.mem_append_left _ (List.mem_append_left _ (List.mem_append_left _ (List.mem_append_right _ (h))))))) hown hE (hW.at 0 0 Nat.zero_lt_one) rfl 5 (by decide) (hts (.fieldLink RX4 37 "RoamingHouse" "callCount" "I") (by decide +kernel)) rfl dX4_enter_84 ?_
      refine lv_iconst (v := 1) hx hb dX4_enter_87 (by decide) ?_
      refine lv_iadd hx hb dX4_enter_88 ?_
      refine rh_put (ci := 4) (C := RX4) (T := TX4) (N := 7) (x := (v 0 0 5 + 1)) hx hb hts (fun _ h => List.mem_cons_of_mem _ (List.mem_append_left _ (List.mem_append_left _ (List.mem_append_left _ (List.mem_append_left _ (List.mem_append_right _ (h))))))) tyX4 tyX4_ok nmX4 hown hE hW hD hS rfl 0 0 Nat.zero_lt_one rfl 5 (by decide) (hts (.fieldLink RX4 37 "RoamingHouse" "callCount" "I") (by decide +kernel)) rfl rfl rfl (Nat.le_of_ble_eq_true rfl) rfl dX4_enter_89 (fun H locs hW hS => ?_)
      refine lv_aload hx hb dX4_enter_92 (lv_at hl 1 rfl) ?_
      refine lv_dup hx hb dX4_enter_94 rfl ?_
      refine rh_get (ci := 1) (C := RX1) (T := TX1) (N := 5) (v := .int (v 8 i 3)) hx hb hts (fun _ h => List.mem_cons_of_mem _ (List.mem_append_left _ (List.mem_append_left _ (List.mem_append_left _ (List.mem_append_left _ (List.mem_append_left _ (List.mem_append_right _ (h)))))))) hown hE (hW.at 8 i hi) rfl 3 (by decide) (hts (.fieldLink RX4 98 "RoamingHouse$CallFile" "size" "I") (by decide +kernel)) rfl dX4_enter_95 ?_
      refine lv_iconst (v := 1) hx hb dX4_enter_98 (by decide) ?_
      refine lv_iadd hx hb dX4_enter_99 ?_
      refine rh_put (ci := 1) (C := RX1) (T := TX1) (N := 5) (x := (v 8 i 3 + 1)) hx hb hts (fun _ h => List.mem_cons_of_mem _ (List.mem_append_left _ (List.mem_append_left _ (List.mem_append_left _ (List.mem_append_left _ (List.mem_append_left _ (List.mem_append_right _ (h)))))))) tyX1 tyX1_ok nmX1 hown hE hW hD hS rfl 8 i hi rfl 3 (by decide) (hts (.fieldLink RX4 98 "RoamingHouse$CallFile" "size" "I") (by decide +kernel)) rfl rfl rfl (Nat.le_of_ble_eq_true rfl) rfl dX4_enter_100 (fun H locs hW hS => ?_)
      refine lv_iload hx hb dX4_enter_103 (lv_at hl 0 rfl) ?_
      rw [hcc] at hW ⊢
      rw [nI_1] at hW
      exact rh_iret hx hb hr hlocks ⟨i, hi, he, hg1, hg2, hd0, hlt60, rfl, q, hW, hD⟩ hS (by decide) (by decide) dX4_enter_105
    · have hfull : 60 ≤ nc := by
        rw [hcc] at c8
        exact (nI_leI (a := 60) (by decide) (by omega)).mp (nlt_le c8)
      have hbad : ¬ v 8 i 2 = 0 ∨ 60 ≤ nc := Or.inr hfull
      exact rh_throw hx hb hlf "java/lang/IllegalStateException" "there are 60 calls" 73 93 77 (by decide) (by decide) (by decide +kernel) rh_t3b rh_t3g hown (hts (.classLink RX4 73 "java/lang/IllegalStateException") (by decide +kernel)) (hts (.initialized "java/lang/IllegalStateException") (by decide +kernel)) (fun w h => hts w (List.mem_cons_of_mem _ (List.mem_append_left _ (List.mem_append_left _ (List.mem_append_right _ (h)))))) hE hS (hl.1.trans hml.symm) dX4_enter_48 dX4_enter_51 dX4_enter_52 dX4_enter_54 dX4_enter_57 hex hlocks (by decide) (Nat.le_of_ble_eq_true rfl) (by decide) (by decide) (fun H1 _ hk9 => ⟨Or.inr (Or.inr ⟨rfl, i, hi, he, hg1, hg2, hbad⟩), hW.grow hk9⟩) (by decide) (by decide)
  · have hbad : ¬ v 8 i 2 = 0 ∨ 60 ≤ nc := Or.inl c7
    exact rh_throw hx hb hlf "java/lang/IllegalStateException" "the file is not a draft" 73 91 77 (by decide) (by decide) (by decide +kernel) rh_t3b rh_t3g hown (hts (.classLink RX4 73 "java/lang/IllegalStateException") (by decide +kernel)) (hts (.initialized "java/lang/IllegalStateException") (by decide +kernel)) (fun w h => hts w (List.mem_cons_of_mem _ (List.mem_append_left _ (List.mem_append_left _ (List.mem_append_right _ (h)))))) hE hS (hl.1.trans hml.symm) dX4_enter_29 dX4_enter_32 dX4_enter_33 dX4_enter_35 dX4_enter_38 hex hlocks (by decide) (Nat.le_of_ble_eq_true rfl) (by decide) (by decide) (fun H1 _ hk9 => ⟨Or.inr (Or.inr ⟨rfl, i, hi, he, hg1, hg2, hbad⟩), hW.grow hk9⟩) (by decide) (by decide)
