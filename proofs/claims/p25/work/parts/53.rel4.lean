/-! ===== files and calls are begun ===== -/
theorem m_cn_eq {r r' : rh_R} {f : Nat} : ∀ n : Nat, (∀ c : Nat, c < n → r' 9 c = r 9 c) → m_cn r' f n = m_cn r f n
  | 0, _ => rfl
  | n + 1, h => by
    unfold m_cn
    rw [m_cn_eq n (fun c hc => h c (by omega)), h n (by omega)]
theorem m_cn_none {r : rh_R} {f : Nat} : ∀ n : Nat, (∀ c : Nat, c < n → r 9 c ≠ f) → m_cn r f n = 0
  | 0, _ => rfl
  | n + 1, h => by
    unfold m_cn
    rw [if_neg (h n (by omega))]
    exact m_cn_none n (fun c hc => h c (by omega))
theorem m_pl_lt {nf nc : Nat} {r : rh_R} {w : rh_Wm} (h : m_wf nf nc r w) {c : Nat} (hc : c < nc) (hs : ¬ w 13 c = 0) : m_pl w c < mna w := (m_pl_of h hc hs).1
theorem i_begin {nf nc : Nat} {r : rh_R} {v : rh_V} {w : rh_Wm} (h : inv nf nc r v w) (hn : nf < 30) {q : Nat} (hq : q < 16) : inv (nf + 1) nc (ad2 r 8 nf q) (wr (c_file v nf (v 0 0 6)) 0 0 3 (nI (nf + 1))) (wm (wm (wm (wm w 5 nf (nI q)) 6 nf (w 26 24)) 7 nf 0) 26 4 (nI (nf + 1))) := by
  obtain ⟨hwf, ⟨hm0, hm1⟩, ho, hp, hf, hca, hye, hac, ⟨t, ht, hv, hw, q1, q2, q3⟩, hwa, hu⟩ := h
  generalize hr' : ad2 r 8 nf q = r'
  generalize hv' : wr (c_file v nf (v 0 0 6)) 0 0 3 (nI (nf + 1)) = v'
  generalize hw' : wm (wm (wm (wm w 5 nf (nI q)) 6 nf (w 26 24)) 7 nf 0) 26 4 (nI (nf + 1)) = w'
  have r8 : ∀ f, r' 8 f = if f = nf then q else r 8 f := by
    intro f
    rw [← hr']
    by_cases e : f = nf
    · rw [if_pos e, e, ad2_self]
    · rw [if_neg e, ad2_ne _ _ _ _ (fun z => e z.2)]
  have r9 : r' 9 = r 9 := by rw [← hr']; funext c; exact ad2_ne _ _ _ _ (by omega)
  have ev : ∀ a b : Nat, ¬ (a = 8 ∧ b = nf) → ¬ (a = 0 ∧ b = 0) → v' a b = v a b := by
    intro a b h1 h2
    rw [← hv', wr_other _ _ _ _ _ h2, c_file_ne _ _ _ h1]
  have ev0 : ∀ j, v' 0 0 j = if j = 3 then nI (nf + 1) else v 0 0 j := by
    intro j
    rw [← hv', wr_at]
    by_cases e : j = 3
    · rw [if_pos ⟨rfl, rfl, e⟩, if_pos e]
    · rw [if_neg (fun z => e z.2.2), if_neg e, c_file_ne _ _ _ (by omega)]
  have ev8 : v' 8 nf 1 = v 0 0 6 ∧ v' 8 nf 2 = 0 ∧ v' 8 nf 3 = 0 := by
    rw [← hv']
    refine ⟨?_, ?_, ?_⟩ <;> simp [wr_at, c_file]
  have ew : ∀ a : Nat, a ≠ 5 → a ≠ 6 → a ≠ 7 → a ≠ 26 → w' a = w a := by
    intro a h5 h6 h7 h26
    rw [← hw', wm_other _ _ _ _ h26, wm_other _ _ _ _ h7, wm_other _ _ _ _ h6, wm_other _ _ _ _ h5]
  have e5 : ∀ f, w' 5 f = if f = nf then nI q else w 5 f := fun f => by rw [← hw']; simp [wm_at]
  have e6 : ∀ f, w' 6 f = if f = nf then w 26 24 else w 6 f := fun f => by rw [← hw']; simp [wm_at]
  have e7 : ∀ f, w' 7 f = if f = nf then 0 else w 7 f := fun f => by rw [← hw']; simp [wm_at]
  have e26 : ∀ j, w' 26 j = if j = 4 then nI (nf + 1) else w 26 j := fun j => by rw [← hw']; simp [wm_at]
  have en : mna w' = mna w := by unfold mna; rw [e26, if_neg (by decide)]
  have em : ∀ k, mac w' k = mac w k := fun k => by unfold mac; rw [ew 17 (by decide) (by decide) (by decide) (by decide)]
  have hnc9 : ∀ c, c < nc → r 9 c ≠ nf := fun c hc z => by have := hwf.2.2.2.1 c hc; omega
  have hpr : ∀ c, c < nc → c_pr r' c = c_pr r c := by
    intro c hc
    unfold c_pr
    rw [r9, r8, if_neg (hnc9 c hc)]
  have hah : ∀ p y n, n ≤ mna w → m_ahead r' w' p y n = m_ahead r w p y n := fun p y n hn9 => m_ahead_gen n (fun k hk => ⟨em k, hpr _ (hm1.2.2.1 k (by omega)).1, by rw [ew 14 (by decide) (by decide) (by decide) (by decide)], by rw [ew 11 (by decide) (by decide) (by decide) (by decide)]⟩)
  refine ⟨?_, ⟨?_, ?_⟩, ?_, ?_, ?_, ?_, ?_, ?_, ?_, ?_, ?_⟩
  · obtain ⟨a, b, c, d, e, f, g, ⟨_, _, _⟩, l⟩ := hwf
    refine ⟨by omega, b, fun i hi => ?_, fun i hi => ?_, ?_, ?_, fun i hi => ?_, ⟨t, ht, ?_⟩, fun i hi hs => ?_⟩
    · rw [r8]
      by_cases e : i = nf
      · rw [if_pos e]; exact hq
      · rw [if_neg e]; exact c i (by omega)
    · rw [r9]; have := d i hi; omega
    · rw [ev0, if_pos rfl]
    · rw [ev0, if_neg (by decide)]; exact f
    · rw [ev 5 i (by omega) (by omega)]; exact g i hi
    · rw [ev0, if_neg (by decide)]; exact hv
    · rw [ev 9 i (by omega) (by omega)] at hs ⊢
      exact l i hi hs
  · obtain ⟨a, b, c, d, e, f, g⟩ := hm0
    refine ⟨by omega, b, ?_, ?_, fun i hi => ?_, fun i hi => ?_, ?_⟩
    · rw [e26, if_pos rfl]
    · rw [e26, if_neg (by decide)]; exact d
    · rw [r8, e5]
      by_cases e9 : i = nf
      · rw [if_pos e9, if_pos e9]; exact ⟨hq, rfl⟩
      · rw [if_neg e9, if_neg e9]; exact e i (by omega)
    · rw [r9, ew 10 (by decide) (by decide) (by decide) (by decide)]
      have := f i hi
      exact ⟨by omega, this.2⟩
    · rw [ew 0 (by decide) (by decide) (by decide) (by decide)]; exact g
  · obtain ⟨a, b, d, e⟩ := hm1
    refine ⟨?_, ?_, ?_, ?_⟩
    · rw [en, m_act_eq (w := w) nc (fun c _ => by rw [ew 13 (by decide) (by decide) (by decide) (by decide)])]; exact a
    · rw [en, e26, if_neg (by decide)]; exact b
    · intro k hk
      rw [en] at hk
      rw [em, ew 17 (by decide) (by decide) (by decide) (by decide)]; exact d k hk
    · intro c hc hs
      rw [ew 13 (by decide) (by decide) (by decide) (by decide)] at hs
      rw [r9, e7, if_neg (hnc9 c hc), en, ew 17 (by decide) (by decide) (by decide) (by decide)]
      exact e c hc hs
  · intro i hi
    rw [ev 5 i (by omega) (by omega), ew 0 (by decide) (by decide) (by decide) (by decide), ew 1 (by decide) (by decide) (by decide) (by decide), ew 2 (by decide) (by decide) (by decide) (by decide), ew 3 (by decide) (by decide) (by decide) (by decide)]
    exact ho i hi
  · intro a ha
    unfold rl_p
    rw [ev 6 a (by omega) (by omega), ew 18 (by decide) (by decide) (by decide) (by decide), ew 19 (by decide) (by decide) (by decide) (by decide), ew 20 (by decide) (by decide) (by decide) (by decide), ew 21 (by decide) (by decide) (by decide) (by decide), ew 22 (by decide) (by decide) (by decide) (by decide), ew 23 (by decide) (by decide) (by decide) (by decide)]
    exact hp a ha
  · intro f hf9
    unfold rl_f
    rw [m_cn_eq (r := r) nc (fun c hc => by rw [r9])]
    by_cases e : f = nf
    · subst e
      rw [e6, e7, if_pos rfl, if_pos rfl, ev8.1, ev8.2.1, ev8.2.2, m_cn_none nc hnc9, hv, hw]
      exact ⟨rfl, rfl, fun z => absurd z (by decide), rfl⟩
    · rw [ev 8 f (fun z => e z.2) (by omega), e6, e7, if_neg e, if_neg e, ew 8 (by decide) (by decide) (by decide) (by decide)]
      exact hf f (by omega)
  · intro c hc
    obtain ⟨a1, a2, a3, a4, a5, a6⟩ := hca c hc
    unfold rl_c
    rw [ev 9 c (by omega) (by omega), hpr c hc, ew 11 (by decide) (by decide) (by decide) (by decide), ew 12 (by decide) (by decide) (by decide) (by decide), ew 13 (by decide) (by decide) (by decide) (by decide), ew 14 (by decide) (by decide) (by decide) (by decide), ew 15 (by decide) (by decide) (by decide) (by decide), m_pl_eq (w := w) (ew 17 (by decide) (by decide) (by decide) (by decide)) en]
    refine ⟨a1, a2, a3, a4, fun z => ⟨(a5 z).1, ?_⟩, a6⟩
    rw [hah _ _ _ (Nat.le_of_lt (m_pl_lt ⟨hm0, hm1⟩ hc z))]
    exact (a5 z).2
  · intro a y ha hy
    rw [ev 7 a (by omega) (by omega), en, hah _ _ _ (Nat.le_refl _)]
    exact hye a y ha hy
  · intro k hk
    rw [en] at hk
    rw [em, ew 13 (by decide) (by decide) (by decide) (by decide)]
    exact hac k hk
  · refine ⟨t, ht, ?_, ?_, fun f hf9 => ?_, ?_, ?_⟩
    · rw [ev0, if_neg (by decide)]; exact hv
    · rw [e26, if_neg (by decide)]; exact hw
    · rw [e6]
      by_cases e : f = nf
      · rw [if_pos e]; exact ⟨t, Nat.le_refl _, hw⟩
      · rw [if_neg e]; exact q1 f (by omega)
    · rw [ew 13 (by decide) (by decide) (by decide) (by decide), ew 15 (by decide) (by decide) (by decide) (by decide)]; exact q2
    · rw [ew 13 (by decide) (by decide) (by decide) (by decide), ew 14 (by decide) (by decide) (by decide) (by decide)]; exact q3
  · intro f hf9 f7
    rw [e7] at f7
    by_cases e : f = nf
    · rw [if_pos e] at f7; exact absurd f7 (by decide)
    · rw [if_neg e] at f7
      rw [r8, if_neg e, ew 18 (by decide) (by decide) (by decide) (by decide), ew 8 (by decide) (by decide) (by decide) (by decide)]
      exact hwa f (by omega) f7
  · intro f g hf9 hg9 f7 g7 e1 e2
    rw [e7] at f7 g7
    by_cases e : f = nf
    · rw [if_pos e] at f7; exact absurd f7 (by decide)
    · by_cases e' : g = nf
      · rw [if_pos e'] at g7; exact absurd g7 (by decide)
      · rw [if_neg e] at f7
        rw [if_neg e'] at g7
        rw [r8, r8, if_neg e, if_neg e'] at e1
        rw [ew 8 (by decide) (by decide) (by decide) (by decide)] at e2
        exact hu f g (by omega) (by omega) f7 g7 e1 e2
theorem i_enter {nf nc : Nat} {r : rh_R} {v : rh_V} {w : rh_Wm} (h : inv nf nc r v w) (hn : nc < 60) {i : Nat} (hi : i < nf) (h0 : w 7 i = 0) (se to : Int32) : inv nf (nc + 1) (ad2 r 9 nc i) (wr (wr (c_call v nc se to) 0 0 5 (nI (nc + 1))) 8 i 3 (v 8 i 3 + 1)) (wm (wm (wm (wm (wm w 10 nc (nI i)) 11 nc se) 12 nc to) 13 nc 0) 26 9 (nI (nc + 1))) := by
  obtain ⟨hwf, ⟨hm0, hm1⟩, ho, hp, hf, hca, hye, hac, ⟨t, ht, hv, hw, q1, q2, q3⟩, hwa, hu⟩ := h
  generalize hr' : ad2 r 9 nc i = r'
  generalize hv' : wr (wr (c_call v nc se to) 0 0 5 (nI (nc + 1))) 8 i 3 (v 8 i 3 + 1) = v'
  generalize hw' : wm (wm (wm (wm (wm w 10 nc (nI i)) 11 nc se) 12 nc to) 13 nc 0) 26 9 (nI (nc + 1)) = w'
  have r9 : ∀ c, r' 9 c = if c = nc then i else r 9 c := by
    intro c
    rw [← hr']
    by_cases e : c = nc
    · rw [if_pos e, e, ad2_self]
    · rw [if_neg e, ad2_ne _ _ _ _ (fun z => e z.2)]
  have r8 : r' 8 = r 8 := by rw [← hr']; funext c; exact ad2_ne _ _ _ _ (by omega)
  have ev : ∀ a b : Nat, ¬ (a = 9 ∧ b = nc) → ¬ (a = 0 ∧ b = 0) → ¬ (a = 8 ∧ b = i) → v' a b = v a b := by
    intro a b h1 h2 h3
    rw [← hv', wr_other _ _ _ _ _ h3, wr_other _ _ _ _ _ h2, c_call_ne _ _ _ _ h1]
  have ev0 : ∀ j, v' 0 0 j = if j = 5 then nI (nc + 1) else v 0 0 j := by
    intro j
    rw [← hv', wr_other _ _ _ _ _ (by omega), wr_at]
    by_cases e : j = 5
    · rw [if_pos ⟨rfl, rfl, e⟩, if_pos e]
    · rw [if_neg (fun z => e z.2.2), if_neg e, c_call_ne _ _ _ _ (by omega)]
  have ev8 : ∀ j, v' 8 i j = if j = 3 then v 8 i 3 + 1 else v 8 i j := by
    intro j
    rw [← hv', wr_at]
    by_cases e : j = 3
    · rw [if_pos ⟨rfl, rfl, e⟩, if_pos e]
    · rw [if_neg (fun z => e z.2.2), if_neg e, wr_other _ _ _ _ _ (by omega), c_call_ne _ _ _ _ (by omega)]
  have ev9 : v' 9 nc 1 = se ∧ v' 9 nc 2 = to ∧ v' 9 nc 3 = 0 ∧ v' 9 nc 4 = -1 := by
    rw [← hv']
    refine ⟨?_, ?_, ?_, ?_⟩ <;> simp [wr_at, c_call]
  have ew : ∀ a : Nat, a ≠ 10 → a ≠ 11 → a ≠ 12 → a ≠ 13 → a ≠ 26 → w' a = w a := by
    intro a h5 h6 h7 h8 h26
    rw [← hw', wm_other _ _ _ _ h26, wm_other _ _ _ _ h8, wm_other _ _ _ _ h7, wm_other _ _ _ _ h6, wm_other _ _ _ _ h5]
  have e10 : ∀ f, w' 10 f = if f = nc then nI i else w 10 f := fun f => by rw [← hw']; simp [wm_at]
  have e11 : ∀ f, w' 11 f = if f = nc then se else w 11 f := fun f => by rw [← hw']; simp [wm_at]
  have e12 : ∀ f, w' 12 f = if f = nc then to else w 12 f := fun f => by rw [← hw']; simp [wm_at]
  have e13 : ∀ f, w' 13 f = if f = nc then 0 else w 13 f := fun f => by rw [← hw']; simp [wm_at]
  have e26 : ∀ j, w' 26 j = if j = 9 then nI (nc + 1) else w 26 j := fun j => by rw [← hw']; simp [wm_at]
  have w5 : w' 5 = w 5 := ew 5 (by decide) (by decide) (by decide) (by decide) (by decide)
  have w6 : w' 6 = w 6 := ew 6 (by decide) (by decide) (by decide) (by decide) (by decide)
  have w7 : w' 7 = w 7 := ew 7 (by decide) (by decide) (by decide) (by decide) (by decide)
  have w8 : w' 8 = w 8 := ew 8 (by decide) (by decide) (by decide) (by decide) (by decide)
  have w14 : w' 14 = w 14 := ew 14 (by decide) (by decide) (by decide) (by decide) (by decide)
  have w15 : w' 15 = w 15 := ew 15 (by decide) (by decide) (by decide) (by decide) (by decide)
  have w17 : w' 17 = w 17 := ew 17 (by decide) (by decide) (by decide) (by decide) (by decide)
  have w18 : w' 18 = w 18 := ew 18 (by decide) (by decide) (by decide) (by decide) (by decide)
  have en : mna w' = mna w := by unfold mna; rw [e26, if_neg (by decide)]
  have em : ∀ k, mac w' k = mac w k := fun k => by unfold mac; rw [w17]
  have hpr : ∀ c, c < nc → c_pr r' c = c_pr r c := by
    intro c hc
    unfold c_pr
    rw [r8, r9, if_neg (by omega)]
  have hah : ∀ p y n, n ≤ mna w → m_ahead r' w' p y n = m_ahead r w p y n := fun p y n hn9 => m_ahead_gen n (fun k hk => by
    have hk9 := (hm1.2.2.1 k (by omega)).1
    exact ⟨em k, hpr _ hk9, by rw [w14], by rw [e11, if_neg (by omega)]⟩)
  refine ⟨?_, ⟨?_, ?_⟩, ?_, ?_, ?_, ?_, ?_, ?_, ?_, ?_, ?_⟩
  · obtain ⟨a, b, c, d, e, f, g, ⟨_, _, _⟩, l⟩ := hwf
    refine ⟨a, by omega, ?_, fun j hj => ?_, ?_, ?_, fun j hj => ?_, ⟨t, ht, ?_⟩, fun j hj hs => ?_⟩
    · rw [r8]; exact c
    · rw [r9]
      by_cases e9 : j = nc
      · rw [if_pos e9]; exact hi
      · rw [if_neg e9]; exact d j (by omega)
    · rw [ev0, if_neg (by decide)]; exact e
    · rw [ev0, if_pos rfl]
    · rw [ev 5 j (by omega) (by omega) (by omega)]; exact g j hj
    · rw [ev0, if_neg (by decide)]; exact hv
    · by_cases e9 : j = nc
      · subst e9
        exact absurd ev9.2.2.1 hs
      · rw [ev 9 j (fun z => e9 z.2) (by omega) (by omega)] at hs ⊢
        exact l j (by omega) hs
  · obtain ⟨a, b, c, d, e, f, g⟩ := hm0
    refine ⟨a, by omega, ?_, ?_, fun j hj => ?_, fun j hj => ?_, ?_⟩
    · rw [e26, if_neg (by decide)]; exact c
    · rw [e26, if_pos rfl]
    · rw [r8, w5]; exact e j hj
    · rw [r9, e10]
      by_cases e9 : j = nc
      · rw [if_pos e9, if_pos e9]; exact ⟨hi, rfl⟩
      · rw [if_neg e9, if_neg e9]; exact f j (by omega)
    · rw [ew 0 (by decide) (by decide) (by decide) (by decide) (by decide)]; exact g
  · obtain ⟨a, b, d, e⟩ := hm1
    refine ⟨?_, ?_, ?_, ?_⟩
    · rw [en]
      show mna w ≤ m_act w' (nc + 1)
      unfold m_act
      rw [e13, if_pos rfl, if_pos rfl, m_act_eq (w := w) nc (fun c hc => by rw [e13, if_neg (by omega)])]
      exact a
    · rw [en, e26, if_neg (by decide)]; exact b
    · intro k hk
      rw [en] at hk
      rw [em, w17]
      have := d k hk
      exact ⟨by omega, this.2⟩
    · intro c hc hs
      rw [e13] at hs
      by_cases e9 : c = nc
      · rw [if_pos e9] at hs; exact absurd rfl hs
      · rw [if_neg e9] at hs
        rw [r9, if_neg e9, w7, en, w17]
        exact e c (by omega) hs
  · intro j hj
    rw [ev 5 j (by omega) (by omega) (by omega), ew 0 (by decide) (by decide) (by decide) (by decide) (by decide), ew 1 (by decide) (by decide) (by decide) (by decide) (by decide), ew 2 (by decide) (by decide) (by decide) (by decide) (by decide), ew 3 (by decide) (by decide) (by decide) (by decide) (by decide)]
    exact ho j hj
  · intro a ha
    unfold rl_p
    rw [ev 6 a (by omega) (by omega) (by omega), w18, ew 19 (by decide) (by decide) (by decide) (by decide) (by decide), ew 20 (by decide) (by decide) (by decide) (by decide) (by decide), ew 21 (by decide) (by decide) (by decide) (by decide) (by decide), ew 22 (by decide) (by decide) (by decide) (by decide) (by decide), ew 23 (by decide) (by decide) (by decide) (by decide) (by decide)]
    exact hp a ha
  · intro f hf9
    have hcn : m_cn r' f (nc + 1) = if i = f then m_cn r f nc + 1 else m_cn r f nc := by
      show (if r' 9 nc = f then m_cn r' f nc + 1 else m_cn r' f nc) = _
      rw [r9, if_pos rfl, m_cn_eq (r := r) nc (fun c hc => by rw [r9, if_neg (by omega)])]
    obtain ⟨f1, f2, f3, f4⟩ := hf f hf9
    unfold rl_f
    rw [hcn, w6, w7, w8]
    by_cases e : i = f
    · subst e
      rw [if_pos rfl, ev8, ev8, ev8, ev8, if_neg (by decide), if_neg (by decide), if_neg (by decide), if_pos rfl, f4]
      exact ⟨f1, f2, f3, rfl⟩
    · rw [if_neg e, ev 8 f (by omega) (by omega) (fun z => e z.2.symm)]
      exact ⟨f1, f2, f3, f4⟩
  · intro c hc
    unfold rl_c
    by_cases e : c = nc
    · subst e
      have z13 : w' 13 c = 0 := by rw [e13, if_pos rfl]
      rw [z13, e11, if_pos rfl, e12, if_pos rfl]
      exact ⟨ev9.1, ev9.2.1, ev9.2.2.1, fun _ => ev9.2.2.2, fun z => absurd rfl z, fun z => absurd z (by decide)⟩
    · obtain ⟨a1, a2, a3, a4, a5, a6⟩ := hca c (by omega)
      rw [ev 9 c (fun z => e z.2) (by omega) (by omega), hpr c (by omega), e11, if_neg e, e12, if_neg e, e13, if_neg e, w14, w15, m_pl_eq (w := w) w17 en]
      refine ⟨a1, a2, a3, a4, fun z => ⟨(a5 z).1, ?_⟩, a6⟩
      rw [hah _ _ _ (Nat.le_of_lt (m_pl_lt ⟨hm0, hm1⟩ (by omega) z))]
      exact (a5 z).2
  · intro a y ha hy
    rw [ev 7 a (by omega) (by omega) (by omega), en, hah _ _ _ (Nat.le_refl _)]
    exact hye a y ha hy
  · intro k hk
    rw [en] at hk
    have hk9 := (hm1.2.2.1 k hk).1
    rw [em, e13, if_neg (by omega)]
    exact hac k hk
  · refine ⟨t, ht, ?_, ?_, ?_, fun c hc hs => ?_, fun c hc hs => ?_⟩
    · rw [ev0, if_neg (by decide)]; exact hv
    · rw [e26, if_neg (by decide)]; exact hw
    · rw [w6]; exact q1
    · rw [e13] at hs
      by_cases e : c = nc
      · rw [if_pos e] at hs; exact absurd hs (by decide)
      · rw [if_neg e] at hs
        rw [w15]; exact q2 c (by omega) hs
    · rw [e13] at hs
      by_cases e : c = nc
      · rw [if_pos e] at hs; exact absurd rfl hs
      · rw [if_neg e] at hs
        rw [w14]; exact q3 c (by omega) hs
  · rw [w7, w8, w18, r8]; exact hwa
  · rw [w7, w8, r8]; exact hu
/-- at first -/
theorem i_init (r : rh_R) : inv 0 0 r v_init (m_w2 16) := by
  have hna : mna (m_w2 16) = 0 := rfl
  have no : ∀ {P : Nat → Prop}, ∀ i : Nat, i < 0 → P i := fun i hi => absurd hi (Nat.not_lt_zero _)
  have hop : ∀ i : Nat, i < 4 → m_w2 16 0 i = 60 ∧ m_w2 16 1 i = 10 ∧ m_w2 16 2 i = 0 ∧ m_w2 16 3 i = 1000 := by
    intro i hi
    refine ⟨?_, ?_, ?_, ?_⟩ <;> simp [m_w2, m_w1, hi]
  refine ⟨⟨by decide, by decide, no, no, rfl, rfl, fun i hi => ?_, ⟨0, by decide, rfl⟩, fun i hi => absurd hi (Nat.not_lt_zero _)⟩, ⟨⟨by decide, by decide, rfl, rfl, no, no, fun i hi => ?_⟩, ⟨by rw [hna]; exact Nat.zero_le _, rfl, fun k hk => ?_, fun c hc => absurd hc (Nat.not_lt_zero _)⟩⟩, fun i hi => ?_, fun q hq => ?_, no, no, fun q y hq hy => ?_, fun k hk => ?_, ⟨0, by decide, rfl, rfl, no, fun c hc => absurd hc (Nat.not_lt_zero _), fun c hc => absurd hc (Nat.not_lt_zero _)⟩, fun f hf => absurd hf (Nat.not_lt_zero _), fun f g hf => absurd hf (Nat.not_lt_zero _)⟩
  · show ¬ (60 : Int32) = 0
    decide
  · rw [(hop i hi).1]; decide
  · rw [hna] at hk; exact absurd hk (Nat.not_lt_zero _)
  · obtain ⟨a, b, c, d⟩ := hop i hi
    rw [a, b, c, d]
    exact ⟨rfl, rfl, rfl, rfl⟩
  · have e18 : m_w2 16 18 q = 1 := by simp [m_w2, hq]
    have e19 : m_w2 16 19 q = 0 := by simp [m_w2, m_w1]
    unfold rl_p
    rw [e18, e19]
    exact ⟨rfl, by simp [m_w2, m_w1, v_init], fun z => absurd rfl z, fun _ => rfl⟩
  · rw [hna]; rfl
  · rw [hna] at hk; exact absurd hk (Nat.not_lt_zero _)
