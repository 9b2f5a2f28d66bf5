/-! ===== how the law's own house changes with the ints ===== -/
theorem la_keep {w w' : rh_Wm} {L L' : u_L} {i : Nat} (h : (w 0 i = nI (L 1 (4 * i)) ∧ 1 ≤ L 1 (4 * i) ∧ L 1 (4 * i) ≤ 600) ∧ (w 1 i = nI (L 1 (4 * i + 1)) ∧ L 1 (4 * i + 1) ≤ 1000) ∧ (w 2 i = nI (L 1 (4 * i + 2)) ∧ L 1 (4 * i + 2) ≤ 1000) ∧ (w 3 i = nI (L 1 (4 * i + 3)) ∧ L 1 (4 * i + 3) ≤ 100000)) (h0 : w' 0 i = w 0 i) (h1 : w' 1 i = w 1 i) (h2 : w' 2 i = w 2 i) (h3 : w' 3 i = w 3 i) (e0 : L' 1 (4 * i) = L 1 (4 * i)) (e1 : L' 1 (4 * i + 1) = L 1 (4 * i + 1)) (e2 : L' 1 (4 * i + 2) = L 1 (4 * i + 2)) (e3 : L' 1 (4 * i + 3) = L 1 (4 * i + 3)) : (w' 0 i = nI (L' 1 (4 * i)) ∧ 1 ≤ L' 1 (4 * i) ∧ L' 1 (4 * i) ≤ 600) ∧ (w' 1 i = nI (L' 1 (4 * i + 1)) ∧ L' 1 (4 * i + 1) ≤ 1000) ∧ (w' 2 i = nI (L' 1 (4 * i + 2)) ∧ L' 1 (4 * i + 2) ≤ 1000) ∧ (w' 3 i = nI (L' 1 (4 * i + 3)) ∧ L' 1 (4 * i + 3) ≤ 100000) := by
  rw [h0, h1, h2, h3, e0, e1, e2, e3]; exact h
theorem lr_rate {nf nc : Nat} {r : rh_R} {w : rh_Wm} {L : u_L} (h : lr nf nc r w L) {i x : Nat} (hi : i < 4) (hx : x ≤ 100000) : lr nf nc r (wm w 3 i (nI x)) (un L 1 (4 * i + 3) x) := by
  obtain ⟨hub, hn, ha, hf, hc, ho, hp⟩ := h
  refine ⟨hub.upd (by omega), hn, fun j hj => ?_, hf, hc, ho, hp⟩
  by_cases e : j = i
  · subst e
    obtain ⟨a, b, c, d⟩ := ha j hj
    refine ⟨?_, ?_, ?_, ?_⟩
    · rw [un_ne _ _ _ _ _ (by omega), wm_other _ _ _ _ (by decide)]; exact a
    · rw [un_ne _ _ _ _ _ (by omega), wm_other _ _ _ _ (by decide)]; exact b
    · rw [un_ne _ _ _ _ _ (by omega), wm_other _ _ _ _ (by decide)]; exact c
    · rw [un_self, wm_at, if_pos ⟨rfl, rfl⟩]; exact ⟨rfl, hx⟩
  · refine la_keep (ha j hj) ?_ ?_ ?_ ?_ ?_ ?_ ?_ ?_
    · rfl
    · rfl
    · rfl
    · rw [wm_at, if_neg (by omega)]
    all_goals exact un_ne _ _ _ _ _ (by omega)
theorem lr_tariff {nf nc : Nat} {r : rh_R} {w : rh_Wm} {L : u_L} (h : lr nf nc r w L) {i st pr bg : Nat} (hi : i < 4) (h1 : 1 ≤ st) (h2 : st ≤ 600) (h3 : pr ≤ 1000) (h4 : bg ≤ 1000) : lr nf nc r (wm (wm (wm w 0 i (nI st)) 1 i (nI pr)) 2 i (nI bg)) (un (un (un L 1 (4 * i) st) 1 (4 * i + 1) pr) 1 (4 * i + 2) bg) := by
  obtain ⟨hub, hn, ha, hf, hc, ho, hp⟩ := h
  refine ⟨((hub.upd (by omega)).upd (by omega)).upd (by omega), hn, fun j hj => ?_, hf, hc, ho, hp⟩
  by_cases e : j = i
  · subst e
    obtain ⟨a, b, c, d⟩ := ha j hj
    refine ⟨?_, ?_, ?_, ?_⟩
    · rw [un_ne _ _ _ _ _ (by omega), un_ne _ _ _ _ _ (by omega), un_self, wm_other _ _ _ _ (by decide), wm_other _ _ _ _ (by decide), wm_at, if_pos ⟨rfl, rfl⟩]; exact ⟨rfl, h1, h2⟩
    · rw [un_ne _ _ _ _ _ (by omega), un_self, wm_other _ _ _ _ (by decide), wm_at, if_pos ⟨rfl, rfl⟩]; exact ⟨rfl, h3⟩
    · rw [un_self, wm_at, if_pos ⟨rfl, rfl⟩]; exact ⟨rfl, h4⟩
    · rw [un_ne _ _ _ _ _ (by omega), un_ne _ _ _ _ _ (by omega), un_ne _ _ _ _ _ (by omega), wm_other _ _ _ _ (by decide), wm_other _ _ _ _ (by decide), wm_other _ _ _ _ (by decide)]; exact d
  · refine la_keep (ha j hj) ?_ ?_ ?_ ?_ ?_ ?_ ?_ ?_
    · show wm w 0 i (nI st) 0 j = _
      rw [wm_at, if_neg (by omega)]
    · show wm (wm w 0 i (nI st)) 1 i (nI pr) 1 j = _
      rw [wm_at, if_neg (by omega)]; rfl
    · rw [wm_at, if_neg (by omega)]; rfl
    · rfl
    all_goals (rw [un_ne _ _ _ _ _ (by omega), un_ne _ _ _ _ _ (by omega), un_ne _ _ _ _ _ (by omega)])
/-- a file's state -/
theorem lr_fst {nf nc : Nat} {r : rh_R} {w : rh_Wm} {L : u_L} (h : lr nf nc r w L) {f x : Nat} (hf0 : f < nf) (hx : x ≤ 5) (h2 : ¬ x = 2) : lr nf nc r (wm w 7 f (nI x)) (un L 2 (4 * f + 2) x) := by
  obtain ⟨hub, hn, ha, hf, hc, ho, hp⟩ := h
  refine ⟨hub.upd (by omega), hn, ha, ⟨fun g hg => ?_, fun g hg => ?_⟩, hc, ho, hp⟩
  · by_cases e : g = f
    · subst e
      obtain ⟨⟨a1, a2⟩, ⟨b1, b2⟩, ⟨c1, c2⟩, d1⟩ := hf.1 g hg
      refine ⟨?_, ?_, ?_, ?_⟩
      · rw [un_ne _ _ _ _ _ (by omega)]; exact ⟨a1, a2⟩
      · rw [un_ne _ _ _ _ _ (by omega)]; exact ⟨b1, b2⟩
      · rw [un_self, wm_at, if_pos ⟨rfl, rfl⟩]; exact ⟨rfl, hx⟩
      · rw [un_self]; exact fun z => absurd z h2
    · exact lf1_keep (hf.1 g hg) rfl rfl (by rw [wm_at, if_neg (by omega)]) rfl (un_ne _ _ _ _ _ (by omega)) (un_ne _ _ _ _ _ (by omega)) (un_ne _ _ _ _ _ (by omega)) (un_ne _ _ _ _ _ (by omega)) (Nat.le_refl _)
  · rw [un_ne _ _ _ _ _ (by omega)]; exact hf.2 g hg
/-- a file is sent: its state and number -/
theorem lr_sent {nf nc : Nat} {r : rh_R} {w w' : rh_Wm} {L : u_L} (h : lr nf nc r w L) {f x y : Nat} (hf0 : f < nf) (hx : x ≤ 5) (hy : y ≤ 99) (hw : ∀ q j : Nat, q ≠ 7 → q ≠ 8 → w' q j = w q j) (h7 : ∀ j : Nat, w' 7 j = if j = f then nI x else w 7 j) (h8 : ∀ j : Nat, j ≠ f → w' 8 j = w 8 j) (h8f : x = 2 → w' 8 f = nI y) : lr nf nc r w' (un (un L 2 (4 * f + 2) x) 2 (4 * f + 3) y) := by
  obtain ⟨hub, hn, ha, hf, hc, ho, hp⟩ := h
  obtain ⟨n1, n2, n3, n4, n5⟩ := hn
  refine ⟨(hub.upd (by omega)).upd (by omega), ⟨n1, n2, ?_, n4, ?_⟩, fun j hj => ?_, ⟨fun g hg => ?_, fun g hg => ?_⟩, fun c hcn => ?_, fun k hk => ?_, fun q hq => ?_⟩
  · show L 0 2 = mna w'
    unfold mna
    rw [hw 26 16 (by decide) (by decide)]
    exact n3
  · rw [hw 26 24 (by decide) (by decide)]; exact n5
  · exact la_keep (ha j hj) (hw 0 j (by decide) (by decide)) (hw 1 j (by decide) (by decide)) (hw 2 j (by decide) (by decide)) (hw 3 j (by decide) (by decide)) rfl rfl rfl rfl
  · by_cases e : g = f
    · subst e
      obtain ⟨⟨a1, a2⟩, ⟨b1, b2⟩, ⟨c1, c2⟩, d1⟩ := hf.1 g hg
      refine ⟨?_, ?_, ?_, ?_⟩
      · rw [un_ne _ _ _ _ _ (by omega), un_ne _ _ _ _ _ (by omega)]; exact ⟨a1, a2⟩
      · rw [un_ne _ _ _ _ _ (by omega), un_ne _ _ _ _ _ (by omega), hw 6 g (by decide) (by decide)]; exact ⟨b1, b2⟩
      · rw [un_ne _ _ _ _ _ (by omega), un_self, h7, if_pos rfl]; exact ⟨rfl, hx⟩
      · rw [un_ne _ _ _ _ _ (by omega), un_self, un_self]; exact fun z => ⟨h8f z, hy⟩
    · refine lf1_keep (hf.1 g hg) rfl (hw 6 g (by decide) (by decide)) (by rw [h7, if_neg e]) (h8 g e) ?_ ?_ ?_ ?_ (Nat.le_refl _)
      all_goals (rw [un_ne _ _ _ _ _ (by omega), un_ne _ _ _ _ _ (by omega)])
  · rw [un_ne _ _ _ _ _ (by omega), un_ne _ _ _ _ _ (by omega)]; exact hf.2 g hg
  · exact lc1_keep (hc c hcn) rfl (hw 13 c (by decide) (by decide)) (hw 14 c (by decide) (by decide)) (hw 15 c (by decide) (by decide)) (hw 11 c (by decide) (by decide)) (hw 12 c (by decide) (by decide)) rfl rfl rfl (Nat.le_refl _)
  · have := ho k hk
    rw [hw 17 k (by decide) (by decide)]
    exact this
  · have := hp q hq
    unfold lq1
    rw [hw 18 _ (by decide) (by decide), hw 23 _ (by decide) (by decide), hw 19 _ (by decide) (by decide), hw 20 _ (by decide) (by decide), hw 21 _ (by decide) (by decide), hw 22 _ (by decide) (by decide)]
    exact this
theorem lr_put2 {nf nc : Nat} {r : rh_R} {w : rh_Wm} {L : u_L} (h : lr nf nc r w L) {f y : Nat} (hf0 : f < nf) (hy : y ≤ 99) : lr nf nc r (m_put2 w f (nI y)) (un (un L 2 (4 * f + 2) 2) 2 (4 * f + 3) y) := by
  refine lr_sent h hf0 (by decide) hy (fun q j h1 h2 => ?_) (fun j => ?_) (fun j hj => ?_) (fun _ => ?_)
  · unfold m_put2
    rw [wm_other _ _ _ _ h2, wm_other _ _ _ _ h1]
  · unfold m_put2
    rw [wm_other _ _ _ _ (by decide), wm_at]
    by_cases e : j = f
    · subst e; rw [if_pos ⟨rfl, rfl⟩, if_pos rfl]; rfl
    · rw [if_neg (fun z => e z.2), if_neg e]
  · unfold m_put2
    rw [wm_at, if_neg (fun z => hj z.2)]; rfl
  · unfold m_put2
    rw [wm_at, if_pos ⟨rfl, rfl⟩]
theorem lr_double {nf nc : Nat} {r : rh_R} {w : rh_Wm} {L : u_L} (h : lr nf nc r w L) {f y : Nat} (hf0 : f < nf) (hy : y ≤ 99) : lr nf nc r (wm w 7 f 1) (un (un L 2 (4 * f + 2) 1) 2 (4 * f + 3) y) := by
  refine lr_sent h hf0 (by decide) hy (fun q j h1 h2 => wm_other _ _ _ _ h1 ▸ rfl) (fun j => ?_) (fun j hj => rfl) (fun z => absurd z (by decide))
  rw [wm_at]
  by_cases e : j = f
  · subst e; rw [if_pos ⟨rfl, rfl⟩, if_pos rfl]; rfl
  · rw [if_neg (fun z => e z.2), if_neg e]
/-- a number goes up -/
theorem lq1_keep {w w' : rh_Wm} {L L' : u_L} {q : Nat} (h : lq1 w L q) (h18 : w' 18 (tr q) = w 18 (tr q)) (h23 : w' 23 (tr q) = w 23 (tr q)) (h19 : w' 19 (tr q) = w 19 (tr q)) (h20 : w' 20 (tr q) = w 20 (tr q)) (h21 : w' 21 (tr q) = w 21 (tr q)) (h22 : w' 22 (tr q) = w 22 (tr q)) (e7 : L' 7 q = L 7 q) (e8 : L' 8 q = L 8 q) (e9 : L' 8 (16 + q) = L 8 (16 + q)) (e10 : L' 8 (32 + q) = L 8 (32 + q)) : lq1 w' L' q := by
  unfold lq1
  rw [h18, h23, h19, h20, h21, h22, e7, e8, e9, e10]
  exact h
theorem tr_ne {a b : Nat} (ha : a < 16) (hb : b < 16) (h : ¬ a = b) : ¬ tr a = tr b := fun z => h (tr_inj ha hb z)
theorem lr_exp {nf nc : Nat} {r : rh_R} {w : rh_Wm} {L : u_L} (h : lr nf nc r w L) {q : Nat} (hq : q < 16) (hb : L 7 q ≤ 1000) : lr nf nc r (wm w 18 (tr q) (w 18 (tr q) + 1)) (un L 7 q (L 7 q + 1)) := by
  obtain ⟨hub, hn, ha, hf, hc, ho, hp⟩ := h
  refine ⟨hub.upd (by omega), hn, ha, hf, hc, ho, fun z hz => ?_⟩
  by_cases e : z = q
  · subst e
    obtain ⟨⟨a1, a2⟩, b, c, d⟩ := hp z hz
    refine ⟨?_, b, c, d⟩
    rw [un_self, wm_at, if_pos ⟨rfl, rfl⟩, a1, nI_1]
    exact ⟨rfl, by omega⟩
  · exact lq1_keep (hp z hz) (by rw [wm_at, if_neg (fun y => tr_ne hz hq e y.2)]) rfl rfl rfl rfl rfl (un_ne _ _ _ _ _ e) rfl rfl rfl
theorem lr_promise {nf nc : Nat} {r : rh_R} {w : rh_Wm} {L : u_L} (h : lr nf nc r w L) {q x : Nat} (hq : q < 16) (hx : x ≤ 100000000) : lr nf nc r (wm w 23 (tr q) (nI x)) (un L 8 (32 + q) x) := by
  obtain ⟨hub, hn, ha, hf, hc, ho, hp⟩ := h
  refine ⟨hub.upd (by omega), hn, ha, hf, hc, ho, fun z hz => ?_⟩
  by_cases e : z = q
  · subst e
    obtain ⟨a, b, c, d, e1, e2⟩ := hp z hz
    refine ⟨a, ?_, ?_, ?_, ?_, ?_⟩
    · rw [un_self, wm_at, if_pos ⟨rfl, rfl⟩]; exact ⟨rfl, hx⟩
    · rw [un_ne _ _ _ _ _ (by omega)]; exact c
    · rw [un_ne _ _ _ _ _ (by omega), un_ne _ _ _ _ _ (by omega)]; exact d
    · rw [un_ne _ _ _ _ _ (by omega)]; exact e1
    · rw [un_ne _ _ _ _ _ (by omega)]; exact e2
  · exact lq1_keep (hp z hz) rfl (by rw [wm_at, if_neg (fun y => tr_ne hz hq e y.2)]) rfl rfl rfl rfl rfl (un_ne _ _ _ _ _ (by omega)) (un_ne _ _ _ _ _ (by omega)) (un_ne _ _ _ _ _ (by omega))
theorem lr_agree {nf nc : Nat} {r : rh_R} {w : rh_Wm} {L : u_L} (h : lr nf nc r w L) {q vo rt b : Nat} (hq : q < 16) (hv : vo ≤ 1000000) (hr : rt ≤ 10000) (hb : b ≤ 1) : lr nf nc r (wm (wm (wm (wm w 19 (tr q) 1) 20 (tr q) (nI vo)) 21 (tr q) (nI rt)) 22 (tr q) (nI b)) (un (un L 8 q (vo + 1)) 8 (16 + q) (2 * rt + b)) := by
  obtain ⟨hub, hn, ha, hf, hc, ho, hp⟩ := h
  refine ⟨(hub.upd (by omega)).upd (by omega), hn, ha, hf, hc, ho, fun z hz => ?_⟩
  by_cases e : z = q
  · subst e
    obtain ⟨a, b1, c, d, e1, e2⟩ := hp z hz
    have q8 : un (un L 8 z (vo + 1)) 8 (16 + z) (2 * rt + b) 8 z = vo + 1 := by rw [un_ne _ _ _ _ _ (by omega), un_self]
    refine ⟨a, ?_, ?_, ?_, ?_, ?_⟩
    · rw [un_ne _ _ _ _ _ (by omega), un_ne _ _ _ _ _ (by omega)]; exact b1
    · rw [q8, wm_other _ _ _ _ (by decide), wm_other _ _ _ _ (by decide), wm_other _ _ _ _ (by decide), wm_at, if_pos ⟨rfl, rfl⟩]
      exact ⟨fun y => absurd y (by decide), fun y => absurd y (by omega)⟩
    · rw [q8, un_self, wm_other _ _ _ _ (by decide), wm_other _ _ _ _ (by decide), wm_at, if_pos ⟨rfl, rfl⟩, wm_other _ _ _ _ (by decide), wm_at, if_pos ⟨rfl, rfl⟩, wm_at, if_pos ⟨rfl, rfl⟩]
      intro _
      refine ⟨congrArg nI (by omega), congrArg nI (by omega), ?_⟩
      have hb' : b = 0 ∨ b = 1 := by omega
      rcases hb' with rfl | rfl
      · exact ⟨fun _ => by omega, fun _ => rfl⟩
      · exact ⟨fun y => absurd y (by decide), fun y => absurd y (by omega)⟩
    · rw [q8]; omega
    · rw [un_self]; omega
  · refine lq1_keep (hp z hz) rfl rfl ?_ ?_ ?_ ?_ rfl ?_ ?_ ?_
    · show wm w 19 (tr q) 1 19 (tr z) = _
      rw [wm_at, if_neg (fun y => tr_ne hz hq e y.2)]
    · show wm (wm w 19 (tr q) 1) 20 (tr q) (nI vo) 20 (tr z) = _
      rw [wm_at, if_neg (fun y => tr_ne hz hq e y.2)]; rfl
    · show wm (wm (wm w 19 (tr q) 1) 20 (tr q) (nI vo)) 21 (tr q) (nI rt) 21 (tr z) = _
      rw [wm_at, if_neg (fun y => tr_ne hz hq e y.2)]; rfl
    · rw [wm_at, if_neg (fun y => tr_ne hz hq e y.2)]; rfl
    all_goals (rw [un_ne _ _ _ _ _ (by omega), un_ne _ _ _ _ _ (by omega)])
