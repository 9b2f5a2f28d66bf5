/-! ===== .. calls and files ===== -/
theorem lo_mac {nf nc : Nat} {r : rh_R} {w : rh_Wm} {L : u_L} (h : lr nf nc r w L) {k : Nat} (hk : k < mna w) : mac w k = L 6 k ∧ w 17 k = nI (L 6 k) := by
  obtain ⟨hub, ⟨-, -, hn, -⟩, -, -, -, ho, -⟩ := h
  have e := (ho k (by omega)).1
  refine ⟨?_, e⟩
  unfold mac
  rw [e, nI_clamp (by have := hub 6 k; omega)]
/-- a call is accepted -/
theorem lr_acc1 {nf nc : Nat} {r : rh_R} {w : rh_Wm} {L : u_L} (h : lr nf nc r w L) (hm : m_wf nf nc r w) (hac : rl_ac w) {c f : Nat} (hc0 : c < nc) (hf0 : f < 16) (hcf : L 3 c % 16 = f) (hz : w 13 c = 0) : lr nf nc r (m_acc1 w c) (un (un (un L 3 c (f + 16 + 128 * L 0 3)) 6 (L 0 2) c) 0 2 (L 0 2 + 1)) := by
  have hlo := fun k hk => lo_mac h (k := k) hk
  obtain ⟨hub, ⟨⟨n0, n0'⟩, ⟨n1, n1'⟩, n2, n3, n4⟩, ha, hf, hc, ho, hp⟩ := h
  obtain ⟨q13, q14, q17, q26⟩ := m_acc1_at (w := w) (c := c)
  have hrow := fun q h1 h2 h3 h4 => m_acc1_row (w := w) (c := c) (q := q) h1 h2 h3 h4
  obtain ⟨m1, m2⟩ := m_mna1 (c := c) hm.2.1 (by omega) hm.2.2.1
  have hne : ∀ k, k < L 0 2 → L 6 k ≠ c := fun k hk z => by
    have h1 := hac k (by omega)
    rw [(hlo k (by omega)).1, z] at h1
    exact h1 hz
  refine ⟨((hub.upd (by omega)).upd (by omega)).upd (by have := hub 0 2; have := m_act_le w nc; have := hm.2.1; omega), ⟨⟨n0, n0'⟩, ⟨n1, n1'⟩, ?_, n3, ?_⟩, fun j hj => ?_, ⟨fun g hg => ?_, hf.2⟩, fun d hd => ?_, fun k hk => ?_, fun q hq => ?_⟩
  · rw [un_self, m1, n2]
  · rw [q26, if_neg (by decide)]; exact n4
  · exact la_keep (ha j hj) (by rw [hrow 0 (by decide) (by decide) (by decide) (by decide)]) (by rw [hrow 1 (by decide) (by decide) (by decide) (by decide)]) (by rw [hrow 2 (by decide) (by decide) (by decide) (by decide)]) (by rw [hrow 3 (by decide) (by decide) (by decide) (by decide)]) rfl rfl rfl rfl
  · exact lf1_keep (hf.1 g hg) rfl (by rw [hrow 6 (by decide) (by decide) (by decide) (by decide)]) (by rw [hrow 7 (by decide) (by decide) (by decide) (by decide)]) (by rw [hrow 8 (by decide) (by decide) (by decide) (by decide)]) rfl rfl rfl rfl (Nat.le_refl _)
  · by_cases e : d = c
    · subst e
      obtain ⟨⟨a1, a2⟩, b1, c1, d1, f1, g1⟩ := hc d hd
      have e3 : un (un (un L 3 d (f + 16 + 128 * L 0 3)) 6 (L 0 2) d) 0 2 (L 0 2 + 1) 3 d = f + 16 + 128 * L 0 3 := un_self L 3 d _
      have e03 : un (un (un L 3 d (f + 16 + 128 * L 0 3)) 6 (L 0 2) d) 0 2 (L 0 2 + 1) 0 3 = L 0 3 := rfl
      refine ⟨?_, ?_, ?_, ?_, ?_, ?_⟩
      · rw [e3]; exact ⟨by omega, by rw [a2]; omega⟩
      · rw [e3, q13, if_pos rfl, show (f + 16 + 128 * L 0 3) / 16 % 8 = 1 by omega]; exact ⟨rfl, by decide⟩
      · rw [e3, e03, q14, if_pos rfl, n4]
        exact fun _ => ⟨congrArg nI (by omega), by omega⟩
      · rw [e3]; exact fun z => absurd z (by omega)
      · rw [hrow 11 (by decide) (by decide) (by decide) (by decide)]; exact f1
      · rw [hrow 12 (by decide) (by decide) (by decide) (by decide)]; exact g1
    · exact lc1_keep (hc d hd) rfl (by rw [q13, if_neg e]) (by rw [q14, if_neg e]) (by rw [hrow 15 (by decide) (by decide) (by decide) (by decide)]) (by rw [hrow 11 (by decide) (by decide) (by decide) (by decide)]) (by rw [hrow 12 (by decide) (by decide) (by decide) (by decide)]) (un_ne L 3 c _ d e) rfl rfl (Nat.le_refl _)
  · rw [un_self] at hk
    show m_acc1 w c 17 k = nI (un L 6 (L 0 2) c 6 k) ∧ ∀ k', k' < un (un (un L 3 c (f + 16 + 128 * L 0 3)) 6 (L 0 2) c) 0 2 (L 0 2 + 1) 0 2 → un L 6 (L 0 2) c 6 k = un L 6 (L 0 2) c 6 k' → k = k'
    rw [un_self, q17, ← n2]
    by_cases e : k = L 0 2
    · subst e
      rw [if_pos rfl, un_self]
      refine ⟨rfl, fun k' hk' z => ?_⟩
      by_cases e' : k' = L 0 2
      · exact e'.symm
      · rw [un_ne _ _ _ _ _ e'] at z
        exact absurd z.symm (hne k' (by omega))
    · rw [if_neg e, un_ne _ _ _ _ _ e]
      refine ⟨(ho k (by omega)).1, fun k' hk' z => ?_⟩
      by_cases e' : k' = L 0 2
      · subst e'
        rw [un_self] at z
        exact absurd z (hne k (by omega))
      · rw [un_ne _ _ _ _ _ e'] at z
        exact (ho k (by omega)).2 k' (by omega) z
  · exact lq1_keep (hp q hq) (by rw [hrow 18 (by decide) (by decide) (by decide) (by decide)]) (by rw [hrow 23 (by decide) (by decide) (by decide) (by decide)]) (by rw [hrow 19 (by decide) (by decide) (by decide) (by decide)]) (by rw [hrow 20 (by decide) (by decide) (by decide) (by decide)]) (by rw [hrow 21 (by decide) (by decide) (by decide) (by decide)]) (by rw [hrow 22 (by decide) (by decide) (by decide) (by decide)]) rfl rfl rfl rfl
/-- a file is begun -/
theorem lr_begin {nf nc : Nat} {r : rh_R} {w : rh_Wm} {L : u_L} (h : lr nf nc r w L) (hnf : nf < 16) {q : Nat} (hq : q < 16) : lr (nf + 1) nc (ad2 r 8 nf (tr q)) (wm (wm (wm (wm w 5 nf (nI (tr q))) 6 nf (w 26 24)) 7 nf 0) 26 4 (nI (nf + 1))) (un (un (un L 2 (4 * nf) q) 2 (4 * nf + 1) (L 0 3)) 0 0 (nf + 1)) := by
  obtain ⟨hub, ⟨⟨n0, n0'⟩, ⟨n1, n1'⟩, n2, n3, n4⟩, ha, hf, hc, ho, hp⟩ := h
  refine ⟨((hub.upd (by omega)).upd (by omega)).upd (by omega), ⟨⟨un_self _ _ _ _, hnf⟩, ⟨n1, n1'⟩, n2, n3, n4⟩, fun j hj => ha j hj, ⟨fun g hg => ?_, fun g hg => ?_⟩, fun c hcn => ?_, ho, hp⟩
  · show lf1 _ _ _ g
    by_cases e : g = nf
    · subst e
      have h2 := hf.2 g (Nat.le_refl _)
      refine ⟨⟨?_, ?_⟩, ⟨?_, ?_⟩, ⟨?_, ?_⟩, ?_⟩
      · show un (un L 2 (4 * g) q) 2 (4 * g + 1) (L 0 3) 2 (4 * g) < 16
        rw [un_ne _ _ _ _ _ (by omega), un_self]; exact hq
      · rw [ad2_self]
        show tr q = tr (un (un L 2 (4 * g) q) 2 (4 * g + 1) (L 0 3) 2 (4 * g))
        rw [un_ne _ _ _ _ _ (by omega), un_self]
      · show wm (wm w 5 g (nI (tr q))) 6 g (w 26 24) 6 g = nI (un (un L 2 (4 * g) q) 2 (4 * g + 1) (L 0 3) 2 (4 * g + 1))
        rw [wm_at, if_pos ⟨rfl, rfl⟩, un_self]; exact n4
      · show un (un L 2 (4 * g) q) 2 (4 * g + 1) (L 0 3) 2 (4 * g + 1) ≤ L 0 3
        rw [un_self]; exact Nat.le_refl _
      · show wm (wm (wm w 5 g (nI (tr q))) 6 g (w 26 24)) 7 g 0 7 g = nI (un (un L 2 (4 * g) q) 2 (4 * g + 1) (L 0 3) 2 (4 * g + 2))
        rw [wm_at, if_pos ⟨rfl, rfl⟩, un_ne _ _ _ _ _ (by omega), un_ne _ _ _ _ _ (by omega), h2]; rfl
      · show un (un L 2 (4 * g) q) 2 (4 * g + 1) (L 0 3) 2 (4 * g + 2) ≤ 5
        rw [un_ne _ _ _ _ _ (by omega), un_ne _ _ _ _ _ (by omega), h2]; decide
      · intro z
        have z' : un (un L 2 (4 * g) q) 2 (4 * g + 1) (L 0 3) 2 (4 * g + 2) = 2 := z
        rw [un_ne _ _ _ _ _ (by omega), un_ne _ _ _ _ _ (by omega), h2] at z'
        exact absurd z' (by decide)
    · have hgl : g < nf := by omega
      refine lf1_keep (hf.1 g hgl) (ad2_ne _ _ _ _ (by omega)) ?_ ?_ rfl ?_ ?_ ?_ ?_ (Nat.le_refl _)
      · show wm (wm w 5 nf (nI (tr q))) 6 nf (w 26 24) 6 g = _
        rw [wm_at, if_neg (by omega)]; rfl
      · show wm (wm (wm w 5 nf (nI (tr q))) 6 nf (w 26 24)) 7 nf 0 7 g = _
        rw [wm_at, if_neg (by omega)]; rfl
      all_goals
        show un (un L 2 (4 * nf) q) 2 (4 * nf + 1) (L 0 3) 2 _ = _
        rw [un_ne _ _ _ _ _ (by omega), un_ne _ _ _ _ _ (by omega)]
  · show un (un L 2 (4 * nf) q) 2 (4 * nf + 1) (L 0 3) 2 (4 * g + 2) = 0
    rw [un_ne _ _ _ _ _ (by omega), un_ne _ _ _ _ _ (by omega)]; exact hf.2 g (by omega)
  · exact lc1_keep (hc c hcn) (ad2_ne _ _ _ _ (by omega)) rfl rfl rfl rfl rfl rfl rfl rfl (Nat.le_refl _)
/-- a call is entered -/
theorem lr_enter {nf nc : Nat} {r : rh_R} {w : rh_Wm} {L : u_L} (h : lr nf nc r w L) (hnc : nc < 40) {i se to : Nat} (hi : i < nf) (h1 : 1 ≤ se) (h2 : se ≤ 36000) (h3 : to ≤ 50000000) : lr nf (nc + 1) (ad2 r 9 nc i) (wm (wm (wm (wm (wm w 10 nc (nI i)) 11 nc (nI se)) 12 nc (nI to)) 13 nc 0) 26 9 (nI (nc + 1))) (un (un (un (un L 3 nc i) 4 nc se) 5 nc to) 0 1 (nc + 1)) := by
  obtain ⟨hub, ⟨⟨n0, n0'⟩, ⟨n1, n1'⟩, n2, n3, n4⟩, ha, hf, hc, ho, hp⟩ := h
  refine ⟨(((hub.upd (by omega)).upd (by omega)).upd (by omega)).upd (by omega), ⟨⟨n0, n0'⟩, ⟨un_self _ _ _ _, hnc⟩, n2, n3, n4⟩, fun j hj => ha j hj, ⟨fun g hg => ?_, hf.2⟩, fun c hcn => ?_, ho, hp⟩
  · exact lf1_keep (hf.1 g hg) (ad2_ne _ _ _ _ (by omega)) rfl rfl rfl rfl rfl rfl rfl (Nat.le_refl _)
  · by_cases e : c = nc
    · subst e
      have e3 : un (un (un (un L 3 c i) 4 c se) 5 c to) 0 1 (c + 1) 3 c = i := un_self L 3 c i
      refine ⟨?_, ?_, ?_, ?_, ?_, ?_⟩
      · rw [e3, ad2_self]; exact ⟨by omega, by omega⟩
      · rw [e3]
        show wm (wm (wm (wm w 10 c (nI i)) 11 c (nI se)) 12 c (nI to)) 13 c 0 13 c = _ ∧ _
        rw [wm_at, if_pos ⟨rfl, rfl⟩, show i / 16 % 8 = 0 by omega]
        exact ⟨rfl, by decide⟩
      · rw [e3]; exact fun z => absurd (show i / 16 % 8 = 0 by omega) z
      · rw [e3]; exact fun z => absurd z (by omega)
      · show wm (wm w 10 c (nI i)) 11 c (nI se) 11 c = nI (un (un L 3 c i) 4 c se 4 c) ∧ 1 ≤ un (un L 3 c i) 4 c se 4 c ∧ un (un L 3 c i) 4 c se 4 c ≤ 36000
        rw [wm_at, if_pos ⟨rfl, rfl⟩, un_self]
        exact ⟨rfl, h1, h2⟩
      · show wm (wm (wm w 10 c (nI i)) 11 c (nI se)) 12 c (nI to) 12 c = nI (un (un (un L 3 c i) 4 c se) 5 c to 5 c) ∧ un (un (un L 3 c i) 4 c se) 5 c to 5 c ≤ 50000000
        rw [wm_at, if_pos ⟨rfl, rfl⟩, un_self]
        exact ⟨rfl, h3⟩
    · refine lc1_keep (hc c (by omega)) (ad2_ne _ _ _ _ (by omega)) ?_ rfl rfl ?_ ?_ (un_ne L 3 nc i c e) ?_ ?_ (Nat.le_refl _)
      · show wm (wm (wm (wm w 10 nc (nI i)) 11 nc (nI se)) 12 nc (nI to)) 13 nc 0 13 c = _
        rw [wm_at, if_neg (by omega)]; rfl
      · show wm (wm w 10 nc (nI i)) 11 nc (nI se) 11 c = _
        rw [wm_at, if_neg (by omega)]; rfl
      · show wm (wm (wm w 10 nc (nI i)) 11 nc (nI se)) 12 nc (nI to) 12 c = _
        rw [wm_at, if_neg (by omega)]; rfl
      · show un (un L 3 nc i) 4 nc se 4 c = _
        rw [un_ne _ _ _ _ _ e]; rfl
      · show un (un (un L 3 nc i) 4 nc se) 5 nc to 5 c = _
        rw [un_ne _ _ _ _ _ e]; rfl
/-- a call's state is set, and (of a dispute) its month -/
theorem lr_cst {nf nc : Nat} {r : rh_R} {w w' : rh_Wm} {L : u_L} (h : lr nf nc r w L) {i x : Nat} (hi : i < nc) (h16 : x % 16 = L 3 i % 16) (hmo : x / 128 % 64 = L 3 i / 128 % 64) (hx : x < 294912) (hst : L 3 i / 16 % 8 ≠ 0) (hx0 : x / 16 % 8 ≤ 4) (hw : ∀ q j : Nat, q ≠ 13 → q ≠ 15 → w' q j = w q j) (h13 : ∀ j : Nat, w' 13 j = if j = i then nI (x / 16 % 8) else w 13 j) (h15 : ∀ j : Nat, j ≠ i → w' 15 j = w 15 j) (hd : x / 16 % 8 = 2 → w' 15 i = nI (x / 8192) ∧ x / 8192 ≤ L 0 3) : lr nf nc r w' (un L 3 i x) := by
  obtain ⟨hub, ⟨⟨n0, n0'⟩, ⟨n1, n1'⟩, n2, n3, n4⟩, ha, hf, hc, ho, hp⟩ := h
  refine ⟨hub.upd (by omega), ⟨⟨n0, n0'⟩, ⟨n1, n1'⟩, ?_, n3, ?_⟩, fun j hj => ?_, ⟨fun g hg => ?_, hf.2⟩, fun c hcn => ?_, fun k hk => ?_, fun q hq => ?_⟩
  · show L 0 2 = mna w'
    unfold mna
    rw [hw 26 16 (by decide) (by decide)]; exact n2
  · rw [hw 26 24 (by decide) (by decide)]; exact n4
  · exact la_keep (ha j hj) (hw 0 j (by decide) (by decide)) (hw 1 j (by decide) (by decide)) (hw 2 j (by decide) (by decide)) (hw 3 j (by decide) (by decide)) rfl rfl rfl rfl
  · exact lf1_keep (hf.1 g hg) rfl (hw 6 g (by decide) (by decide)) (hw 7 g (by decide) (by decide)) (hw 8 g (by decide) (by decide)) rfl rfl rfl rfl (Nat.le_refl _)
  · by_cases e : c = i
    · subst e
      obtain ⟨⟨a1, a2⟩, b1, c1, d1, f1, g1⟩ := hc c hcn
      have e3 : un L 3 c x 3 c = x := un_self L 3 c x
      refine ⟨?_, ?_, ?_, ?_, ?_, ?_⟩
      · rw [e3]; exact ⟨hx, a2.trans h16.symm⟩
      · rw [e3, h13, if_pos rfl]; exact ⟨rfl, hx0⟩
      · rw [e3, hw 14 c (by decide) (by decide), hmo]; exact fun _ => c1 hst
      · rw [e3]; exact hd
      · rw [hw 11 c (by decide) (by decide)]; exact f1
      · rw [hw 12 c (by decide) (by decide)]; exact g1
    · exact lc1_keep (hc c hcn) rfl (by rw [h13, if_neg e]) (hw 14 c (by decide) (by decide)) (h15 c e) (hw 11 c (by decide) (by decide)) (hw 12 c (by decide) (by decide)) (un_ne _ _ _ _ _ e) rfl rfl (Nat.le_refl _)
  · have := ho k hk
    rw [hw 17 k (by decide) (by decide)]
    exact this
  · have := hp q hq
    unfold lq1
    rw [hw 18 _ (by decide) (by decide), hw 23 _ (by decide) (by decide), hw 19 _ (by decide) (by decide), hw 20 _ (by decide) (by decide), hw 21 _ (by decide) (by decide), hw 22 _ (by decide) (by decide)]
    exact this
/-- a month goes by -/
def u_gb (L : u_L) (n : Nat) : u_L := fun k a => if k = 3 ∧ a < n ∧ L 3 a / 16 % 8 = 2 ∧ 1 < L 0 3 - L 3 a / 8192 then L 3 a % 16 + 64 + 128 * (L 3 a / 128 % 64) else L k a
theorem u_gb_3 (L : u_L) (n a : Nat) : u_gb L n 3 a = if a < n ∧ L 3 a / 16 % 8 = 2 ∧ 1 < L 0 3 - L 3 a / 8192 then L 3 a % 16 + 64 + 128 * (L 3 a / 128 % 64) else L 3 a := by
  unfold u_gb
  by_cases h : a < n ∧ L 3 a / 16 % 8 = 2 ∧ 1 < L 0 3 - L 3 a / 8192
  · rw [if_pos ⟨rfl, h⟩, if_pos h]
  · rw [if_neg (fun z => h z.2), if_neg h]
theorem u_gb_0 (L : u_L) : u_gb L 0 = L := by
  funext k a
  unfold u_gb
  rw [if_neg (by omega)]
theorem u_gb_s (L : u_L) (n : Nat) : un (u_gb L n) 3 n (if L 3 n / 16 % 8 = 2 ∧ 1 < L 0 3 - L 3 n / 8192 then L 3 n % 16 + 64 + 128 * (L 3 n / 128 % 64) else L 3 n) = u_gb L (n + 1) := by
  funext k a
  unfold un u_gb
  by_cases h3 : k = 3
  · subst h3
    by_cases hn : a = n
    · subst hn
      rw [if_pos ⟨rfl, rfl⟩]
      by_cases hc : L 3 a / 16 % 8 = 2 ∧ 1 < L 0 3 - L 3 a / 8192
      · rw [if_pos hc, if_pos ⟨rfl, by omega, hc⟩]
      · rw [if_neg hc, if_neg (fun z => hc z.2.2)]
    · rw [if_neg (fun z => hn z.2)]
      by_cases hc : a < n ∧ L 3 a / 16 % 8 = 2 ∧ 1 < L 0 3 - L 3 a / 8192
      · rw [if_pos ⟨rfl, hc⟩, if_pos ⟨rfl, by omega, hc.2⟩]
      · rw [if_neg (fun z => hc z.2), if_neg (fun z => hc ⟨by omega, z.2.2⟩)]
  · rw [if_neg (fun z => h3 z.1), if_neg (fun z => h3 z.1), if_neg (fun z => h3 z.1)]
theorem u_gb_at (L : u_L) (n : Nat) : (∀ k a : Nat, k ≠ 3 → u_gb L n k a = L k a) ∧ u_gb L n 3 n = L 3 n := by
  refine ⟨fun k a hk => ?_, ?_⟩
  · unfold u_gb
    rw [if_neg (fun z => hk z.1)]
  · unfold u_gb
    rw [if_neg (by omega)]
theorem lr_next {nf nc : Nat} {r : rh_R} {w : rh_Wm} {L : u_L} (h : lr nf nc r w L) (ht : L 0 3 < 35) (hd : ∀ c : Nat, c < nc → L 3 c / 16 % 8 = 2 → L 0 3 ≤ L 3 c / 8192 + 1) : lr nf nc r (m_gb (wm w 26 24 (w 26 24 + 1)) nc) (u_gb (un L 0 3 (L 0 3 + 1)) nc) := by
  obtain ⟨hub, ⟨⟨n0, n0'⟩, ⟨n1, n1'⟩, n2, n3, n4⟩, ha, hf, hc, ho, hp⟩ := h
  have hrow : ∀ q : Nat, q ≠ 13 → m_gb (wm w 26 24 (w 26 24 + 1)) nc q = wm w 26 24 (w 26 24 + 1) q := fun q hq => m_gb_row hq nc
  have hL := (u_gb_at (un L 0 3 (L 0 3 + 1)) nc).1
  have hub1 : ub (un L 0 3 (L 0 3 + 1)) := hub.upd (by omega)
  have e03 : un L 0 3 (L 0 3 + 1) 0 3 = L 0 3 + 1 := un_self L 0 3 _
  have e24 : w 26 24 + 1 = nI (L 0 3 + 1) := by rw [n4, nI_1]
  refine ⟨fun k a => ?_, ⟨⟨?_, n0'⟩, ⟨?_, n1'⟩, ?_, ?_, ?_⟩, fun j hj => ?_, ⟨fun g hg => ?_, fun g hg => ?_⟩, fun c hcn => ?_, fun k hk => ?_, fun q hq => ?_⟩
  · unfold u_gb
    split
    · omega
    · exact hub1 k a
  · rw [hL 0 0 (by decide)]; exact n0
  · rw [hL 0 1 (by decide)]; exact n1
  · rw [hL 0 2 (by decide)]
    unfold mna
    rw [hrow 26 (by decide)]
    exact n2
  · rw [hL 0 3 (by decide), e03]; omega
  · rw [hL 0 3 (by decide), e03, hrow 26 (by decide), wm_at, if_pos ⟨rfl, rfl⟩]; exact e24
  · refine la_keep (ha j hj) (by rw [hrow 0 (by decide)]; rfl) (by rw [hrow 1 (by decide)]; rfl) (by rw [hrow 2 (by decide)]; rfl) (by rw [hrow 3 (by decide)]; rfl) ?_ ?_ ?_ ?_
    all_goals (rw [hL 1 _ (by decide)]; rfl)
  · refine lf1_keep (hf.1 g hg) rfl (by rw [hrow 6 (by decide)]; rfl) (by rw [hrow 7 (by decide)]; rfl) (by rw [hrow 8 (by decide)]; rfl) ?_ ?_ ?_ ?_ (by rw [hL 0 3 (by decide), e03]; omega)
    all_goals (rw [hL 2 _ (by decide)]; rfl)
  · rw [hL 2 _ (by decide)]; exact hf.2 g hg
  · obtain ⟨⟨a1, a2⟩, ⟨b1, b2⟩, c1, d1, f1, g1⟩ := hc c hcn
    have h13 : m_gb (wm w 26 24 (w 26 24 + 1)) nc 13 c = if L 3 c / 16 % 8 = 2 ∧ 1 < L 0 3 + 1 - L 3 c / 8192 then 4 else nI (L 3 c / 16 % 8) := by
      have e26 : wm w 26 24 (w 26 24 + 1) 26 24 = nI (L 0 3 + 1) := by rw [wm_at, if_pos ⟨rfl, rfl⟩]; exact e24
      have e13 : wm w 26 24 (w 26 24 + 1) 13 c = w 13 c := rfl
      have e15 : wm w 26 24 (w 26 24 + 1) 15 c = w 15 c := rfl
      rw [m_gb_at, e26, e13, e15, b1]
      by_cases h2 : L 3 c / 16 % 8 = 2
      · obtain ⟨d2, d3⟩ := d1 h2
        have hd9 := hd c hcn h2
        by_cases h5 : 1 < L 0 3 + 1 - L 3 c / 8192
        · have hy : c < nc ∧ nI (L 3 c / 16 % 8) = 2 ∧ nI (L 0 3 + 1) = w 15 c + 2 := by
            refine ⟨hcn, by rw [h2]; rfl, ?_⟩
            rw [d2, show (2 : Int32) = nI 2 from rfl, nI_add]
            exact congrArg nI (by omega)
          rw [if_pos hy, if_pos ⟨h2, h5⟩]
        · have hy : ¬ (c < nc ∧ nI (L 3 c / 16 % 8) = 2 ∧ nI (L 0 3 + 1) = w 15 c + 2) := by
            rintro ⟨-, -, z⟩
            rw [d2, show (2 : Int32) = nI 2 from rfl, nI_add] at z
            have := m_inj (by omega) (by omega) z
            omega
          rw [if_neg hy, if_neg (fun z => h5 z.2)]
      · have hy : ¬ (c < nc ∧ nI (L 3 c / 16 % 8) = 2 ∧ nI (L 0 3 + 1) = w 15 c + 2) := by
          rintro ⟨-, z, -⟩
          exact h2 (m_inj (b := 2) (by omega) (by decide) z)
        rw [if_neg hy, if_neg (fun z => h2 z.1)]
    have eL : u_gb (un L 0 3 (L 0 3 + 1)) nc 3 c = if L 3 c / 16 % 8 = 2 ∧ 1 < L 0 3 + 1 - L 3 c / 8192 then L 3 c % 16 + 64 + 128 * (L 3 c / 128 % 64) else L 3 c := by
      rw [u_gb_3, un_other L 0 3 _ (show (3 : Nat) ≠ 0 by decide), e03]
      by_cases h5 : L 3 c / 16 % 8 = 2 ∧ 1 < L 0 3 + 1 - L 3 c / 8192
      · rw [if_pos h5, if_pos ⟨hcn, h5⟩]
      · rw [if_neg h5, if_neg (fun z => h5 z.2)]
    have el03 : u_gb (un L 0 3 (L 0 3 + 1)) nc 0 3 = L 0 3 + 1 := by rw [hL 0 3 (by decide), e03]
    by_cases h5 : L 3 c / 16 % 8 = 2 ∧ 1 < L 0 3 + 1 - L 3 c / 8192
    · rw [if_pos h5] at h13 eL
      refine ⟨?_, ?_, ?_, ?_, ?_, ?_⟩
      · rw [eL]; exact ⟨by omega, by rw [a2]; omega⟩
      · rw [eL, h13, show (L 3 c % 16 + 64 + 128 * (L 3 c / 128 % 64)) / 16 % 8 = 4 by omega]; exact ⟨rfl, by decide⟩
      · rw [eL, el03, hrow 14 (by decide), show (L 3 c % 16 + 64 + 128 * (L 3 c / 128 % 64)) / 128 % 64 = L 3 c / 128 % 64 by omega]
        exact fun _ => ⟨(c1 (by omega)).1, Nat.le_succ_of_le (c1 (by omega)).2⟩
      · rw [eL]; exact fun z => absurd z (by omega)
      · rw [hrow 11 (by decide), hL 4 c (by decide)]; exact f1
      · rw [hrow 12 (by decide), hL 5 c (by decide)]; exact g1
    · rw [if_neg h5] at h13 eL
      refine ⟨?_, ?_, ?_, ?_, ?_, ?_⟩
      · rw [eL]; exact ⟨a1, a2⟩
      · rw [eL, h13]; exact ⟨rfl, b2⟩
      · rw [eL, el03, hrow 14 (by decide)]
        exact fun z => ⟨(c1 z).1, Nat.le_succ_of_le (c1 z).2⟩
      · rw [eL, el03, hrow 15 (by decide)]
        exact fun z => ⟨(d1 z).1, Nat.le_succ_of_le (d1 z).2⟩
      · rw [hrow 11 (by decide), hL 4 c (by decide)]; exact f1
      · rw [hrow 12 (by decide), hL 5 c (by decide)]; exact g1
  · rw [hL 0 2 (by decide)] at hk
    rw [hrow 17 (by decide), hL 6 k (by decide), hL 0 2 (by decide)]
    refine ⟨(ho k hk).1, fun k' hk' z => ?_⟩
    rw [hL 6 k' (by decide)] at z
    exact (ho k hk).2 k' hk' z
  · refine lq1_keep (hp q hq) (by rw [hrow 18 (by decide)]; rfl) (by rw [hrow 23 (by decide)]; rfl) (by rw [hrow 19 (by decide)]; rfl) (by rw [hrow 20 (by decide)]; rfl) (by rw [hrow 21 (by decide)]; rfl) (by rw [hrow 22 (by decide)]; rfl) (by rw [hL 7 _ (by decide)]; rfl) (by rw [hL 8 _ (by decide)]; rfl) (by rw [hL 8 _ (by decide)]; rfl) (by rw [hL 8 _ (by decide)]; rfl)
/-- .. or does not -/
theorem u_gb_same {L : u_L} {nc : Nat} (hd : ∀ c : Nat, c < nc → L 3 c / 16 % 8 = 2 → L 0 3 ≤ L 3 c / 8192 + 1) : u_gb L nc = L := by
  funext k a
  unfold u_gb
  rw [if_neg]
  rintro ⟨-, h1, h2, h3⟩
  have := hd a h1 h2
  omega
