/-! ===== files are sent ===== -/
def rk (nf nc : Nat) (r : rh_R) (v : rh_V) (w : rh_Wm) : Prop := rh_wf nf nc r v ∧ m_wf nf nc r w ∧ rl_op v w ∧ rl_pr v w ∧ rl_fi nf nc r v w ∧ rl_ca nc r v w ∧ rl_ye r v w ∧ rl_ac w ∧ rl_ti nf nc v w
/-- .. but for a file's state and number -/
def rx (nf nc : Nat) (r : rh_R) (v : rh_V) (w : rh_Wm) (g : Nat) : Prop := rh_wf nf nc r v ∧ m_wf nf nc r w ∧ rl_op v w ∧ rl_pr v w ∧ (∀ f : Nat, f < nf → f ≠ g → rl_f nc r v w f) ∧ (v 8 g 1 = w 6 g ∧ v 8 g 3 = m_cn r g nc) ∧ rl_ca nc r v w ∧ rl_ye r v w ∧ rl_ac w ∧ rl_ti nf nc v w
theorem inv.k {nf nc : Nat} {r : rh_R} {v : rh_V} {w : rh_Wm} (h : inv nf nc r v w) : rk nf nc r v w := ⟨h.1, h.2.1, h.2.2.1, h.2.2.2.1, h.2.2.2.2.1, h.2.2.2.2.2.1, h.2.2.2.2.2.2.1, h.2.2.2.2.2.2.2.1, h.2.2.2.2.2.2.2.2.1⟩
theorem rk.inv {nf nc : Nat} {r : rh_R} {v : rh_V} {w : rh_Wm} (h : rk nf nc r v w) (hw : rl_wa nf r w) : inv nf nc r v w := ⟨h.1, h.2.1, h.2.2.1, h.2.2.2.1, h.2.2.2.2.1, h.2.2.2.2.2.1, h.2.2.2.2.2.2.1, h.2.2.2.2.2.2.2.1, h.2.2.2.2.2.2.2.2, hw⟩
theorem rk.x {nf nc : Nat} {r : rh_R} {v : rh_V} {w : rh_Wm} (h : rk nf nc r v w) {g : Nat} (hg : g < nf) : rx nf nc r v w g := ⟨h.1, h.2.1, h.2.2.1, h.2.2.2.1, fun f hf _ => h.2.2.2.2.1 f hf, ⟨(h.2.2.2.2.1 g hg).1, (h.2.2.2.2.1 g hg).2.2.2⟩, h.2.2.2.2.2⟩
theorem rl_f_eq {nc : Nat} {r : rh_R} {v v' : rh_V} {w w' : rh_Wm} {f : Nat} (h : rl_f nc r v w f) (h1 : v' 8 f = v 8 f) (h6 : w' 6 f = w 6 f) (h7 : w' 7 f = w 7 f) (h8 : w' 8 f = w 8 f) : rl_f nc r v' w' f := by
  unfold rl_f
  rw [h1, h6, h7, h8]
  exact h
theorem wr_row8 {v : rh_V} {g f j : Nat} {x : Int32} (h : f ≠ g) : wr v 8 g j x 8 f = v 8 f := wr_other v 8 g j x (fun z => h z.2)
/-- a file's state is set, not to wait -/
theorem rx_state {nf nc : Nat} {r : rh_R} {v : rh_V} {w : rh_Wm} {g : Nat} (h : rx nf nc r v w g) (h5 : ¬ w 7 g = 5) {x : Int32} (hx : ¬ x = 2) : rk nf nc r (wr v 8 g 2 x) (wm w 7 g x) := by
  obtain ⟨hwf, hm, ho, hp, hf, ⟨g1, g3⟩, hca, hye, hac, hti⟩ := h
  have e7 : ∀ f, wm w 7 g x 7 f = if f = g then x else w 7 f := fun f => by simp [wm_at]
  refine ⟨wf_wr hwf (by decide) (by decide) (by decide), ⟨m_wf0_wm hm.1 (by decide) (by decide) (by decide) (by decide), m_file_wf1 hm.2 (m_out hm h5) x⟩, ho, hp, fun f hf9 => ?_, fun c hc => rl_c_eq (hca c hc) rfl rfl rfl rfl rfl rfl rfl rfl, rl_ye_eq hye rfl rfl rfl rfl rfl, hac, hti⟩
  by_cases hfg : f = g
  · subst hfg
    unfold rl_f
    rw [e7, if_pos rfl]
    refine ⟨?_, ?_, fun z => absurd z hx, ?_⟩
    · rw [wr_at, if_neg (by omega)]; exact g1
    · rw [wr_at, if_pos ⟨rfl, rfl, rfl⟩]
    · rw [wr_at, if_neg (by omega)]; exact g3
  · exact rl_f_eq (hf f hf9 hfg) (wr_row8 hfg) rfl (by rw [e7, if_neg hfg]) rfl
/-- the number that is expected goes up -/
theorem rk_exp {nf nc : Nat} {r : rh_R} {v : rh_V} {w : rh_Wm} (h : rk nf nc r v w) {q : Nat} (hq : q < 16) : rk nf nc r (wr v 6 q 1 (v 6 q 1 + 1)) (wm w 18 q (w 18 q + 1)) := by
  obtain ⟨hwf, hm, ho, hp, hf, hca, hye, hac, hti⟩ := h
  refine ⟨wf_wr hwf (by decide) (by decide) (by decide), m_exp_wf hm (Or.inl rfl), ho, ?_, hf, fun c hc => rl_c_eq (hca c hc) rfl rfl rfl rfl rfl rfl rfl rfl, rl_ye_eq hye rfl rfl rfl rfl rfl, hac, hti⟩
  intro a ha
  obtain ⟨p1, p2, p3, p4⟩ := hp a ha
  by_cases e : a = q
  · subst e
    refine ⟨?_, ?_, ?_, ?_⟩
    · simp [wr_at, wm_at, p1]
    · simpa [wr_at, wm_at] using p2
    · simpa [wr_at, wm_at] using p3
    · simpa [wr_at, wm_at] using p4
  · refine ⟨?_, ?_, ?_, ?_⟩
    · simpa [wr_at, wm_at, e] using p1
    · simpa [wr_at, wm_at, e] using p2
    · simpa [wr_at, wm_at, e] using p3
    · simpa [wr_at, wm_at, e] using p4
theorem m_ahead_gen {r r' : rh_R} {w w' : rh_Wm} {q : Nat} {y : Int32} : ∀ n : Nat, (∀ k : Nat, k < n → mac w' k = mac w k ∧ c_pr r' (mac w k) = c_pr r (mac w k) ∧ w' 14 (mac w k) = w 14 (mac w k) ∧ w' 11 (mac w k) = w 11 (mac w k)) → m_ahead r' w' q y n = m_ahead r w q y n
  | 0, _ => rfl
  | n + 1, h => by
    obtain ⟨h1, h2, h3, h4⟩ := h n (by omega)
    unfold m_ahead
    rw [m_ahead_gen n (fun k hk => h k (by omega)), h1, h2, h3, h4]
theorem firstp_eq {P Q : Nat → Bool} {n m j : Nat} (h : firstp P n = some j) (hnm : n ≤ m) (hPQ : ∀ i, i < n → Q i = P i) : firstp Q m = some j := by
  obtain ⟨a, b, c⟩ := firstp_some _ h
  cases hq : firstp Q m with
  | none => exact absurd (by rw [hPQ j a]; exact b) (firstp_none _ hq j (by omega))
  | some k =>
    obtain ⟨a', b', c'⟩ := firstp_some _ hq
    have : k = j := by
      rcases Nat.lt_trichotomy k j with z | z | z
      · exact absurd (by rw [← hPQ k (by omega)]; exact b') (c k z)
      · exact z
      · exact absurd (by rw [hPQ j a]; exact b) (c' j z)
    rw [this]
theorem m_pl_some {nf nc : Nat} {r : rh_R} {w : rh_Wm} (h : m_wf nf nc r w) {c : Nat} (hc : c < nc) (hs : ¬ w 13 c = 0) : firstp (fun k => decide (w 17 k = nI c)) (mna w) = some (m_pl w c) := by
  obtain ⟨_, k, hk, hkc⟩ := h.2.2.2.2 c hc hs
  unfold m_pl
  cases hp : firstp (fun k => decide (w 17 k = nI c)) (mna w) with
  | none => exact absurd (decide_eq_true hkc) (firstp_none _ hp k hk)
  | some j => rfl
theorem c_acc1_ne {r : rh_R} {v : rh_V} {c : Nat} {m : Int32} {a : Nat} (h9 : a ≠ 9) (h7 : a ≠ 7) (b j : Nat) : c_acc1 r v c m a b j = v a b j := by
  unfold c_acc1
  rw [wr_at, if_neg (fun z => h7 z.1), wr_at, if_neg (fun z => h9 z.1), wr_at, if_neg (fun z => h9 z.1), wr_at, if_neg (fun z => h9 z.1)]
theorem c_acc1_9 {r : rh_R} {v : rh_V} {c : Nat} {m : Int32} (d j : Nat) : c_acc1 r v c m 9 d j = if d = c ∧ j = 3 then 1 else if d = c ∧ j = 4 then m else if d = c ∧ j = 6 then v 7 (c_pr r c) (c_yr m) else v 9 d j := by
  unfold c_acc1
  simp only [wr_at]
  by_cases hd : d = c
  · subst hd
    by_cases h3 : j = 3
    · subst h3; simp
    · by_cases h4 : j = 4
      · subst h4; simp
      · by_cases h6 : j = 6
        · subst h6; simp
        · simp [h3, h4, h6]
  · simp [hd]
theorem c_acc1_7 {r : rh_R} {v : rh_V} {c : Nat} {m : Int32} (q y : Nat) : c_acc1 r v c m 7 q y = if q = c_pr r c ∧ y = c_yr m then v 7 (c_pr r c) (c_yr m) + v 9 c 1 else v 7 q y := by
  unfold c_acc1
  simp only [wr_at]
  by_cases hd : q = c_pr r c ∧ y = c_yr m
  · rw [if_pos ⟨trivial, hd⟩, if_pos hd]
  · rw [if_neg (fun z => hd z.2), if_neg hd]
    simp
/-- a call is accepted -/
theorem rk_acc1 {nf nc : Nat} {r : rh_R} {v : rh_V} {w : rh_Wm} (h : rk nf nc r v w) {c : Nat} (hc : c < nc) (hz : w 13 c = 0) (h7 : w 7 (r 9 c) = 5) : rk nf nc r (c_acc1 r v c (v 0 0 6)) (m_acc1 w c) := by
  obtain ⟨hwf, hm, ho, hp, hf, hca, hye, hac, ⟨t, ht, hv, hw, q1, q2, q3⟩⟩ := h
  have hnc := hm.1.2.1
  obtain ⟨m13, m14, m17, m26⟩ := m_acc1_at (w := w) (c := c)
  have mrow : ∀ q : Nat, q ≠ 13 → q ≠ 14 → q ≠ 17 → q ≠ 26 → m_acc1 w c q = w q := fun q a b d e => m_acc1_row a b d e
  obtain ⟨n1, n2⟩ := m_mna1 (c := c) hm.2.1 hnc hm.2.2.1
  have hle := m_act_le w nc
  have hna := hm.2.1
  have hmac : ∀ k, k < mna w → mac (m_acc1 w c) k = mac w k := fun k hk => by
    unfold mac
    rw [m17, if_neg (by omega)]
  have hmacn : mac (m_acc1 w c) (mna w) = c := by
    unfold mac
    rw [m17, if_pos rfl, nI_clamp (by omega)]
  have hne : ∀ k, k < mna w → mac w k ≠ c := fun k hk z => hac k hk (by rw [z]; exact hz)
  have hah : ∀ q y n, n ≤ mna w → m_ahead r (m_acc1 w c) q y n = m_ahead r w q y n := fun q y n hn => m_ahead_gen n (fun k hk => ⟨hmac k (by omega), rfl, by rw [m14, if_neg (hne k (by omega))], by rw [mrow 11 (by decide) (by decide) (by decide) (by decide)]⟩)
  obtain ⟨y1, y2, y3⟩ := s_yr ht
  have hq := hwf.2.2.1 _ (hwf.2.2.2.1 c hc)
  refine ⟨by rw [hv]; exact c_acc1_wf hwf ht, ⟨m_acc1_wf0 hm.1 c, m_acc1_wf1 hm.1 hm.2 hc hz h7⟩, ?_, ?_, ?_, ?_, ?_, ?_, ?_⟩
  · intro i hi
    rw [c_acc1_ne (by decide) (by decide), c_acc1_ne (by decide) (by decide), c_acc1_ne (by decide) (by decide), c_acc1_ne (by decide) (by decide), mrow 0 (by decide) (by decide) (by decide) (by decide), mrow 1 (by decide) (by decide) (by decide) (by decide), mrow 2 (by decide) (by decide) (by decide) (by decide), mrow 3 (by decide) (by decide) (by decide) (by decide)]
    exact ho i hi
  · intro q hq
    unfold rl_p
    rw [c_acc1_ne (by decide) (by decide), c_acc1_ne (by decide) (by decide), c_acc1_ne (by decide) (by decide), c_acc1_ne (by decide) (by decide), c_acc1_ne (by decide) (by decide), mrow 18 (by decide) (by decide) (by decide) (by decide), mrow 19 (by decide) (by decide) (by decide) (by decide), mrow 20 (by decide) (by decide) (by decide) (by decide), mrow 21 (by decide) (by decide) (by decide) (by decide), mrow 22 (by decide) (by decide) (by decide) (by decide), mrow 23 (by decide) (by decide) (by decide) (by decide)]
    exact hp q hq
  · intro f hf9
    refine rl_f_eq (hf f hf9) (funext fun j => c_acc1_ne (by decide) (by decide) f j) ?_ ?_ ?_
    · rw [mrow 6 (by decide) (by decide) (by decide) (by decide)]
    · rw [mrow 7 (by decide) (by decide) (by decide) (by decide)]
    · rw [mrow 8 (by decide) (by decide) (by decide) (by decide)]
  · intro d hd
    obtain ⟨a1, a2, a3, a4, a5, a6⟩ := hca d hd
    unfold rl_c
    rw [mrow 11 (by decide) (by decide) (by decide) (by decide), mrow 12 (by decide) (by decide) (by decide) (by decide), mrow 15 (by decide) (by decide) (by decide) (by decide)]
    by_cases hdc : d = c
    · subst hdc
      have hpl : m_pl (m_acc1 w d) d = mna w := by
        unfold m_pl
        rw [n1]
        have hn : firstp (fun k => decide (m_acc1 w d 17 k = nI d)) (mna w) = none := by
          cases hp9 : firstp (fun k => decide (m_acc1 w d 17 k = nI d)) (mna w) with
          | none => rfl
          | some j =>
            obtain ⟨j1, j2, -⟩ := firstp_some _ hp9
            have j3 : m_acc1 w d 17 j = nI d := of_decide_eq_true j2
            rw [m17, if_neg (by omega), (hm.2.2.2.1 j j1).2] at j3
            exact absurd (m_inj (by have := (hm.2.2.2.1 j j1).1; omega) (by omega) j3) (hne j j1)
        rw [firstp_hit hn (decide_eq_true (show m_acc1 w d 17 (mna w) = nI d by rw [m17, if_pos rfl]))]
        rfl
      have e1 : m_acc1 w d 13 d = 1 := by rw [m13, if_pos rfl]
      have e2 : m_acc1 w d 14 d = nI t := by rw [m14, if_pos rfl, hw]
      rw [e1, e2, hpl, hah _ _ _ (Nat.le_refl _), y1]
      refine ⟨?_, ?_, ?_, fun z => absurd z (by decide), fun _ => ⟨?_, ?_⟩, fun z => absurd z (by decide)⟩
      · rw [c_acc1_9, if_neg (by omega), if_neg (by omega), if_neg (by omega)]; exact a1
      · rw [c_acc1_9, if_neg (by omega), if_neg (by omega), if_neg (by omega)]; exact a2
      · rw [c_acc1_9, if_pos ⟨rfl, rfl⟩]
      · rw [c_acc1_9, if_neg (by omega), if_pos ⟨rfl, rfl⟩, hv]
      · rw [c_acc1_9, if_neg (by omega), if_neg (by omega), if_pos ⟨rfl, rfl⟩, hv, y2]
        exact hye _ _ hq y3
    · have e1 : m_acc1 w c 13 d = w 13 d := by rw [m13, if_neg hdc]
      have e2 : m_acc1 w c 14 d = w 14 d := by rw [m14, if_neg hdc]
      have e9 : ∀ j, c_acc1 r v c (v 0 0 6) 9 d j = v 9 d j := fun j => by rw [c_acc1_9, if_neg (fun z => hdc z.1), if_neg (fun z => hdc z.1), if_neg (fun z => hdc z.1)]
      rw [e1, e2, e9, e9, e9, e9, e9, e9]
      refine ⟨a1, a2, a3, a4, fun z => ⟨(a5 z).1, ?_⟩, a6⟩
      have hps := m_pl_some hm hd z
      have hpl : m_pl (m_acc1 w c) d = m_pl w d := by
        have := firstp_eq (Q := fun k => decide (m_acc1 w c 17 k = nI d)) (m := mna (m_acc1 w c)) hps (by omega) (fun i hi => by
          show decide (m_acc1 w c 17 i = nI d) = decide (w 17 i = nI d)
          rw [m17, if_neg (by omega)])
        show (firstp (fun k => decide (m_acc1 w c 17 k = nI d)) (mna (m_acc1 w c))).getD 0 = _
        rw [this]; rfl
      rw [hpl, hah _ _ _ (by have := (firstp_some _ hps).1; omega)]
      exact (a5 z).2
  · intro q y hq9 hy
    rw [n1]
    unfold m_ahead
    rw [hmacn, hah _ _ _ (Nat.le_refl _), c_acc1_7, hv, y2, m14, if_pos rfl, hw, y1, mrow 11 (by decide) (by decide) (by decide) (by decide)]
    by_cases hk : q = c_pr r c ∧ y = t / 12
    · obtain ⟨rfl, rfl⟩ := hk
      rw [if_pos ⟨rfl, rfl⟩, if_pos ⟨rfl, rfl⟩, hye _ _ hq9 hy, (hca c hc).1]
    · rw [if_neg hk, if_neg (fun z => hk ⟨z.1.symm, (m_inj (by omega) (by omega) z.2).symm⟩)]
      exact hye q y hq9 hy
  · intro k hk
    rw [n1] at hk
    by_cases hkm : k = mna w
    · rw [hkm, hmacn, m13, if_pos rfl]; decide
    · rw [hmac k (by omega), m13, if_neg (hne k (by omega))]
      exact hac k (by omega)
  · refine ⟨t, ht, ?_, ?_, ?_, fun d hd hs => ?_, fun d hd hs => ?_⟩
    · rw [c_acc1_ne (by decide) (by decide)]; exact hv
    · rw [m26, if_neg (by decide)]; exact hw
    · rw [mrow 6 (by decide) (by decide) (by decide) (by decide)]; exact q1
    · rw [mrow 15 (by decide) (by decide) (by decide) (by decide)]
      refine q2 d hd ?_
      rw [m13] at hs
      by_cases hdc : d = c
      · rw [if_pos hdc] at hs; exact absurd hs (by decide)
      · rw [if_neg hdc] at hs; exact hs
    · rw [m14]
      by_cases hdc : d = c
      · rw [if_pos hdc]; exact ⟨t, Nat.le_refl _, hw⟩
      · rw [if_neg hdc]
        rw [m13, if_neg hdc] at hs
        exact q3 d hd hs
/-- all right calls of a file -/
theorem rk_acc {nf nc : Nat} {r : rh_R} {v : rh_V} {w : rh_Wm} (h : rk nf nc r v w) {g : Nat} (h7 : w 7 g = 5) (hf : ∀ c, c < nc → r 9 c = g → w 13 c = 0) : ∀ n : Nat, n ≤ nc → rk nf nc r (c_acc r v g n) (m_acc r w g n)
  | 0, _ => h
  | n + 1, hn => by
    have ih := rk_acc h h7 hf n (by omega)
    obtain ⟨-, -, i2⟩ := m_acc_wf h.2.1.1 h.2.1.2 h7 hf n (by omega)
    have hq : c_pr r n < 16 := h.1.2.2.1 _ (h.1.2.2.2.1 n (by omega))
    have hri := s_right ih.2.2.1 ih.2.2.2.2.2.1 (c := n) (by omega) hq
    unfold c_acc m_acc
    by_cases hc : r 9 n = g ∧ c_right r (c_acc r v g n) n
    · rw [if_pos hc, if_pos ⟨hc.1, hri.mp hc.2⟩]
      have := rk_acc1 ih (c := n) (by omega) (i2 n (Nat.le_refl _) (by omega) hc.1) (by rw [m_acc_row (by decide) (by decide) (by decide) (by decide), hc.1]; exact h7)
      rw [c_acc_now] at this
      exact this
    · rw [if_neg hc, if_neg (fun z => hc ⟨z.1, hri.mpr z.2⟩)]
      exact ih
theorem s_wrong {nf nc : Nat} {r : rh_R} {v : rh_V} {w : rh_Wm} {g : Nat} (h : rx nf nc r v w g) {f : Nat} : ∀ n : Nat, n ≤ nc → c_wrong r v f n = m_cnt r w f 1 n
  | 0, _ => rfl
  | n + 1, hn => by
    have hq : c_pr r n < 16 := h.1.2.2.1 _ (h.1.2.2.2.1 n (by omega))
    have hri := s_right h.2.2.1 h.2.2.2.2.2.2.1 (c := n) (by omega) hq
    unfold c_wrong m_cnt
    rw [s_wrong h n (by omega)]
    by_cases hc : r 9 n = f ∧ ¬ c_right r v n
    · rw [if_pos hc, if_pos ⟨hc.1, Or.inr (fun z => hc.2 (hri.mpr z))⟩]
    · rw [if_neg hc, if_neg]
      intro z
      rcases z.2 with y | y
      · exact absurd y (by decide)
      · exact hc ⟨z.1, fun x => y (hri.mp x)⟩
/-- a file is looked at -/
theorem rx_look {nf nc : Nat} {r : rh_R} {v : rh_V} {w : rh_Wm} {g : Nat} (h : rx nf nc r v w g) (hg : g < nf) (h5 : ¬ w 7 g = 5) : rk nf nc r (c_look r v nc g) (m_look r w nc g) := by
  obtain ⟨t, ht, hv, hw, q1, q2, q3⟩ := h.2.2.2.2.2.2.2.2.2
  obtain ⟨g1, g3⟩ := h.2.2.2.2.2.1
  obtain ⟨b, hb, hbw⟩ := q1 g hg
  have hl : (2 < v 0 0 6 - v 8 g 1) ↔ (w 6 g + 2 < w 26 24) := by
    rw [hv, g1, hw, hbw, show nI b + 2 = nI (b + 2) from nI_add b 2, nI_ltI (by omega) (by omega), Int32.lt_iff_toInt_lt, Int32.toInt_sub, nI_toInt (by omega), nI_toInt (by omega), Int.bmod_eq_of_le (by omega) (by omega)]
    show (2 : Int) < _ ↔ _
    omega
  have hs : (v 8 g 3 < c_wrong r v g nc * 3) ↔ (m_cnt r w g 0 nc < m_cnt r w g 1 nc * 3) := by
    rw [g3, s_wrong h nc (Nat.le_refl _), m_cnt_0]
  unfold c_look m_look
  by_cases c1 : 2 < v 0 0 6 - v 8 g 1
  · rw [if_pos c1, if_pos (hl.mp c1)]
    exact rx_state h h5 (by decide)
  · rw [if_neg c1, if_neg (fun z => c1 (hl.mpr z))]
    by_cases c2 : v 8 g 3 < c_wrong r v g nc * 3
    · rw [if_pos c2, if_pos (hs.mp c2)]
      exact rx_state h h5 (by decide)
    · rw [if_neg c2, if_neg (fun z => c2 (hs.mpr z))]
      refine rk_acc (rx_state h h5 (by decide)) (by rw [wm_at, if_pos ⟨rfl, rfl⟩]) (fun c hc hr => ?_) nc (Nat.le_refl _)
      rw [wm_other w 7 g 5 (by decide)]
      exact m_out h.2.1 h5 c hc hr
