/-! ===== how the house's ints and the model's go together ===== -/
def rl_op (v : rh_V) (w : rh_Wm) : Prop := ∀ i : Nat, i < 4 → v 5 i 0 = w 0 i ∧ v 5 i 1 = w 1 i ∧ v 5 i 2 = w 2 i ∧ v 5 i 3 = w 3 i
def rl_p (v : rh_V) (w : rh_Wm) (q : Nat) : Prop := v 6 q 1 = w 18 q ∧ v 6 q 2 = w 23 q ∧ (¬ w 19 q = 0 → v 6 q 3 = w 20 q ∧ v 6 q 4 = w 21 q ∧ v 6 q 5 = w 22 q) ∧ (w 19 q = 0 → v 6 q 4 = 0)
def rl_pr (v : rh_V) (w : rh_Wm) : Prop := ∀ q : Nat, q < 16 → rl_p v w q
/-- a file's calls -/
def m_cn (r : rh_R) (f : Nat) : Nat → Int32
  | 0 => 0
  | n + 1 => if r 9 n = f then m_cn r f n + 1 else m_cn r f n
def rl_f (nc : Nat) (r : rh_R) (v : rh_V) (w : rh_Wm) (f : Nat) : Prop := v 8 f 1 = w 6 f ∧ v 8 f 2 = w 7 f ∧ (w 7 f = 2 → v 8 f 4 = w 8 f) ∧ v 8 f 3 = m_cn r f nc
def rl_fi (nf nc : Nat) (r : rh_R) (v : rh_V) (w : rh_Wm) : Prop := ∀ f : Nat, f < nf → rl_f nc r v w f
def rl_c (r : rh_R) (v : rh_V) (w : rh_Wm) (c : Nat) : Prop :=
  v 9 c 1 = w 11 c ∧ v 9 c 2 = w 12 c ∧ v 9 c 3 = w 13 c ∧ (w 13 c = 0 → v 9 c 4 = -1) ∧ (¬ w 13 c = 0 → v 9 c 4 = w 14 c ∧ v 9 c 6 = m_ahead r w (c_pr r c) (w 14 c / 12) (m_pl w c)) ∧ (w 13 c = 2 → v 9 c 5 = w 15 c)
def rl_ca (nc : Nat) (r : rh_R) (v : rh_V) (w : rh_Wm) : Prop := ∀ c : Nat, c < nc → rl_c r v w c
def rl_ye (r : rh_R) (v : rh_V) (w : rh_Wm) : Prop := ∀ q y : Nat, q < 16 → y < 3 → v 7 q y = m_ahead r w q (nI y) (mna w)
def rl_ac (w : rh_Wm) : Prop := ∀ k : Nat, k < mna w → ¬ w 13 (mac w k) = 0
def rl_ti (nf nc : Nat) (v : rh_V) (w : rh_Wm) : Prop := ∃ t : Nat, t < 36 ∧ v 0 0 6 = nI t ∧ w 26 24 = nI t ∧ (∀ f : Nat, f < nf → ∃ b : Nat, b ≤ t ∧ w 6 f = nI b) ∧ (∀ c : Nat, c < nc → w 13 c = 2 → ∃ d : Nat, w 15 c = nI d ∧ d ≤ t ∧ t ≤ d + 1) ∧ (∀ c : Nat, c < nc → ¬ w 13 c = 0 → ∃ a : Nat, a ≤ t ∧ w 14 c = nI a)
def rl_wa (nf : Nat) (r : rh_R) (w : rh_Wm) : Prop := (∀ f : Nat, f < nf → w 7 f = 2 → w 18 (r 8 f) < w 8 f ∧ w 8 f ≤ 99) ∧ ∀ f g : Nat, f < nf → g < nf → w 7 f = 2 → w 7 g = 2 → r 8 f = r 8 g → w 8 f = w 8 g → f = g
def rl (nf nc : Nat) (r : rh_R) (v : rh_V) (w : rh_Wm) : Prop := rl_op v w ∧ rl_pr v w ∧ rl_fi nf nc r v w ∧ rl_ca nc r v w ∧ rl_ye r v w ∧ rl_ac w ∧ rl_ti nf nc v w ∧ rl_wa nf r w
/-- all that holds between calls -/
def inv (nf nc : Nat) (r : rh_R) (v : rh_V) (w : rh_Wm) : Prop := rh_wf nf nc r v ∧ m_wf nf nc r w ∧ rl nf nc r v w
/-! values -/
theorem m_cnt_0 {r : rh_R} {w : rh_Wm} {f : Nat} : ∀ n : Nat, m_cnt r w f 0 n = m_cn r f n
  | 0 => rfl
  | n + 1 => by
    unfold m_cnt m_cn
    rw [m_cnt_0 n]
    by_cases h : r 9 n = f
    · rw [if_pos h, if_pos ⟨h, Or.inl rfl⟩]
    · rw [if_neg h, if_neg (fun z => h z.1)]
theorem s_ch {v : rh_V} {w : rh_Wm} (h : rl_op v w) {i : Nat} (hi : i < 4) (x : Int32) : c_ch v i x = m_ch w i x := by
  obtain ⟨h0, h1, h2, -⟩ := h i hi
  unfold c_ch m_ch
  rw [h0, h1, h2]
theorem s_right {nc : Nat} {r : rh_R} {v : rh_V} {w : rh_Wm} (ho : rl_op v w) (hc : rl_ca nc r v w) {c : Nat} (hcn : c < nc) (hq : c_pr r c < 16) : c_right r v c ↔ m_right r w c := by
  unfold c_right m_right
  rw [(hc c hcn).1, (hc c hcn).2.1, s_ch ho (rh_h4 hq)]
  exact ⟨fun h => h.symm, fun h => h.symm⟩
theorem s_cut0 (x : Int32) : c_cut x 0 = x := by
  unfold c_cut
  rw [show x.toInt64 * (0 : Int32).toInt64 / 10000 = 0 by
    rw [show (0 : Int32).toInt64 = 0 from rfl, Int64.mul_zero]; rfl]
  exact Int32.sub_zero x
theorem inv.q {nf nc : Nat} {r : rh_R} {v : rh_V} {w : rh_Wm} (h : inv nf nc r v w) {c : Nat} (hc : c < nc) : c_pr r c < 16 := h.1.2.2.1 _ (h.1.2.2.2.1 c hc)
theorem s_yr {t : Nat} (h : t < 36) : nI t / 12 = nI (t / 12) ∧ c_yr (nI t) = t / 12 ∧ t / 12 < 3 := ⟨(c_yr_of h).1, (c_yr_of h).2, by omega⟩
theorem s_amt {nf nc : Nat} {r : rh_R} {v : rh_V} {w : rh_Wm} (h : inv nf nc r v w) {c : Nat} (hc : c < nc) : c_amt r v c = m_amt r w c := by
  obtain ⟨hwf, hm, ho, hp, hf, hca, hye, hac, ⟨t, ht, hv, hw, -, -, hmo⟩, hwa⟩ := id h
  obtain ⟨a1, a2, a3, a4, a5, a6⟩ := hca c hc
  unfold c_amt m_amt
  rw [a3]
  by_cases hs : w 13 c = 0 ∨ w 13 c = 4
  · rw [if_pos hs, if_pos hs]
  · rw [if_neg hs, if_neg hs]
    have hs0 : ¬ w 13 c = 0 := fun z => hs (Or.inl z)
    obtain ⟨b1, b2⟩ := a5 hs0
    obtain ⟨a, hat, haw⟩ := hmo c hc hs0
    obtain ⟨y1, y2, y3⟩ := s_yr (t := a) (by omega)
    have hq := h.q hc
    obtain ⟨p1, p2, p3, p4⟩ := hp _ hq
    rw [b1, haw, y2, a2]
    by_cases hg : w 19 (c_pr r c) = 0
    · rw [if_neg (show ¬ (¬ w 19 (c_pr r c) = 0 ∧ ¬ m_hd r w c < w 20 (c_pr r c)) from fun z => z.1 hg), p4 hg, s_cut0]
      split <;> rfl
    · obtain ⟨g1, g2, g3⟩ := p3 hg
      have hhd : (if v 6 (c_pr r c) 5 = 0 then v 9 c 6 else v 7 (c_pr r c) (a / 12)) = m_hd r w c := by
        unfold m_hd
        rw [g3, haw, y1]
        by_cases hb : w 22 (c_pr r c) = 0
        · rw [if_pos hb, if_pos hb, b2, haw, y1]
        · rw [if_neg hb, if_neg hb, hye _ _ hq y3]
      have hdd : c_disc v (c_pr r c) (a / 12) (v 9 c 6) ↔ ¬ w 19 (c_pr r c) = 0 ∧ ¬ m_hd r w c < w 20 (c_pr r c) := by
        unfold c_disc
        rw [hhd, g1]
        exact ⟨fun z => ⟨hg, z⟩, fun z => z.2⟩
      by_cases hd : c_disc v (c_pr r c) (a / 12) (v 9 c 6)
      · rw [if_pos hd, if_pos (hdd.mp hd), g2]
      · rw [if_neg hd, if_neg (fun z => hd (hdd.mpr z))]
theorem s_sum {nf nc : Nat} {r : rh_R} {v : rh_V} {w : rh_Wm} (h : inv nf nc r v w) {q : Nat} {a b : Int32} (ha : 0 ≤ a) : ∀ n : Nat, n ≤ nc → c_sum r v q a b n = m_sum r w q a b n
  | 0, _ => rfl
  | n + 1, hn => by
    have hc := h.2.2.2.2.2.1 n (by omega)
    unfold c_sum m_sum
    rw [s_sum h ha n (by omega), s_amt h (c := n) (by omega)]
    have key : (c_pr r n = q ∧ ¬ v 9 n 4 < a ∧ ¬ b < v 9 n 4) ↔ (¬ w 13 n = 0 ∧ c_pr r n = q ∧ rng (w 14 n) a b) := by
      by_cases hs : w 13 n = 0
      · rw [hc.2.2.2.1 hs]
        refine ⟨fun z => absurd ?_ z.2.1, fun z => absurd hs z.1⟩
        exact Int32.lt_of_lt_of_le (show (-1 : Int32) < 0 by decide) ha
      · rw [(hc.2.2.2.2.1 hs).1]
        exact ⟨fun z => ⟨hs, z.1, nlt_le z.2.1, nlt_le z.2.2⟩, fun z => ⟨z.2.1, le_nlt z.2.2.1, le_nlt z.2.2.2⟩⟩
    by_cases hk : c_pr r n = q ∧ ¬ v 9 n 4 < a ∧ ¬ b < v 9 n 4
    · rw [if_pos hk, if_pos (key.mp hk)]
    · rw [if_neg hk, if_neg (fun z => hk (key.mpr z))]
theorem s_wn {nf nc : Nat} {r : rh_R} {v : rh_V} {w : rh_Wm} (h : rl_fi nf nc r v w) {q : Nat} : ∀ n : Nat, n ≤ nf → c_wn r v q n = m_wn r w q n ∧ c_wg r v q n = m_wg r w q n
  | 0, _ => ⟨rfl, rfl⟩
  | n + 1, hn => by
    obtain ⟨i1, i2⟩ := s_wn h n (by omega)
    obtain ⟨-, f2, f3, -⟩ := h n (by omega)
    unfold c_wn m_wn c_wg m_wg
    rw [i1, i2, f2]
    by_cases hs : w 7 n = 2
    · rw [f3 hs]
      by_cases hq : r 8 n = q
      · simp [hs, hq]
      · simp [hq]
    · simp [hs]
theorem s_units {nf nc : Nat} {r : rh_R} {v : rh_V} {w : rh_Wm} (h : inv nf nc r v w) {a b : Nat} (ha : a < 4) (hb : b < 4) {m : Int32} (hm : 0 ≤ m) : c_units r v nc (a * 4 + b) m = m_units r w nc a b m := by
  unfold c_units m_units
  rw [s_sum h hm nc (Nat.le_refl _), show (a * 4 + b) / 4 = a by omega, (h.2.2.1 a ha).2.2.2]
theorem s_net {nf nc : Nat} {r : rh_R} {v : rh_V} {w : rh_Wm} (h : inv nf nc r v w) {i : Nat} (hi : i < 4) {m : Int32} (hm : 0 ≤ m) : ∀ n : Nat, n ≤ 4 → c_net r v nc i m n = m_net r w nc i m n
  | 0, _ => rfl
  | n + 1, hn => by
    unfold c_net m_net
    rw [s_net h hi hm n (by omega), s_units h hi (show n < 4 by omega) hm, s_units h (show n < 4 by omega) hi hm]
    by_cases hk : n = i
    · rw [if_pos hk, if_pos hk]
    · rw [if_neg hk, if_neg hk, Int64.sub_eq_add_neg, Int64.sub_eq_add_neg, Int64.add_assoc]
/-! rows that matter to the order -/
theorem m_ahead_eq {r : rh_R} {w w' : rh_Wm} {q : Nat} {y : Int32} (h11 : w' 11 = w 11) (h14 : w' 14 = w 14) (h17 : w' 17 = w 17) : ∀ n : Nat, m_ahead r w' q y n = m_ahead r w q y n
  | 0 => rfl
  | n + 1 => by
    unfold m_ahead
    have hm : mac w' n = mac w n := by unfold mac; rw [h17]
    rw [m_ahead_eq h11 h14 h17 n, hm, h11, h14]
theorem m_pl_eq {w w' : rh_Wm} {c : Nat} (h17 : w' 17 = w 17) (h26 : mna w' = mna w) : m_pl w' c = m_pl w c := by
  unfold m_pl
  rw [h17, h26]
theorem rl_c_eq {r : rh_R} {v v' : rh_V} {w w' : rh_Wm} {c : Nat} (h : rl_c r v w c) (hv : v' 9 c = v 9 c) (h11 : w' 11 = w 11) (h12 : w' 12 = w 12) (h13 : w' 13 c = w 13 c) (h14 : w' 14 = w 14) (h15 : w' 15 c = w 15 c) (h17 : w' 17 = w 17) (h26 : mna w' = mna w) : rl_c r v' w' c := by
  unfold rl_c
  rw [hv, h11, h12, h13, h14, h15, m_ahead_eq h11 h14 h17, m_pl_eq h17 h26]
  exact h
theorem rl_ye_eq {r : rh_R} {v v' : rh_V} {w w' : rh_Wm} (h : rl_ye r v w) (hv : v' 7 = v 7) (h11 : w' 11 = w 11) (h14 : w' 14 = w 14) (h17 : w' 17 = w 17) (h26 : mna w' = mna w) : rl_ye r v' w' := by
  intro q y hq hy
  rw [hv, h26, m_ahead_eq h11 h14 h17]
  exact h q y hq hy
/-! simple calls -/
theorem i_rate {nf nc : Nat} {r : rh_R} {v : rh_V} {w : rh_Wm} (h : inv nf nc r v w) {i : Nat} (hi : i < 4) (y : Int32) : inv nf nc r (wr v 5 i 3 y) (wm w 3 i y) := by
  obtain ⟨hwf, hm, ho, hp, hf, hca, hye, hac, hti, hwa⟩ := h
  refine ⟨?_, m_exp_wf hm (by simp), ?_, hp, hf, fun c hc => rl_c_eq (hca c hc) rfl rfl rfl rfl rfl rfl rfl rfl, rl_ye_eq hye rfl rfl rfl rfl rfl, hac, hti, hwa⟩
  · obtain ⟨a, b, c, d, e, f, g, k⟩ := hwf
    refine ⟨a, b, c, d, e, f, fun q hq => ?_, k⟩
    rw [wr_at, if_neg (by omega)]
    exact g q hq
  · intro q hq
    obtain ⟨h0, h1, h2, h3⟩ := ho q hq
    refine ⟨?_, ?_, ?_, ?_⟩
    · rw [wr_at, if_neg (by omega)]; exact h0
    · rw [wr_at, if_neg (by omega)]; exact h1
    · rw [wr_at, if_neg (by omega)]; exact h2
    · rw [wr_at, wm_at]
      by_cases hqi : q = i
      · rw [if_pos ⟨rfl, hqi, rfl⟩, if_pos ⟨rfl, hqi⟩]
      · rw [if_neg (fun z => hqi z.2.1), if_neg (fun z => hqi z.2)]; exact h3
theorem m_wf1_wm {nc : Nat} {r : rh_R} {w : rh_Wm} (h : m_wf1 nc r w) {q j : Nat} {x : Int32} (h7 : q ≠ 7) (h13 : q ≠ 13) (h17 : q ≠ 17) (h26 : q ≠ 26) : m_wf1 nc r (wm w q j x) := by
  obtain ⟨a, b, d, e⟩ := h
  have e13 : wm w q j x 13 = w 13 := wm_other w q j x (Ne.symm h13)
  have e17 : wm w q j x 17 = w 17 := wm_other w q j x (Ne.symm h17)
  have e26 : wm w q j x 26 = w 26 := wm_other w q j x (Ne.symm h26)
  have e7 : wm w q j x 7 = w 7 := wm_other w q j x (Ne.symm h7)
  have en : mna (wm w q j x) = mna w := by unfold mna; rw [e26]
  refine ⟨?_, ?_, ?_, ?_⟩
  · rw [en, m_act_eq (w := w) nc (fun c _ => by rw [e13])]; exact a
  · rw [en, e26]; exact b
  · intro k hk
    rw [en] at hk
    show ((wm w q j x 17 k).toNatClampNeg < nc) ∧ wm w q j x 17 k = nI ((wm w q j x 17 k).toNatClampNeg)
    rw [e17]; exact d k hk
  · intro c hc hs
    rw [e13] at hs
    rw [e7, en, e17]
    exact e c hc hs
theorem i_tariff {nf nc : Nat} {r : rh_R} {v : rh_V} {w : rh_Wm} (h : inv nf nc r v w) {i : Nat} (hi : i < 4) {st pr bg : Int32} (hst : rng st 1 600) : inv nf nc r (wr (wr (wr v 5 i 0 st) 5 i 1 pr) 5 i 2 bg) (wm (wm (wm w 0 i st) 1 i pr) 2 i bg) := by
  have hs0 : ¬ st = 0 := fun z => by rw [z] at hst; exact absurd hst.1 (by decide)
  obtain ⟨hwf, hm, ho, hp, hf, hca, hye, hac, hti, hwa⟩ := h
  refine ⟨?_, m_exp_wf (m_exp_wf ⟨?_, m_wf1_wm hm.2 (by decide) (by decide) (by decide) (by decide)⟩ (by simp)) (by simp), ?_, hp, hf, fun c hc => rl_c_eq (hca c hc) rfl rfl rfl rfl rfl rfl rfl rfl, rl_ye_eq hye rfl rfl rfl rfl rfl, hac, hti, hwa⟩
  · obtain ⟨a, b, c, d, e, f, g, k⟩ := hwf
    refine ⟨a, b, c, d, e, f, fun q hq => ?_, k⟩
    rw [wr_at, if_neg (by omega), wr_at, if_neg (by omega), wr_at]
    by_cases hqi : q = i
    · rw [if_pos ⟨rfl, hqi, rfl⟩]; exact hs0
    · rw [if_neg (fun z => hqi z.2.1)]; exact g q hq
  · obtain ⟨a, b, c, d, e, f, g⟩ := hm.1
    refine ⟨a, b, c, d, e, f, fun q hq => ?_⟩
    rw [wm_at]
    by_cases hqi : q = i
    · rw [if_pos ⟨rfl, hqi⟩]; exact hs0
    · rw [if_neg (fun z => hqi z.2)]; exact g q hq
  · intro q hq
    obtain ⟨h0, h1, h2, h3⟩ := ho q hq
    by_cases hqi : q = i
    · subst hqi
      refine ⟨?_, ?_, ?_, ?_⟩ <;> simp [wr_at, wm_at]
      exact h3
    · refine ⟨?_, ?_, ?_, ?_⟩
      · simpa [wr_at, wm_at, hqi] using h0
      · simpa [wr_at, wm_at, hqi] using h1
      · simpa [wr_at, wm_at, hqi] using h2
      · simpa [wr_at, wm_at, hqi] using h3
theorem i_promise {nf nc : Nat} {r : rh_R} {v : rh_V} {w : rh_Wm} (h : inv nf nc r v w) {q : Nat} (z : Int32) : inv nf nc r (wr v 6 q 2 z) (wm w 23 q z) := by
  obtain ⟨hwf, hm, ho, hp, hf, hca, hye, hac, hti, hwa⟩ := h
  refine ⟨wf_wr hwf (by decide) (by decide) (by decide), m_exp_wf hm (by simp), ho, ?_, hf, fun c hc => rl_c_eq (hca c hc) rfl rfl rfl rfl rfl rfl rfl rfl, rl_ye_eq hye rfl rfl rfl rfl rfl, hac, hti, hwa⟩
  intro a ha
  obtain ⟨p1, p2, p3, p4⟩ := hp a ha
  by_cases e : a = q
  · refine ⟨?_, ?_, ?_, ?_⟩
    · simpa [wr_at, wm_at, e] using e ▸ p1
    · simp [wr_at, wm_at, e]
    · simpa [wr_at, wm_at, e] using e ▸ p3
    · simpa [wr_at, wm_at, e] using e ▸ p4
  · refine ⟨?_, ?_, ?_, ?_⟩
    · simpa [wr_at, wm_at, e] using p1
    · simpa [wr_at, wm_at, e] using p2
    · simpa [wr_at, wm_at, e] using p3
    · simpa [wr_at, wm_at, e] using p4
theorem i_agree {nf nc : Nat} {r : rh_R} {v : rh_V} {w : rh_Wm} (h : inv nf nc r v w) {q : Nat} (vo rt bk : Int32) : inv nf nc r (wr (wr (wr v 6 q 3 vo) 6 q 4 rt) 6 q 5 bk) (wm (wm (wm (wm w 19 q 1) 20 q vo) 21 q rt) 22 q bk) := by
  obtain ⟨hwf, hm, ho, hp, hf, hca, hye, hac, hti, hwa⟩ := h
  refine ⟨wf_wr (wf_wr (wf_wr hwf (by decide) (by decide) (by decide)) (by decide) (by decide) (by decide)) (by decide) (by decide) (by decide), m_exp_wf (m_exp_wf (m_exp_wf (m_exp_wf hm (by simp)) (by simp)) (by simp)) (by simp), ho, ?_, hf, fun c hc => rl_c_eq (hca c hc) rfl rfl rfl rfl rfl rfl rfl rfl, rl_ye_eq hye rfl rfl rfl rfl rfl, hac, hti, hwa⟩
  intro a ha
  obtain ⟨p1, p2, p3, p4⟩ := hp a ha
  by_cases e : a = q
  · subst e
    refine ⟨?_, ?_, ?_, ?_⟩
    · simpa [wr_at, wm_at] using p1
    · simpa [wr_at, wm_at] using p2
    · simp [wr_at, wm_at]
    · simp [wr_at, wm_at]
  · refine ⟨?_, ?_, ?_, ?_⟩
    · simpa [wr_at, wm_at, e] using p1
    · simpa [wr_at, wm_at, e] using p2
    · simpa [wr_at, wm_at, e] using p3
    · simpa [wr_at, wm_at, e] using p4
/-- calls' states and the month change -/
theorem i_gen {nf nc : Nat} {r : rh_R} {v v' : rh_V} {w w' : rh_Wm} (h : inv nf nc r v w) (ev : ∀ k a j : Nat, ¬ (k = 9 ∧ (j = 3 ∨ j = 5)) → ¬ (k = 0 ∧ j = 6) → v' k a j = v k a j)
    (ew : ∀ q : Nat, q ≠ 13 → q ≠ 15 → q ≠ 26 → w' q = w q) (ew26 : ∀ j : Nat, j ≠ 24 → w' 26 j = w 26 j)
    (ec : ∀ c : Nat, c < nc → v' 9 c 3 = w' 13 c ∧ (w' 13 c = 0 ↔ w 13 c = 0) ∧ (w' 13 c = 2 → v' 9 c 5 = w' 15 c)) (et : rl_ti nf nc v' w') : inv nf nc r v' w' := by
  obtain ⟨hwf, ⟨hm0, hm1⟩, ho, hp, hf, hca, hye, hac, hti, hwa⟩ := h
  have en : mna w' = mna w := by unfold mna; rw [ew26 16 (by decide)]
  have e17 := ew 17 (by decide) (by decide) (by decide)
  have em : ∀ k, mac w' k = mac w k := fun k => by unfold mac; rw [e17]
  refine ⟨?_, ⟨?_, ?_⟩, ?_, ?_, ?_, ?_, ?_, ?_, et, ?_⟩
  · obtain ⟨a, b, c, d, e, f, g, k, l⟩ := hwf
    obtain ⟨t, ht, hv, -⟩ := et
    refine ⟨a, b, c, d, ?_, ?_, fun i hi => ?_, ⟨t, ht, hv⟩, fun i hi hs => ?_⟩
    · rw [ev 0 0 3 (by omega) (by omega)]; exact e
    · rw [ev 0 0 5 (by omega) (by omega)]; exact f
    · rw [ev 5 i 0 (by omega) (by omega)]; exact g i hi
    · rw [ev 9 i 4 (by omega) (by omega)]
      refine l i hi (fun z => hs ?_)
      rw [(ec i hi).1, (ec i hi).2.1, ← (hca i hi).2.2.1]
      exact z
  · obtain ⟨a, b, c, d, e, f, g⟩ := hm0
    refine ⟨a, b, ?_, ?_, ?_, ?_, ?_⟩
    · rw [ew26 4 (by decide)]; exact c
    · rw [ew26 9 (by decide)]; exact d
    · rw [ew 5 (by decide) (by decide) (by decide)]; exact e
    · rw [ew 10 (by decide) (by decide) (by decide)]; exact f
    · rw [ew 0 (by decide) (by decide) (by decide)]; exact g
  · obtain ⟨a, b, d, e⟩ := hm1
    refine ⟨?_, ?_, ?_, ?_⟩
    · rw [en, m_act_eq (w := w) nc (fun c hc => (ec c hc).2.1)]; exact a
    · rw [en, ew26 16 (by decide)]; exact b
    · intro k hk
      rw [en] at hk
      rw [em, e17]; exact d k hk
    · intro c hc hs
      rw [ew 7 (by decide) (by decide) (by decide), en, e17]
      exact e c hc (fun z => hs ((ec c hc).2.1.mpr z))
  · intro i hi
    rw [ev 5 i 0 (by omega) (by omega), ev 5 i 1 (by omega) (by omega), ev 5 i 2 (by omega) (by omega), ev 5 i 3 (by omega) (by omega), ew 0 (by decide) (by decide) (by decide), ew 1 (by decide) (by decide) (by decide), ew 2 (by decide) (by decide) (by decide), ew 3 (by decide) (by decide) (by decide)]
    exact ho i hi
  · intro q hq
    unfold rl_p
    rw [ev 6 q 1 (by omega) (by omega), ev 6 q 2 (by omega) (by omega), ev 6 q 3 (by omega) (by omega), ev 6 q 4 (by omega) (by omega), ev 6 q 5 (by omega) (by omega), ew 18 (by decide) (by decide) (by decide), ew 19 (by decide) (by decide) (by decide), ew 20 (by decide) (by decide) (by decide), ew 21 (by decide) (by decide) (by decide), ew 22 (by decide) (by decide) (by decide), ew 23 (by decide) (by decide) (by decide)]
    exact hp q hq
  · intro f hf9
    unfold rl_f
    rw [ev 8 f 1 (by omega) (by omega), ev 8 f 2 (by omega) (by omega), ev 8 f 3 (by omega) (by omega), ev 8 f 4 (by omega) (by omega), ew 6 (by decide) (by decide) (by decide), ew 7 (by decide) (by decide) (by decide), ew 8 (by decide) (by decide) (by decide)]
    exact hf f hf9
  · intro c hc
    obtain ⟨a1, a2, a3, a4, a5, a6⟩ := hca c hc
    obtain ⟨c1, c2, c3⟩ := ec c hc
    unfold rl_c
    rw [ev 9 c 1 (by omega) (by omega), ev 9 c 2 (by omega) (by omega), ev 9 c 4 (by omega) (by omega), ev 9 c 6 (by omega) (by omega), ew 11 (by decide) (by decide) (by decide), ew 12 (by decide) (by decide) (by decide), ew 14 (by decide) (by decide) (by decide), m_ahead_eq (ew 11 (by decide) (by decide) (by decide)) (ew 14 (by decide) (by decide) (by decide)) e17, m_pl_eq e17 en]
    exact ⟨a1, a2, c1, fun z => a4 (c2.mp z), fun z => a5 (fun y => z (c2.mpr y)), c3⟩
  · intro q y hq hy
    rw [ev 7 q y (by omega) (by omega), en, m_ahead_eq (ew 11 (by decide) (by decide) (by decide)) (ew 14 (by decide) (by decide) (by decide)) e17]
    exact hye q y hq hy
  · intro k hk
    rw [en] at hk
    rw [em]
    obtain ⟨d1, d2⟩ := hm1.2.2.1 k hk
    exact fun z => hac k hk ((ec _ d1).2.1.mp z)
  · unfold rl_wa
    rw [ew 7 (by decide) (by decide) (by decide), ew 8 (by decide) (by decide) (by decide), ew 18 (by decide) (by decide) (by decide)]
    exact hwa
theorem i_dispute {nf nc : Nat} {r : rh_R} {v : rh_V} {w : rh_Wm} (h : inv nf nc r v w) {i : Nat} (hi : i < nc) (hs : w 13 i = 1) : inv nf nc r (wr (wr v 9 i 3 2) 9 i 5 (v 0 0 6)) (wm (wm w 13 i 2) 15 i (w 26 24)) := by
  obtain ⟨-, -, -, -, -, hca, -, -, ⟨t, ht, hv, hw, q1, q2, q3⟩, -⟩ := id h
  have e13 : ∀ c, wm (wm w 13 i 2) 15 i (w 26 24) 13 c = if c = i then 2 else w 13 c := fun c => by simp [wm_at]
  have e15 : ∀ c, wm (wm w 13 i 2) 15 i (w 26 24) 15 c = if c = i then w 26 24 else w 15 c := fun c => by simp [wm_at]
  refine i_gen h (fun k a j h1 h2 => ?_) (fun q h1 h2 h3 => ?_) (fun j hj => ?_) (fun c hc => ?_) ?_
  · rw [wr_at, if_neg (by omega), wr_at, if_neg (by omega)]
  · rw [wm_other _ _ _ _ h2, wm_other _ _ _ _ h1]
  · rw [wm_at, if_neg (by omega), wm_at, if_neg (by omega)]
  · obtain ⟨a1, a2, a3, a4, a5, a6⟩ := hca c hc
    rw [e13, e15]
    by_cases hci : c = i
    · subst hci
      rw [if_pos rfl, if_pos rfl, hs]
      refine ⟨by simp [wr_at], by decide, fun _ => ?_⟩
      rw [wr_at, if_pos ⟨rfl, rfl, rfl⟩, hv, hw]
    · rw [if_neg hci, if_neg hci]
      refine ⟨?_, Iff.rfl, fun z => ?_⟩
      · rw [wr_at, if_neg (by omega), wr_at, if_neg (by omega)]; exact a3
      · rw [wr_at, if_neg (by omega), wr_at, if_neg (by omega)]; exact a6 z
  · refine ⟨t, ht, hv, hw, q1, fun c hc hz => ?_, fun c hc hz => ?_⟩
    · rw [e15]
      by_cases hci : c = i
      · rw [if_pos hci, hw]; exact ⟨t, rfl, Nat.le_refl _, by omega⟩
      · rw [if_neg hci]
        rw [e13, if_neg hci] at hz
        exact q2 c hc hz
    · refine q3 c hc (fun z => hz ?_)
      rw [e13]
      by_cases hci : c = i
      · subst hci; rw [hs] at z; exact absurd z (by decide)
      · rw [if_neg hci]; exact z
theorem i_answer {nf nc : Nat} {r : rh_R} {v : rh_V} {w : rh_Wm} (h : inv nf nc r v w) {i : Nat} (hi : i < nc) (hs : w 13 i = 2) {x : Int32} (hx : x = 3 ∨ x = 4) : inv nf nc r (wr v 9 i 3 x) (wm w 13 i x) := by
  obtain ⟨-, -, -, -, -, hca, -, -, ⟨t, ht, hv, hw, q1, q2, q3⟩, -⟩ := id h
  have e13 : ∀ c, wm w 13 i x 13 c = if c = i then x else w 13 c := fun c => by simp [wm_at]
  refine i_gen h (fun k a j h1 h2 => ?_) (fun q h1 h2 h3 => ?_) (fun j hj => ?_) (fun c hc => ?_) ?_
  · rw [wr_at, if_neg (by omega)]
  · rw [wm_other _ _ _ _ h1]
  · rw [wm_at, if_neg (by omega)]
  · obtain ⟨a1, a2, a3, a4, a5, a6⟩ := hca c hc
    rw [e13]
    by_cases hci : c = i
    · subst hci
      rw [if_pos rfl, hs]
      refine ⟨by simp [wr_at], ?_, fun z => ?_⟩
      · rcases hx with rfl | rfl <;> decide
      · rcases hx with rfl | rfl <;> exact absurd z (by decide)
    · rw [if_neg hci]
      refine ⟨?_, Iff.rfl, fun z => ?_⟩
      · rw [wr_at, if_neg (by omega)]; exact a3
      · rw [wr_at, if_neg (by omega)]; exact a6 z
  · refine ⟨t, ht, hv, hw, q1, fun c hc hz => ?_, fun c hc hz => ?_⟩
    · rw [e13] at hz
      by_cases hci : c = i
      · rw [if_pos hci] at hz; rcases hx with rfl | rfl <;> exact absurd hz (by decide)
      · rw [if_neg hci] at hz
        exact q2 c hc hz
    · refine q3 c hc (fun z => hz ?_)
      rw [e13]
      by_cases hci : c = i
      · subst hci; rw [hs] at z; exact absurd z (by decide)
      · rw [if_neg hci]; exact z
/-! a month goes by -/
theorem c_gb_at {v : rh_V} : ∀ n a b j : Nat, c_gb v n a b j = if a = 9 ∧ j = 3 ∧ b < n ∧ v 9 b 3 = 2 ∧ ¬ v 0 0 6 - v 9 b 5 < 2 then 4 else v a b j
  | 0, a, b, j => by
    rw [if_neg (by omega)]; rfl
  | n + 1, a, b, j => by
    have e3 : c_gb v n 9 n 3 = v 9 n 3 := by rw [c_gb_at n, if_neg (by omega)]
    have e5 : c_gb v n 9 n 5 = v 9 n 5 := by rw [c_gb_at n, if_neg (by omega)]
    unfold c_gb
    rw [e3, e5]
    by_cases hc : v 9 n 3 = 2 ∧ ¬ v 0 0 6 - v 9 n 5 < 2
    · rw [if_pos hc, wr_at]
      by_cases hk : a = 9 ∧ b = n ∧ j = 3
      · rw [if_pos hk]
        obtain ⟨rfl, rfl, rfl⟩ := hk
        rw [if_pos ⟨rfl, rfl, by omega, hc⟩]
      · rw [if_neg hk, c_gb_at n]
        by_cases hq : a = 9 ∧ j = 3 ∧ b < n ∧ v 9 b 3 = 2 ∧ ¬ v 0 0 6 - v 9 b 5 < 2
        · rw [if_pos hq, if_pos ⟨hq.1, hq.2.1, by omega, hq.2.2.2⟩]
        · rw [if_neg hq, if_neg (fun z => hq ⟨z.1, z.2.1, by omega, z.2.2.2⟩)]
    · rw [if_neg hc, c_gb_at n]
      by_cases hq : a = 9 ∧ j = 3 ∧ b < n ∧ v 9 b 3 = 2 ∧ ¬ v 0 0 6 - v 9 b 5 < 2
      · rw [if_pos hq, if_pos ⟨hq.1, hq.2.1, by omega, hq.2.2.2⟩]
      · rw [if_neg hq, if_neg]
        intro z
        by_cases hb : b = n
        · subst hb; exact hc z.2.2.2
        · exact hq ⟨z.1, z.2.1, by omega, z.2.2.2⟩
theorem m_gb_at {w : rh_Wm} : ∀ n c : Nat, m_gb w n 13 c = if c < n ∧ w 13 c = 2 ∧ w 26 24 = w 15 c + 2 then 4 else w 13 c
  | 0, c => by
    rw [if_neg (by omega)]; rfl
  | n + 1, c => by
    have e3 : m_gb w n 13 n = w 13 n := by rw [m_gb_at n, if_neg (by omega)]
    unfold m_gb
    rw [e3, m_gb_row (q := 15) (by decide) n, wm_at]
    by_cases hk : c = n
    · subst hk
      rw [if_pos ⟨rfl, rfl⟩]
      by_cases hc : w 13 c = 2 ∧ w 26 24 = w 15 c + 2
      · rw [if_pos hc, if_pos ⟨by omega, hc⟩]
      · rw [if_neg hc, if_neg (fun z => hc z.2)]
    · rw [if_neg (fun z => hk z.2), m_gb_at n]
      by_cases hq : c < n ∧ w 13 c = 2 ∧ w 26 24 = w 15 c + 2
      · rw [if_pos hq, if_pos ⟨by omega, hq.2⟩]
      · rw [if_neg hq, if_neg (fun z => hq ⟨by omega, z.2⟩)]
theorem nI_sub_lt {a b : Nat} {x : Nat} (ha : a < 2 ^ 20) (hb : b < 2 ^ 20) (hx : x < 2 ^ 20) : (nI a - nI b < nI x) ↔ a < b + x := by
  rw [Int32.lt_iff_toInt_lt, Int32.toInt_sub, nI_toInt (by omega), nI_toInt (by omega), nI_toInt (by omega), Int.bmod_eq_of_le (by omega) (by omega)]
  omega
theorem i_next {nf nc : Nat} {r : rh_R} {v : rh_V} {w : rh_Wm} (h : inv nf nc r v w) (hlt : v 0 0 6 < 35) : inv nf nc r (c_gb (wr v 0 0 6 (v 0 0 6 + 1)) nc) (m_gb (wm w 26 24 (w 26 24 + 1)) nc) := by
  obtain ⟨-, -, -, -, -, hca, -, -, ⟨t, ht, hv, hw, q1, q2, q3⟩, -⟩ := id h
  have htl : t < 35 := by
    rw [hv] at hlt
    exact (nI_ltI (by omega) (by decide)).mp (show nI t < nI 35 from hlt)
  rw [hv, hw, nI_1]
  have ev : ∀ a b j, c_gb (wr v 0 0 6 (nI (t + 1))) nc a b j = if a = 9 ∧ j = 3 ∧ b < nc ∧ v 9 b 3 = 2 ∧ ¬ nI (t + 1) - v 9 b 5 < 2 then 4 else wr v 0 0 6 (nI (t + 1)) a b j := by
    intro a b j
    rw [c_gb_at]
    simp [wr_at]
  have ew : ∀ c, m_gb (wm w 26 24 (nI (t + 1))) nc 13 c = if c < nc ∧ w 13 c = 2 ∧ nI (t + 1) = w 15 c + 2 then 4 else w 13 c := by
    intro c
    rw [m_gb_at]
    simp [wm_at]
  have key : ∀ c, c < nc → w 13 c = 2 → ((¬ nI (t + 1) - v 9 c 5 < 2) ↔ nI (t + 1) = w 15 c + 2) ∧ (¬ nI (t + 1) = w 15 c + 2 → ∃ d : Nat, w 15 c = nI d ∧ d ≤ t + 1 ∧ t + 1 ≤ d + 1) := by
    intro c hc h2
    obtain ⟨d, hd, d1, d2⟩ := q2 c hc h2
    rw [(hca c hc).2.2.2.2.2 h2, hd, show nI d + 2 = nI (d + 2) from nI_add d 2]
    have e1 := nI_sub_lt (a := t + 1) (b := d) (x := 2) (by omega) (by omega) (by decide)
    rw [show (nI 2 : Int32) = 2 from rfl] at e1
    rw [e1]
    refine ⟨⟨fun z => by rw [show t + 1 = d + 2 by omega], fun z => ?_⟩, fun z => ⟨d, rfl, by omega, ?_⟩⟩
    · have := m_inj (by omega) (by omega) z
      omega
    · rcases Nat.lt_or_ge (d + 1) (t + 1) with y | y
      · exact absurd (by rw [show t + 1 = d + 2 by omega]) z
      · exact y
  refine i_gen h (fun k a j h1 h2 => ?_) (fun q h1 h2 h3 => ?_) (fun j hj => ?_) (fun c hc => ?_) ?_
  · rw [ev, if_neg (fun z => h1 ⟨z.1, Or.inl z.2.1⟩), wr_at, if_neg (by omega)]
  · rw [m_gb_row h1, wm_other _ _ _ _ h3]
  · rw [m_gb_row (by decide), wm_at, if_neg (fun z => hj z.2)]
  · obtain ⟨a1, a2, a3, a4, a5, a6⟩ := hca c hc
    have x3 : c_gb (wr v 0 0 6 (nI (t + 1))) nc 9 c 3 = if w 13 c = 2 ∧ ¬ nI (t + 1) - v 9 c 5 < 2 then 4 else w 13 c := by
      rw [ev, ← a3]
      simp [hc, wr_at]
    have x5 : c_gb (wr v 0 0 6 (nI (t + 1))) nc 9 c 5 = v 9 c 5 := by
      rw [ev]
      simp [wr_at]
    have x15 : m_gb (wm w 26 24 (nI (t + 1))) nc 15 c = w 15 c := by
      rw [m_gb_row (by decide), wm_other w 26 24 _ (show (15 : Nat) ≠ 26 by decide)]
    have x13 : m_gb (wm w 26 24 (nI (t + 1))) nc 13 c = if w 13 c = 2 ∧ nI (t + 1) = w 15 c + 2 then 4 else w 13 c := by
      rw [ew]
      simp [hc]
    rw [x3, x5, x15, x13]
    by_cases h2 : w 13 c = 2
    · obtain ⟨k1, -⟩ := key c hc h2
      by_cases hg : nI (t + 1) = w 15 c + 2
      · rw [if_pos ⟨h2, k1.mpr hg⟩, if_pos ⟨h2, hg⟩, h2]
        exact ⟨rfl, by decide, fun z => absurd z (by decide)⟩
      · rw [if_neg (fun z => hg (k1.mp z.2)), if_neg (fun z => hg z.2)]
        exact ⟨rfl, Iff.rfl, a6⟩
    · rw [if_neg (fun z => h2 z.1), if_neg (fun z => h2 z.1)]
      exact ⟨rfl, Iff.rfl, a6⟩
  · refine ⟨t + 1, by omega, ?_, ?_, fun f hf => ?_, fun c hc hz => ?_, fun c hc hz => ?_⟩
    · rw [ev, if_neg (by omega), wr_at, if_pos ⟨rfl, rfl, rfl⟩]
    · rw [m_gb_row (by decide), wm_at, if_pos ⟨rfl, rfl⟩]
    · rw [m_gb_row (by decide), wm_other _ _ _ _ (by decide)]
      obtain ⟨b, hb, e⟩ := q1 f hf
      exact ⟨b, by omega, e⟩
    · rw [m_gb_row (by decide), wm_other w 26 24 _ (show (15 : Nat) ≠ 26 by decide)]
      rw [ew] at hz
      by_cases h2 : w 13 c = 2
      · refine (key c hc h2).2 (fun y => ?_)
        rw [if_pos ⟨hc, h2, y⟩] at hz
        exact absurd hz (by decide)
      · rw [if_neg (fun z => h2 z.2.1)] at hz
        exact absurd hz h2
    · rw [m_gb_row (by decide), wm_other w 26 24 _ (show (14 : Nat) ≠ 26 by decide)]
      have hs : ¬ w 13 c = 0 := by
        intro y
        refine hz ?_
        rw [ew, if_neg (fun z => by rw [y] at z; exact absurd z.2.1 (by decide))]
        exact y
      obtain ⟨a, ha, e⟩ := q3 c hc hs
      exact ⟨a, by omega, e⟩
