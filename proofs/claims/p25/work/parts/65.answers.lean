/-! ===== the house's answers, by the law's own house ===== -/
theorem o_lk {nf nc : Nat} {r : rh_R} {v : rh_V} {w : rh_Wm} {L : u_L} (h : inv nf nc r v w) (hl : lr nf nc r w L) : lk nf nc r w L := ⟨hl, h.2.1, h.2.2.2.2.2.2.2.1⟩
theorem o_now {nf nc : Nat} {r : rh_R} {v : rh_V} {w : rh_Wm} {L : u_L} (h : inv nf nc r v w) (hl : lr nf nc r w L) : v 0 0 6 = nI (L 0 3) ∧ L 0 3 < 36 := by
  obtain ⟨t, ht, hv, hw, -⟩ := h.2.2.2.2.2.2.2.2.1
  obtain ⟨-, -, -, h3, h4⟩ := hl.2.1
  exact ⟨by rw [hv, ← hw, h4], h3⟩
theorem o_state {nf nc : Nat} {r : rh_R} {v : rh_V} {w : rh_Wm} {L : u_L} (h : inv nf nc r v w) (hl : lr nf nc r w L) {j : Nat} (hj : j < nf) : v 8 j 2 = nI (L 2 (4 * j + 2)) := by
  rw [(h.2.2.2.2.1 j hj).2.1]
  exact (hl.2.2.2.1.1 j hj).2.2.1.1
theorem o_call {nf nc : Nat} {r : rh_R} {v : rh_V} {w : rh_Wm} {L : u_L} (h : inv nf nc r v w) (hl : lr nf nc r w L) {j : Nat} (hj : j < nc) : v 9 j 3 = nI (u_st L j) ∧ u_st L j ≤ 4 := by
  obtain ⟨a1, a2, a3, a4, a5, a6⟩ := h.2.2.2.2.2.1 j hj
  rw [a3]
  exact (hl.2.2.2.2.1 j hj).2.1
theorem o_month {nf nc : Nat} {r : rh_R} {v : rh_V} {w : rh_Wm} {L : u_L} (h : inv nf nc r v w) (hl : lr nf nc r w L) {j : Nat} (hj : j < nc) : (u_st L j = 0 → v 9 j 4 = -1) ∧ (u_st L j ≠ 0 → v 9 j 4 = nI (u_mo L j)) := by
  obtain ⟨a1, a2, a3, a4, a5, a6⟩ := h.2.2.2.2.2.1 j hj
  obtain ⟨-, ⟨b1, b2⟩, c1, -⟩ := hl.2.2.2.2.1 j hj
  constructor
  · intro z
    exact a4 (b1.trans (congrArg nI z))
  · intro z
    have hs : ¬ w 13 j = 0 := fun y => z (m_inj (a := L 3 j / 16 % 8) (b := 0) (by omega) (by decide) (b1.symm.trans y))
    rw [(a5 hs).1]
    exact (c1 z).1
theorem o_amt {nf nc : Nat} {r : rh_R} {v : rh_V} {w : rh_Wm} {L : u_L} (h : inv nf nc r v w) (hl : lr nf nc r w L) {j : Nat} (hj : j < nc) : (u_st L j = 0 → c_amt r v j = 0) ∧ (u_st L j ≠ 0 → (c_amt r v j).toInt64 = lN (u_ow L (u_pr L j) (u_mo L j) (u_mo L j) (some j) (L 0 2))) := by
  obtain ⟨-, ⟨b1, b2⟩, c1, -⟩ := hl.2.2.2.2.1 j hj
  rw [s_amt h hj]
  constructor
  · intro z
    unfold m_amt
    have hz : w 13 j = 0 ∨ w 13 j = 4 := Or.inl (b1.trans (congrArg nI z))
    rw [if_pos hz]
  · intro z
    obtain ⟨e1, e2⟩ := u_ow_1 (o_lk h hl) hj z
    rw [e1, nI_l (by omega)]
theorem o_exp {nf nc : Nat} {r : rh_R} {v : rh_V} {w : rh_Wm} {L : u_L} (h : inv nf nc r v w) (hl : lr nf nc r w L) {q : Nat} (hq : q < 16) : v 6 (tr q) 1 = nI (L 7 q) := by
  rw [(h.2.2.2.1 (tr q) (tr_lt hq)).1]
  exact (hl.2.2.2.2.2.2 q hq).1.1
theorem o_prom {nf nc : Nat} {r : rh_R} {v : rh_V} {w : rh_Wm} {L : u_L} (h : inv nf nc r v w) (hl : lr nf nc r w L) {q : Nat} (hq : q < 16) : v 6 (tr q) 2 = nI (L 8 (32 + q)) ∧ L 8 (32 + q) ≤ 100000000 := by
  rw [(h.2.2.2.1 (tr q) (tr_lt hq)).2.1]
  exact (hl.2.2.2.2.2.2 q hq).2.1
theorem le7_le {nf : Nat} {L : u_L} (h : le7 nf L) (hn : nf ≤ 16) {q : Nat} (hq : q < 16) : L 7 q ≤ 17 := by
  have := h q hq
  have := u_dn_le L nf
  omega
theorem o_lack {nf nc : Nat} {r : rh_R} {v : rh_V} {w : rh_Wm} {L : u_L} (h : inv nf nc r v w) (hl : lr nf nc r w L) (h7 : le7 nf L) {q : Nat} (hq : q < 16) : (if c_wn r v (tr q) nf = 0 then 0 else c_wg r v (tr q) nf - v 6 (tr q) 1 + 1 - c_wn r v (tr q) nf) = nI (u_lk L q nf (100 - L 7 q)) := by
  have hnf := hl.2.1.1.2
  have he := fun q hq => le7_le h7 hnf (q := q) hq
  obtain ⟨e1, e2⟩ := s_wn h.2.2.2.2.1 (q := tr q) nf (Nat.le_refl _)
  obtain ⟨f1, f2⟩ := u_wn hl hq nf (Nat.le_refl _)
  obtain ⟨g1, g2⟩ := u_wa hl h.2.2.2.2.2.2.2.2.2 (fun q hq => by have := he q hq; omega)
  obtain ⟨k1, k2⟩ := u_lk_at (fun f hf hi => g1 f q hf hi) (fun f g hf hg hi hj e => g2 f g q hf hg hi hj e)
  rw [e1, e2, f1, f2, o_exp h hl hq]
  by_cases hz : u_ct L q nf = 0
  · have hz' : nI (u_ct L q nf) = 0 := congrArg nI hz
    rw [if_pos hz', k1 hz]; rfl
  · obtain ⟨m1, m2, m3⟩ := k2 hz
    have hct : u_ct L q nf ≤ nf := by
      have := sm_le (F := fun j => if u_is L q j then 1 else 0) (b := 1) nf (fun k _ => by
        show (if u_is L q k then 1 else 0) ≤ 1
        split <;> omega)
      unfold u_ct
      omega
    have hz' : ¬ nI (u_ct L q nf) = 0 := fun z => hz (m_inj (b := 0) (by omega) (by decide) z)
    rw [if_neg hz', pk_sub m2, nI_1, pk_sub (by omega)]
    exact congrArg nI (by omega)
theorem o_sum {nf nc : Nat} {r : rh_R} {v : rh_V} {w : rh_Wm} {L : u_L} (h : inv nf nc r v w) (hl : lr nf nc r w L) {q a b : Nat} (hq : q < 16) (ha : a < 100) (hb : b < 100) (hab : a / 12 = b / 12) : c_sum r v (tr q) (nI a) (nI b) nc = lN (u_ow L q a b none (L 0 2)) := by
  rw [s_sum h (nI_pos' (by omega)) nc (Nat.le_refl _)]
  exact u_ow_m (o_lk h hl) hq ha hb hab
theorem o_year {y : Nat} (hy : y ≤ 1) : nI y * 12 = nI (12 * y) ∧ nI y * 12 + 12 - 1 = nI (12 * y + 11) ∧ (12 * y) / 12 = (12 * y + 11) / 12 := by
  have : y = 0 ∨ y = 1 := by omega
  rcases this with rfl | rfl
  · exact ⟨by decide, by decide, by omega⟩
  · exact ⟨by decide, by decide, by omega⟩
theorem o_ch {nf nc : Nat} {r : rh_R} {v : rh_V} {w : rh_Wm} {L : u_L} (h : inv nf nc r v w) (hl : lr nf nc r w L) {i s : Nat} (hi : i < 4) (h1 : 1 ≤ s) (hs : s ≤ 36000) : c_ch v i (nI s) = nI (u_ch L i s) := by
  rw [s_ch h.2.2.1 hi]
  exact u_ch_m hl.2.2.1 hi h1 hs
/-- what a pair owes in a month, in units -/
def u_un (L : u_L) (m q : Nat) : Int64 := lN (u_ow L q m m none (L 0 2)) * lN (L 1 (4 * (q % 4) + 3)) / 1000
theorem o_units {nf nc : Nat} {r : rh_R} {v : rh_V} {w : rh_Wm} {L : u_L} (h : inv nf nc r v w) (hl : lr nf nc r w L) {q m : Nat} (hq : q < 16) (hm : m < 100) : c_units r v nc (tr q) (nI m) = u_un L m q := by
  have h4 : q % 4 < 4 := by omega
  obtain ⟨-, -, -, e1, e2⟩ := hl.2.2.1 (q % 4) h4
  unfold c_units u_un
  rw [o_sum h hl hq hm hm rfl, tr_div hq, (h.2.2.1 (q % 4) h4).2.2.2, e1, nI_l (by omega)]
/-- the nets, pair by pair -/
def u_nt (u : Nat → Int64) : Nat → Nat → Int64
  | 0 => fun _ => 0
  | j + 1 => if j % 4 = j / 4 then u_nt u j else va_up (va_up (u_nt u j) (j % 4) (u_nt u j (j % 4) + u j)) (j / 4) (va_up (u_nt u j) (j % 4) (u_nt u j (j % 4) + u j) (j / 4) - u j)
theorem o_net {nf nc : Nat} {r : rh_R} {v : rh_V} {w : rh_Wm} {L : u_L} (h : inv nf nc r v w) (hl : lr nf nc r w L) {i m : Nat} (hi : i < 4) (hm : m < 100) : c_net r v nc i (nI m) 4 = u_nt (u_un L m) 16 i := by
  have hu : ∀ q : Nat, q < 16 → u_un L m q = c_units r v nc (tr q) (nI m) := fun q hq => (o_units h hl hq hm).symm
  have h4 := hu 4 (by decide)
  have h8 := hu 8 (by decide)
  have h12 := hu 12 (by decide)
  have h1 := hu 1 (by decide)
  have h9 := hu 9 (by decide)
  have h13 := hu 13 (by decide)
  have h2 := hu 2 (by decide)
  have h6 := hu 6 (by decide)
  have h14 := hu 14 (by decide)
  have h3 := hu 3 (by decide)
  have h7 := hu 7 (by decide)
  have h11 := hu 11 (by decide)
  simp only [tr] at h1 h2 h3 h4 h6 h7 h8 h9 h11 h12 h13 h14
  have : i = 0 ∨ i = 1 ∨ i = 2 ∨ i = 3 := by omega
  rcases this with rfl | rfl | rfl | rfl
  all_goals
    simp [u_nt, va_up, c_net, h1, h2, h3, h4, h6, h7, h8, h9, h11, h12, h13, h14]
    simp only [Int64.sub_eq_add_neg]
    ac_rfl
/-- the start -/
def u_av (j : Nat) : Nat := if j % 4 = 0 then 60 else if j % 4 = 1 then 10 else if j % 4 = 2 then 0 else 1000
def u_Li (i : Nat) : u_L := fun k j => if k = 1 ∧ j < i then u_av j else if k = 7 ∧ j < i then 1 else 0
theorem u_Li_0 : u_Li 0 = fun _ _ => 0 := by
  funext k j
  simp [u_Li]
theorem u_Li_s (i : Nat) : un (un (u_Li i) 1 i (u_av i)) 7 i 1 = u_Li (i + 1) := by
  funext k j
  unfold un u_Li
  by_cases h7 : k = 7
  · subst h7
    by_cases hj : j = i
    · subst hj; simp
    · by_cases hl : j < i
      · simp [hj, hl, show j < i + 1 by omega]
      · simp [hj, hl, show ¬ j < i + 1 by omega]
  · by_cases h1 : k = 1
    · subst h1
      by_cases hj : j = i
      · subst hj; simp
      · by_cases hl : j < i
        · simp [hj, hl, show j < i + 1 by omega]
        · simp [hj, hl, show ¬ j < i + 1 by omega]
    · simp [h7, h1]
abbrev u_L0 : u_L := u_Li 16
theorem lr_init (r : rh_R) : lr 0 0 r (m_w2 16) u_L0 ∧ le7 0 u_L0 := by
  refine ⟨⟨fun k j => ?_, ⟨⟨rfl, by decide⟩, ⟨rfl, by decide⟩, rfl, by decide, rfl⟩, fun i hi => ?_, ⟨fun f hf => absurd hf (Nat.not_lt_zero _), fun f _ => by simp [u_Li]⟩, fun c hc => absurd hc (Nat.not_lt_zero _), fun k hk => absurd hk (Nat.not_lt_zero _), fun q hq => ?_⟩, fun q _ => ?_⟩
  · show (if k = 1 ∧ j < 16 then u_av j else if k = 7 ∧ j < 16 then 1 else 0) < 1073741824
    unfold u_av
    split
    · split
      · decide
      · split
        · decide
        · split <;> decide
    · split <;> decide
  · have : i = 0 ∨ i = 1 ∨ i = 2 ∨ i = 3 := by omega
    rcases this with rfl | rfl | rfl | rfl <;> exact ⟨⟨rfl, by decide, by decide⟩, ⟨rfl, by decide⟩, ⟨rfl, by decide⟩, rfl, by decide⟩
  · have ht := tr_lt hq
    have e7 : u_L0 7 q = 1 := by simp [u_Li, hq]
    have e8 : ∀ z : Nat, u_L0 8 z = 0 := fun z => by simp [u_Li]
    unfold lq1
    rw [e7, e8, e8, e8]
    refine ⟨⟨?_, Nat.le_refl 1⟩, ⟨rfl, Nat.zero_le _⟩, ⟨fun _ => rfl, fun _ => rfl⟩, fun z => absurd rfl z, Nat.zero_le _, Nat.zero_le _⟩
    show m_w2 16 18 (tr q) = nI 1
    unfold m_w2
    rw [if_pos ⟨rfl, ht⟩]; rfl
  · have e7 : u_L0 7 q ≤ 1 := by
      show (if 7 = 1 ∧ q < 16 then u_av q else if 7 = 7 ∧ q < 16 then 1 else 0) ≤ 1
      rw [if_neg (fun z => absurd z.1 (by decide))]
      split <;> omega
    omega
