/-! ===== what is owed, by the law's own house ===== -/
theorem lN_toInt2 {n : Nat} (h : n < 9223372036854775808) : (lN n).toInt = (n : Int) := lg_ofNat_toInt (by omega)
theorem lN_div {a b : Nat} (ha : a < 9223372036854775808) (h0 : 0 < b) (hb : b < 9223372036854775808) : lN a / lN b = lN (a / b) := by
  apply Int64.toInt_inj.mp
  rw [lg_ldiv_nonneg (by rw [lN_toInt2 ha]; omega) (by rw [lN_toInt2 hb]; omega), lN_toInt2 ha, lN_toInt2 hb, lN_toInt2 (Nat.lt_of_le_of_lt (Nat.div_le_self a b) ha)]
  first | rfl | exact (Int.natCast_ediv _ _).symm
def u_pr (L : u_L) (c : Nat) : Nat := L 2 (4 * (L 3 c % 16))
def u_mo (L : u_L) (c : Nat) : Nat := L 3 c / 128 % 64
def u_st (L : u_L) (c : Nat) : Nat := L 3 c / 16 % 8
/-- the seconds of a pair's calls of a year, up to a place in the order -/
def u_ah (L : u_L) (q y : Nat) (n : Nat) : Nat := sm (fun k => if u_pr L (L 6 k) = q ∧ u_mo L (L 6 k) / 12 = y then L 4 (L 6 k) else 0) n
abbrev u_ls (L : u_L) (q y n k : Nat) : Prop := 0 < L 8 q ∧ L 8 q - 1 ≤ (if L 8 (16 + q) % 2 = 1 then u_ah L q y n else u_ah L q y k)
def u_am (L : u_L) (q y n k : Nat) : Nat := L 5 (L 6 k) - (if u_ls L q y n k then L 5 (L 6 k) * (L 8 (16 + q) / 2) / 10000 else 0)
abbrev u_in (L : u_L) (q a b : Nat) (on : Option Nat) (c : Nat) : Prop := (u_pr L c = q ∧ u_mo L c / 12 = a / 12) ∧ u_st L c < 4 ∧ a ≤ u_mo L c ∧ u_mo L c ≤ b ∧ (on = none ∨ on = some c)
def u_ow (L : u_L) (q a b : Nat) (on : Option Nat) (n : Nat) : Nat := sm (fun k => if u_in L q a b on (L 6 k) then u_am L q (a / 12) (L 0 2) k else 0) n
def lk (nf nc : Nat) (r : rh_R) (w : rh_Wm) (L : u_L) : Prop := lr nf nc r w L ∧ m_wf nf nc r w ∧ rl_ac w
theorem lk_c {nf nc : Nat} {r : rh_R} {w : rh_Wm} {L : u_L} (h : lk nf nc r w L) {c : Nat} (hc : c < nc) (hs : u_st L c ≠ 0) : c_pr r c = tr (u_pr L c) ∧ u_pr L c < 16 ∧ w 14 c = nI (u_mo L c) ∧ u_mo L c ≤ L 0 3 ∧ L 0 3 < 36 := by
  obtain ⟨⟨hub, ⟨-, -, -, n3, -⟩, -, hf, hcc, -, -⟩, hm, -⟩ := h
  obtain ⟨⟨a1, a2⟩, ⟨b1, b2⟩, c1, -⟩ := hcc c hc
  have hf9 : r 9 c < nf := (hm.1.2.2.2.2.2.1 c hc).1
  obtain ⟨⟨p1, p2⟩, -⟩ := hf.1 _ hf9
  rw [a2] at p1 p2
  refine ⟨?_, p1, (c1 hs).1, (c1 hs).2, n3⟩
  show r 8 (r 9 c) = _
  rw [a2]; exact p2
theorem lk_k {nf nc : Nat} {r : rh_R} {w : rh_Wm} {L : u_L} (h : lk nf nc r w L) {k : Nat} (hk : k < L 0 2) : L 6 k < nc ∧ mac w k = L 6 k ∧ u_st L (L 6 k) ≠ 0 ∧ k < mna w := by
  obtain ⟨hl, hm, hac⟩ := h
  have hk' : k < mna w := by rw [← hl.2.1.2.2.1]; exact hk
  obtain ⟨e1, e2⟩ := lo_mac hl hk'
  have h1 := (hm.2.2.2.1 k hk').1
  rw [e1] at h1
  refine ⟨h1, e1, fun z => ?_, hk'⟩
  have h2 := hac k hk'
  rw [e1, (hl.2.2.2.2.1 _ h1).2.1.1] at h2
  exact h2 (congrArg nI z)
theorem tr_eq {a b : Nat} (ha : a < 16) (hb : b < 16) : tr a = tr b ↔ a = b := ⟨tr_inj ha hb, fun z => by rw [z]⟩
theorem u_ah_le {nf nc : Nat} {r : rh_R} {w : rh_Wm} {L : u_L} (h : lk nf nc r w L) {q y n : Nat} (hn : n ≤ L 0 2) : u_ah L q y n ≤ n * 36000 := by
  refine sm_le n (fun k hk => ?_)
  split
  · exact (h.1.2.2.2.2.1 _ (lk_k h (by omega : k < L 0 2)).1).2.2.2.2.1.2.2
  · omega
theorem lk_n2 {nf nc : Nat} {r : rh_R} {w : rh_Wm} {L : u_L} (h : lk nf nc r w L) : L 0 2 ≤ 40 := by
  have h1 := h.1.2.1.2.2.1
  have h2 := h.2.1.2.1
  have h3 := m_act_le w nc
  have h4 := h.1.2.1.2.1.2
  omega
theorem u_ahead {nf nc : Nat} {r : rh_R} {w : rh_Wm} {L : u_L} (h : lk nf nc r w L) {q y : Nat} (hq : q < 16) (hy : y < 100) : ∀ n : Nat, n ≤ L 0 2 → m_ahead r w (tr q) (nI y) n = nI (u_ah L q y n)
  | 0, _ => rfl
  | n + 1, hn => by
    have ih := u_ahead h hq hy n (by omega)
    obtain ⟨k1, k2, k3, k4⟩ := lk_k h (by omega : n < L 0 2)
    obtain ⟨c1, c2, c3, c4, c5⟩ := lk_c h k1 k3
    have f1 := (h.1.2.2.2.2.1 _ k1).2.2.2.2.1.1
    show (if c_pr r (mac w n) = tr q ∧ w 14 (mac w n) / 12 = nI y then m_ahead r w (tr q) (nI y) n + w 11 (mac w n) else m_ahead r w (tr q) (nI y) n) = nI (u_ah L q y n + if u_pr L (L 6 n) = q ∧ u_mo L (L 6 n) / 12 = y then L 4 (L 6 n) else 0)
    rw [ih, k2, c1, c3, f1, show (12 : Int32) = nI 12 from rfl, pk_div (by omega) (by decide) (by decide)]
    by_cases hc : u_pr L (L 6 n) = q ∧ u_mo L (L 6 n) / 12 = y
    · rw [if_pos hc, if_pos ⟨by rw [hc.1], by rw [hc.2]⟩, nI_add]
    · rw [if_neg hc, if_neg (fun z => hc ⟨tr_inj c2 hq z.1, m_inj (by omega) (by omega) z.2⟩)]
      rfl
theorem u_place {nf nc : Nat} {r : rh_R} {w : rh_Wm} {L : u_L} (h : lk nf nc r w L) {k : Nat} (hk : k < L 0 2) : m_pl w (L 6 k) = k := by
  obtain ⟨k1, k2, k3, k4⟩ := lk_k h hk
  have hs : ¬ w 13 (L 6 k) = 0 := by have := h.2.2 k k4; rw [k2] at this; exact this
  obtain ⟨p1, p2, -⟩ := m_pl_of h.2.1 k1 hs
  have hn := h.1.2.1.2.2.1
  have e := (h.1.2.2.2.2.2.1 (m_pl w (L 6 k)) (by omega)).1
  have hub := h.1.1
  have e2 : L 6 (m_pl w (L 6 k)) = L 6 k := m_inj (by have := hub 6 (m_pl w (L 6 k)); omega) (by have := hub 6 k; omega) (e.symm.trans p2)
  exact (h.1.2.2.2.2.2.1 (m_pl w (L 6 k)) (by omega)).2 k hk e2
theorem cut_m {a b : Nat} (ha : a ≤ 50000000) (hb : b ≤ 10000) : c_cut (nI a) (nI b) = nI (a - a * b / 10000) := by
  have h1 : a * b ≤ 50000000 * 10000 := Nat.mul_le_mul ha hb
  have h2 : a * b / 10000 ≤ a := Nat.div_le_of_le_mul (by rw [Nat.mul_comm 10000 a]; exact Nat.mul_le_mul_left a hb)
  unfold c_cut
  rw [nI_l (by omega), nI_l (by omega), lN_mul, show (10000 : Int64) = lN 10000 from rfl, lN_div (by omega) (by decide) (by decide), lN_i, pk_sub h2]
theorem u_am_le {nf nc : Nat} {r : rh_R} {w : rh_Wm} {L : u_L} (h : lk nf nc r w L) {k : Nat} (hk : k < L 0 2) (q y n : Nat) : u_am L q y n k ≤ 50000000 := by
  have := (h.1.2.2.2.2.1 _ (lk_k h hk).1).2.2.2.2.2.2
  unfold u_am
  omega
/-- a call's amount -/
theorem u_amt {nf nc : Nat} {r : rh_R} {w : rh_Wm} {L : u_L} (h : lk nf nc r w L) {k : Nat} (hk : k < L 0 2) : m_amt r w (L 6 k) = nI (if u_st L (L 6 k) = 4 then 0 else u_am L (u_pr L (L 6 k)) (u_mo L (L 6 k) / 12) (L 0 2) k) := by
  obtain ⟨k1, k2, k3, k4⟩ := lk_k h hk
  obtain ⟨c1, c2, c3, c4, c5⟩ := lk_c h k1 k3
  obtain ⟨-, ⟨b1, b2⟩, -, -, -, g1, g2⟩ := h.1.2.2.2.2.1 _ k1
  obtain ⟨-, -, d1, d2, d3, d4⟩ := h.1.2.2.2.2.2.2 _ c2
  have hpl := u_place h hk
  have hn2 := lk_n2 h
  have hmn := h.1.2.1.2.2.1
  have hub := h.1.1
  generalize hc : L 6 k = c at *
  generalize hq : u_pr L c = q at *
  have h13 : ∀ x : Nat, x < 8 → (w 13 c = nI x ↔ u_st L c = x) := fun x hx => by
    rw [b1]
    exact ⟨fun z => m_inj (a := L 3 c / 16 % 8) (by omega) (by omega) z, fun z => congrArg nI z⟩
  unfold m_amt
  by_cases h4 : u_st L c = 4
  · have hz : w 13 c = 0 ∨ w 13 c = 4 := Or.inr ((h13 4 (by decide)).mpr h4)
    rw [if_pos hz, if_pos h4]; rfl
  · have hz : ¬ (w 13 c = 0 ∨ w 13 c = 4) := fun z => z.elim (fun y => k3 ((h13 0 (by decide)).mp y)) (fun y => h4 ((h13 4 (by decide)).mp y))
    rw [if_neg hz, if_neg h4]
    have hhd : m_hd r w c = nI (if w 22 (tr q) = 0 then u_ah L q (u_mo L c / 12) k else u_ah L q (u_mo L c / 12) (L 0 2)) := by
      unfold m_hd
      rw [c1, c3, show (12 : Int32) = nI 12 from rfl, pk_div (by omega) (by decide) (by decide), hpl]
      by_cases h22 : w 22 (tr q) = 0
      · rw [if_pos h22, if_pos h22]
        exact u_ahead h c2 (by omega) k (by omega)
      · rw [if_neg h22, if_neg h22, ← hmn]
        exact u_ahead h c2 (by omega) (L 0 2) (Nat.le_refl _)
    have hb1 := u_ah_le h (q := q) (y := u_mo L c / 12) (n := k) (by omega)
    have hb2 := u_ah_le h (q := q) (y := u_mo L c / 12) (n := L 0 2) (Nat.le_refl _)
    rw [c1, g1]
    unfold u_am
    rw [hc]
    by_cases h8 : L 8 q = 0
    · rw [if_neg (fun z => z.1 (d1.mpr h8)), if_neg (fun z => absurd z.1 (by omega)), Nat.sub_zero]
    · obtain ⟨e1, e2, e3⟩ := d2 h8
      have hcond : (¬ w 19 (tr q) = 0 ∧ ¬ m_hd r w c < w 20 (tr q)) ↔ u_ls L q (u_mo L c / 12) (L 0 2) k := by
        rw [hhd, e1]
        unfold u_ls
        by_cases h22 : w 22 (tr q) = 0
        · have h23 := e3.mp h22
          rw [if_pos h22, if_neg (by omega), nI_ltI (by omega) (by omega)]
          exact ⟨fun z => ⟨by omega, by omega⟩, fun z => ⟨fun y => h8 (d1.mp y), by omega⟩⟩
        · have h23 : ¬ L 8 (16 + q) % 2 = 0 := fun z => h22 (e3.mpr z)
          rw [if_neg h22, if_pos (by omega), nI_ltI (by omega) (by omega)]
          exact ⟨fun z => ⟨by omega, by omega⟩, fun z => ⟨fun y => h8 (d1.mp y), by omega⟩⟩
      by_cases hl : u_ls L q (u_mo L c / 12) (L 0 2) k
      · rw [if_pos (hcond.mpr hl), if_pos hl, e2]
        exact cut_m g2 (by omega)
      · rw [if_neg (fun z => hl (hcond.mp z)), if_neg hl, Nat.sub_zero]
/-! sums in the order, and by numbers -/
theorem sm_perm {P : Nat → Prop} {g F G : Nat → Nat} {m n : Nat} (hg : ∀ k : Nat, k < m → g k < n) (hi : ∀ k k' : Nat, k < m → k' < m → g k = g k' → k = k') (hs : ∀ c : Nat, c < n → P c → ∃ k : Nat, k < m ∧ g k = c) (h1 : ∀ k : Nat, k < m → P (g k)) (h2 : ∀ c : Nat, c < n → P c → G c = F c) (h3 : ∀ c : Nat, c < n → ¬ P c → G c = 0) : sm G n = sm (fun k => F (g k)) m := by
  have e1 : sm (fun k => F (g k)) m = sm (fun k => sm (fun c => if c = g k then F (g k) else 0) n) m := sm_eq m (fun k hk => (sm_one (hg k hk)).symm)
  rw [e1, sm_swap]
  refine sm_eq n (fun c hc => ?_)
  by_cases hp : P c
  · obtain ⟨k, hk, e⟩ := hs c hc hp
    rw [h2 c hc hp]
    rw [sm_eq (G := fun k' => if k' = k then F c else 0) m (fun k' hk' => by
      show (if c = g k' then F (g k') else 0) = if k' = k then F c else 0
      by_cases hkk : k' = k
      · subst hkk; rw [if_pos e.symm, if_pos rfl, e]
      · rw [if_neg (fun z => hkk (hi k' k hk' hk (z.symm.trans e.symm))), if_neg hkk])]
    exact (sm_one hk).symm
  · rw [h3 c hc hp]
    exact (sm_none (fun k hk => by
      show (if c = g k then F (g k) else 0) = 0
      have hz : ¬ c = g k := fun z => hp (by rw [z]; exact h1 k hk)
      rw [if_neg hz])).symm
theorem lk_on {nf nc : Nat} {r : rh_R} {w : rh_Wm} {L : u_L} (h : lk nf nc r w L) {c : Nat} (hc : c < nc) (hs : u_st L c ≠ 0) : ∃ k : Nat, k < L 0 2 ∧ L 6 k = c := by
  have b1 := (h.1.2.2.2.2.1 _ hc).2.1.1
  have hs' : ¬ w 13 c = 0 := fun z => hs (m_inj (a := L 3 c / 16 % 8) (b := 0) (by omega) (by decide) (b1.symm.trans z))
  obtain ⟨-, k, hk, e⟩ := h.2.1.2.2.2.2 c hc hs'
  have hn := h.1.2.1.2.2.1
  have hub := h.1.1
  have e2 := (h.1.2.2.2.2.2.1 k (by omega)).1
  exact ⟨k, by omega, m_inj (by have := hub 6 k; omega) (by have := h.1.2.1.2.1.2; omega) (e2.symm.trans e)⟩
def u_AM (r : rh_R) (w : rh_Wm) (c : Nat) : Nat := (m_amt r w c).toNatClampNeg
theorem u_AM_k {nf nc : Nat} {r : rh_R} {w : rh_Wm} {L : u_L} (h : lk nf nc r w L) {k : Nat} (hk : k < L 0 2) : u_AM r w (L 6 k) = (if u_st L (L 6 k) = 4 then 0 else u_am L (u_pr L (L 6 k)) (u_mo L (L 6 k) / 12) (L 0 2) k) ∧ m_amt r w (L 6 k) = nI (u_AM r w (L 6 k)) ∧ u_AM r w (L 6 k) ≤ 50000000 := by
  have e := u_amt h hk
  have hle := u_am_le h hk (u_pr L (L 6 k)) (u_mo L (L 6 k) / 12) (L 0 2)
  have e2 : u_AM r w (L 6 k) = (if u_st L (L 6 k) = 4 then 0 else u_am L (u_pr L (L 6 k)) (u_mo L (L 6 k) / 12) (L 0 2) k) := by
    unfold u_AM
    rw [e, nI_clamp (by split <;> omega)]
  refine ⟨e2, by rw [e2]; exact e, by rw [e2]; split <;> omega⟩
theorem u_sum {nf nc : Nat} {r : rh_R} {w : rh_Wm} {L : u_L} (h : lk nf nc r w L) {q a b : Nat} (hq : q < 16) (ha : a < 100) (hb : b < 100) : ∀ n : Nat, n ≤ nc → m_sum r w (tr q) (nI a) (nI b) n = lN (sm (fun c => if u_st L c ≠ 0 ∧ u_pr L c = q ∧ a ≤ u_mo L c ∧ u_mo L c ≤ b then u_AM r w c else 0) n)
  | 0, _ => rfl
  | n + 1, hn => by
    have ih := u_sum h hq ha hb n (by omega)
    have b1 := (h.1.2.2.2.2.1 n (by omega)).2.1.1
    show (if ¬ w 13 n = 0 ∧ c_pr r n = tr q ∧ rng (w 14 n) (nI a) (nI b) then m_sum r w (tr q) (nI a) (nI b) n + (m_amt r w n).toInt64 else m_sum r w (tr q) (nI a) (nI b) n) = lN (sm (fun c => if u_st L c ≠ 0 ∧ u_pr L c = q ∧ a ≤ u_mo L c ∧ u_mo L c ≤ b then u_AM r w c else 0) n + if u_st L n ≠ 0 ∧ u_pr L n = q ∧ a ≤ u_mo L n ∧ u_mo L n ≤ b then u_AM r w n else 0)
    rw [ih]
    by_cases hs : u_st L n ≠ 0
    · obtain ⟨c1, c2, c3, c4, c5⟩ := lk_c h (by omega : n < nc) hs
      have hs' : ¬ w 13 n = 0 := fun z => hs (m_inj (a := L 3 n / 16 % 8) (b := 0) (by omega) (by decide) (b1.symm.trans z))
      have hr : rng (w 14 n) (nI a) (nI b) ↔ a ≤ u_mo L n ∧ u_mo L n ≤ b := by
        unfold rng
        rw [c3, nI_leI (by omega) (by omega), nI_leI (by omega) (by omega)]
      obtain ⟨k, hk, e⟩ := lk_on h (by omega : n < nc) hs
      have hA := u_AM_k h hk
      rw [e] at hA
      by_cases hc : u_pr L n = q ∧ a ≤ u_mo L n ∧ u_mo L n ≤ b
      · rw [if_pos ⟨hs', by rw [c1, hc.1], hr.mpr hc.2⟩, if_pos ⟨hs, hc⟩, hA.2.1, nI_l (by omega), lN_add]
      · rw [if_neg (fun z => hc ⟨tr_inj c2 hq (c1.symm.trans z.2.1), hr.mp z.2.2⟩), if_neg (fun z => hc z.2)]
        rfl
    · rw [if_neg (fun z => hs (fun y => z.1 (b1.trans (congrArg nI y)))), if_neg (fun z => hs z.1)]
      rfl
/-- what a pair owes for months of one year -/
theorem u_ow_m {nf nc : Nat} {r : rh_R} {w : rh_Wm} {L : u_L} (h : lk nf nc r w L) {q a b : Nat} (hq : q < 16) (ha : a < 100) (hb : b < 100) (hab : a / 12 = b / 12) : m_sum r w (tr q) (nI a) (nI b) nc = lN (u_ow L q a b none (L 0 2)) := by
  rw [u_sum h hq ha hb nc (Nat.le_refl _)]
  refine congrArg lN ?_
  have hinj := fun k hk k' hk' e => (h.1.2.2.2.2.2.1 k hk).2 k' hk' e
  refine (sm_perm (P := fun c => u_st L c ≠ 0) (g := L 6) (F := fun c => if u_pr L c = q ∧ a ≤ u_mo L c ∧ u_mo L c ≤ b then u_AM r w c else 0) (m := L 0 2) (fun k hk => (lk_k h hk).1) (fun k k' hk hk' e => hinj k hk k' hk' e) (fun c hc hp => lk_on h hc hp) (fun k hk => (lk_k h hk).2.2.1) (fun c _ hp => ?_) (fun c _ hp => if_neg (fun z => hp z.1))).trans ?_
  · by_cases hc : u_pr L c = q ∧ a ≤ u_mo L c ∧ u_mo L c ≤ b
    · rw [if_pos ⟨hp, hc⟩, if_pos hc]
    · rw [if_neg (fun z => hc z.2), if_neg hc]
  · unfold u_ow
    refine sm_eq _ (fun k hk => ?_)
    have hA := (u_AM_k h hk).1
    have h4 : u_st L (L 6 k) ≤ 4 := (h.1.2.2.2.2.1 _ (lk_k h hk).1).2.1.2
    show (if u_pr L (L 6 k) = q ∧ a ≤ u_mo L (L 6 k) ∧ u_mo L (L 6 k) ≤ b then u_AM r w (L 6 k) else 0) = if u_in L q a b none (L 6 k) then u_am L q (a / 12) (L 0 2) k else 0
    by_cases hc : u_pr L (L 6 k) = q ∧ a ≤ u_mo L (L 6 k) ∧ u_mo L (L 6 k) ≤ b
    · have hy : u_mo L (L 6 k) / 12 = a / 12 := by omega
      rw [if_pos hc, hA]
      by_cases h5 : u_st L (L 6 k) = 4
      · rw [if_pos h5, if_neg (fun z => absurd z.2.1 (by omega))]
      · rw [if_neg h5, if_pos ⟨⟨hc.1, hy⟩, by omega, hc.2.1, hc.2.2, Or.inl rfl⟩, hc.1, hy]
    · rw [if_neg hc, if_neg (fun z => hc ⟨z.1.1, z.2.2.1, z.2.2.2.1⟩)]
/-- .. for one call -/
theorem u_ow_1 {nf nc : Nat} {r : rh_R} {w : rh_Wm} {L : u_L} (h : lk nf nc r w L) {j : Nat} (hj : j < nc) (hs : u_st L j ≠ 0) : m_amt r w j = nI (u_ow L (u_pr L j) (u_mo L j) (u_mo L j) (some j) (L 0 2)) ∧ u_ow L (u_pr L j) (u_mo L j) (u_mo L j) (some j) (L 0 2) ≤ 50000000 := by
  obtain ⟨k, hk, e⟩ := lk_on h hj hs
  obtain ⟨hA, hB, hC⟩ := u_AM_k h hk
  have h4 : u_st L (L 6 k) ≤ 4 := (h.1.2.2.2.2.1 _ (lk_k h hk).1).2.1.2
  have hinj := fun k hk k' hk' e => (h.1.2.2.2.2.2.1 k hk).2 k' hk' e
  have e2 : u_ow L (u_pr L j) (u_mo L j) (u_mo L j) (some j) (L 0 2) = u_AM r w j := by
    unfold u_ow
    rw [sm_eq (G := fun k' => if k' = k then u_AM r w j else 0) (L 0 2) (fun k' hk' => by
      show (if u_in L (u_pr L j) (u_mo L j) (u_mo L j) (some j) (L 6 k') then u_am L (u_pr L j) (u_mo L j / 12) (L 0 2) k' else 0) = if k' = k then u_AM r w j else 0
      by_cases hkk : k' = k
      · subst hkk
        rw [if_pos rfl, ← e, hA]
        by_cases h5 : u_st L (L 6 k') = 4
        · rw [if_pos h5, if_neg (fun z => absurd z.2.1 (by omega))]
        · rw [if_neg h5, if_pos ⟨⟨rfl, rfl⟩, by omega, Nat.le_refl _, Nat.le_refl _, Or.inr rfl⟩]
      · rw [if_neg hkk, if_neg (fun z => hkk (hinj k' hk' k hk ((z.2.2.2.2.elim (fun y => by cases y) (fun y => (Option.some.inj y).symm)).trans e.symm)))])]
    exact sm_one hk
  rw [e] at hB hC
  exact ⟨by rw [e2]; exact hB, by rw [e2]; exact hC⟩
theorem u_ow_le {nf nc : Nat} {r : rh_R} {w : rh_Wm} {L : u_L} (h : lk nf nc r w L) (q a b : Nat) (on : Option Nat) {n : Nat} (hn : n ≤ L 0 2) : u_ow L q a b on n ≤ 2000000000 := by
  have h1 := sm_le (F := fun k => if u_in L q a b on (L 6 k) then u_am L q (a / 12) (L 0 2) k else 0) (b := 50000000) n (fun k hk => by
    show (if u_in L q a b on (L 6 k) then u_am L q (a / 12) (L 0 2) k else 0) ≤ 50000000
    split
    · exact u_am_le h (by omega) _ _ _
    · omega)
  have h2 := lk_n2 h
  unfold u_ow
  omega
