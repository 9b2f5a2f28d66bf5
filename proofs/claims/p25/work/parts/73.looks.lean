/-! ===== files are looked at and sent, by numbers ===== -/
section LKP
variable {nf nc : Nat} {r : rh_R} {w : rh_Wm} {L : u_L}
theorem look_late (h : lr nf nc r w L) {f : Nat} (hf : f < nf) : w 6 f + 2 < w 26 24 ↔ 2 < L 0 3 - L 2 (4 * f + 1) := by
  obtain ⟨-, ⟨-, -, -, n3, n4⟩, -, hl, -⟩ := h
  obtain ⟨-, ⟨b1, b2⟩, -⟩ := hl.1 f hf
  rw [b1, n4, show (2 : Int32) = nI 2 from rfl, nI_add, nI_ltI (by omega) (by omega)]
  omega
theorem look_bad (h : lr nf nc r w L) (hm : m_wf0 nf nc r w) (f : Nat) : m_cnt r w f 0 nc < m_cnt r w f 1 nc * 3 ↔ 3 * u_good L f nc < 2 * u_all L f nc := by
  obtain ⟨-, ⟨-, ⟨-, n1⟩, -⟩, ha, hl, hc, -⟩ := h
  have h1 := u_good_le L f nc
  have h2 := u_all_le L f nc
  rw [u_cnt0 hc f nc (Nat.le_refl _), u_cnt1 ha hl.1 hc (fun c hc9 => (hm.2.2.2.2.2.1 c hc9).1) f nc (Nat.le_refl _), show (3 : Int32) = nI 3 from rfl, pk_mul, nI_ltI (by omega) (by omega)]
  omega
theorem dn_set {f x n : Nat} (hf : f < n) (h0 : L 2 (4 * f + 2) < 3) : u_dn (un L 2 (4 * f + 2) x) n = u_dn L n + if 3 ≤ x then 1 else 0 := by
  have h1 := sm_set (F := fun g => if 3 ≤ un L 2 (4 * f + 2) x 2 (4 * g + 2) then 1 else 0) (G := fun g => if 3 ≤ L 2 (4 * g + 2) then 1 else 0) (j := f) (fun k hk => by
    show (if 3 ≤ un L 2 (4 * f + 2) x 2 (4 * k + 2) then 1 else 0) = if 3 ≤ L 2 (4 * k + 2) then 1 else 0
    rw [un_ne _ _ _ _ _ (by omega)]) n hf
  have h1' : u_dn (un L 2 (4 * f + 2) x) n + (if 3 ≤ L 2 (4 * f + 2) then 1 else 0) = u_dn L n + (if 3 ≤ un L 2 (4 * f + 2) x 2 (4 * f + 2) then 1 else 0) := h1
  rw [un_self, if_neg (show ¬ 3 ≤ L 2 (4 * f + 2) by omega)] at h1'
  omega
theorem dn_eq {L' : u_L} {n : Nat} (h : ∀ g : Nat, L' 2 (4 * g + 2) = L 2 (4 * g + 2)) : u_dn L' n = u_dn L n := sm_eq n (fun k _ => by
  show (if 3 ≤ L' 2 (4 * k + 2) then 1 else 0) = if 3 ≤ L 2 (4 * k + 2) then 1 else 0
  rw [h k])
/-- while calls of a file are accepted -/
theorem acc_at {v : rh_V} (hk : rk nf nc r v w) {f : Nat} (hf : f < nf) (h5 : ¬ w 7 f = 5) {j : Nat} (hj : j ≤ nc) : m_wf nf nc r (m_acc r (wm w 7 f 5) f j) ∧ rl_ac (m_acc r (wm w 7 f 5) f j) ∧ ∀ c : Nat, j ≤ c → c < nc → r 9 c = f → m_acc r (wm w 7 f 5) f j 13 c = 0 := by
  have hout := m_out hk.2.1 h5
  have hs := rx_state (hk.x hf) h5 (x := 5) (by decide)
  have h7 : wm w 7 f 5 7 f = 5 := by rw [wm_at, if_pos ⟨rfl, rfl⟩]
  have ho2 : ∀ c, c < nc → r 9 c = f → wm w 7 f 5 13 c = 0 := fun c hc hr => by rw [wm_other w 7 f 5 (by decide)]; exact hout c hc hr
  have ha := rk_acc hs h7 ho2 j hj
  have hb := m_acc_wf hs.2.1.1 hs.2.1.2 h7 ho2 j hj
  exact ⟨ha.2.1, ha.2.2.2.2.2.2.2.1, hb.2.2⟩
/-- what holds while files are sent -/
def sv (nf nc : Nat) (r : rh_R) (qh : Nat) (T : rh_Wm) (w : rh_Wm) (L : u_L) : Prop :=
  lr nf nc r w L ∧ le7 nf L ∧ (∃ v : rh_V, rk nf nc r v w) ∧ (∀ f g : Nat, f < nf → g < nf → w 7 f = 2 → w 7 g = 2 → r 8 f = r 8 g → w 8 f = w 8 g → f = g) ∧ ∃ n : Nat, m_all r nf nc qh n w (m_wait r w qh (w 18 qh) nf) = T ∧ m_cw w nf ≤ n
theorem sv_match {q : Nat} {T : rh_Wm} (h : sv nf nc r (tr q) T w L) (hq : q < 16) {j : Nat} (hj : j < nf) : m_isw r w (tr q) (w 18 (tr q)) j ↔ (L 2 (4 * j) = q ∧ L 2 (4 * j + 2) = 2) ∧ L 2 (4 * j + 3) = L 7 q := by
  obtain ⟨hl, h7, -⟩ := h
  have he := le7_le h7 hl.2.1.1.2 hq
  obtain ⟨⟨a1, a2⟩, -, ⟨c1, c2⟩, d1⟩ := hl.2.2.2.1.1 j hj
  have hp := (hl.2.2.2.2.2.2 q hq).1.1
  unfold m_isw
  rw [c1, a2, hp]
  constructor
  · rintro ⟨z1, z2, z3⟩
    have y2 : L 2 (4 * j + 2) = 2 := m_inj (b := 2) (by omega) (by decide) z1
    obtain ⟨e1, e2⟩ := d1 y2
    rw [e1] at z3
    exact ⟨⟨tr_inj a1 hq z2, y2⟩, m_inj (by omega) (by omega) z3⟩
  · rintro ⟨⟨z1, z2⟩, z3⟩
    exact ⟨congrArg nI z2, by rw [z1], by rw [(d1 z2).1, z3]⟩
theorem m_wait_at {q j : Nat} {x : Int32} (hu : ∀ f g : Nat, f < nf → g < nf → w 7 f = 2 → w 7 g = 2 → r 8 f = r 8 g → w 8 f = w 8 g → f = g) (hj : j < nf) (h : m_isw r w q x j) : m_wait r w q x nf = some j := by
  cases hm : m_wait r w q x nf with
  | none => exact absurd h (m_wait_none nf hm j hj)
  | some i =>
    obtain ⟨hi, h1, h2, h3⟩ := m_wait_some nf hm
    rw [hu i j hi hj h1 h.1 (h2.trans h.2.1.symm) (h3.trans h.2.2.symm)]
theorem sv_done {q : Nat} {T : rh_Wm} (h : sv nf nc r q T w L) (hn : m_wait r w q (w 18 q) nf = none) : T = w := by
  obtain ⟨-, -, -, -, n, h1, -⟩ := h
  rw [hn] at h1
  rw [← h1]
  cases n <;> rfl
theorem sv_step {q : Nat} {T : rh_Wm} (h : sv nf nc r (tr q) T w L) (hq : q < 16) {j : Nat} (hj : j < nf) (hw : m_isw r w (tr q) (w 18 (tr q)) j) {L3 : u_L} (hl3 : lr nf nc r (m_look r w nc j) L3) (h7 : L3 7 = L 7) (hd : u_dn L3 nf = u_dn L nf + 1) : sv nf nc r (tr q) T (wm (m_look r w nc j) 18 (tr q) (m_look r w nc j 18 (tr q) + 1)) (un L3 7 q (L3 7 q + 1)) ∧ m_cw (wm (m_look r w nc j) 18 (tr q) (m_look r w nc j 18 (tr q) + 1)) nf < m_cw w nf := by
  obtain ⟨hl, hle, ⟨v, hk⟩, hu, n, hall, hcw⟩ := h
  have he := fun z hz => le7_le hle hl.2.1.1.2 (q := z) hz
  have h5 : ¬ w 7 j = 5 := by rw [hw.1]; decide
  obtain ⟨g1, g2⟩ := m_look_7 (nf := nf) (nc := nc) (r := r) (w := w) (f := j)
  have hrow : m_look r w nc j 8 = w 8 := m_look_row (by decide) (by decide) (by decide) (by decide) (by decide)
  have hcs := m_cw_set hw.1 g1 g2 nf hj
  have hce : m_cw (wm (m_look r w nc j) 18 (tr q) (m_look r w nc j 18 (tr q) + 1)) nf = m_cw (m_look r w nc j) nf := m_cw_eq nf (fun c _ => by rw [wm_other _ _ _ _ (by decide)])
  have hwj := m_wait_at hu hj hw
  refine ⟨⟨lr_exp hl3 hq (by rw [h7]; have := he q hq; omega), fun z hz => ?_, ⟨_, rk_exp (rx_look (hk.x hj) hj h5) (tr_lt hq)⟩, fun f g hf hg hf2 hg2 hr h8 => ?_, n - 1, ?_, ?_⟩, ?_⟩
  · rw [dn_eq (L := L3) (L' := un L3 7 q (L3 7 q + 1)) (fun g => rfl), hd]
    have h1 := hle z hz
    by_cases hzq : z = q
    · subst hzq
      rw [un_self, h7]; omega
    · rw [un_ne _ _ _ _ _ hzq, h7]; omega
  · rw [wm_other _ _ _ _ (by decide)] at hf2 hg2 h8
    rw [hrow] at h8
    have hfj : f ≠ j := fun z => g1 (z ▸ hf2)
    have hgj : g ≠ j := fun z => g1 (z ▸ hg2)
    exact hu f g hf hg ((g2 f hfj).symm.trans hf2) ((g2 g hgj).symm.trans hg2) hr h8
  · rw [hwj] at hall
    obtain ⟨n', rfl⟩ : ∃ b : Nat, n = b + 1 := ⟨n - 1, by omega⟩
    have e18 : wm (m_look r w nc j) 18 (tr q) (m_look r w nc j 18 (tr q) + 1) 18 (tr q) = m_look r w nc j 18 (tr q) + 1 := by rw [wm_at, if_pos ⟨rfl, rfl⟩]
    rw [e18]
    exact hall
  · omega
  · omega
theorem sv_two {v : rh_V} (hi : inv nf nc r v w) (hl : lr nf nc r w L) (h7 : le7 nf L) {f y : Nat} (hf : f < nf) (h0 : L 2 (4 * f + 2) = 0) (hy : y ≤ 99) {q : Nat} (hq : L 2 (4 * f) = q) (hnw : ∀ i : Nat, i < nf → ¬ ((L 2 (4 * i) = q ∧ L 2 (4 * i + 2) = 2) ∧ L 2 (4 * i + 3) = y)) (hye : ¬ y < L 7 q) : sv nf nc r (tr q) (m_send r w nf nc f (nI y)) (m_put2 w f (nI y)) (un (un L 2 (4 * f + 2) 2) 2 (4 * f + 3) y) := by
  have hk := hi.k
  have hwa := hi.2.2.2.2.2.2.2.2.2
  obtain ⟨⟨a1, a2⟩, -, ⟨c1, c2⟩, d1⟩ := hl.2.2.2.1.1 f hf
  rw [hq] at a1 a2
  have he := le7_le h7 hl.2.1.1.2 a1
  have h7f : w 7 f = 0 := by rw [c1, h0]; rfl
  have h5 : ¬ w 7 f = 5 := by rw [h7f]; decide
  have hno : ∀ i : Nat, i < nf → w 7 i = 2 → r 8 i = tr q → ¬ w 8 i = nI y := fun i hi9 h1 h2 h3 => by
    obtain ⟨⟨p1, p2⟩, -, ⟨p3, p4⟩, p5⟩ := hl.2.2.2.1.1 i hi9
    have e2 : L 2 (4 * i + 2) = 2 := m_inj (b := 2) (by omega) (by decide) (p3.symm.trans h1)
    obtain ⟨e3, e4⟩ := p5 e2
    exact hnw i hi9 ⟨⟨tr_inj p1 a1 (p2.symm.trans h2), e2⟩, m_inj (by omega) (by omega) (e3.symm.trans h3)⟩
  have hwn : m_wait r w (r 8 f) (nI y) nf = none := by
    cases hm : m_wait r w (r 8 f) (nI y) nf with
    | none => rfl
    | some i =>
      obtain ⟨g1, g2, g3, g4⟩ := m_wait_some nf hm
      exact absurd g4 (hno i g1 g2 (g3.trans a2))
  have hlt : ¬ nI y < w 18 (r 8 f) := by
    rw [a2, (hl.2.2.2.2.2.2 q a1).1.1, nI_ltI (by omega) (by omega)]; exact hye
  have e7 : ∀ i : Nat, m_put2 w f (nI y) 7 i = if i = f then 2 else w 7 i := fun i => by
    unfold m_put2
    rw [wm_other _ _ _ _ (by decide), wm_at]
    by_cases z : i = f
    · subst z; rw [if_pos ⟨rfl, rfl⟩, if_pos rfl]
    · rw [if_neg (fun y => z y.2), if_neg z]
  have e8 : ∀ i : Nat, m_put2 w f (nI y) 8 i = if i = f then nI y else w 8 i := fun i => by
    unfold m_put2
    rw [wm_at]
    by_cases z : i = f
    · subst z; rw [if_pos ⟨rfl, rfl⟩, if_pos rfl]
    · rw [if_neg (fun y => z y.2), if_neg z]; rfl
  refine ⟨lr_put2 hl hf hy, fun z hz => ?_, ⟨_, (rx_put (hk.x hf) h5 (nI y)).1⟩, fun g1 g2 hg1 hg2 h1 h2 h3 h4 => ?_, 30, ?_, ?_⟩
  · have hd := dn_set (L := L) (x := 2) hf (by omega)
    rw [if_neg (by decide)] at hd
    have := h7 z hz
    show L 7 z ≤ 1 + u_dn (un (un L 2 (4 * f + 2) 2) 2 (4 * f + 3) y) nf
    rw [dn_eq (L := un L 2 (4 * f + 2) 2) (fun g => un_ne _ _ _ _ _ (by omega)), hd]
    omega
  · rw [e7] at h1 h2
    rw [e8, e8] at h4
    by_cases z1 : g1 = f
    · by_cases z2 : g2 = f
      · rw [z1, z2]
      · rw [if_pos z1, if_neg z2] at h4
        rw [if_neg z2] at h2
        exact absurd h4.symm (hno g2 hg2 h2 (by rw [← h3, z1, a2]))
    · by_cases z2 : g2 = f
      · rw [if_neg z1, if_pos z2] at h4
        rw [if_neg z1] at h1
        exact absurd h4 (hno g1 hg1 h1 (by rw [h3, z2, a2]))
      · rw [if_neg z1, if_neg z2] at h4
        rw [if_neg z1] at h1
        rw [if_neg z2] at h2
        exact hwa.2 g1 g2 hg1 hg2 h1 h2 h3 h4
  · unfold m_send
    have hz : ¬ (nI y < w 18 (r 8 f) ∨ ¬ m_wait r w (r 8 f) (nI y) nf = none) := fun z => z.elim hlt (fun z => z hwn)
    rw [if_neg hz, a2]
  · have := m_cw_le (m_put2 w f (nI y)) nf
    have := hl.2.1.1.2
    omega
theorem sv_one {v : rh_V} (hi : inv nf nc r v w) (hl : lr nf nc r w L) (h7 : le7 nf L) {f y : Nat} (hf : f < nf) (h0 : L 2 (4 * f + 2) = 0) (hy : y ≤ 99) {q : Nat} (hq : L 2 (4 * f) = q) (hor : (∃ i : Nat, i < nf ∧ (L 2 (4 * i) = q ∧ L 2 (4 * i + 2) = 2) ∧ L 2 (4 * i + 3) = y) ∨ y < L 7 q) : sv nf nc r (tr q) (m_send r w nf nc f (nI y)) (wm w 7 f 1) (un (un L 2 (4 * f + 2) 1) 2 (4 * f + 3) y) := by
  have hk := hi.k
  have hwa := hi.2.2.2.2.2.2.2.2.2
  obtain ⟨⟨a1, a2⟩, -, ⟨c1, c2⟩, d1⟩ := hl.2.2.2.1.1 f hf
  rw [hq] at a1 a2
  have he := le7_le h7 hl.2.1.1.2 a1
  have h7f : w 7 f = 0 := by rw [c1, h0]; rfl
  have h5 : ¬ w 7 f = 5 := by rw [h7f]; decide
  have hT : m_send r w nf nc f (nI y) = wm w 7 f 1 := by
    unfold m_send
    have hz : nI y < w 18 (r 8 f) ∨ ¬ m_wait r w (r 8 f) (nI y) nf = none := by
      rcases hor with ⟨i, h1, ⟨h2, h3⟩, h4⟩ | h1
      · refine Or.inr (fun z => m_wait_none nf z i h1 ?_)
        obtain ⟨⟨p1, p2⟩, -, ⟨p3, p4⟩, p5⟩ := hl.2.2.2.1.1 i h1
        exact ⟨p3.trans (congrArg nI h3), by rw [p2, a2, h2], by rw [(p5 h3).1, h4]⟩
      · refine Or.inl ?_
        rw [a2, (hl.2.2.2.2.2.2 q a1).1.1, nI_ltI (by omega) (by omega)]; exact h1
    rw [if_pos hz]
  have e7 : ∀ i : Nat, wm w 7 f 1 7 i = 2 → w 7 i = 2 := fun i h => by
    rw [wm_at] at h
    by_cases z : i = f
    · rw [if_pos ⟨rfl, z⟩] at h; exact absurd h (by decide)
    · rw [if_neg (fun y => z y.2)] at h; exact h
  have hnone : m_wait r (wm w 7 f 1) (tr q) (wm w 7 f 1 18 (tr q)) nf = none := by
    cases hm : m_wait r (wm w 7 f 1) (tr q) (wm w 7 f 1 18 (tr q)) nf with
    | none => rfl
    | some i =>
      obtain ⟨g1, g2, g3, g4⟩ := m_wait_some nf hm
      have h1 := (hwa.1 i g1 (e7 i g2)).1
      rw [g3] at h1
      have h2 : w 8 i = w 18 (tr q) := g4
      rw [h2] at h1
      exact absurd h1 (Int32.lt_irrefl)
  refine ⟨lr_double hl hf hy, fun z hz => ?_, ⟨_, rx_state (hk.x hf) h5 (x := 1) (by decide)⟩, fun g1 g2 hg1 hg2 h1 h2 h3 h4 => hwa.2 g1 g2 hg1 hg2 (e7 g1 h1) (e7 g2 h2) h3 h4, m_cw (wm w 7 f 1) nf, ?_, Nat.le_refl _⟩
  · have hd := dn_set (L := L) (x := 1) hf (by omega)
    rw [if_neg (by decide)] at hd
    have := h7 z hz
    show L 7 z ≤ 1 + u_dn (un (un L 2 (4 * f + 2) 1) 2 (4 * f + 3) y) nf
    rw [dn_eq (L := un L 2 (4 * f + 2) 1) (fun g => un_ne _ _ _ _ _ (by omega)), hd]
    omega
  · rw [hnone, hT]
    cases m_cw (wm w 7 f 1) nf <;> rfl
end LKP
def u_wx (P : Nat → Prop) (j wt : Nat) : Prop := (wt = 1 ∧ ∃ i : Nat, i < j ∧ P i) ∨ (wt = 0 ∧ ∀ i : Nat, i < j → ¬ P i)
theorem u_wx_step {P : Nat → Prop} {j wt b : Nat} (h : u_wx P j wt) (hb : ((¬ wt = 0 ∨ P j) ∧ b = 1) ∨ (¬ (¬ wt = 0 ∨ P j) ∧ b = 0)) : u_wx P (j + 1) b := by
  rcases hb with ⟨h1, h2⟩ | ⟨h1, h2⟩
  · refine Or.inl ⟨h2, ?_⟩
    rcases h1 with h1 | h1
    · rcases h with ⟨-, i, h3, h4⟩ | ⟨h3, -⟩
      · exact ⟨i, by omega, h4⟩
      · exact absurd h3 h1
    · exact ⟨j, by omega, h1⟩
  · refine Or.inr ⟨h2, fun i hi hp => ?_⟩
    by_cases hij : i = j
    · subst hij; exact h1 (Or.inr hp)
    · rcases h with ⟨h3, -⟩ | ⟨-, h4⟩
      · exact h1 (Or.inl (by omega))
      · exact h4 i (by omega) hp
