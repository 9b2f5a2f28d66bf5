/-! ===== what the model does, as functions of its ints ===== -/
def m_ch (w : rh_Wm) (h : Nat) (s : Int32) : Int32 := w 2 h + w 1 h * ((s + w 0 h - 1) / w 0 h)
abbrev m_right (r : rh_R) (w : rh_Wm) (c : Nat) : Prop := m_ch w (c_pr r c / 4) (w 11 c) = w 12 c
def m_cnt (r : rh_R) (w : rh_Wm) (f : Nat) (bw : Int32) : Nat → Int32
  | 0 => 0
  | n + 1 => if r 9 n = f ∧ (bw = 0 ∨ ¬ m_right r w n) then m_cnt r w f bw n + 1 else m_cnt r w f bw n
/-- how many were accepted, and which -/
def mna (w : rh_Wm) : Nat := (w 26 16).toNatClampNeg
def mac (w : rh_Wm) (k : Nat) : Nat := (w 17 k).toNatClampNeg
def m_act (w : rh_Wm) : Nat → Nat
  | 0 => 0
  | n + 1 => if w 13 n = 0 then m_act w n else m_act w n + 1
def m_acc1 (w : rh_Wm) (c : Nat) : rh_Wm := wm (wm (wm (wm w 13 c 1) 14 c (w 26 24)) 17 (mna w) (nI c)) 26 16 (w 26 16 + 1)
def m_acc (r : rh_R) (w : rh_Wm) (f : Nat) : Nat → rh_Wm
  | 0 => w
  | n + 1 => if r 9 n = f ∧ m_right r (m_acc r w f n) n then m_acc1 (m_acc r w f n) n else m_acc r w f n
def m_look (r : rh_R) (w : rh_Wm) (nc f : Nat) : rh_Wm :=
  if w 6 f + 2 < w 26 24 then wm w 7 f 3 else if m_cnt r w f 0 nc < m_cnt r w f 1 nc * 3 then wm w 7 f 4 else m_acc r (wm w 7 f 5) f nc
abbrev m_isw (r : rh_R) (w : rh_Wm) (q : Nat) (x : Int32) (j : Nat) : Prop := w 7 j = 2 ∧ r 8 j = q ∧ w 8 j = x
def m_wait (r : rh_R) (w : rh_Wm) (q : Nat) (x : Int32) : Nat → Option Nat
  | 0 => none
  | n + 1 => if m_isw r w q x n then some n else m_wait r w q x n
def m_nz (o : Option Nat) : Int32 := match o with
  | some j => nI j
  | none => -1
def m_all (r : rh_R) (nf nc q : Nat) : Nat → rh_Wm → Option Nat → rh_Wm
  | 0, w, _ => w
  | _ + 1, w, none => w
  | n + 1, w, some f => m_all r nf nc q n (wm (m_look r w nc f) 18 q (m_look r w nc f 18 q + 1)) (m_wait r (wm (m_look r w nc f) 18 q (m_look r w nc f 18 q + 1)) q (m_look r w nc f 18 q + 1) nf)
def m_put2 (w : rh_Wm) (f : Nat) (x : Int32) : rh_Wm := wm (wm w 7 f 2) 8 f x
def m_send (r : rh_R) (w : rh_Wm) (nf nc f : Nat) (x : Int32) : rh_Wm :=
  if x < w 18 (r 8 f) ∨ ¬ m_wait r w (r 8 f) x nf = none then wm w 7 f 1
  else m_all r nf nc (r 8 f) 30 (m_put2 w f x) (m_wait r (m_put2 w f x) (r 8 f) (m_put2 w f x 18 (r 8 f)) nf)
def m_wn (r : rh_R) (w : rh_Wm) (q : Nat) : Nat → Int32
  | 0 => 0
  | n + 1 => if w 7 n = 2 ∧ r 8 n = q then m_wn r w q n + 1 else m_wn r w q n
def m_wg (r : rh_R) (w : rh_Wm) (q : Nat) : Nat → Int32
  | 0 => 0
  | n + 1 => if w 7 n = 2 ∧ r 8 n = q then (if m_wg r w q n < w 8 n then w 8 n else m_wg r w q n) else m_wg r w q n
def m_ahead (r : rh_R) (w : rh_Wm) (q : Nat) (y : Int32) : Nat → Int32
  | 0 => 0
  | n + 1 => if c_pr r (mac w n) = q ∧ w 14 (mac w n) / 12 = y then m_ahead r w q y n + w 11 (mac w n) else m_ahead r w q y n
/-- a call's place in the order -/
def m_pl (w : rh_Wm) (c : Nat) : Nat := ((firstp (fun k => decide (w 17 k = nI c)) (mna w))).getD 0
def m_hd (r : rh_R) (w : rh_Wm) (c : Nat) : Int32 := m_ahead r w (c_pr r c) (w 14 c / 12) (if w 22 (c_pr r c) = 0 then m_pl w c else mna w)
def m_amt (r : rh_R) (w : rh_Wm) (c : Nat) : Int32 :=
  if w 13 c = 0 ∨ w 13 c = 4 then 0 else if ¬ w 19 (c_pr r c) = 0 ∧ ¬ m_hd r w c < w 20 (c_pr r c) then c_cut (w 12 c) (w 21 (c_pr r c)) else w 12 c
def m_sum (r : rh_R) (w : rh_Wm) (q : Nat) (a b : Int32) : Nat → Int64
  | 0 => 0
  | n + 1 => if ¬ w 13 n = 0 ∧ c_pr r n = q ∧ rng (w 14 n) a b then m_sum r w q a b n + (m_amt r w n).toInt64 else m_sum r w q a b n
def m_units (r : rh_R) (w : rh_Wm) (nc h k : Nat) (m : Int32) : Int64 := m_sum r w (h * 4 + k) m m nc * (w 3 h).toInt64 / 1000
def m_net (r : rh_R) (w : rh_Wm) (nc i : Nat) (m : Int32) : Nat → Int64
  | 0 => 0
  | n + 1 => if n = i then m_net r w nc i m n else m_net r w nc i m n + (m_units r w nc i n m - m_units r w nc n i m)
def m_gb (w : rh_Wm) : Nat → rh_Wm
  | 0 => w
  | n + 1 => wm (m_gb w n) 13 n (if m_gb w n 13 n = 2 ∧ w 26 24 = m_gb w n 15 n + 2 then 4 else m_gb w n 13 n)
/-- files that wait -/
def m_cw (w : rh_Wm) : Nat → Nat
  | 0 => 0
  | n + 1 => if w 7 n = 2 then m_cw w n + 1 else m_cw w n
/-- the model's shape -/
def m_wf0 (nf nc : Nat) (r : rh_R) (w : rh_Wm) : Prop :=
  nf ≤ 30 ∧ nc ≤ 60 ∧ w 26 4 = nI nf ∧ w 26 9 = nI nc ∧ (∀ f, f < nf → r 8 f < 16 ∧ w 5 f = nI (r 8 f)) ∧ (∀ c, c < nc → r 9 c < nf ∧ w 10 c = nI (r 9 c)) ∧ (∀ i, i < 4 → ¬ w 0 i = 0)
def m_wf1 (nc : Nat) (r : rh_R) (w : rh_Wm) : Prop :=
  mna w ≤ m_act w nc ∧ w 26 16 = nI (mna w) ∧ (∀ k, k < mna w → mac w k < nc ∧ w 17 k = nI (mac w k)) ∧ (∀ c, c < nc → ¬ w 13 c = 0 → w 7 (r 9 c) = 5 ∧ ∃ k, k < mna w ∧ w 17 k = nI c)
abbrev m_wf (nf nc : Nat) (r : rh_R) (w : rh_Wm) : Prop := m_wf0 nf nc r w ∧ m_wf1 nc r w
theorem m_act_le (w : rh_Wm) : ∀ n : Nat, m_act w n ≤ n
  | 0 => Nat.le_refl 0
  | n + 1 => by
    have := m_act_le w n
    unfold m_act
    split <;> omega
theorem m_act_eq {w w' : rh_Wm} : ∀ n : Nat, (∀ c, c < n → (w' 13 c = 0 ↔ w 13 c = 0)) → m_act w' n = m_act w n
  | 0, _ => rfl
  | n + 1, h => by
    unfold m_act
    rw [m_act_eq n (fun c hc => h c (by omega))]
    by_cases hz : w 13 n = 0
    · rw [if_pos hz, if_pos ((h n (by omega)).mpr hz)]
    · rw [if_neg hz, if_neg (fun z => hz ((h n (by omega)).mp z))]
theorem m_act_lt {w : rh_Wm} : ∀ {n c : Nat}, c < n → w 13 c = 0 → m_act w n < n
  | 0, _, hc, _ => absurd hc (Nat.not_lt_zero _)
  | n + 1, c, hc, hz => by
    unfold m_act
    by_cases hn : w 13 n = 0
    · rw [if_pos hn]
      have := m_act_le w n
      omega
    · rw [if_neg hn]
      have hcn : c < n := by
        rcases Nat.lt_or_ge c n with h | h
        · exact h
        · exact absurd (show w 13 n = 0 by rw [show n = c by omega]; exact hz) hn
      have := m_act_lt hcn hz
      omega
theorem m_act_set {w w' : rh_Wm} {c : Nat} (hz : w 13 c = 0) (hx : ¬ w' 13 c = 0) (ho : ∀ d, d ≠ c → w' 13 d = w 13 d) : ∀ n : Nat, c < n → m_act w' n = m_act w n + 1
  | 0, hc => absurd hc (Nat.not_lt_zero _)
  | n + 1, hc => by
    unfold m_act
    by_cases hcn : c = n
    · subst hcn
      rw [if_pos hz, if_neg hx, m_act_eq c (fun d hd => by rw [ho d (by omega)])]
    · rw [ho n (fun z => hcn z.symm), m_act_set hz hx ho n (by omega)]
      split <;> omega
theorem m_cw_le (w : rh_Wm) : ∀ n : Nat, m_cw w n ≤ n
  | 0 => Nat.le_refl 0
  | n + 1 => by
    have := m_cw_le w n
    unfold m_cw
    split <;> omega
theorem m_cw_eq {w w' : rh_Wm} : ∀ n : Nat, (∀ c, c < n → w' 7 c = w 7 c) → m_cw w' n = m_cw w n
  | 0, _ => rfl
  | n + 1, h => by
    unfold m_cw
    rw [m_cw_eq n (fun c hc => h c (by omega)), h n (by omega)]
theorem m_cw_set {w w' : rh_Wm} {f : Nat} (hz : w 7 f = 2) (hx : ¬ w' 7 f = 2) (ho : ∀ d, d ≠ f → w' 7 d = w 7 d) : ∀ n : Nat, f < n → m_cw w n = m_cw w' n + 1
  | 0, hc => absurd hc (Nat.not_lt_zero _)
  | n + 1, hc => by
    unfold m_cw
    by_cases hcn : f = n
    · subst hcn
      rw [if_pos hz, if_neg hx, m_cw_eq (w := w) f (fun d hd => ho d (by omega))]
    · rw [ho n (fun z => hcn z.symm), m_cw_set hz hx ho n (by omega)]
      split <;> omega
theorem m_cw_pos {w : rh_Wm} : ∀ {n f : Nat}, f < n → w 7 f = 2 → 0 < m_cw w n
  | 0, _, hc, _ => absurd hc (Nat.not_lt_zero _)
  | n + 1, f, hc, hz => by
    unfold m_cw
    by_cases hcn : f = n
    · subst hcn; rw [if_pos hz]; omega
    · have := m_cw_pos (w := w) (n := n) (f := f) (by omega) hz
      split <;> omega
theorem m_wait_some {r : rh_R} {w : rh_Wm} {q : Nat} {x : Int32} {j : Nat} : ∀ n : Nat, m_wait r w q x n = some j → j < n ∧ m_isw r w q x j
  | 0, h => by cases h
  | n + 1, h => by
    unfold m_wait at h
    by_cases hc : m_isw r w q x n
    · rw [if_pos hc] at h
      have : n = j := Option.some.inj h
      subst this
      exact ⟨by omega, hc⟩
    · rw [if_neg hc] at h
      have := m_wait_some n h
      exact ⟨by omega, this.2⟩
theorem m_wait_none {r : rh_R} {w : rh_Wm} {q : Nat} {x : Int32} : ∀ n : Nat, m_wait r w q x n = none → ∀ j, j < n → ¬ m_isw r w q x j
  | 0, _, j, hj => absurd hj (Nat.not_lt_zero _)
  | n + 1, h, j, hj => by
    unfold m_wait at h
    by_cases hc : m_isw r w q x n
    · rw [if_pos hc] at h; cases h
    · rw [if_neg hc] at h
      by_cases hjn : j = n
      · subst hjn; exact hc
      · exact m_wait_none n h j (by omega)
theorem m_nz_ne {o : Option Nat} {n : Nat} (hn : n ≤ 30) (h : ∀ j, o = some j → j < n) : m_nz o = -1 ↔ o = none := by
  constructor
  · intro hz
    cases o with
    | none => rfl
    | some j =>
      have hj := h j rfl
      exact absurd (show nI j < 0 by rw [show nI j = -1 from hz]; decide) (nI_pos (by omega))
  · intro hz; subst hz; rfl
/-! the shape stays -/
theorem m_wf0_wm {nf nc : Nat} {r : rh_R} {w : rh_Wm} (h : m_wf0 nf nc r w) {q j : Nat} {x : Int32} (h0 : q ≠ 0) (h5 : q ≠ 5) (h10 : q ≠ 10) (h26 : q ≠ 26) : m_wf0 nf nc r (wm w q j x) := by
  obtain ⟨a, b, c, d, e, f, g⟩ := h
  refine ⟨a, b, ?_, ?_, ?_, ?_, ?_⟩
  · rw [wm_other w q j x (Ne.symm h26)]; exact c
  · rw [wm_other w q j x (Ne.symm h26)]; exact d
  · rw [wm_other w q j x (Ne.symm h5)]; exact e
  · rw [wm_other w q j x (Ne.symm h10)]; exact f
  · rw [wm_other w q j x (Ne.symm h0)]; exact g
theorem m_wf0_26 {nf nc : Nat} {r : rh_R} {w : rh_Wm} (h : m_wf0 nf nc r w) {j : Nat} {x : Int32} (h4 : j ≠ 4) (h9 : j ≠ 9) : m_wf0 nf nc r (wm w 26 j x) := by
  obtain ⟨a, b, c, d, e, f, g⟩ := h
  refine ⟨a, b, ?_, ?_, ?_, ?_, ?_⟩
  · rw [wm_at, if_neg (by omega)]; exact c
  · rw [wm_at, if_neg (by omega)]; exact d
  · rw [wm_other w 26 j x (by decide)]; exact e
  · rw [wm_other w 26 j x (by decide)]; exact f
  · rw [wm_other w 26 j x (by decide)]; exact g
theorem m_acc1_wf0 {nf nc : Nat} {r : rh_R} {w : rh_Wm} (h : m_wf0 nf nc r w) (c : Nat) : m_wf0 nf nc r (m_acc1 w c) := by
  unfold m_acc1
  exact m_wf0_26 (m_wf0_wm (m_wf0_wm (m_wf0_wm h (by decide) (by decide) (by decide) (by decide)) (by decide) (by decide) (by decide) (by decide)) (by decide) (by decide) (by decide) (by decide)) (by decide) (by decide)
theorem m_acc1_row {w : rh_Wm} {c q : Nat} (h13 : q ≠ 13) (h14 : q ≠ 14) (h17 : q ≠ 17) (h26 : q ≠ 26) : m_acc1 w c q = w q := by
  unfold m_acc1
  rw [wm_other _ _ _ _ h26, wm_other _ _ _ _ h17, wm_other _ _ _ _ h14, wm_other _ _ _ _ h13]
theorem m_acc1_at {w : rh_Wm} {c : Nat} : (∀ d, m_acc1 w c 13 d = if d = c then 1 else w 13 d) ∧ (∀ d, m_acc1 w c 14 d = if d = c then w 26 24 else w 14 d) ∧ (∀ d, m_acc1 w c 17 d = if d = mna w then nI c else w 17 d) ∧ (∀ d, m_acc1 w c 26 d = if d = 16 then w 26 16 + 1 else w 26 d) := by
  unfold m_acc1
  refine ⟨fun d => ?_, fun d => ?_, fun d => ?_, fun d => ?_⟩ <;> simp [wm_at]
theorem m_acc_row {r : rh_R} {w : rh_Wm} {f q : Nat} (h13 : q ≠ 13) (h14 : q ≠ 14) (h17 : q ≠ 17) (h26 : q ≠ 26) : ∀ n : Nat, m_acc r w f n q = w q
  | 0 => rfl
  | n + 1 => by
    unfold m_acc
    split
    · rw [m_acc1_row h13 h14 h17 h26]; exact m_acc_row h13 h14 h17 h26 n
    · exact m_acc_row h13 h14 h17 h26 n
theorem m_acc_now {r : rh_R} {w : rh_Wm} {f j : Nat} (hj : j ≠ 16) : ∀ n : Nat, m_acc r w f n 26 j = w 26 j
  | 0 => rfl
  | n + 1 => by
    unfold m_acc
    split
    · rw [m_acc1_at.2.2.2, if_neg hj]; exact m_acc_now hj n
    · exact m_acc_now hj n
theorem m_mna1 {nc : Nat} {w : rh_Wm} {c : Nat} (h : mna w ≤ m_act w nc) (hnc : nc ≤ 60) (he : w 26 16 = nI (mna w)) : mna (m_acc1 w c) = mna w + 1 ∧ m_acc1 w c 26 16 = nI (mna w + 1) := by
  have hle := m_act_le w nc
  have e : m_acc1 w c 26 16 = nI (mna w + 1) := by rw [m_acc1_at.2.2.2, if_pos rfl, he, nI_1]
  refine ⟨?_, e⟩
  show (m_acc1 w c 26 16).toNatClampNeg = _
  rw [e, nI_clamp (by omega)]
theorem m_acc1_wf1 {nf nc : Nat} {r : rh_R} {w : rh_Wm} (h0 : m_wf0 nf nc r w) (h : m_wf1 nc r w) {c : Nat} (hc : c < nc) (hz : w 13 c = 0) (h7 : w 7 (r 9 c) = 5) : m_wf1 nc r (m_acc1 w c) := by
  obtain ⟨a, b, d, e⟩ := h
  have hnc := h0.2.1
  obtain ⟨n1, n2⟩ := m_mna1 (c := c) a hnc b
  obtain ⟨q13, q14, q17, q26⟩ := m_acc1_at (w := w) (c := c)
  refine ⟨?_, ?_, ?_, ?_⟩
  · rw [n1, m_act_set (w := w) (w' := m_acc1 w c) hz (by rw [q13, if_pos rfl]; decide) (fun z hz => by rw [q13, if_neg hz]) nc hc]
    omega
  · rw [n1]; exact n2
  · intro k hk
    rw [n1] at hk
    by_cases hkm : k = mna w
    · have e17 : m_acc1 w c 17 k = nI c := by rw [q17, if_pos hkm]
      have em : mac (m_acc1 w c) k = c := by
        show (m_acc1 w c 17 k).toNatClampNeg = c
        rw [e17, nI_clamp (by omega)]
      rw [em]
      exact ⟨hc, e17⟩
    · have e17 : m_acc1 w c 17 k = w 17 k := by rw [q17, if_neg hkm]
      have em : mac (m_acc1 w c) k = mac w k := by
        show (m_acc1 w c 17 k).toNatClampNeg = _
        rw [e17]; rfl
      rw [em, e17]
      exact d k (by omega)
  · intro z hz9 hzs
    rw [m_acc1_row (q := 7) (by decide) (by decide) (by decide) (by decide), n1]
    by_cases hzc : z = c
    · subst hzc
      exact ⟨h7, mna w, by omega, by rw [q17, if_pos rfl]⟩
    · rw [q13, if_neg hzc] at hzs
      obtain ⟨e1, k, hk, e2⟩ := e z hz9 hzs
      exact ⟨e1, k, by omega, by rw [q17, if_neg (by omega)]; exact e2⟩
theorem m_file_wf1 {nc : Nat} {r : rh_R} {w : rh_Wm} (h : m_wf1 nc r w) {f : Nat} (hf : ∀ c, c < nc → r 9 c = f → w 13 c = 0) (x : Int32) : m_wf1 nc r (wm w 7 f x) := by
  obtain ⟨a, b, d, e⟩ := h
  have e13 : wm w 7 f x 13 = w 13 := wm_other w 7 f x (by decide)
  have e17 : wm w 7 f x 17 = w 17 := wm_other w 7 f x (by decide)
  have e26 : wm w 7 f x 26 = w 26 := wm_other w 7 f x (by decide)
  have en : mna (wm w 7 f x) = mna w := by unfold mna; rw [e26]
  refine ⟨?_, ?_, ?_, ?_⟩
  · rw [en, m_act_eq (w := w) nc (fun c _ => by rw [e13])]; exact a
  · rw [en, e26]; exact b
  · intro k hk
    rw [en] at hk
    show ((wm w 7 f x 17 k).toNatClampNeg < nc) ∧ wm w 7 f x 17 k = nI ((wm w 7 f x 17 k).toNatClampNeg)
    rw [e17]; exact d k hk
  · intro c hc hs
    rw [e13] at hs
    obtain ⟨e1, k, hk, e2⟩ := e c hc hs
    refine ⟨?_, k, by rw [en]; exact hk, by rw [e17]; exact e2⟩
    rw [wm_at, if_neg (fun z => hs (hf c hc z.2))]
    exact e1
/-- .. while calls of a file are accepted -/
theorem m_acc_wf {nf nc : Nat} {r : rh_R} {w : rh_Wm} {f : Nat} (h0 : m_wf0 nf nc r w) (h : m_wf1 nc r w) (h7 : w 7 f = 5) (hf : ∀ c, c < nc → r 9 c = f → w 13 c = 0) : ∀ n : Nat, n ≤ nc → m_wf0 nf nc r (m_acc r w f n) ∧ m_wf1 nc r (m_acc r w f n) ∧ ∀ c, n ≤ c → c < nc → r 9 c = f → m_acc r w f n 13 c = 0
  | 0, _ => ⟨h0, h, fun c _ hc hr => hf c hc hr⟩
  | n + 1, hn => by
    obtain ⟨i0, i1, i2⟩ := m_acc_wf h0 h h7 hf n (by omega)
    unfold m_acc
    by_cases hc : r 9 n = f ∧ m_right r (m_acc r w f n) n
    · rw [if_pos hc]
      refine ⟨m_acc1_wf0 i0 n, m_acc1_wf1 i0 i1 (by omega) (i2 n (by omega) (by omega) hc.1) ?_, fun c hcn hc9 hr => ?_⟩
      · rw [m_acc_row (by decide) (by decide) (by decide) (by decide), hc.1]; exact h7
      · rw [m_acc1_at.1, if_neg (by omega)]; exact i2 c (by omega) hc9 hr
    · rw [if_neg hc]
      exact ⟨i0, i1, fun c hcn => i2 c (by omega)⟩
theorem m_out {nf nc : Nat} {r : rh_R} {w : rh_Wm} (h : m_wf nf nc r w) {f : Nat} (h7 : ¬ w 7 f = 5) : ∀ c, c < nc → r 9 c = f → w 13 c = 0 := by
  intro c hc hr
  by_cases hz : w 13 c = 0
  · exact hz
  · exact absurd (hr ▸ (h.2.2.2.2 c hc hz).1) h7
theorem m_look_wf {nf nc : Nat} {r : rh_R} {w : rh_Wm} {f : Nat} (h : m_wf nf nc r w) (h7 : ¬ w 7 f = 5) : m_wf nf nc r (m_look r w nc f) := by
  have hf := m_out h h7
  have g : ∀ x, m_wf nf nc r (wm w 7 f x) := fun x => ⟨m_wf0_wm h.1 (by decide) (by decide) (by decide) (by decide), m_file_wf1 h.2 hf x⟩
  unfold m_look
  split
  · exact g 3
  · split
    · exact g 4
    · have := m_acc_wf (nf := nf) (g 5).1 (g 5).2 (f := f) (by rw [wm_at, if_pos ⟨rfl, rfl⟩]) (fun c hc hr => by rw [wm_other w 7 f 5 (by decide)]; exact hf c hc hr) nc (Nat.le_refl _)
      exact ⟨this.1, this.2.1⟩
theorem m_exp_wf {nf nc : Nat} {r : rh_R} {w : rh_Wm} (h : m_wf nf nc r w) {q j : Nat} {x : Int32} (hq : q = 18 ∨ q = 8 ∨ q = 1 ∨ q = 2 ∨ q = 3 ∨ q = 6 ∨ q = 19 ∨ q = 20 ∨ q = 21 ∨ q = 22 ∨ q = 23 ∨ q = 15) : m_wf nf nc r (wm w q j x) := by
  refine ⟨m_wf0_wm h.1 (by omega) (by omega) (by omega) (by omega), ?_⟩
  obtain ⟨a, b, d, e⟩ := h.2
  have e13 : wm w q j x 13 = w 13 := wm_other w q j x (by omega)
  have e17 : wm w q j x 17 = w 17 := wm_other w q j x (by omega)
  have e26 : wm w q j x 26 = w 26 := wm_other w q j x (by omega)
  have e7 : wm w q j x 7 = w 7 := wm_other w q j x (by omega)
  have en : mna (wm w q j x) = mna w := by unfold mna; rw [e26]
  refine ⟨?_, ?_, ?_, ?_⟩
  · rw [en, m_act_eq (w := w) nc (fun c _ => by rw [e13])]; exact a
  · rw [en, e26]; exact b
  · intro k hk
    rw [en] at hk
    show ((wm w q j x 17 k).toNatClampNeg < nc) ∧ wm w q j x 17 k = nI ((wm w q j x 17 k).toNatClampNeg)
    rw [e17]; exact d k hk
  · intro c hc hs
    rw [e13] at hs
    rw [e7, en, e17]
    exact e c hc hs
theorem m_look_7 {nf nc : Nat} {r : rh_R} {w : rh_Wm} {f : Nat} : ¬ m_look r w nc f 7 f = 2 ∧ ∀ d, d ≠ f → m_look r w nc f 7 d = w 7 d := by
  unfold m_look
  split
  · exact ⟨by rw [wm_at, if_pos ⟨rfl, rfl⟩]; decide, fun d hd => by rw [wm_at, if_neg (fun z => hd z.2)]⟩
  · split
    · exact ⟨by rw [wm_at, if_pos ⟨rfl, rfl⟩]; decide, fun d hd => by rw [wm_at, if_neg (fun z => hd z.2)]⟩
    · rw [m_acc_row (by decide) (by decide) (by decide) (by decide)]
      exact ⟨by rw [wm_at, if_pos ⟨rfl, rfl⟩]; decide, fun d hd => by rw [wm_at, if_neg (fun z => hd z.2)]⟩
theorem m_4pq {h k : Nat} (hh : h < 4) (hk : k < 4) : 4 * nI h + nI k = nI (h * 4 + k) ∧ h * 4 + k < 16 := by
  refine ⟨?_, by omega⟩
  rw [show (4 : Int32) = nI 4 from rfl, pk_mul, nI_add, Nat.mul_comm 4 h]
theorem m_div4 {q : Nat} (hq : q < 16) : nI q / 4 = nI (q / 4) := pk_div (a := q) (d := 4) (by omega) (by decide) (by decide)
/-- a call's place -/
theorem m_pl_of {nf nc : Nat} {r : rh_R} {w : rh_Wm} (h : m_wf nf nc r w) {c : Nat} (hc : c < nc) (hs : ¬ w 13 c = 0) : m_pl w c < mna w ∧ w 17 (m_pl w c) = nI c ∧ ∀ i, i < m_pl w c → ¬ w 17 i = nI c := by
  obtain ⟨_, k, hk, hkc⟩ := h.2.2.2.2 c hc hs
  unfold m_pl
  cases hp : firstp (fun k => decide (w 17 k = nI c)) (mna w) with
  | none => exact absurd (decide_eq_true hkc) (firstp_none _ hp k hk)
  | some j =>
    obtain ⟨h1, h2, h3⟩ := firstp_some _ hp
    exact ⟨h1, of_decide_eq_true h2, fun i hi z => h3 i hi (decide_eq_true z)⟩
theorem rng_ix {x : Int32} {n : Nat} (hn : n < 2 ^ 30) : rng x 0 (nI n - 1) ↔ ix x n := by
  have e : (nI n - 1).toInt = (n : Int) - 1 := by
    rw [Int32.toInt_sub, nI_toInt (by omega)]
    show Int.bmod ((n : Int) - 1) (2 ^ 32) = _
    exact Int.bmod_eq_of_le (by omega) (by omega)
  unfold rng ix
  rw [Int32.le_iff_toInt_le, Int32.le_iff_toInt_le, e]
  show 0 ≤ x.toInt ∧ _ ↔ _
  omega
theorem m_inj {a b : Nat} (ha : a < 2 ^ 31) (hb : b < 2 ^ 31) (h : nI a = nI b) : a = b := by
  have := congrArg Int32.toNatClampNeg h
  rwa [nI_clamp ha, nI_clamp hb] at this
theorem m_gb_row {w : rh_Wm} {q : Nat} (hq : q ≠ 13) : ∀ n : Nat, m_gb w n q = w q
  | 0 => rfl
  | n + 1 => by
    unfold m_gb
    rw [wm_other _ _ _ _ hq]
    exact m_gb_row hq n
