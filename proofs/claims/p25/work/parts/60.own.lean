/-! ===== the law's own house, by its numbers, and the ints of before ===== -/
def tr (q : Nat) : Nat := q % 4 * 4 + q / 4
theorem tr_lt {q : Nat} (h : q < 16) : tr q < 16 := by unfold tr; omega
theorem tr_tr {q : Nat} (h : q < 16) : tr (tr q) = q := by unfold tr; omega
theorem tr_inj {a b : Nat} (ha : a < 16) (hb : b < 16) (h : tr a = tr b) : a = b := by unfold tr at h; omega
theorem tr_div {q : Nat} (h : q < 16) : tr q / 4 = q % 4 := by unfold tr; omega
def sm (F : Nat → Nat) : Nat → Nat
  | 0 => 0
  | n + 1 => sm F n + F n
theorem sm_eq {F G : Nat → Nat} : ∀ n : Nat, (∀ k : Nat, k < n → F k = G k) → sm F n = sm G n
  | 0, _ => rfl
  | n + 1, h => by
    show sm F n + F n = sm G n + G n
    rw [sm_eq n (fun k hk => h k (by omega)), h n (by omega)]
theorem sm_le {F : Nat → Nat} {b : Nat} : ∀ n : Nat, (∀ k : Nat, k < n → F k ≤ b) → sm F n ≤ n * b
  | 0, _ => Nat.zero_le _
  | n + 1, h => by
    have h1 := sm_le n (fun k hk => h k (by omega))
    have h2 := h n (by omega)
    show sm F n + F n ≤ (n + 1) * b
    rw [Nat.succ_mul]
    omega
theorem sm_add (F G : Nat → Nat) : ∀ n : Nat, sm (fun k => F k + G k) n = sm F n + sm G n
  | 0 => rfl
  | n + 1 => by
    show sm (fun k => F k + G k) n + (F n + G n) = sm F n + F n + (sm G n + G n)
    rw [sm_add F G n]
    omega
theorem sm_zero : ∀ n : Nat, sm (fun _ => 0) n = 0
  | 0 => rfl
  | n + 1 => by
    show sm (fun _ => 0) n + 0 = 0
    rw [sm_zero n]
/-- one place differs -/
theorem sm_set {F G : Nat → Nat} {j : Nat} (h : ∀ k : Nat, k ≠ j → F k = G k) : ∀ n : Nat, j < n → sm F n + G j = sm G n + F j
  | 0, hj => absurd hj (Nat.not_lt_zero _)
  | n + 1, hj => by
    show sm F n + F n + G j = sm G n + G n + F j
    by_cases hjn : j = n
    · subst hjn
      rw [sm_eq j (fun k hk => h k (by omega))]
      omega
    · have := sm_set h n (by omega)
      rw [h n (fun z => hjn z.symm)]
      omega
theorem sm_mono {F G : Nat → Nat} : ∀ n : Nat, (∀ k : Nat, k < n → F k ≤ G k) → sm F n ≤ sm G n
  | 0, _ => Nat.le_refl _
  | n + 1, h => by
    show sm F n + F n ≤ sm G n + G n
    exact Nat.add_le_add (sm_mono n (fun k hk => h k (by omega))) (h n (by omega))
/-- sums in the other order -/
theorem sm_swap (F : Nat → Nat → Nat) (m : Nat) : ∀ n : Nat, sm (fun i => sm (fun j => F i j) m) n = sm (fun j => sm (fun i => F i j) n) m
  | 0 => by
    show 0 = sm (fun _ => 0) m
    rw [sm_zero]
  | n + 1 => by
    show sm (fun i => sm (fun j => F i j) m) n + sm (fun j => F n j) m = sm (fun j => sm (fun i => F i j) n + F n j) m
    rw [sm_swap F m n, sm_add]
theorem sm_one {n j x : Nat} (hj : j < n) : sm (fun k => if k = j then x else 0) n = x := by
  have := sm_set (F := fun k => if k = j then x else 0) (G := fun _ => 0) (j := j) (fun k hk => by simp [hk]) n hj
  rw [sm_zero] at this
  simp at this
  exact this
theorem sm_none {F : Nat → Nat} {n : Nat} (h : ∀ k : Nat, k < n → F k = 0) : sm F n = 0 := by
  rw [sm_eq n h, sm_zero]
abbrev u_L : Type := Nat → Nat → Nat
def ub (L : u_L) : Prop := ∀ k j : Nat, L k j < 1073741824
theorem ub.upd {L : u_L} (h : ub L) {k j x : Nat} (hx : x < 1073741824) : ub (un L k j x) := by
  intro a b
  unfold un
  split
  · exact hx
  · exact h a b
def la (w : rh_Wm) (L : u_L) : Prop := ∀ i : Nat, i < 4 → (w 0 i = nI (L 1 (4 * i)) ∧ 1 ≤ L 1 (4 * i) ∧ L 1 (4 * i) ≤ 600) ∧ (w 1 i = nI (L 1 (4 * i + 1)) ∧ L 1 (4 * i + 1) ≤ 1000) ∧ (w 2 i = nI (L 1 (4 * i + 2)) ∧ L 1 (4 * i + 2) ≤ 1000) ∧ (w 3 i = nI (L 1 (4 * i + 3)) ∧ L 1 (4 * i + 3) ≤ 100000)
def lf1 (r : rh_R) (w : rh_Wm) (L : u_L) (f : Nat) : Prop := (L 2 (4 * f) < 16 ∧ r 8 f = tr (L 2 (4 * f))) ∧ (w 6 f = nI (L 2 (4 * f + 1)) ∧ L 2 (4 * f + 1) ≤ L 0 3) ∧ (w 7 f = nI (L 2 (4 * f + 2)) ∧ L 2 (4 * f + 2) ≤ 5) ∧ (L 2 (4 * f + 2) = 2 → w 8 f = nI (L 2 (4 * f + 3)) ∧ L 2 (4 * f + 3) ≤ 99)
def lf (nf : Nat) (r : rh_R) (w : rh_Wm) (L : u_L) : Prop := (∀ f : Nat, f < nf → lf1 r w L f) ∧ ∀ f : Nat, nf ≤ f → L 2 (4 * f + 2) = 0
def lc1 (r : rh_R) (w : rh_Wm) (L : u_L) (c : Nat) : Prop := (L 3 c < 294912 ∧ r 9 c = L 3 c % 16) ∧ (w 13 c = nI (L 3 c / 16 % 8) ∧ L 3 c / 16 % 8 ≤ 4) ∧ (L 3 c / 16 % 8 ≠ 0 → w 14 c = nI (L 3 c / 128 % 64) ∧ L 3 c / 128 % 64 ≤ L 0 3) ∧ (L 3 c / 16 % 8 = 2 → w 15 c = nI (L 3 c / 8192) ∧ L 3 c / 8192 ≤ L 0 3) ∧ (w 11 c = nI (L 4 c) ∧ 1 ≤ L 4 c ∧ L 4 c ≤ 36000) ∧ (w 12 c = nI (L 5 c) ∧ L 5 c ≤ 50000000)
def lc (nc : Nat) (r : rh_R) (w : rh_Wm) (L : u_L) : Prop := ∀ c : Nat, c < nc → lc1 r w L c
def lo (w : rh_Wm) (L : u_L) : Prop := ∀ k : Nat, k < L 0 2 → w 17 k = nI (L 6 k) ∧ ∀ k' : Nat, k' < L 0 2 → L 6 k = L 6 k' → k = k'
def lq1 (w : rh_Wm) (L : u_L) (q : Nat) : Prop := (w 18 (tr q) = nI (L 7 q) ∧ 1 ≤ L 7 q) ∧ (w 23 (tr q) = nI (L 8 (32 + q)) ∧ L 8 (32 + q) ≤ 100000000) ∧ (w 19 (tr q) = 0 ↔ L 8 q = 0) ∧ (L 8 q ≠ 0 → w 20 (tr q) = nI (L 8 q - 1) ∧ w 21 (tr q) = nI (L 8 (16 + q) / 2) ∧ (w 22 (tr q) = 0 ↔ L 8 (16 + q) % 2 = 0)) ∧ L 8 q ≤ 1000001 ∧ L 8 (16 + q) ≤ 20001
def lq (w : rh_Wm) (L : u_L) : Prop := ∀ q : Nat, q < 16 → lq1 w L q
def ln (nf nc : Nat) (w : rh_Wm) (L : u_L) : Prop := (L 0 0 = nf ∧ nf ≤ 16) ∧ (L 0 1 = nc ∧ nc ≤ 40) ∧ L 0 2 = mna w ∧ L 0 3 < 36 ∧ w 26 24 = nI (L 0 3)
/-- files that were looked at -/
def u_dn (L : u_L) (n : Nat) : Nat := sm (fun f => if 3 ≤ L 2 (4 * f + 2) then 1 else 0) n
def le7 (nf : Nat) (L : u_L) : Prop := ∀ q : Nat, q < 16 → L 7 q ≤ 1 + u_dn L nf
def lr (nf nc : Nat) (r : rh_R) (w : rh_Wm) (L : u_L) : Prop := ub L ∧ ln nf nc w L ∧ la w L ∧ lf nf r w L ∧ lc nc r w L ∧ lo w L ∧ lq w L
theorem u_dn_le (L : u_L) (n : Nat) : u_dn L n ≤ n := by
  have := sm_le (F := fun f => if 3 ≤ L 2 (4 * f + 2) then 1 else 0) (b := 1) n (fun k _ => by split <;> omega)
  unfold u_dn
  omega
theorem lf1_keep {r r' : rh_R} {w w' : rh_Wm} {L L' : u_L} {g : Nat} (h : lf1 r w L g) (hr : r' 8 g = r 8 g) (h6 : w' 6 g = w 6 g) (h7 : w' 7 g = w 7 g) (h8 : w' 8 g = w 8 g) (e0 : L' 2 (4 * g) = L 2 (4 * g)) (e1 : L' 2 (4 * g + 1) = L 2 (4 * g + 1)) (e2 : L' 2 (4 * g + 2) = L 2 (4 * g + 2)) (e3 : L' 2 (4 * g + 3) = L 2 (4 * g + 3)) (e : L 0 3 ≤ L' 0 3) : lf1 r' w' L' g := by
  obtain ⟨⟨a1, a2⟩, ⟨b1, b2⟩, ⟨c1, c2⟩, d1⟩ := h
  unfold lf1
  rw [hr, h6, h7, h8, e0, e1, e2, e3]
  exact ⟨⟨a1, a2⟩, ⟨b1, Nat.le_trans b2 e⟩, ⟨c1, c2⟩, d1⟩
theorem lc1_keep {r r' : rh_R} {w w' : rh_Wm} {L L' : u_L} {g : Nat} (h : lc1 r w L g) (hr : r' 9 g = r 9 g) (h13 : w' 13 g = w 13 g) (h14 : w' 14 g = w 14 g) (h15 : w' 15 g = w 15 g) (h11 : w' 11 g = w 11 g) (h12 : w' 12 g = w 12 g) (e3 : L' 3 g = L 3 g) (e4 : L' 4 g = L 4 g) (e5 : L' 5 g = L 5 g) (e : L 0 3 ≤ L' 0 3) : lc1 r' w' L' g := by
  obtain ⟨a1, b1, c1, d1, f1, g1⟩ := h
  unfold lc1
  rw [hr, h13, h14, h15, h11, h12, e3, e4, e5]
  exact ⟨a1, b1, fun z => ⟨(c1 z).1, Nat.le_trans (c1 z).2 e⟩, fun z => ⟨(d1 z).1, Nat.le_trans (d1 z).2 e⟩, f1, g1⟩
/-! the charge -/
def u_ch (L : u_L) (h s : Nat) : Nat := (s + L 1 (4 * h) - 1) / L 1 (4 * h) * L 1 (4 * h + 1) + L 1 (4 * h + 2)
theorem u_steps {s st : Nat} (hs : s ≤ 36000) (h1 : 1 ≤ st) : (s + st - 1) / st ≤ 36000 := by
  rcases Nat.eq_zero_or_pos s with h0 | h0
  · subst h0
    rw [Nat.zero_add, Nat.div_eq_of_lt (by omega)]
    omega
  · have h2 : (s + st - 1) / st < 36001 := by
      rw [Nat.div_lt_iff_lt_mul (by omega)]
      have : 36001 * 1 ≤ 36001 * st := Nat.mul_le_mul_left _ h1
      have h3 : (36000 : Nat) * st + st = 36001 * st := by omega
      have h4 : 36000 ≤ 36000 * st := by omega
      omega
    omega
theorem u_ch_le {w : rh_Wm} {L : u_L} (h : la w L) {i s : Nat} (hi : i < 4) (hs : s ≤ 36000) : u_ch L i s ≤ 36001000 := by
  obtain ⟨⟨-, a1, -⟩, ⟨-, b⟩, ⟨-, c⟩, -⟩ := h i hi
  have h1 := u_steps hs a1
  have h2 := Nat.mul_le_mul h1 b
  unfold u_ch
  omega
theorem u_ch_m {w : rh_Wm} {L : u_L} (h : la w L) {i s : Nat} (hi : i < 4) (h1 : 1 ≤ s) (hs : s ≤ 36000) : m_ch w i (nI s) = nI (u_ch L i s) := by
  obtain ⟨⟨e0, a1, a2⟩, ⟨e1, b⟩, ⟨e2, c⟩, -⟩ := h i hi
  unfold m_ch
  rw [e0, e1, e2, nI_add, show (1 : Int32) = nI 1 from rfl, pk_sub (by omega), pk_div (by omega) (by omega) (by omega), pk_mul, nI_add]
  exact congrArg nI (by unfold u_ch; rw [Nat.mul_comm (L 1 (4 * i + 1)), Nat.add_comm])
/-! a call is right -/
abbrev u_rt (L : u_L) (f c : Nat) : Prop := u_ch L (L 2 (4 * f) % 4) (L 4 c) = L 5 c
theorem u_rt_m {nf nc : Nat} {r : rh_R} {w : rh_Wm} {L : u_L} (ha : la w L) (hf : ∀ f : Nat, f < nf → lf1 r w L f) (hc : lc nc r w L) {c : Nat} (hcn : c < nc) (hcf : r 9 c < nf) : m_right r w c ↔ u_rt L (r 9 c) c := by
  obtain ⟨-, -, -, -, ⟨g1, g2, g3⟩, g4, g5⟩ := hc c hcn
  obtain ⟨⟨p1, p2⟩, -⟩ := hf _ hcf
  have hq : c_pr r c / 4 = L 2 (4 * r 9 c) % 4 := by
    show r 8 (r 9 c) / 4 = _
    rw [p2, tr_div p1]
  unfold m_right u_rt
  have h4 : L 2 (4 * r 9 c) % 4 < 4 := by omega
  rw [hq, g1, g4, u_ch_m ha h4 g2 g3]
  have hle := u_ch_le ha h4 g3
  exact ⟨fun z => m_inj (by omega) (by omega) z, fun z => congrArg nI z⟩
def u_all (L : u_L) (f : Nat) (n : Nat) : Nat := sm (fun c => if L 3 c % 16 = f then 1 else 0) n
def u_good (L : u_L) (f : Nat) (n : Nat) : Nat := sm (fun c => if L 3 c % 16 = f ∧ u_rt L f c then 1 else 0) n
theorem u_good_le (L : u_L) (f n : Nat) : u_good L f n ≤ u_all L f n := sm_mono n (fun k _ => by
  by_cases h1 : L 3 k % 16 = f
  · rw [if_pos h1]; split <;> omega
  · rw [if_neg h1, if_neg (fun z => h1 z.1)]; omega)
theorem u_all_le (L : u_L) (f n : Nat) : u_all L f n ≤ n := by
  have := sm_le (F := fun c => if L 3 c % 16 = f then 1 else 0) (b := 1) n (fun k _ => by split <;> omega)
  unfold u_all
  omega
theorem u_cnt0 {nc : Nat} {r : rh_R} {w : rh_Wm} {L : u_L} (hc : lc nc r w L) (f : Nat) : ∀ n : Nat, n ≤ nc → m_cnt r w f 0 n = nI (u_all L f n)
  | 0, _ => rfl
  | n + 1, hn => by
    have ih := u_cnt0 hc f n (by omega)
    have h9 := (hc n (by omega)).1.2
    show (if r 9 n = f ∧ ((0 : Int32) = 0 ∨ ¬ m_right r w n) then m_cnt r w f 0 n + 1 else m_cnt r w f 0 n) = nI (u_all L f n + if L 3 n % 16 = f then 1 else 0)
    rw [ih, h9]
    by_cases h1 : L 3 n % 16 = f
    · rw [if_pos ⟨h1, Or.inl rfl⟩, if_pos h1, nI_1]
    · rw [if_neg (fun z => h1 z.1), if_neg h1, Nat.add_zero]
theorem u_cnt1 {nf nc : Nat} {r : rh_R} {w : rh_Wm} {L : u_L} (ha : la w L) (hf : ∀ f : Nat, f < nf → lf1 r w L f) (hc : lc nc r w L) (hcf : ∀ c : Nat, c < nc → r 9 c < nf) (f : Nat) : ∀ n : Nat, n ≤ nc → m_cnt r w f 1 n = nI (u_all L f n - u_good L f n)
  | 0, _ => rfl
  | n + 1, hn => by
    have ih := u_cnt1 ha hf hc hcf f n (by omega)
    have h9 := (hc n (by omega)).1.2
    have hrt := u_rt_m ha hf hc (by omega : n < nc) (hcf n (by omega))
    have hle := u_good_le L f n
    show (if r 9 n = f ∧ ((1 : Int32) = 0 ∨ ¬ m_right r w n) then m_cnt r w f 1 n + 1 else m_cnt r w f 1 n) = nI ((u_all L f n + if L 3 n % 16 = f then 1 else 0) - (u_good L f n + if L 3 n % 16 = f ∧ u_rt L f n then 1 else 0))
    rw [ih]
    by_cases h1 : L 3 n % 16 = f
    · have h2 : r 9 n = f := h9.trans h1
      rw [h2] at hrt
      by_cases h3 : m_right r w n
      · rw [if_neg (fun z => z.2.elim (by decide) (fun y => y h3)), if_pos h1, if_pos ⟨h1, hrt.mp h3⟩]
        exact congrArg nI (by omega)
      · rw [if_pos ⟨h2, Or.inr h3⟩, if_pos h1, if_neg (fun z => h3 (hrt.mpr z.2)), nI_1]
        exact congrArg nI (by omega)
    · rw [if_neg (fun z => h1 (h9.symm.trans z.1)), if_neg h1, if_neg (fun z => h1 z.1)]
      exact congrArg nI (by omega)
