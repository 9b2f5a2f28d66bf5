/-! ===== what the house shows, by the law's own house ===== -/
theorem sm_z {F : Nat → Nat} : ∀ n : Nat, sm F n = 0 → ∀ k : Nat, k < n → F k = 0
  | 0, _, k, hk => absurd hk (Nat.not_lt_zero _)
  | n + 1, h, k, hk => by
    have h' : sm F n + F n = 0 := h
    by_cases hkn : k = n
    · subst hkn; omega
    · exact sm_z n (by omega) k (by omega)
theorem sm_le1 {F : Nat → Nat} : ∀ n : Nat, (∀ k : Nat, k < n → F k ≤ 1) → (∀ i j : Nat, i < n → j < n → F i ≠ 0 → F j ≠ 0 → i = j) → sm F n ≤ 1
  | 0, _, _ => Nat.zero_le _
  | n + 1, h1, h2 => by
    have ih := sm_le1 n (fun k hk => h1 k (by omega)) (fun i j hi hj => h2 i j (by omega) (by omega))
    have hn := h1 n (by omega)
    show sm F n + F n ≤ 1
    by_cases hz : F n = 0
    · omega
    · have : sm F n = 0 := sm_none (fun k hk => by
        by_cases hk0 : F k = 0
        · exact hk0
        · exact absurd (h2 k n (by omega) (by omega) hk0 hz) (by omega))
      omega
theorem sm_from (a : Nat) : ∀ n : Nat, sm (fun t => if a ≤ t then 1 else 0) n = n - a
  | 0 => by show 0 = 0 - a; omega
  | n + 1 => by
    show sm (fun t => if a ≤ t then 1 else 0) n + (if a ≤ n then 1 else 0) = n + 1 - a
    rw [sm_from a n]
    split <;> omega
abbrev u_is (L : u_L) (q j : Nat) : Prop := L 2 (4 * j) = q ∧ L 2 (4 * j + 2) = 2
def u_wt (L : u_L) (q x n : Nat) : Nat := sm (fun j => if u_is L q j ∧ L 2 (4 * j + 3) = x then 1 else 0) n
def u_ab (L : u_L) (q x n : Nat) : Nat := sm (fun j => if u_is L q j ∧ x < L 2 (4 * j + 3) then 1 else 0) n
def u_lk (L : u_L) (q n i : Nat) : Nat := sm (fun t => if u_wt L q (99 - t) n = 0 ∧ 0 < u_ab L q (99 - t) n then 1 else 0) i
def u_ct (L : u_L) (q n : Nat) : Nat := sm (fun j => if u_is L q j then 1 else 0) n
def u_mx (L : u_L) (q : Nat) : Nat → Nat
  | 0 => 0
  | n + 1 => if u_is L q n then (if u_mx L q n < L 2 (4 * n + 3) then L 2 (4 * n + 3) else u_mx L q n) else u_mx L q n
theorem u_mx_ge {L : u_L} {q : Nat} : ∀ n j : Nat, j < n → u_is L q j → L 2 (4 * j + 3) ≤ u_mx L q n
  | 0, j, hj, _ => absurd hj (Nat.not_lt_zero _)
  | n + 1, j, hj, h => by
    unfold u_mx
    by_cases hjn : j = n
    · subst hjn
      rw [if_pos h]
      split <;> omega
    · have := u_mx_ge n j (by omega) h
      split
      · split <;> omega
      · exact this
theorem u_mx_at {L : u_L} {q : Nat} : ∀ n : Nat, (u_mx L q n = 0 ∧ ∀ j : Nat, j < n → u_is L q j → L 2 (4 * j + 3) = 0) ∨ ∃ j : Nat, j < n ∧ u_is L q j ∧ L 2 (4 * j + 3) = u_mx L q n
  | 0 => Or.inl ⟨rfl, fun j hj => absurd hj (Nat.not_lt_zero _)⟩
  | n + 1 => by
    have ih := u_mx_at (L := L) (q := q) n
    by_cases hi : u_is L q n
    · by_cases hl : u_mx L q n < L 2 (4 * n + 3)
      · exact Or.inr ⟨n, by omega, hi, by unfold u_mx; rw [if_pos hi, if_pos hl]⟩
      · have e : u_mx L q (n + 1) = u_mx L q n := by
          show (if u_is L q n then (if u_mx L q n < L 2 (4 * n + 3) then L 2 (4 * n + 3) else u_mx L q n) else u_mx L q n) = _
          rw [if_pos hi, if_neg hl]
        rw [e]
        rcases ih with ⟨h1, h2⟩ | ⟨j, h1, h2, h3⟩
        · refine Or.inl ⟨h1, fun j hj hj2 => ?_⟩
          by_cases hjn : j = n
          · subst hjn; omega
          · exact h2 j (by omega) hj2
        · exact Or.inr ⟨j, by omega, h2, h3⟩
    · have e : u_mx L q (n + 1) = u_mx L q n := by
        show (if u_is L q n then (if u_mx L q n < L 2 (4 * n + 3) then L 2 (4 * n + 3) else u_mx L q n) else u_mx L q n) = _
        rw [if_neg hi]
      rw [e]
      rcases ih with ⟨h1, h2⟩ | ⟨j, h1, h2, h3⟩
      · refine Or.inl ⟨h1, fun j hj hj2 => ?_⟩
        by_cases hjn : j = n
        · subst hjn; exact absurd hj2 hi
        · exact h2 j (by omega) hj2
      · exact Or.inr ⟨j, by omega, h2, h3⟩
theorem u_wn {nf nc : Nat} {r : rh_R} {w : rh_Wm} {L : u_L} (h : lr nf nc r w L) {q : Nat} (hq : q < 16) : ∀ n : Nat, n ≤ nf → m_wn r w (tr q) n = nI (u_ct L q n) ∧ m_wg r w (tr q) n = nI (u_mx L q n)
  | 0, _ => ⟨rfl, rfl⟩
  | n + 1, hn => by
    obtain ⟨i1, i2⟩ := u_wn h hq n (by omega)
    obtain ⟨⟨a1, a2⟩, -, ⟨c1, c2⟩, d1⟩ := h.2.2.2.1.1 n (by omega)
    have hiff : (w 7 n = 2 ∧ r 8 n = tr q) ↔ u_is L q n := by
      rw [c1, a2]
      exact ⟨fun z => ⟨tr_inj a1 hq z.2, m_inj (b := 2) (by omega) (by decide) z.1⟩, fun z => ⟨congrArg nI z.2, by rw [z.1]⟩⟩
    have hub := h.1
    have hmx : u_mx L q n < 2147483648 := by
      rcases u_mx_at (L := L) (q := q) n with ⟨e, -⟩ | ⟨j, -, -, e⟩
      · omega
      · rw [← e]; have := hub 2 (4 * j + 3); omega
    constructor
    · show (if w 7 n = 2 ∧ r 8 n = tr q then m_wn r w (tr q) n + 1 else m_wn r w (tr q) n) = nI (u_ct L q n + if u_is L q n then 1 else 0)
      rw [i1]
      by_cases hc : u_is L q n
      · rw [if_pos (hiff.mpr hc), if_pos hc, nI_1]
      · rw [if_neg (fun z => hc (hiff.mp z)), if_neg hc]; rfl
    · show (if w 7 n = 2 ∧ r 8 n = tr q then (if m_wg r w (tr q) n < w 8 n then w 8 n else m_wg r w (tr q) n) else m_wg r w (tr q) n) = nI (if u_is L q n then (if u_mx L q n < L 2 (4 * n + 3) then L 2 (4 * n + 3) else u_mx L q n) else u_mx L q n)
      rw [i2]
      by_cases hc : u_is L q n
      · have e8 := (d1 hc.2).1
        have e9 := (d1 hc.2).2
        rw [if_pos (hiff.mpr hc), if_pos hc, e8]
        by_cases hl : u_mx L q n < L 2 (4 * n + 3)
        · rw [if_pos ((nI_ltI hmx (by omega)).mpr hl), if_pos hl]
        · rw [if_neg (fun z => hl ((nI_ltI hmx (by omega)).mp z)), if_neg hl]
      · rw [if_neg (fun z => hc (hiff.mp z)), if_neg hc]
/-- files that wait have numbers of their own, above the expected one -/
theorem u_wa {nf nc : Nat} {r : rh_R} {w : rh_Wm} {L : u_L} (h : lr nf nc r w L) (ha : rl_wa nf r w) (he : ∀ q : Nat, q < 16 → L 7 q ≤ 1000) : (∀ f q : Nat, f < nf → u_is L q f → L 7 q < L 2 (4 * f + 3) ∧ L 2 (4 * f + 3) ≤ 99) ∧ ∀ f g q : Nat, f < nf → g < nf → u_is L q f → u_is L q g → L 2 (4 * f + 3) = L 2 (4 * g + 3) → f = g := by
  constructor
  · intro f q hf hi
    obtain ⟨⟨a1, a2⟩, -, ⟨c1, c2⟩, d1⟩ := h.2.2.2.1.1 f hf
    obtain ⟨e1, e2⟩ := d1 hi.2
    have h7 : w 7 f = 2 := by rw [c1, hi.2]; rfl
    have hlt := (ha.1 f hf h7).1
    have hp := (h.2.2.2.2.2.2 _ a1).1.1
    rw [a2, hp, e1] at hlt
    have he9 := he _ a1
    have := (nI_ltI (by omega) (by omega)).mp hlt
    rw [hi.1] at this
    exact ⟨this, e2⟩
  · intro f g q hf hg hi hj e
    obtain ⟨⟨a1, a2⟩, -, ⟨c1, c2⟩, d1⟩ := h.2.2.2.1.1 f hf
    obtain ⟨⟨b1, b2⟩, -, ⟨f1, f2⟩, g1⟩ := h.2.2.2.1.1 g hg
    refine ha.2 f g hf hg (by rw [c1, hi.2]; rfl) (by rw [f1, hj.2]; rfl) (by rw [a2, b2, hi.1, hj.1]) ?_
    rw [(d1 hi.2).1, (g1 hj.2).1, e]
theorem u_lk_at {nf : Nat} {L : u_L} {q : Nat} (h1 : ∀ f : Nat, f < nf → u_is L q f → L 7 q < L 2 (4 * f + 3) ∧ L 2 (4 * f + 3) ≤ 99) (h2 : ∀ f g : Nat, f < nf → g < nf → u_is L q f → u_is L q g → L 2 (4 * f + 3) = L 2 (4 * g + 3) → f = g) : (u_ct L q nf = 0 → u_lk L q nf (100 - L 7 q) = 0) ∧ (u_ct L q nf ≠ 0 → u_lk L q nf (100 - L 7 q) + u_ct L q nf = u_mx L q nf - L 7 q + 1 ∧ L 7 q ≤ u_mx L q nf ∧ u_mx L q nf ≤ 99) := by
  constructor
  · intro h0
    have hno : ∀ j, j < nf → ¬ u_is L q j := fun j hj hi => by
      have h9 : (if u_is L q j then 1 else 0) = 0 := sm_z (F := fun j => if u_is L q j then 1 else 0) nf h0 j hj
      rw [if_pos hi] at h9
      exact absurd h9 (by decide)
    refine sm_none (fun t _ => ?_)
    show (if u_wt L q (99 - t) nf = 0 ∧ 0 < u_ab L q (99 - t) nf then 1 else 0) = 0
    have hab : u_ab L q (99 - t) nf = 0 := sm_none (fun j hj => if_neg (fun z => hno j hj z.1))
    rw [if_neg (fun z => absurd z.2 (by omega))]
  · intro h0
    have hmx : ∃ j : Nat, j < nf ∧ u_is L q j ∧ L 2 (4 * j + 3) = u_mx L q nf := by
      rcases u_mx_at (L := L) (q := q) nf with ⟨-, hz⟩ | hj
      · refine absurd (sm_none (fun j hj => ?_)) h0
        show (if u_is L q j then 1 else 0) = 0
        refine if_neg (fun hi => ?_)
        have := hz j hj hi
        have := (h1 j hj hi).1
        omega
      · exact hj
    obtain ⟨j0, hj0, hi0, e0⟩ := hmx
    obtain ⟨hG1, hG2⟩ := h1 j0 hj0 hi0
    rw [e0] at hG1 hG2
    refine ⟨?_, by omega, hG2⟩
    have hT : ∀ t : Nat, t < 100 - L 7 q → (if u_wt L q (99 - t) nf = 0 ∧ 0 < u_ab L q (99 - t) nf then 1 else 0) + u_wt L q (99 - t) nf = if 99 - u_mx L q nf ≤ t then 1 else 0 := by
      intro t ht
      have hwt1 : u_wt L q (99 - t) nf ≤ 1 := by
        refine sm_le1 nf (fun k _ => by split <;> omega) (fun i j hi hj zi zj => ?_)
        have zi' : (if u_is L q i ∧ L 2 (4 * i + 3) = 99 - t then 1 else 0) ≠ 0 := zi
        have zj' : (if u_is L q j ∧ L 2 (4 * j + 3) = 99 - t then 1 else 0) ≠ 0 := zj
        by_cases ci : u_is L q i ∧ L 2 (4 * i + 3) = 99 - t
        · by_cases cj : u_is L q j ∧ L 2 (4 * j + 3) = 99 - t
          · exact h2 i j hi hj ci.1 cj.1 (ci.2.trans cj.2.symm)
          · rw [if_neg cj] at zj'; exact absurd rfl zj'
        · rw [if_neg ci] at zi'; exact absurd rfl zi'
      have hge := fun j hj hi => u_mx_ge (L := L) (q := q) nf j hj hi
      by_cases hc : 99 - u_mx L q nf ≤ t
      · rw [if_pos hc]
        by_cases hw : u_wt L q (99 - t) nf = 0
        · have hab : 0 < u_ab L q (99 - t) nf := by
            rcases Nat.eq_zero_or_pos (u_ab L q (99 - t) nf) with z | z
            · exfalso
              have h9 : (if u_is L q j0 ∧ 99 - t < L 2 (4 * j0 + 3) then 1 else 0) = 0 := sm_z (F := fun j => if u_is L q j ∧ 99 - t < L 2 (4 * j + 3) then 1 else 0) nf z j0 hj0
              have h8 : (if u_is L q j0 ∧ L 2 (4 * j0 + 3) = 99 - t then 1 else 0) = 0 := sm_z (F := fun j => if u_is L q j ∧ L 2 (4 * j + 3) = 99 - t then 1 else 0) nf hw j0 hj0
              by_cases hlt : 99 - t < L 2 (4 * j0 + 3)
              · rw [if_pos ⟨hi0, hlt⟩] at h9; exact absurd h9 (by decide)
              · have heq : L 2 (4 * j0 + 3) = 99 - t := by omega
                rw [if_pos ⟨hi0, heq⟩] at h8; exact absurd h8 (by decide)
            · exact z
          rw [if_pos ⟨hw, hab⟩, hw]
        · rw [if_neg (fun z => hw z.1)]; omega
      · rw [if_neg hc]
        have hw : u_wt L q (99 - t) nf = 0 := sm_none (fun j hj => if_neg (fun z => by have := hge j hj z.1; omega))
        have hab : u_ab L q (99 - t) nf = 0 := sm_none (fun j hj => if_neg (fun z => by have := hge j hj z.1; omega))
        rw [if_neg (fun z => absurd z.2 (by omega)), hw]
    have hS1 : sm (fun t => u_wt L q (99 - t) nf) (100 - L 7 q) = u_ct L q nf := by
      unfold u_wt
      rw [sm_swap (fun t j => if u_is L q j ∧ L 2 (4 * j + 3) = 99 - t then 1 else 0) nf]
      refine sm_eq nf (fun j hj => ?_)
      show sm (fun t => if u_is L q j ∧ L 2 (4 * j + 3) = 99 - t then 1 else 0) (100 - L 7 q) = if u_is L q j then 1 else 0
      by_cases hi : u_is L q j
      · obtain ⟨g1, g2⟩ := h1 j hj hi
        rw [if_pos hi, sm_eq (G := fun t => if t = 99 - L 2 (4 * j + 3) then 1 else 0) _ (fun t ht => by
          show (if u_is L q j ∧ L 2 (4 * j + 3) = 99 - t then 1 else 0) = if t = 99 - L 2 (4 * j + 3) then 1 else 0
          by_cases hc : t = 99 - L 2 (4 * j + 3)
          · rw [if_pos hc, if_pos ⟨hi, by omega⟩]
          · rw [if_neg hc, if_neg (fun z => hc (by omega))])]
        exact sm_one (by omega)
      · rw [if_neg hi]
        exact sm_none (fun t _ => if_neg (fun z => hi z.1))
    have hS2 := sm_eq (100 - L 7 q) hT
    rw [sm_add (fun t => if u_wt L q (99 - t) nf = 0 ∧ 0 < u_ab L q (99 - t) nf then 1 else 0) (fun t => u_wt L q (99 - t) nf), hS1, sm_from] at hS2
    have hS3 : u_lk L q nf (100 - L 7 q) + u_ct L q nf = 100 - L 7 q - (99 - u_mx L q nf) := hS2
    omega
