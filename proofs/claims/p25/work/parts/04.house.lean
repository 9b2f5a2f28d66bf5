/-! ===== what the house does, as functions of its ints ===== -/
abbrev rng (x a b : Int32) : Prop := a ≤ x ∧ x ≤ b
abbrev ix (x : Int32) (n : Nat) : Prop := 0 ≤ x.toInt ∧ x.toInt < (n : Int)
theorem ix_iff {x : Int32} {n : Nat} (hn : n < 2 ^ 31) : ix x n ↔ ∃ j : Nat, j < n ∧ x = nI j := by
  constructor
  · intro h
    exact vp_in_of (vp_in_iff.mpr h) hn
  · rintro ⟨j, hj, rfl⟩
    exact vp_in_iff.mp (vp_in_nI hj hn)
theorem ix_nI {j n : Nat} (hj : j < n) (hn : n < 2 ^ 31) : ix (nI j) n := (ix_iff hn).mpr ⟨j, hj, rfl⟩
theorem ix_of {x : Int32} {n : Nat} (hn : n < 2 ^ 31) (h0 : ¬ x < 0) (h1 : x < nI n) : ix x n := by
  obtain ⟨j, hj, rfl⟩ := nI_of h0
  refine ix_nI ?_ hn
  exact (nI_ltI hj hn).mp h1
theorem ix_not_neg {x : Int32} {n : Nat} (hn : n < 2 ^ 31) (h : x < 0) : ¬ ix x n := by
  intro hx
  obtain ⟨j, hj, rfl⟩ := (ix_iff hn).mp hx
  exact nI_pos (by omega) h
theorem ix_not_big {x : Int32} {n : Nat} (hn : n < 2 ^ 31) (h : nI n ≤ x) : ¬ ix x n := by
  intro hx
  obtain ⟨j, hj, rfl⟩ := (ix_iff hn).mp hx
  exact absurd ((nI_leI hn (by omega)).mp h) (by omega)
theorem nlt_le {x y : Int32} (h : ¬ x < y) : y ≤ x := Int32.not_lt.mp h
theorem nle_lt {x y : Int32} (h : ¬ x ≤ y) : y < x := Int32.not_le.mp h
theorem lt_nle {x y : Int32} (h : x < y) : ¬ y ≤ x := Int32.not_le.mpr h
theorem le_nlt {x y : Int32} (h : x ≤ y) : ¬ y < x := Int32.not_lt.mpr h
/-- the first place, the last place of a kind -/
def firstp (P : Nat → Bool) : Nat → Option Nat
  | 0 => none
  | n + 1 => match firstp P n with
    | some j => some j
    | none => if P n = true then some n else none
/-- the exceptions by their places -/
def exn (k : Nat) : String := match k with
  | 1 => "java/lang/IndexOutOfBoundsException"
  | 2 => "java/lang/IllegalArgumentException"
  | _ => "java/lang/IllegalStateException"
abbrev rh_V : Type := Nat → Nat → Nat → Int32
abbrev rh_R : Type := Nat → Nat → Nat
def c_ch (v : rh_V) (i : Nat) (s : Int32) : Int32 := v 5 i 2 + v 5 i 1 * ((s + v 5 i 0 - 1) / v 5 i 0)
/-- the pair of a call -/
def c_pr (r : rh_R) (c : Nat) : Nat := r 8 (r 9 c)
abbrev c_right (r : rh_R) (v : rh_V) (c : Nat) : Prop := v 9 c 2 = c_ch v (c_pr r c / 4) (v 9 c 1)
def c_yr (m : Int32) : Nat := (m / 12).toNatClampNeg
abbrev c_disc (v : rh_V) (q y : Nat) (a : Int32) : Prop := ¬ (if v 6 q 5 = 0 then a else v 7 q y) < v 6 q 3
def c_cut (x y : Int32) : Int32 := x - (x.toInt64 * y.toInt64 / 10000).toInt32
def c_amt (r : rh_R) (v : rh_V) (c : Nat) : Int32 :=
  if v 9 c 3 = 0 ∨ v 9 c 3 = 4 then 0 else if c_disc v (c_pr r c) (c_yr (v 9 c 4)) (v 9 c 6) then c_cut (v 9 c 2) (v 6 (c_pr r c) 4) else v 9 c 2
def c_acc1 (r : rh_R) (v : rh_V) (c : Nat) (m : Int32) : rh_V :=
  wr (wr (wr (wr v 9 c 3 1) 9 c 4 m) 9 c 6 (v 7 (c_pr r c) (c_yr m))) 7 (c_pr r c) (c_yr m) (v 7 (c_pr r c) (c_yr m) + v 9 c 1)
def c_wrong (r : rh_R) (v : rh_V) (f : Nat) : Nat → Int32
  | 0 => 0
  | n + 1 => if r 9 n = f ∧ ¬ c_right r v n then c_wrong r v f n + 1 else c_wrong r v f n
def c_acc (r : rh_R) (v : rh_V) (f : Nat) : Nat → rh_V
  | 0 => v
  | n + 1 => if r 9 n = f ∧ c_right r (c_acc r v f n) n then c_acc1 r (c_acc r v f n) n (v 0 0 6) else c_acc r v f n
def c_look (r : rh_R) (v : rh_V) (nc f : Nat) : rh_V :=
  if 2 < v 0 0 6 - v 8 f 1 then wr v 8 f 2 3 else if v 8 f 3 < c_wrong r v f nc * 3 then wr v 8 f 2 4 else c_acc r (wr v 8 f 2 5) f nc
def c_isw (r : rh_R) (v : rh_V) (q : Nat) (x : Int32) (j : Nat) : Bool := decide (r 8 j = q ∧ v 8 j 2 = 2 ∧ v 8 j 4 = x)
def c_wait (r : rh_R) (v : rh_V) (nf q : Nat) (x : Int32) : Option Nat := firstp (c_isw r v q x) nf
def c_all (r : rh_R) (nf nc q : Nat) : Nat → rh_V → Option Nat → rh_V
  | 0, v, _ => v
  | _ + 1, v, none => v
  | n + 1, v, some f => c_all r nf nc q n (wr (c_look r v nc f) 6 q 1 (c_look r v nc f 6 q 1 + 1)) (c_wait r (wr (c_look r v nc f) 6 q 1 (c_look r v nc f 6 q 1 + 1)) nf q (c_look r v nc f 6 q 1 + 1))
def c_send (r : rh_R) (v : rh_V) (nf nc f : Nat) (x : Int32) : rh_V :=
  if x < v 6 (r 8 f) 1 ∨ c_wait r v nf (r 8 f) x ≠ none then wr v 8 f 2 1
  else if v 6 (r 8 f) 1 < x then wr (wr v 8 f 4 x) 8 f 2 2 else c_all r nf nc (r 8 f) 30 v (some f)
def c_gb (v : rh_V) : Nat → rh_V
  | 0 => v
  | n + 1 => if c_gb v n 9 n 3 = 2 ∧ ¬ v 0 0 6 - c_gb v n 9 n 5 < 2 then wr (c_gb v n) 9 n 3 4 else c_gb v n
def c_sum (r : rh_R) (v : rh_V) (q : Nat) (a b : Int32) : Nat → Int64
  | 0 => 0
  | n + 1 => if c_pr r n = q ∧ ¬ v 9 n 4 < a ∧ ¬ b < v 9 n 4 then c_sum r v q a b n + (c_amt r v n).toInt64 else c_sum r v q a b n
def c_units (r : rh_R) (v : rh_V) (nc q : Nat) (m : Int32) : Int64 := c_sum r v q m m nc * (v 5 (q / 4) 3).toInt64 / 1000
/-- how many files of a pair wait, and the greatest of their numbers -/
def c_wn (r : rh_R) (v : rh_V) (q : Nat) : Nat → Int32
  | 0 => 0
  | n + 1 => if r 8 n = q ∧ v 8 n 2 = 2 then c_wn r v q n + 1 else c_wn r v q n
def c_wg (r : rh_R) (v : rh_V) (q : Nat) : Nat → Int32
  | 0 => 0
  | n + 1 => if r 8 n = q ∧ v 8 n 2 = 2 then (if c_wg r v q n < v 8 n 4 then v 8 n 4 else c_wg r v q n) else c_wg r v q n
/-- the house's shape: files, calls and their owners, counts, steps that divide, the month -/
def rh_wf (nf nc : Nat) (r : rh_R) (v : rh_V) : Prop :=
  nf ≤ 30 ∧ nc ≤ 60 ∧ (∀ i, i < nf → r 8 i < 16) ∧ (∀ i, i < nc → r 9 i < nf) ∧ v 0 0 3 = nI nf ∧ v 0 0 5 = nI nc ∧ (∀ i, i < 4 → ¬ v 5 i 0 = 0) ∧ (∃ t : Nat, t < 36 ∧ v 0 0 6 = nI t) ∧ (∀ i, i < nc → ¬ v 9 i 3 = 0 → ∃ t : Nat, t < 36 ∧ v 9 i 4 = nI t)
theorem c_yr_of {t : Nat} (h : t < 36) : nI t / 12 = nI (t / 12) ∧ c_yr (nI t) = t / 12 := by
  have e : nI t / 12 = nI (t / 12) := pk_div (a := t) (d := 12) (by omega) (by decide) (by decide)
  refine ⟨e, ?_⟩
  unfold c_yr
  rw [e, nI_clamp (by omega)]
theorem rh_pq {h m : Nat} (hh : h < 4) (hm : m < 4) : nI h * 4 + nI m = nI (h * 4 + m) ∧ h * 4 + m < 16 := by
  refine ⟨?_, by omega⟩
  rw [show (4 : Int32) = nI 4 from rfl, pk_mul, nI_add]
theorem rh_h4 {i : Nat} (h : i < 16) : i / 4 < 4 := by omega
/-! first places -/
theorem firstp_step {P : Nat → Bool} {n : Nat} (h : firstp P n = none) (hp : ¬ P n = true) : firstp P (n + 1) = none := by
  simp only [firstp, h, if_neg hp]
theorem firstp_hit {P : Nat → Bool} {n : Nat} (h : firstp P n = none) (hp : P n = true) : firstp P (n + 1) = some n := by
  simp only [firstp, h, if_pos hp]
theorem firstp_mono {P : Nat → Bool} {a j : Nat} (h : firstp P a = some j) (b : Nat) : a ≤ b → firstp P b = some j := by
  induction b with
  | zero => intro hb; rw [show a = 0 by omega] at h; exact h
  | succ b ih =>
    intro hb
    by_cases hab : a ≤ b
    · simp only [firstp, ih hab]
    · rw [show b + 1 = a by omega]; exact h
theorem firstp_none {P : Nat → Bool} : ∀ n : Nat, firstp P n = none → ∀ i : Nat, i < n → ¬ P i = true
  | 0, _, i, hi => absurd hi (by omega)
  | n + 1, h, i, hi => by
    cases hf : firstp P n with
    | some k => simp only [firstp, hf] at h; cases h
    | none =>
      simp only [firstp, hf] at h
      by_cases hp : P n = true
      · rw [if_pos hp] at h; cases h
      · by_cases hin : i < n
        · exact firstp_none n hf i hin
        · rw [show i = n by omega]; exact hp
theorem firstp_some {P : Nat → Bool} {zj : Nat} : ∀ zn : Nat, firstp P zn = some zj → zj < zn ∧ P zj = true ∧ ∀ i : Nat, i < zj → ¬ P i = true
  | 0, h => by simp [firstp] at h
  | zn + 1, h => by
    cases hf : firstp P zn with
    | some zk =>
      simp only [firstp, hf] at h
      have he : zk = zj := Option.some.inj h
      rw [he] at hf
      obtain ⟨h1, h2, h3⟩ := firstp_some zn hf
      exact ⟨by omega, h2, h3⟩
    | none =>
      simp only [firstp, hf] at h
      by_cases hp : P zn = true
      · rw [if_pos hp] at h
        have he : zn = zj := Option.some.inj h
        refine ⟨by omega, by rw [← he]; exact hp, fun i hi => firstp_none zn hf i (by omega)⟩
      · rw [if_neg hp] at h; cases h
/-! the shape stays -/
theorem wf_wr {nf nc : Nat} {r : rh_R} {v : rh_V} (h : rh_wf nf nc r v) {k i j : Nat} {x : Int32} (h0 : k ≠ 0) (h5 : k ≠ 5) (h9 : k ≠ 9) : rh_wf nf nc r (wr v k i j x) := by
  obtain ⟨a, b, c, d, e, f, g, ⟨t, ht, hn⟩, hh⟩ := h
  refine ⟨a, b, c, d, ?_, ?_, fun q hq => ?_, ⟨t, ht, ?_⟩, fun q hq => ?_⟩
  · rw [wr_at, if_neg (by omega)]; exact e
  · rw [wr_at, if_neg (by omega)]; exact f
  · rw [wr_at, if_neg (by omega)]; exact g q hq
  · rw [wr_at, if_neg (by omega)]; exact hn
  · rw [wr_at, if_neg (by omega), wr_at, if_neg (by omega)]; exact hh q hq
theorem wf_wr9 {nf nc : Nat} {r : rh_R} {v : rh_V} (h : rh_wf nf nc r v) {i j : Nat} {x : Int32} (h3 : j ≠ 3) (h4 : j ≠ 4) : rh_wf nf nc r (wr v 9 i j x) := by
  obtain ⟨a, b, c, d, e, f, g, ⟨t, ht, hn⟩, hh⟩ := h
  refine ⟨a, b, c, d, ?_, ?_, fun q hq => ?_, ⟨t, ht, ?_⟩, fun q hq => ?_⟩
  · rw [wr_at, if_neg (by omega)]; exact e
  · rw [wr_at, if_neg (by omega)]; exact f
  · rw [wr_at, if_neg (by omega)]; exact g q hq
  · rw [wr_at, if_neg (by omega)]; exact hn
  · rw [wr_at, if_neg (by omega), wr_at, if_neg (by omega)]; exact hh q hq
/-- a call's state, where its month is known -/
theorem wf_wr93 {nf nc : Nat} {r : rh_R} {v : rh_V} (h : rh_wf nf nc r v) {i : Nat} {x : Int32} (hi : ∃ t : Nat, t < 36 ∧ v 9 i 4 = nI t) : rh_wf nf nc r (wr v 9 i 3 x) := by
  obtain ⟨a, b, c, d, e, f, g, ⟨t, ht, hn⟩, hh⟩ := h
  refine ⟨a, b, c, d, ?_, ?_, fun q hq => ?_, ⟨t, ht, ?_⟩, fun q hq => ?_⟩
  · rw [wr_at, if_neg (by omega)]; exact e
  · rw [wr_at, if_neg (by omega)]; exact f
  · rw [wr_at, if_neg (by omega)]; exact g q hq
  · rw [wr_at, if_neg (by omega)]; exact hn
  · rw [wr_at v 9 i 3 x 9 q 4, if_neg (by omega)]
    by_cases hqi : q = i
    · subst hqi; exact fun _ => hi
    · rw [wr_at, if_neg (by omega)]; exact hh q hq
theorem c_acc1_wf {nf nc : Nat} {r : rh_R} {v : rh_V} (h : rh_wf nf nc r v) {k t : Nat} (ht : t < 36) : rh_wf nf nc r (c_acc1 r v k (nI t)) := by
  unfold c_acc1
  refine wf_wr (wf_wr9 ?_ (by decide) (by decide)) (by decide) (by decide) (by decide)
  obtain ⟨a, b, c, d, e, f, g, ⟨t', ht', hn⟩, hh⟩ := h
  refine ⟨a, b, c, d, ?_, ?_, fun q hq => ?_, ⟨t', ht', ?_⟩, fun q hq => ?_⟩
  · rw [wr_at, if_neg (by omega), wr_at, if_neg (by omega)]; exact e
  · rw [wr_at, if_neg (by omega), wr_at, if_neg (by omega)]; exact f
  · rw [wr_at, if_neg (by omega), wr_at, if_neg (by omega)]; exact g q hq
  · rw [wr_at, if_neg (by omega), wr_at, if_neg (by omega)]; exact hn
  · by_cases hqk : q = k
    · subst hqk
      intro _
      exact ⟨t, ht, by rw [wr_at, if_pos ⟨rfl, rfl, rfl⟩]⟩
    · rw [wr_at, if_neg (by omega), wr_at, if_neg (by omega), wr_at, if_neg (by omega), wr_at, if_neg (by omega)]
      exact hh q hq
theorem c_acc_now {r : rh_R} {v : rh_V} {f : Nat} : ∀ n : Nat, c_acc r v f n 0 = v 0
  | 0 => rfl
  | n + 1 => by
    unfold c_acc
    by_cases hc : r 9 n = f ∧ c_right r (c_acc r v f n) n
    · rw [if_pos hc]
      funext i j
      unfold c_acc1
      rw [wr_at, if_neg (by omega), wr_at, if_neg (by omega), wr_at, if_neg (by omega), wr_at, if_neg (by omega), c_acc_now n]
    · rw [if_neg hc]; exact c_acc_now n
theorem c_acc_wf {nf nc : Nat} {r : rh_R} {v : rh_V} {f : Nat} (h : rh_wf nf nc r v) : ∀ n : Nat, rh_wf nf nc r (c_acc r v f n)
  | 0 => h
  | n + 1 => by
    unfold c_acc
    by_cases hc : r 9 n = f ∧ c_right r (c_acc r v f n) n
    · rw [if_pos hc]
      obtain ⟨t, ht, hn⟩ := h.2.2.2.2.2.2.2.1
      rw [hn]
      exact c_acc1_wf (c_acc_wf h n) ht
    · rw [if_neg hc]; exact c_acc_wf h n
theorem c_look_wf {nf nc : Nat} {r : rh_R} {v : rh_V} {f : Nat} (h : rh_wf nf nc r v) : rh_wf nf nc r (c_look r v nc f) := by
  unfold c_look
  by_cases h1 : 2 < v 0 0 6 - v 8 f 1
  · rw [if_pos h1]; exact wf_wr h (by decide) (by decide) (by decide)
  · rw [if_neg h1]
    by_cases h2 : v 8 f 3 < c_wrong r v f nc * 3
    · rw [if_pos h2]; exact wf_wr h (by decide) (by decide) (by decide)
    · rw [if_neg h2]; exact c_acc_wf (wf_wr h (by decide) (by decide) (by decide)) nc
theorem c_all_wf {nf nc q : Nat} {r : rh_R} : ∀ (n : Nat) (v : rh_V) (o : Option Nat), rh_wf nf nc r v → rh_wf nf nc r (c_all r nf nc q n v o)
  | 0, v, o, h => by cases o <;> exact h
  | n + 1, v, none, h => h
  | n + 1, v, some f, h => by
    unfold c_all
    exact c_all_wf n _ _ (wf_wr (c_look_wf h) (by decide) (by decide) (by decide))
theorem c_gb_wf {nf nc : Nat} {r : rh_R} {v : rh_V} (h : rh_wf nf nc r v) : ∀ n : Nat, n ≤ nc → rh_wf nf nc r (c_gb v n)
  | 0, _ => h
  | n + 1, hn => by
    unfold c_gb
    have ih := c_gb_wf h n (by omega)
    by_cases hc : c_gb v n 9 n 3 = 2 ∧ ¬ v 0 0 6 - c_gb v n 9 n 5 < 2
    · rw [if_pos hc]
      refine wf_wr93 ih (ih.2.2.2.2.2.2.2.2 n (by omega) ?_)
      rw [hc.1]
      decide
    · rw [if_neg hc]; exact ih
theorem c_gb_now {v : rh_V} : ∀ n : Nat, c_gb v n 0 = v 0
  | 0 => rfl
  | n + 1 => by
    unfold c_gb
    by_cases hc : c_gb v n 9 n 3 = 2 ∧ ¬ v 0 0 6 - c_gb v n 9 n 5 < 2
    · rw [if_pos hc]
      funext i j
      rw [wr_at, if_neg (by omega), c_gb_now n]
    · rw [if_neg hc]; exact c_gb_now n
