/-! ===== the model's world ===== -/
/-- the model's cells: 10 the model, 20 and on its rows, by their fields' places; ints w by field and place, its own numbers in row 26 -/
def m_n (k : Nat) : Nat := match k with
  | 10 => 1
  | 20 => 1
  | 21 => 1
  | 22 => 1
  | 23 => 1
  | 25 => 1
  | 26 => 1
  | 27 => 1
  | 28 => 1
  | 30 => 1
  | 31 => 1
  | 32 => 1
  | 33 => 1
  | 34 => 1
  | 35 => 1
  | 37 => 1
  | 38 => 1
  | 39 => 1
  | 40 => 1
  | 41 => 1
  | 42 => 1
  | 43 => 1
  | _ => 0
abbrev rh_Wm : Type := Nat → Nat → Int32
def m_c (ca : Nat → ClassId) (ad : Nat → Nat → Nat) (w : rh_Wm) (th : Int32) (k : Nat) : va_E := match k with
  | 10 => .inr (5, [.ref (ad 20 0), .ref (ad 21 0), .ref (ad 22 0), .ref (ad 23 0), .int (w 26 4), .ref (ad 25 0), .ref (ad 26 0), .ref (ad 27 0), .ref (ad 28 0), .int (w 26 9), .ref (ad 30 0), .ref (ad 31 0), .ref (ad 32 0), .ref (ad 33 0), .ref (ad 34 0), .ref (ad 35 0), .int (w 26 16), .ref (ad 37 0), .ref (ad 38 0), .ref (ad 39 0), .ref (ad 40 0), .ref (ad 41 0), .ref (ad 42 0), .ref (ad 43 0), .int (w 26 24), .int th])
  | 20 => .inl (ca 0, 4, .inl (w 0))
  | 21 => .inl (ca 0, 4, .inl (w 1))
  | 22 => .inl (ca 0, 4, .inl (w 2))
  | 23 => .inl (ca 0, 4, .inl (w 3))
  | 25 => .inl (ca 0, 30, .inl (w 5))
  | 26 => .inl (ca 0, 30, .inl (w 6))
  | 27 => .inl (ca 0, 30, .inl (w 7))
  | 28 => .inl (ca 0, 30, .inl (w 8))
  | 30 => .inl (ca 0, 60, .inl (w 10))
  | 31 => .inl (ca 0, 60, .inl (w 11))
  | 32 => .inl (ca 0, 60, .inl (w 12))
  | 33 => .inl (ca 0, 60, .inl (w 13))
  | 34 => .inl (ca 0, 60, .inl (w 14))
  | 35 => .inl (ca 0, 60, .inl (w 15))
  | 37 => .inl (ca 0, 60, .inl (w 17))
  | 38 => .inl (ca 0, 16, .inl (w 18))
  | 39 => .inl (ca 1, 16, .inl (w 19))
  | 40 => .inl (ca 0, 16, .inl (w 20))
  | 41 => .inl (ca 0, 16, .inl (w 21))
  | 42 => .inl (ca 1, 16, .inl (w 22))
  | _ => .inl (ca 0, 16, .inl (w 23))
def m_W (G : va_G) (ca : Nat → ClassId) (ad : Nat → Nat → Nat) (w : rh_Wm) (th : Int32) (H : Heap) : Prop := ∀ k i : Nat, i < m_n k → va_at G vwCl (ad k i, m_c ca ad w th k) H
theorem m_W.at {G : va_G} {ca : Nat → ClassId} {ad : Nat → Nat → Nat} {w : rh_Wm} {th : Int32} {H : Heap} (h : m_W G ca ad w th H) (k i : Nat) (hi : i < m_n k) : va_at G vwCl (ad k i, m_c ca ad w th k) H := h k i hi
def wm (w : rh_Wm) (q j : Nat) (x : Int32) : rh_Wm := va_up w q (va_up (w q) j x)
theorem wm_at (w : rh_Wm) (q j : Nat) (x : Int32) (a b : Nat) : wm w q j x a b = if a = q ∧ b = j then x else w a b := by
  by_cases h1 : a = q
  · subst h1
    by_cases h2 : b = j <;> simp [wm, va_up, h2]
  · simp [wm, va_up, h1]
theorem wm_row (w : rh_Wm) (q j : Nat) (x : Int32) : wm w q j x q = va_up (w q) j x := by simp [wm, va_up]
theorem wm_other (w : rh_Wm) (q j : Nat) (x : Int32) {a : Nat} (h : a ≠ q) : wm w q j x a = w a := by simp [wm, va_up, h]
theorem m_n_one {k i : Nat} (h : i < m_n k) : i = 0 := by
  unfold m_n at h
  split at h <;> omega
theorem m_key {k : Nat} (h : 0 < m_n k) : k = 10 ∨ k = 20 ∨ k = 21 ∨ k = 22 ∨ k = 23 ∨ k = 25 ∨ k = 26 ∨ k = 27 ∨ k = 28 ∨ k = 30 ∨ k = 31 ∨ k = 32 ∨ k = 33 ∨ k = 34 ∨ k = 35 ∨ k = 37 ∨ k = 38 ∨ k = 39 ∨ k = 40 ∨ k = 41 ∨ k = 42 ∨ k = 43 := by
  unfold m_n at h
  split at h <;> omega
theorem m_c_row {ca : Nat → ClassId} {ad : Nat → Nat → Nat} {w : rh_Wm} {th : Int32} {q j k : Nat} {x : Int32} (hk : 0 < m_n k) (hq : q ≠ 26) (hne : k ≠ q + 20) : m_c ca ad (wm w q j x) th k = m_c ca ad w th k := by
  rcases m_key hk with rfl | rfl | rfl | rfl | rfl | rfl | rfl | rfl | rfl | rfl | rfl | rfl | rfl | rfl | rfl | rfl | rfl | rfl | rfl | rfl | rfl | rfl
  · simp only [m_c, wm_other w q j x (Ne.symm hq)]
  all_goals (simp only [m_c]; rw [wm_other w q j x (by omega)])
theorem m_c_num {ca : Nat → ClassId} {ad : Nat → Nat → Nat} {w : rh_Wm} {th : Int32} {j k : Nat} {x : Int32} (hk : 0 < m_n k) (hne : k ≠ 10) : m_c ca ad (wm w 26 j x) th k = m_c ca ad w th k := by
  rcases m_key hk with rfl | rfl | rfl | rfl | rfl | rfl | rfl | rfl | rfl | rfl | rfl | rfl | rfl | rfl | rfl | rfl | rfl | rfl | rfl | rfl | rfl | rfl
  · exact absurd rfl hne
  all_goals (simp only [m_c]; rw [wm_other w 26 j x (by omega)])
/-- a row of the model is set -/
theorem m_W.row {G : va_G} {ca : Nat → ClassId} {A : Nat → Prop} {ad : Nat → Nat → Nat} {w : rh_Wm} {th : Int32} {H H1 : Heap} (h : m_W G ca ad w th H) (hD : rh_D A ad (fun k i => i < m_n k)) {q j : Nat} {x : Int32} (hq : q ≠ 26) (hk : 0 < m_n (q + 20)) (hat : va_at G vwCl (ad (q + 20) 0, m_c ca ad (wm w q j x) th (q + 20)) H1) (oq : ∀ z : Nat, z ≠ ad (q + 20) 0 → H1[z]? = H[z]?) : m_W G ca ad (wm w q j x) th H1 := by
  intro k i hi
  have hi0 := m_n_one hi
  subst hi0
  by_cases hkq : k = q + 20
  · subst hkq; exact hat
  · have hold := h k 0 hi
    rw [m_c_row hi hq hkq]
    exact hold.kept (oq _ (fun z => hkq (hD.1 k 0 (q + 20) 0 hi hk z).1))
theorem m_c_th {ca : Nat → ClassId} {ad : Nat → Nat → Nat} {w : rh_Wm} {th x : Int32} {k : Nat} (hk : 0 < m_n k) (hne : k ≠ 10) : m_c ca ad w x k = m_c ca ad w th k := by
  rcases m_key hk with rfl | rfl | rfl | rfl | rfl | rfl | rfl | rfl | rfl | rfl | rfl | rfl | rfl | rfl | rfl | rfl | rfl | rfl | rfl | rfl | rfl | rfl
  · exact absurd rfl hne
  all_goals rfl
/-- the code of what was thrown is set -/
theorem m_W.thr {G : va_G} {ca : Nat → ClassId} {A : Nat → Prop} {ad : Nat → Nat → Nat} {w : rh_Wm} {th : Int32} {H H1 : Heap} (h : m_W G ca ad w th H) (hD : rh_D A ad (fun k i => i < m_n k)) {x : Int32} (hat : va_at G vwCl (ad 10 0, m_c ca ad w x 10) H1) (oq : ∀ z : Nat, z ≠ ad 10 0 → H1[z]? = H[z]?) : m_W G ca ad w x H1 := by
  intro k i hi
  have hi0 := m_n_one hi
  subst hi0
  by_cases hkq : k = 10
  · subst hkq; exact hat
  · have hold := h k 0 hi
    rw [m_c_th (th := th) hi hkq]
    exact hold.kept (oq _ (fun z => hkq (hD.1 k 0 10 0 hi Nat.zero_lt_one z).1))
/-- a number of the model is set -/
theorem m_W.num {G : va_G} {ca : Nat → ClassId} {A : Nat → Prop} {ad : Nat → Nat → Nat} {w : rh_Wm} {th : Int32} {H H1 : Heap} (h : m_W G ca ad w th H) (hD : rh_D A ad (fun k i => i < m_n k)) {j : Nat} {x : Int32} (hat : va_at G vwCl (ad 10 0, m_c ca ad (wm w 26 j x) th 10) H1) (oq : ∀ z : Nat, z ≠ ad 10 0 → H1[z]? = H[z]?) : m_W G ca ad (wm w 26 j x) th H1 := by
  intro k i hi
  have hi0 := m_n_one hi
  subst hi0
  by_cases hkq : k = 10
  · subst hkq; exact hat
  · have hold := h k 0 hi
    rw [m_c_num hi hkq]
    exact hold.kept (oq _ (fun z => hkq (hD.1 k 0 10 0 hi Nat.zero_lt_one z).1))
section MRW
variable {p : Program} {l : Launch} {e : Env} {R : Room} {s : State} {m : MethodId} {args : Array Value} {below : List Frame} {meth : Method} {c : Code} {H : Heap} {locs : List Loc} {cells slots : Nat} {Q : State → Prop}
variable {cc : ByteArray} {pc : Nat} {ls : Array Slot} {rest : List Value} {G : va_G} {H0 : Heap} {A : Nat → Prop} {ca : Nat → ClassId} {ad : Nat → Nat → Nat} {w : rh_Wm} {th : Int32}
theorem m_put (hexec : p.tables.exec = Jvm.exec) (hb : c.code = cc) {index : Nat} {Ts : List Cond} (hts : ∀ w ∈ Ts, w.before args s = true) (hin : ∀ w ∈ u_ws RX5 TX5 26, w ∈ Ts) (hown : s.vm.findClass RX5 = some m.cls) (hE : rh_E G ca A s) (hW : m_W G ca ad w th H) (hD : rh_D A ad (fun k i => i < m_n k)) (hS0 : va_S A H0 H locs) {fs : List Value} (hc : m_c ca ad w th 10 = .inr (5, fs)) (j : Nat) (hj : j < 26) (hlink : (Cond.fieldLink RX5 index (TX5 j).1 (TX5 j).2.1 (TX5 j).2.2.1).before args s = true) (hfin : (TX5 j).2.2.2 = false) {x : Int32} (hn : narrow (tyX5 j) (.int x) = .int x) (hfit : fits (tyX5 j) (.int x) = true) (hl : j < fs.length) (he : .inr (5, fs.set j (.int x)) = m_c ca ad (wm w 26 j x) th 10) (hdg : decode cc pc = .ok (.putfield index, 3))
    (kk : ∀ (H1 : Heap) (locs1 : List Loc), m_W G ca ad (wm w 26 j x) th H1 → va_S A H0 H1 locs1 → W p l e R s m args below meth c H1 locs1 cells slots Q (F0 m (pc + 3) ls rest)) : W p l e R s m args below meth c H locs cells slots Q (F0 m pc ls (.int x :: .ref (ad 10 0) :: rest)) :=
  rh_put0 hexec hb hts hin tyX5 tyX5_ok nmX5 hown hE (hc ▸ hW.at 10 0 Nat.zero_lt_one) rfl hS0 (hD.2 10 0 Nat.zero_lt_one) j hj hlink hfin hn hfit hl hdg fun H1 locs1 h1 h2 h3 h4 => kk H1 locs1 (hW.num hD (he ▸ h1) h3) h4
theorem m_putt (hexec : p.tables.exec = Jvm.exec) (hb : c.code = cc) {index : Nat} {Ts : List Cond} (hts : ∀ w ∈ Ts, w.before args s = true) (hin : ∀ w ∈ u_ws RX5 TX5 26, w ∈ Ts) (hown : s.vm.findClass RX5 = some m.cls) (hE : rh_E G ca A s) (hW : m_W G ca ad w th H) (hD : rh_D A ad (fun k i => i < m_n k)) (hS0 : va_S A H0 H locs) {fs : List Value} (hc : m_c ca ad w th 10 = .inr (5, fs)) (hlink : (Cond.fieldLink RX5 index (TX5 25).1 (TX5 25).2.1 (TX5 25).2.2.1).before args s = true) (hfin : (TX5 25).2.2.2 = false) {x : Int32} (hn : narrow (tyX5 25) (.int x) = .int x) (hfit : fits (tyX5 25) (.int x) = true) (hl : 25 < fs.length) (he : .inr (5, fs.set 25 (.int x)) = m_c ca ad w x 10) (hdg : decode cc pc = .ok (.putfield index, 3))
    (kk : ∀ (H1 : Heap) (locs1 : List Loc), m_W G ca ad w x H1 → va_S A H0 H1 locs1 → W p l e R s m args below meth c H1 locs1 cells slots Q (F0 m (pc + 3) ls rest)) : W p l e R s m args below meth c H locs cells slots Q (F0 m pc ls (.int x :: .ref (ad 10 0) :: rest)) :=
  rh_put0 hexec hb hts hin tyX5 tyX5_ok nmX5 hown hE (hc ▸ hW.at 10 0 Nat.zero_lt_one) rfl hS0 (hD.2 10 0 Nat.zero_lt_one) 25 (by decide) hlink hfin hn hfit hl hdg fun H1 locs1 h1 h2 h3 h4 => kk H1 locs1 (hW.thr hD (he ▸ h1) h3) h4
theorem m_iast (hexec : p.tables.exec = Jvm.exec) (hb : c.code = cc) (hE : rh_E G ca A s) (hW : m_W G ca ad w th H) (hD : rh_D A ad (fun k i => i < m_n k)) (hS0 : va_S A H0 H locs) (q : Nat) {n : Nat} (hq : q ≠ 26) (hk : 0 < m_n (q + 20)) {f : Nat → Int32} (hc : m_c ca ad w th (q + 20) = .inl (ca 0, n, .inl f)) (j : Nat) (hj : j < n) (hn : n < 2 ^ 31) {y : Int32} (hy : y = nI j) {x : Int32} (he : .inl (ca 0, n, .inl (va_up f j x)) = m_c ca ad (wm w q j x) th (q + 20)) (hdg : decode cc pc = .ok (.iastore, 1))
    (kk : ∀ (H1 : Heap) (locs1 : List Loc), m_W G ca ad (wm w q j x) th H1 → va_S A H0 H1 locs1 → W p l e R s m args below meth c H1 locs1 cells slots Q (F0 m (pc + 1) ls rest)) : W p l e R s m args below meth c H locs cells slots Q (F0 m pc ls (.int x :: .int y :: .ref (ad (q + 20) 0) :: rest)) :=
  rh_iast0 hexec hb hE (hc ▸ hW.at (q + 20) 0 hk) hS0 (hD.2 (q + 20) 0 hk) j hj hn hy hdg fun H1 locs1 h1 h2 h3 h4 => kk H1 locs1 (hW.row hD hq hk (he ▸ h1) h3) h4
theorem m_zast (hexec : p.tables.exec = Jvm.exec) (hb : c.code = cc) (hE : rh_E G ca A s) (hW : m_W G ca ad w th H) (hD : rh_D A ad (fun k i => i < m_n k)) (hS0 : va_S A H0 H locs) (q : Nat) {n : Nat} (hq : q ≠ 26) (hk : 0 < m_n (q + 20)) {f : Nat → Int32} (hc : m_c ca ad w th (q + 20) = .inl (ca 1, n, .inl f)) (j : Nat) (hj : j < n) (hn : n < 2 ^ 31) {y : Int32} (hy : y = nI j) {x : Int32} (hx : vp_nar .boolean x = x) (he : .inl (ca 1, n, .inl (va_up f j x)) = m_c ca ad (wm w q j x) th (q + 20)) (hdg : decode cc pc = .ok (.bastore, 1))
    (kk : ∀ (H1 : Heap) (locs1 : List Loc), m_W G ca ad (wm w q j x) th H1 → va_S A H0 H1 locs1 → W p l e R s m args below meth c H1 locs1 cells slots Q (F0 m (pc + 1) ls rest)) : W p l e R s m args below meth c H locs cells slots Q (F0 m pc ls (.int x :: .int y :: .ref (ad (q + 20) 0) :: rest)) :=
  rh_zast0 hexec hb hE (hc ▸ hW.at (q + 20) 0 hk) hS0 (hD.2 (q + 20) 0 hk) j hj hn hy hx hdg fun H1 locs1 h1 h2 h3 h4 => kk H1 locs1 (hW.row hD hq hk (he ▸ h1) h3) h4
end MRW
