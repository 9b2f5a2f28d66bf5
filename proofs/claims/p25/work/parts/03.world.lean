/-! ===== rows over a world by kinds ===== -/
section RHC
variable {p : Program} {l : Launch} {e : Env} {R : Room} {s : State} {m : MethodId} {args : Array Value} {below : List Frame} {meth : Method} {c : Code} {H : Heap} {locs : List Loc} {cells slots : Nat} {Q : State → Prop}
variable {cc : ByteArray} {pc : Nat} {ls : Array Slot} {rest : List Value} {G : va_G} {a : Nat} {tys : List (ClassId × FieldType)} {H0 : Heap} {A : Nat → Prop} {ca : Nat → ClassId}
/-- a field is read -/
theorem rh_get (hexec : p.tables.exec = Jvm.exec) (hb : c.code = cc) {own C : String} {T : u_T} {N ci index : Nat} {Ts : List Cond} (hts : ∀ w ∈ Ts, w.before args s = true) (hin : ∀ w ∈ u_ws C T N, w ∈ Ts) (hown : s.vm.findClass own = some m.cls) (hE : rh_E G ca A s) {fs : List Value} (hat : va_at G vwCl (a, .inr (ci, fs)) H) (hc : vwCl[ci]? = some (C, T, N)) (k : Nat) (hk : k < N) (hlink : (Cond.fieldLink own index (T k).1 (T k).2.1 (T k).2.2.1).before args s = true) {v : Value} (hv : fs[k]? = some v) (hdg : decode cc pc = .ok (.getfield index, 3))
    (kk : W p l e R s m args below meth c H locs cells slots Q (F0 m (pc + 3) ls (v :: rest))) : W p l e R s m args below meth c H locs cells slots Q (F0 m pc ls (.ref a :: rest)) :=
  va_get hexec hb hts hin hown hE.1 (rh_one hat) 0 rfl hc k hk hlink (fun _ h => h) hv hdg kk
/-- an int array is read -/
theorem rh_iald (hexec : p.tables.exec = Jvm.exec) (hb : c.code = cc) (hE : rh_E G ca A s) {n : Nat} {f : Nat → Int32} (hat : va_at G vwCl (a, .inl (ca 0, n, .inl f)) H) (j : Nat) (hj : j < n) (hn : n < 2 ^ 31) {i : Int32} (hi : i = nI j) (hdg : decode cc pc = .ok (.iaload, 1))
    (kk : W p l e R s m args below meth c H locs cells slots Q (F0 m (pc + 1) ls (.int (f j) :: rest))) : W p l e R s m args below meth c H locs cells slots Q (F0 m pc ls (.int i :: .ref a :: rest)) := by
  subst hi
  refine va_iald hexec hb hE.1 (rh_one hat) 0 0 rfl rfl (vp_in_nI hj hn) hdg ?_
  rw [nI_clamp (by omega)]
  exact kk
theorem rh_lald (hexec : p.tables.exec = Jvm.exec) (hb : c.code = cc) (hE : rh_E G ca A s) {n : Nat} {f : Nat → Int64} (hat : va_at G vwCl (a, .inl (ca 2, n, .inr (.inl f))) H) (j : Nat) (hj : j < n) (hn : n < 2 ^ 31) {i : Int32} (hi : i = nI j) (hdg : decode cc pc = .ok (.laload, 1))
    (kk : W p l e R s m args below meth c H locs cells slots Q (F0 m (pc + 1) ls (.long (f j) :: rest))) : W p l e R s m args below meth c H locs cells slots Q (F0 m pc ls (.int i :: .ref a :: rest)) := by
  subst hi
  refine va_lald hexec hb hE.1 (rh_one hat) 0 2 rfl rfl (vp_in_nI hj hn) hdg ?_
  rw [nI_clamp (by omega)]
  exact kk
/-- an array of references is read -/
theorem rh_qald (hexec : p.tables.exec = Jvm.exec) (hb : c.code = cc) (hE : rh_E G ca A s) {n : Nat} {f : Nat → Option Nat} (t0 : Nat) {cA : ClassId} {C : String} (ht : (rh_ty ca)[t0]? = some (cA, .object C)) (hat : va_at G vwCl (a, .inl (cA, n, .inr (.inr (.inr (.inr f))))) H) (j : Nat) (hj : j < n) (hn : n < 2 ^ 31) {i : Int32} (hi : i = nI j) {q : Nat} (hq : f j = some q) (hdg : decode cc pc = .ok (.aaload, 1))
    (kk : W p l e R s m args below meth c H locs cells slots Q (F0 m (pc + 1) ls (.ref q :: rest))) : W p l e R s m args below meth c H locs cells slots Q (F0 m pc ls (.int i :: .ref a :: rest)) := by
  subst hi
  refine va_aldq hexec hb hE.1 (rh_one hat) 0 t0 rfl ht (vp_in_nI hj hn) hdg ?_
  rw [nI_clamp (by omega), hq]
  exact kk
theorem rh_alen (hexec : p.tables.exec = Jvm.exec) (hb : c.code = cc) (hE : rh_E G ca A s) (t0 : Nat) {cA : ClassId} {x : vp_A} {ty : FieldType} (ht : (rh_ty ca)[t0]? = some (cA, ty)) (hat : va_at G vwCl (a, .inl (cA, x)) H) (hdg : decode cc pc = .ok (.arraylength, 1))
    (kk : W p l e R s m args below meth c H locs cells slots Q (F0 m (pc + 1) ls (.int (nI x.1) :: rest))) : W p l e R s m args below meth c H locs cells slots Q (F0 m pc ls (.ref a :: rest)) :=
  va_alen hexec hb hE.1 (rh_one hat) 0 t0 rfl ht rfl hdg kk
/-- stores: the heap behind them -/
theorem rh_put0 (hexec : p.tables.exec = Jvm.exec) (hb : c.code = cc) {own C : String} {T : u_T} {N ci index : Nat} {Ts : List Cond} (hts : ∀ w ∈ Ts, w.before args s = true) (hin : ∀ w ∈ u_ws C T N, w ∈ Ts) (ty0 : Nat → FieldType) (hty : ∀ k, k < N → parseFieldDescriptor (T k).2.2.1 = some (ty0 k)) (hnm : ∀ a, a < N → ∀ b, b < N → a ≠ b → (T a).2.1 ≠ (T b).2.1) (hown : s.vm.findClass own = some m.cls) (hE : rh_E G ca A s) {fs : List Value} (hat : va_at G vwCl (a, .inr (ci, fs)) H) (hc : vwCl[ci]? = some (C, T, N)) (hS0 : va_S A H0 H locs) (ha : A a) (k : Nat) (hk : k < N) (hlink : (Cond.fieldLink own index (T k).1 (T k).2.1 (T k).2.2.1).before args s = true) (hfin : (T k).2.2.2 = false) {v : Value} (hn : narrow (ty0 k) v = v) (hfit : fits (ty0 k) v = true) (hl : k < fs.length) (hdg : decode cc pc = .ok (.putfield index, 3))
    (kk : ∀ (H1 : Heap) (locs1 : List Loc), va_at G vwCl (a, .inr (ci, fs.set k v)) H1 → H1.size = H.size → (∀ q : Nat, q ≠ a → H1[q]? = H[q]?) → va_S A H0 H1 locs1 → W p l e R s m args below meth c H1 locs1 cells slots Q (F0 m (pc + 3) ls rest)) : W p l e R s m args below meth c H locs cells slots Q (F0 m pc ls (v :: .ref a :: rest)) := by
  have hK := hE.1
  have hd := hty k hk
  have hap := va_apart (own := own) hts hin ty0 hty hnm hK hc
  obtain ⟨r, h1, cell, q1, q2, q3, q4⟩ := hat
  have hr : r = (C, T, N) := Option.some.inj (h1.symm.trans hc)
  subst hr
  obtain ⟨hS, hfc, kC, hkC, hkind⟩ := hK.1 ci _ hc
  obtain ⟨cf, kf, fi, f, hi, hsl⟩ := hS k hk
  have hlay := hts _ (hin _ (u_in_lay hk))
  unfold u_lay at hlay
  rw [if_neg (by rw [hfin]; decide)] at hlay
  have hst := (u_facts hfc hkC (u_lays hts hin hk) hi).1
  have h6 := u_store hfc hkC hkind hlay hi hd hn hfit
  refine W.putK hexec hb (f := f) ⟨hown, hlink, ⟨_, _, _, hi⟩, hst⟩ (by rw [q2]; exact h6) q1 q3 (by rw [hsl]; exact k2_hasslot (q4 k hk)) rfl rfl hdg fun H' e1 e2 e3 => ?_
  rw [hsl] at e1 ⊢
  exact kk H' _ ⟨_, hc, t_OB.to (V := updV (vp_V fs) k v) ⟨_, e1, q2, q3, t_set q4 hap hk v⟩ (fun j _ => vp_updV_set hl v j)⟩ e2 e3 (hS0.put e2 e3 ha)
theorem rh_iast0 (hexec : p.tables.exec = Jvm.exec) (hb : c.code = cc) (hE : rh_E G ca A s) {n : Nat} {f : Nat → Int32} (hat : va_at G vwCl (a, .inl (ca 0, n, .inl f)) H) (hS : va_S A H0 H locs) (hBa : A a) (j : Nat) (hj : j < n) (hn : n < 2 ^ 31) {i : Int32} (hi : i = nI j) {x : Int32} (hdg : decode cc pc = .ok (.iastore, 1))
    (kk : ∀ (H1 : Heap) (locs1 : List Loc), va_at G vwCl (a, .inl (ca 0, n, .inl (va_up f j x))) H1 → H1.size = H.size → (∀ q : Nat, q ≠ a → H1[q]? = H[q]?) → va_S A H0 H1 locs1 → W p l e R s m args below meth c H1 locs1 cells slots Q (F0 m (pc + 1) ls rest)) : W p l e R s m args below meth c H locs cells slots Q (F0 m pc ls (.int x :: .int i :: .ref a :: rest)) := by
  subst hi
  have hat' : H[a]? = some (vp_cell (ca 0) (n, .inl f)) := hat
  refine W.iast hexec hb hat' ((hE.1.2 0 _ rfl).1 n (fun j => .int (f j))) (fun q => by cases q) (by show ¬ (nI j < 0 ∨ (arrV _ _ _).slots.size ≤ _); rw [arrV_size]; exact vp_in_nI hj hn) rfl rfl hdg fun H1 e z oq => ?_
  refine kk H1 _ ?_ z oq (hS.put z oq hBa)
  show H1[a]? = some (vp_cell _ _)
  rw [e, nI_clamp (by omega)]
  rw [vp_cell_i, vp_cell_i, arrV_store]
  congr 2
  funext q
  by_cases hq : q = j
  · subst hq
    simp [updV, va_up]
  · simp [updV, va_up, hq]
theorem rh_last0 (hexec : p.tables.exec = Jvm.exec) (hb : c.code = cc) (hE : rh_E G ca A s) {n : Nat} {f : Nat → Int64} (hat : va_at G vwCl (a, .inl (ca 2, n, .inr (.inl f))) H) (hS : va_S A H0 H locs) (hBa : A a) (j : Nat) (hj : j < n) (hn : n < 2 ^ 31) {i : Int32} (hi : i = nI j) {x : Int64} (hdg : decode cc pc = .ok (.lastore, 1))
    (kk : ∀ (H1 : Heap) (locs1 : List Loc), va_at G vwCl (a, .inl (ca 2, n, .inr (.inl (va_up f j x)))) H1 → H1.size = H.size → (∀ q : Nat, q ≠ a → H1[q]? = H[q]?) → va_S A H0 H1 locs1 → W p l e R s m args below meth c H1 locs1 cells slots Q (F0 m (pc + 1) ls rest)) : W p l e R s m args below meth c H locs cells slots Q (F0 m pc ls (.long x :: .int i :: .ref a :: rest)) := by
  subst hi
  have hat' : H[a]? = some (vp_cell (ca 2) (n, .inr (.inl f))) := hat
  refine W.last hexec hb hat' ((hE.1.2 2 _ rfl).1 n (fun j => .long (f j))) (fun q => by cases q) (by show ¬ (nI j < 0 ∨ (arrV _ _ _).slots.size ≤ _); rw [arrV_size]; exact vp_in_nI hj hn) rfl rfl hdg fun H1 e z oq => ?_
  refine kk H1 _ ?_ z oq (hS.put z oq hBa)
  show H1[a]? = some (vp_cell _ _)
  rw [e, nI_clamp (by omega)]
  rw [vp_cell_l, vp_cell_l, arrV_store]
  congr 2
  funext q
  by_cases hq : q = j
  · subst hq
    simp [updV, va_up]
  · simp [updV, va_up, hq]
end RHC
/-! ===== the worlds of house and model ===== -/
/-- how many there are of a kind: 0 the house, 1 to 4 its rows, 5 operators, 6 pairs, 7 seconds by years, 8 files, 9 calls; 10 the model, 20 and on its rows by their fields' places; 50 the law's own row -/
def rh_n (nf nc : Nat) (k : Nat) : Nat := match k with
  | 0 => 1
  | 1 => 1
  | 2 => 1
  | 3 => 1
  | 4 => 1
  | 5 => 4
  | 6 => 16
  | 7 => 16
  | 8 => nf
  | 9 => nc
  | _ => 0
/-- a house's cells: ints v by kind, place and field; a file's pair, a call's file in r -/
def rh_c (ca : Nat → ClassId) (ad : Nat → Nat → Nat) (nf nc : Nat) (r : Nat → Nat → Nat) (f : Nat → Int32) (k i : Nat) : va_E := match k with
  | 0 => .inr (4, [.ref (ad 1 0), .ref (ad 2 0), .ref (ad 3 0), .int (f 3), .ref (ad 4 0), .int (f 5), .int (f 6)])
  | 1 => .inl (ca 3, 4, .inr (.inr (.inr (.inr (fun j => some (ad 5 j))))))
  | 2 => .inl (ca 4, 16, .inr (.inr (.inr (.inr (fun j => some (ad 6 j))))))
  | 3 => .inl (ca 5, 30, .inr (.inr (.inr (.inr (fun j => if j < nf then some (ad 8 j) else none)))))
  | 4 => .inl (ca 6, 60, .inr (.inr (.inr (.inr (fun j => if j < nc then some (ad 9 j) else none)))))
  | 5 => .inr (2, [.int (f 0), .int (f 1), .int (f 2), .int (f 3)])
  | 6 => .inr (3, [.ref (ad 5 (i / 4)), .int (f 1), .int (f 2), .int (f 3), .int (f 4), .int (f 5), .ref (ad 7 i)])
  | 7 => .inl (ca 0, 3, .inl f)
  | 8 => .inr (1, [.ref (ad 6 (r 8 i)), .int (f 1), .int (f 2), .int (f 3), .int (f 4)])
  | _ => .inr (0, [.ref (ad 8 (r 9 i)), .int (f 1), .int (f 2), .int (f 3), .int (f 4), .int (f 5), .int (f 6)])
def rh_ce (ca : Nat → ClassId) (ad : Nat → Nat → Nat) (nf nc : Nat) (r : Nat → Nat → Nat) (v : Nat → Nat → Nat → Int32) (k i : Nat) : Option va_E := if i < rh_n nf nc k then some (rh_c ca ad nf nc r (v k i) k i) else none
/-- the house in the heap -/
def rh_W (G : va_G) (ca : Nat → ClassId) (ad : Nat → Nat → Nat) (nf nc : Nat) (r : Nat → Nat → Nat) (v : Nat → Nat → Nat → Int32) (H : Heap) : Prop := rh_P G ad (rh_ce ca ad nf nc r v) H
theorem rh_W.at {G : va_G} {ca : Nat → ClassId} {ad : Nat → Nat → Nat} {nf nc : Nat} {r : Nat → Nat → Nat} {v : Nat → Nat → Nat → Int32} {H : Heap} (h : rh_W G ca ad nf nc r v H) (k i : Nat) (hi : i < rh_n nf nc k) : va_at G vwCl (ad k i, rh_c ca ad nf nc r (v k i) k i) H := h k i _ (if_pos hi)
/-- one int of the house is set -/
def wr (v : Nat → Nat → Nat → Int32) (k i j : Nat) (x : Int32) : Nat → Nat → Nat → Int32 := va_up v k (va_up (v k) i (va_up (v k i) j x))
theorem wr_at (v : Nat → Nat → Nat → Int32) (k i j : Nat) (x : Int32) (a b c : Nat) : wr v k i j x a b c = if a = k ∧ b = i ∧ c = j then x else v a b c := by
  by_cases h1 : a = k
  · subst h1
    by_cases h2 : b = i
    · subst h2
      by_cases h3 : c = j <;> simp [wr, va_up, h3]
    · simp [wr, va_up, h2]
  · simp [wr, va_up, h1]
theorem wr_row (v : Nat → Nat → Nat → Int32) (k i j : Nat) (x : Int32) : wr v k i j x k i = va_up (v k i) j x := by simp [wr, va_up]
theorem wr_other (v : Nat → Nat → Nat → Int32) (k i j : Nat) (x : Int32) {a b : Nat} (h : ¬ (a = k ∧ b = i)) : wr v k i j x a b = v a b := by
  by_cases h1 : a = k
  · subst h1
    have h2 : b ≠ i := fun z => h ⟨rfl, z⟩
    simp [wr, va_up, h2]
  · simp [wr, va_up, h1]
theorem rh_W.wr {G : va_G} {ca : Nat → ClassId} {ad : Nat → Nat → Nat} {nf nc : Nat} {r : Nat → Nat → Nat} {v : Nat → Nat → Nat → Int32} {H H1 : Heap} {A : Nat → Prop} (h : rh_W G ca ad nf nc r v H) (hD : rh_D A ad (fun k i => i < rh_n nf nc k)) {k i j : Nat} {x : Int32} (hi : i < rh_n nf nc k) {e : va_E} (he : va_at G vwCl (ad k i, e) H1) (hc : e = rh_c ca ad nf nc r (va_up (v k i) j x) k i) (oq : ∀ q : Nat, q ≠ ad k i → H1[q]? = H[q]?) : rh_W G ca ad nf nc r (wr v k i j x) H1 := by
  subst hc
  refine (rh_P.set h (ok := fun k i => i < rh_n nf nc k) (fun a b e he => ?_) hD hi he oq).to (fun a b e' h' => ?_)
  · unfold rh_ce at he
    by_cases hb : b < rh_n nf nc a
    · exact hb
    · rw [if_neg hb] at he; cases he
  · unfold rh_up
    by_cases hab : a = k ∧ b = i
    · obtain ⟨rfl, rfl⟩ := hab
      rw [if_pos ⟨rfl, rfl⟩]
      unfold rh_ce at h'
      rw [if_pos hi, wr_row] at h'
      exact h'
    · rw [if_neg hab]
      unfold rh_ce at h' ⊢
      rw [wr_other v k i j x hab] at h'
      exact h'
section RHW
variable {p : Program} {l : Launch} {e : Env} {R : Room} {s : State} {m : MethodId} {args : Array Value} {below : List Frame} {meth : Method} {c : Code} {H : Heap} {locs : List Loc} {cells slots : Nat} {Q : State → Prop}
variable {cc : ByteArray} {pc : Nat} {ls : Array Slot} {rest : List Value} {G : va_G} {H0 : Heap} {A : Nat → Prop} {ca : Nat → ClassId}
variable {ad : Nat → Nat → Nat} {nf nc : Nat} {r : Nat → Nat → Nat} {v : Nat → Nat → Nat → Int32}
/-- an int field of the house's objects is set -/
theorem rh_put (hexec : p.tables.exec = Jvm.exec) (hb : c.code = cc) {own C : String} {T : u_T} {N ci index : Nat} {Ts : List Cond} (hts : ∀ w ∈ Ts, w.before args s = true) (hin : ∀ w ∈ u_ws C T N, w ∈ Ts) (ty0 : Nat → FieldType) (hty : ∀ k, k < N → parseFieldDescriptor (T k).2.2.1 = some (ty0 k)) (hnm : ∀ a, a < N → ∀ b, b < N → a ≠ b → (T a).2.1 ≠ (T b).2.1) (hown : s.vm.findClass own = some m.cls) (hE : rh_E G ca A s) (hW : rh_W G ca ad nf nc r v H) (hD : rh_D A ad (fun k i => i < rh_n nf nc k)) (hS0 : va_S A H0 H locs) (hcl : vwCl[ci]? = some (C, T, N)) (k i : Nat) (hi : i < rh_n nf nc k) {fs : List Value} (hc : rh_c ca ad nf nc r (v k i) k i = .inr (ci, fs)) (j : Nat) (hj : j < N) (hlink : (Cond.fieldLink own index (T j).1 (T j).2.1 (T j).2.2.1).before args s = true) (hfin : (T j).2.2.2 = false) {x : Int32} (hn : narrow (ty0 j) (.int x) = .int x) (hfit : fits (ty0 j) (.int x) = true) (hl : j < fs.length) (he : .inr (ci, fs.set j (.int x)) = rh_c ca ad nf nc r (va_up (v k i) j x) k i) (hdg : decode cc pc = .ok (.putfield index, 3))
    (kk : ∀ (H1 : Heap) (locs1 : List Loc), rh_W G ca ad nf nc r (wr v k i j x) H1 → va_S A H0 H1 locs1 → W p l e R s m args below meth c H1 locs1 cells slots Q (F0 m (pc + 3) ls rest)) : W p l e R s m args below meth c H locs cells slots Q (F0 m pc ls (.int x :: .ref (ad k i) :: rest)) :=
  rh_put0 hexec hb hts hin ty0 hty hnm hown hE (hc ▸ hW.at k i hi) hcl hS0 (hD.2 k i hi) j hj hlink hfin hn hfit hl hdg fun H1 locs1 h1 h2 h3 h4 => kk H1 locs1 (hW.wr hD hi h1 he h3) h4
/-- a year's seconds are set -/
theorem rh_iast7 (hexec : p.tables.exec = Jvm.exec) (hb : c.code = cc) (hE : rh_E G ca A s) (hW : rh_W G ca ad nf nc r v H) (hD : rh_D A ad (fun k i => i < rh_n nf nc k)) (hS0 : va_S A H0 H locs) (i : Nat) (hi : i < 16) (j : Nat) (hj : j < 3) {y : Int32} (hy : y = nI j) {x : Int32} (hdg : decode cc pc = .ok (.iastore, 1))
    (kk : ∀ (H1 : Heap) (locs1 : List Loc), rh_W G ca ad nf nc r (wr v 7 i j x) H1 → va_S A H0 H1 locs1 → W p l e R s m args below meth c H1 locs1 cells slots Q (F0 m (pc + 1) ls rest)) : W p l e R s m args below meth c H locs cells slots Q (F0 m pc ls (.int x :: .int y :: .ref (ad 7 i) :: rest)) :=
  rh_iast0 hexec hb hE (hW.at 7 i hi) hS0 (hD.2 7 i hi) j hj (by omega) hy hdg fun H1 locs1 h1 h2 h3 h4 => kk H1 locs1 (hW.wr (k := 7) hD hi h1 rfl h3) h4
end RHW
