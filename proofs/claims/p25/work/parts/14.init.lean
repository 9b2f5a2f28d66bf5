/-! ===== the house's own constructor ===== -/
section RHI
variable {p : Program} {l : Launch} {e : Env} {R : Room} {s : State} {m : MethodId} {args : Array Value} {below : List Frame} {meth : Method} {c : Code} {H : Heap} {locs : List Loc} {cells slots : Nat} {Q : State → Prop}
variable {cc : ByteArray} {pc : Nat} {ls : Array Slot} {rest st0 : List Value} {G : va_G} {H0 : Heap} {A : Nat → Prop} {ca : Nat → ClassId}
/-- a new row of references -/
theorem rh_newq0 (hexec : p.tables.exec = Jvm.exec) (hb : c.code = cc) {own C : String} {index : Nat} (hown : s.vm.findClass own = some m.cls) (hclink : (Cond.classLink own index C).before args s = true) (hover : va_AO C s) (t0 : Nat) {cA0 : ClassId} (ht : (rh_ty ca)[t0]? = some (cA0, .object C)) (hE : rh_E G ca A s) (hS : va_S A H0 H locs)
    {n : Int32} (N' : Nat) (hn : ¬ n < 0) (hN : n.toNatClampNeg = N') (hbytes : N' * 4 ≤ 536870912) (hcells : cells + 1 ≤ R.cells) (hslots : slots + N' ≤ R.slots) (hdg : decode cc pc = .ok (.anewarray index, 3))
    (kk : ∀ (q : Nat) (H1 : Heap), q = H.size → va_at G vwCl (q, .inl (cA0, N', .inr (.inr (.inr (.inr (fun _ => none)))))) H1 → H1.size = H.size + 1 → (∀ x : Nat, x < H.size → H1[x]? = H[x]?) → va_S A H0 H1 locs →
      W p l e R s m args below meth c H1 locs (cells + 1) (slots + N') Q (F0 m (pc + 3) ls (.ref q :: rest))) : W p l e R s m args below meth c H locs cells slots Q (F0 m pc ls (.int n :: rest)) := by
  subst hN
  refine W.anew hexec hb hown hclink (va_AO.use hover) rfl hdg rfl hn hbytes hcells hslots fun cA kA comp f1 f2 f3 f4 => ?_
  obtain ⟨kA', comp', g1, g2, g3, g4⟩ := (hE.1.2 t0 _ ht).2
  have hcA : cA = cA0 := Option.some.inj (f1.symm.trans g4)
  subst hcA
  generalize hH1 : H.push ({ cls := cA, slots := Array.replicate n.toNatClampNeg .null, vm := .none } : Cell) = H1
  have z1 : H1.size = H.size + 1 := by rw [← hH1, Array.size_push]
  have e1 : H1[H.size]? = some (arrV cA n.toNatClampNeg (fun _ => .null)) := by rw [← hH1, Array.getElem?_push_size, ← arrV_new]
  have o1 : ∀ q : Nat, q < H.size → H1[q]? = H[q]? := fun q hq => by rw [← hH1, Array.getElem?_push, if_neg (Nat.ne_of_lt hq)]
  refine kk H.size H1 rfl ?_ z1 o1 ⟨Nat.le_trans hS.1 (by omega), fun x h1 h2 => (o1 x (Nat.lt_of_lt_of_le h1 hS.1)).trans (hS.2.1 x h1 h2), hS.2.2⟩
  show H1[H.size]? = some (vp_cell _ _)
  rw [vp_cell_q]
  exact e1
end RHI
/-- the house while it is built: no operators, np pairs stand -/
def i_n (no np : Nat) (k : Nat) : Nat := match k with
  | 0 => 1
  | 1 => 1
  | 2 => 1
  | 3 => 1
  | 4 => 1
  | 5 => no
  | 6 => np
  | 7 => np
  | _ => 0
def v_init : rh_V := fun k _ j => match k with
  | 5 => (match j with | 0 => 60 | 1 => 10 | 2 => 0 | 3 => 1000 | _ => 0)
  | 6 => (match j with | 1 => 1 | _ => 0)
  | _ => 0
def i_c (ca : Nat → ClassId) (ad : Nat → Nat → Nat) (no np : Nat) (k i : Nat) : va_E := match k with
  | 0 => .inr (4, [.ref (ad 1 0), .ref (ad 2 0), .ref (ad 3 0), .int 0, .ref (ad 4 0), .int 0, .int 0])
  | 1 => .inl (ca 3, 4, .inr (.inr (.inr (.inr (fun j => if j < no then some (ad 5 j) else none)))))
  | 2 => .inl (ca 4, 16, .inr (.inr (.inr (.inr (fun j => if j < np then some (ad 6 j) else none)))))
  | 3 => .inl (ca 5, 30, .inr (.inr (.inr (.inr (fun _ => none)))))
  | 4 => .inl (ca 6, 60, .inr (.inr (.inr (.inr (fun _ => none)))))
  | 5 => .inr (2, [.int 60, .int 10, .int 0, .int 1000])
  | 6 => .inr (3, [.ref (ad 5 (i / 4)), .int 1, .int 0, .int 0, .int 0, .int 0, .ref (ad 7 i)])
  | _ => .inl (ca 0, 3, .inl (fun _ => 0))
def i_W (G : va_G) (ca : Nat → ClassId) (ad : Nat → Nat → Nat) (no np : Nat) (H : Heap) : Prop := ∀ k i : Nat, i < i_n no np k → va_at G vwCl (ad k i, i_c ca ad no np k i) H
theorem i_n_op {no np k i : Nat} (h : i < i_n (no + 1) np k) : i < i_n no np k ∨ (k = 5 ∧ i = no) := by
  by_cases hk : k = 5
  · subst hk
    have h' : i < no + 1 := h
    by_cases hi : i = no
    · exact Or.inr ⟨rfl, hi⟩
    · exact Or.inl (show i < no by omega)
  · refine Or.inl ?_
    unfold i_n at h ⊢
    split at h <;> first | exact h | (exact absurd rfl hk) | omega
theorem i_n_pr {no np k i : Nat} (h : i < i_n no (np + 1) k) : i < i_n no np k ∨ (k = 6 ∧ i = np) ∨ (k = 7 ∧ i = np) := by
  by_cases hk : k = 6
  · subst hk
    have h' : i < np + 1 := h
    by_cases hi : i = np
    · exact Or.inr (Or.inl ⟨rfl, hi⟩)
    · exact Or.inl (show i < np by omega)
  · by_cases hk7 : k = 7
    · subst hk7
      have h' : i < np + 1 := h
      by_cases hi : i = np
      · exact Or.inr (Or.inr ⟨rfl, hi⟩)
      · exact Or.inl (show i < np by omega)
    · refine Or.inl ?_
      unfold i_n at h ⊢
      split at h <;> first | exact h | (exact absurd rfl hk) | (exact absurd rfl hk7) | omega
theorem i_c_op {ca : Nat → ClassId} {ad : Nat → Nat → Nat} {no np q : Nat} (hnp : np ≤ 4 * no) {k i : Nat} (hi : i < i_n no np k) (h1 : k ≠ 1) (h5 : ¬ (k = 5 ∧ i = no)) : i_c ca (ad2 ad 5 no q) (no + 1) np k i = i_c ca ad no np k i := by
  match k, hi, h1, h5 with
  | 0, _, _, _ => rfl
  | 1, _, h, _ => exact absurd rfl h
  | 2, _, _, _ => rfl
  | 3, _, _, _ => rfl
  | 4, _, _, _ => rfl
  | 5, _, _, _ => rfl
  | 6, hi, _, _ =>
    have hi' : i < np := hi
    show Sum.inr (3, [Value.ref (ad2 ad 5 no q 5 (i / 4)), _, _, _, _, _, _]) = _
    rw [ad2_ne ad 5 no q (by omega)]
    rfl
  | 7, _, _, _ => rfl
  | k + 8, hi, _, _ => exact absurd (show i < 0 from hi) (Nat.not_lt_zero _)
theorem i_c_pr {ca : Nat → ClassId} {ad : Nat → Nat → Nat} {no np q q9 : Nat} {k i : Nat} (hi : i < i_n no np k) (h2 : k ≠ 2) : i_c ca (ad2 (ad2 ad 6 np q) 7 np q9) no (np + 1) k i = i_c ca ad no np k i := by
  match k, hi, h2 with
  | 0, _, _ => rfl
  | 1, _, _ => rfl
  | 2, _, h => exact absurd rfl h
  | 3, _, _ => rfl
  | 4, _, _ => rfl
  | 5, _, _ => rfl
  | 6, hi, _ =>
    have hi' : i < np := hi
    show Sum.inr (3, [Value.ref (ad2 (ad2 ad 6 np q) 7 np q9 5 (i / 4)), _, _, _, _, _, Value.ref (ad2 (ad2 ad 6 np q) 7 np q9 7 i)]) = _
    rw [ad2_ne _ 7 np q9 (by omega), ad2_ne _ 7 np q9 (by omega), ad2_ne ad 6 np q (by omega), ad2_ne ad 6 np q (by omega)]
    rfl
  | 7, _, _ => rfl
  | k + 8, hi, _ => exact absurd (show i < 0 from hi) (Nat.not_lt_zero _)
theorem i_row (f : Nat → Nat) (n q : Nat) (g : Nat → Nat) (hg : ∀ j, j ≠ n → g j = f j) (hn : g n = q) : (fun j => if j < n + 1 then some (g j) else none) = va_up (fun j => if j < n then some (f j) else none) n (some q) := by
  funext j
  by_cases hj : j = n
  · subst hj
    rw [va_up_self, if_pos (Nat.lt_succ_self _), hn]
  · rw [va_up_ne _ _ hj, hg j hj]
    by_cases hjn : j < n
    · rw [if_pos hjn, if_pos (by omega)]
    · rw [if_neg hjn, if_neg (by omega)]
theorem i_W.op {G : va_G} {ca : Nat → ClassId} {A : Nat → Prop} {ad : Nat → Nat → Nat} {no np : Nat} {H H3 : Heap} (h : i_W G ca ad no np H) (hD : rh_D A ad (fun k i => i < i_n no np k)) (hnp : np ≤ 4 * no) {q : Nat} (hq : q = H.size) (hqA : A q)
    (hf : va_at G vwCl (q, .inr (2, [.int 60, .int 10, .int 0, .int 1000])) H3) (hrow : va_at G vwCl (ad 1 0, .inl (ca 3, 4, .inr (.inr (.inr (.inr (va_up (fun j => if j < no then some (ad 5 j) else none) no (some q))))))) H3) (ho : ∀ x : Nat, x < H.size → x ≠ ad 1 0 → H3[x]? = H[x]?) :
    i_W G ca (ad2 ad 5 no q) (no + 1) np H3 ∧ rh_D A (ad2 ad 5 no q) (fun k i => i < i_n (no + 1) np k) := by
  refine ⟨fun k i hi => ?_, hD.grow (sz := H.size) (fun k i hk => i_n_op hk) (fun z => Nat.lt_irrefl no z) (fun k i hk => (h k i hk).lt) hq hqA⟩
  by_cases h5 : k = 5 ∧ i = no
  · obtain ⟨rfl, rfl⟩ := h5
    rw [ad2_self]; exact hf
  · have hi' := (i_n_op hi).resolve_right h5
    rw [ad2_ne ad 5 no q h5]
    by_cases h1 : k = 1
    · subst h1
      have hi0 : i = 0 := Nat.lt_one_iff.mp (show i < 1 from hi')
      subst hi0
      show va_at G vwCl (ad 1 0, .inl (ca 3, 4, .inr (.inr (.inr (.inr (fun j => if j < no + 1 then some (ad2 ad 5 no q 5 j) else none)))))) H3
      rw [i_row (ad 5) no q (ad2 ad 5 no q 5) (fun j hj => ad2_ne ad 5 no q (by omega)) (ad2_self ad 5 no q)]
      exact hrow
    · rw [i_c_op hnp hi' h1 h5]
      have hold := h k i hi'
      exact hold.kept (ho _ hold.lt (fun z => h1 (hD.1 k i 1 0 hi' Nat.zero_lt_one z).1))
theorem i_W.pr {G : va_G} {ca : Nat → ClassId} {A : Nat → Prop} {ad : Nat → Nat → Nat} {no np : Nat} {H H3 : Heap} (h : i_W G ca ad no np H) (hD : rh_D A ad (fun k i => i < i_n no np k)) {q q9 : Nat} (hq : q = H.size) (hqA : A q) (hq9 : H.size < q9) (hqA9 : A q9)
    (hf : va_at G vwCl (q, .inr (3, [.ref (ad 5 (np / 4)), .int 1, .int 0, .int 0, .int 0, .int 0, .ref q9])) H3) (hf9 : va_at G vwCl (q9, .inl (ca 0, 3, .inl (fun _ => 0))) H3) (hrow : va_at G vwCl (ad 2 0, .inl (ca 4, 16, .inr (.inr (.inr (.inr (va_up (fun j => if j < np then some (ad 6 j) else none) np (some q))))))) H3) (ho : ∀ x : Nat, x < H.size → x ≠ ad 2 0 → H3[x]? = H[x]?) :
    i_W G ca (ad2 (ad2 ad 6 np q) 7 np q9) no (np + 1) H3 ∧ rh_D A (ad2 (ad2 ad 6 np q) 7 np q9) (fun k i => i < i_n no (np + 1) k) := by
  have hlt : ∀ k i, i < i_n no np k → ad k i < H.size := fun k i hk => (h k i hk).lt
  have hD1 : rh_D A (ad2 ad 6 np q) (fun k i => i < i_n no np k ∨ (k = 6 ∧ i = np)) := hD.grow (sz := H.size) (fun k i hk => hk) (fun z => Nat.lt_irrefl np z) hlt hq hqA
  refine ⟨fun k i hi => ?_, hD1.grow (sz := q9) (k0 := 7) (i0 := np) (fun k i hk => (i_n_pr hk).elim (fun z => Or.inl (Or.inl z)) (fun z => z.elim (fun w => Or.inl (Or.inr w)) (fun w => Or.inr w))) (fun z => z.elim (fun w => Nat.lt_irrefl np w) (fun w => by omega)) (fun k i hk => ?_) rfl hqA9⟩
  · by_cases h7 : k = 7 ∧ i = np
    · obtain ⟨rfl, rfl⟩ := h7
      rw [ad2_self]; exact hf9
    · rw [ad2_ne _ 7 np q9 h7]
      by_cases h6 : k = 6 ∧ i = np
      · obtain ⟨rfl, rfl⟩ := h6
        rw [ad2_self]
        show va_at G vwCl (q, .inr (3, [Value.ref (ad2 (ad2 ad 6 i q) 7 i q9 5 (i / 4)), .int 1, .int 0, .int 0, .int 0, .int 0, Value.ref (ad2 (ad2 ad 6 i q) 7 i q9 7 i)])) H3
        rw [ad2_self, ad2_ne _ 7 i q9 (by omega), ad2_ne ad 6 i q (by omega)]
        exact hf
      · have hi' : i < i_n no np k := ((i_n_pr hi).resolve_right (fun z => z.elim h6 h7))
        rw [ad2_ne ad 6 np q h6]
        by_cases h2 : k = 2
        · subst h2
          have hi0 : i = 0 := Nat.lt_one_iff.mp (show i < 1 from hi')
          subst hi0
          show va_at G vwCl (ad 2 0, .inl (ca 4, 16, .inr (.inr (.inr (.inr (fun j => if j < np + 1 then some (ad2 (ad2 ad 6 np q) 7 np q9 6 j) else none)))))) H3
          rw [i_row (ad 6) np q (ad2 (ad2 ad 6 np q) 7 np q9 6) (fun j hj => by rw [ad2_ne _ 7 np q9 (by omega), ad2_ne ad 6 np q (by omega)]) (by rw [ad2_ne _ 7 np q9 (by omega), ad2_self])]
          exact hrow
        · rw [i_c_pr hi' h2]
          have hold := h k i hi'
          exact hold.kept (ho _ hold.lt (fun z => h2 (hD.1 k i 2 0 hi' Nat.zero_lt_one z).1))
  · rcases hk with hk | ⟨rfl, rfl⟩
    · by_cases h6 : k = 6 ∧ i = np
      · obtain ⟨rfl, rfl⟩ := h6
        rw [ad2_self]; omega
      · rw [ad2_ne ad 6 np q h6]
        have := hlt k i hk
        omega
    · rw [ad2_self]; omega
theorem va_at_row {G : va_G} {a n : Nat} {cA : ClassId} {f g : Nat → Option Nat} {H : Heap} (h : va_at G vwCl (a, .inl (cA, n, .inr (.inr (.inr (.inr f))))) H) (he : ∀ j, j < n → f j = g j) : va_at G vwCl (a, .inl (cA, n, .inr (.inr (.inr (.inr g))))) H := by
  have h' : H[a]? = some (arrV cA n (fun j => va_rf (f j))) := h
  show H[a]? = some (arrV cA n (fun j => va_rf (g j)))
  rw [h']
  unfold arrV
  congr 3
  funext j
  show va_rf (f j.val) = va_rf (g j.val)
  rw [he j.val j.isLt]
theorem i_W.done {G : va_G} {ca : Nat → ClassId} {A : Nat → Prop} {ad : Nat → Nat → Nat} {H : Heap} (r : rh_R) (h : i_W G ca ad 4 16 H) (hD : rh_D A ad (fun k i => i < i_n 4 16 k)) : rh_W G ca ad 0 0 r v_init H ∧ rh_D A ad (fun k i => i < rh_n 0 0 k) := by
  have hn : ∀ k i, i < rh_n 0 0 k → i < i_n 4 16 k := by
    intro k i hk
    match k, hk with
    | 0, hk => exact hk
    | 1, hk => exact hk
    | 2, hk => exact hk
    | 3, hk => exact hk
    | 4, hk => exact hk
    | 5, hk => exact hk
    | 6, hk => exact hk
    | 7, hk => exact hk
    | 8, hk => exact absurd (show i < 0 from hk) (Nat.not_lt_zero _)
    | 9, hk => exact absurd (show i < 0 from hk) (Nat.not_lt_zero _)
    | k + 10, hk => exact absurd (show i < 0 from hk) (Nat.not_lt_zero _)
  refine ⟨fun k i e he => ?_, fun k i k' i' h1 h2 e => hD.1 k i k' i' (hn k i h1) (hn k' i' h2) e, fun k i h1 => hD.2 k i (hn k i h1)⟩
  unfold rh_ce at he
  by_cases hi : i < rh_n 0 0 k
  · rw [if_pos hi] at he
    have he := Option.some.inj he
    rw [← he]
    have hold := h k i (hn k i hi)
    match k, hi, hold with
    | 0, _, hold => exact hold
    | 1, _, hold => exact va_at_row hold (fun j hj => if_pos hj)
    | 2, _, hold => exact va_at_row hold (fun j hj => if_pos hj)
    | 3, _, hold => exact va_at_row hold (fun j hj => (if_neg (Nat.not_lt_zero j)).symm)
    | 4, _, hold => exact va_at_row hold (fun j hj => (if_neg (Nat.not_lt_zero j)).symm)
    | 5, _, hold => exact hold
    | 6, _, hold => exact hold
    | 7, _, hold => exact hold
    | 8, hk, _ => exact absurd (show i < 0 from hk) (Nat.not_lt_zero _)
    | 9, hk, _ => exact absurd (show i < 0 from hk) (Nat.not_lt_zero _)
    | k + 10, hk, _ => exact absurd (show i < 0 from hk) (Nat.not_lt_zero _)
  · rw [if_neg hi] at he; cases he
