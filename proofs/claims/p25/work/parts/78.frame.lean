/-! ===== the law: the house and the law's own side by side ===== -/
def lH (A0 : Nat → Prop) (ua : Nat → Nat) (q : Nat) : Prop := A0 q ∧ ∀ k : Nat, k < 9 → ua k ≠ q
theorem rh_W.keep {G : va_G} {ca : Nat → ClassId} {ad : Nat → Nat → Nat} {nf nc : Nat} {r : rh_R} {v : rh_V} {H H1 : Heap} (h : rh_W G ca ad nf nc r v H) (hk : ∀ k i : Nat, i < rh_n nf nc k → H1[ad k i]? = H[ad k i]?) : rh_W G ca ad nf nc r v H1 := by
  refine rh_P.kept h (fun k i e he => hk k i ?_)
  unfold rh_ce at he
  by_cases hb : i < rh_n nf nc k
  · exact hb
  · rw [if_neg hb] at he; cases he
theorem rh_W.keptU {G : va_G} {ca : Nat → ClassId} {A0 : Nat → Prop} {ua : Nat → Nat} {ad : Nat → Nat → Nat} {nf nc : Nat} {r : rh_R} {v : rh_V} {H H1 : Heap} (h : rh_W G ca ad nf nc r v H) (hD : rh_D (lH A0 ua) ad (fun k i => i < rh_n nf nc k)) {k : Nat} (hk : k < 9) (ho : ∀ q : Nat, q ≠ ua k → H1[q]? = H[q]?) : rh_W G ca ad nf nc r v H1 :=
  h.keep fun a i hi => ho _ (fun z => (hD.2 a i hi).2 k hk z.symm)
theorem lH_up {G : va_G} {ca : Nat → ClassId} {A0 : Nat → Prop} {ua : Nat → Nat} {L : u_L} {n : Nat} {H : Heap} (hA : ∀ q : Nat, n ≤ q → A0 q) (hn : n ≤ H.size) (hU : u_W G ca ua L H) : ∀ q : Nat, H.size ≤ q → lH A0 ua q := fun q hq => ⟨hA q (by omega), fun k hk z => by have := hU.lt hk; omega⟩
/-- what holds in the law throughout -/
def lwC (p : Program) (l : Launch) (s : State) (m : MethodId) (c : Code) (G : va_G) (ca : Nat → ClassId) (A0 : Nat → Prop) (ua : Nat → Nat) (b Ls : Nat) (xs : Nat → Int32) : Prop :=
  p.tables.exec = Jvm.exec ∧ c.code = cL_law ∧ c.maxLocals = 24 ∧ s.vm.findClass RL = some m.cls ∧ (∀ w ∈ wsL_law, w.before #[Value.ref b] s = true) ∧ rh_E G ca A0 s ∧ (∀ x ∈ rh_nc, va_Nc x.1 x.2 s) ∧ l.stackTraces = false ∧ (∀ q : Nat, s.heap.size ≤ q → A0 q) ∧ ¬ A0 b ∧ b < s.heap.size ∧ va_X b Ls xs s s.heap ∧ Ls ≤ 260 ∧ u_D A0 ua
/-- .. and between its turns -/
def lwS (G : va_G) (ca : Nat → ClassId) (A0 : Nat → Prop) (ua : Nat → Nat) (h1 : Nat) (ad : Nat → Nat → Nat) (nf nc : Nat) (r : rh_R) (v : rh_V) (w : rh_Wm) (L : u_L) (H : Heap) : Prop :=
  ad 0 0 = h1 ∧ rh_W G ca ad nf nc r v H ∧ u_W G ca ua L H ∧ inv nf nc r v w ∧ lr nf nc r w L ∧ le7 nf L ∧ rh_D (lH A0 ua) ad (fun k i => i < rh_n nf nc k)
abbrev lwL (b h1 : Nat) (ua : Nat → Nat) : List (Nat × Value) := [(0, .ref b), (1, .ref h1), (2, .ref (ua 0)), (3, .ref (ua 1)), (4, .ref (ua 2)), (5, .ref (ua 3)), (6, .ref (ua 4)), (7, .ref (ua 5)), (8, .ref (ua 6)), (9, .ref (ua 7)), (10, .ref (ua 8))]
/-- the way on from a turn's end -/
def lwK (p : Program) (l : Launch) (e : Env) (s : State) (m : MethodId) (below : List Frame) (meth : Method) (c : Code) (G : va_G) (ca : Nat → ClassId) (A0 : Nat → Prop) (ua : Nat → Nat) (b h1 t y : Nat) (cells slots : Nat) (Q : State → Prop) : Prop :=
  ∀ (ad : Nat → Nat → Nat) (nf nc : Nat) (r : rh_R) (v : rh_V) (w : rh_Wm) (L : u_L) (H : Heap) (locs : List Loc) (ls : Array Slot), lwS G ca A0 ua h1 ad nf nc r v w L H → va_S A0 s.heap H locs → lv_has ls 24 [(0, .ref b), (1, .ref h1), (2, .ref (ua 0)), (3, .ref (ua 1)), (4, .ref (ua 2)), (5, .ref (ua 3)), (6, .ref (ua 4)), (7, .ref (ua 5)), (8, .ref (ua 6)), (9, .ref (ua 7)), (10, .ref (ua 8)), (11, .int (nI 1)), (12, .int (nI t)), (15, .int (nI y))] →
    W p l e room_1 s m #[Value.ref b] below meth c H locs (cells + 5) (slots + 40) Q (F0 m 1624 ls [])
theorem le7_eq {nf : Nat} {L L' : u_L} (h : le7 nf L) (h7 : L' 7 = L 7) (h2 : ∀ g : Nat, L' 2 (4 * g + 2) = L 2 (4 * g + 2)) : le7 nf L' := fun q hq => by
  rw [h7, dn_eq h2]; exact h q hq
theorem un_id (L : u_L) (k j : Nat) : un L k j (L k j) = L := by
  funext a b
  unfold un
  by_cases h : a = k ∧ b = j
  · rw [if_pos h, h.1, h.2]
  · rw [if_neg h]
theorem u_rg {x a b : Nat} (h1 : a ≤ x) (h2 : x ≤ b) (hb : b < 2147483648) : rng (nI x) (nI a) (nI b) := ⟨nI_le h1 (by omega), nI_le h2 hb⟩
theorem u_and (x : Int32) : ∃ z : Nat, z < 2147483648 ∧ x &&& nI 2147483647 = nI z := ⟨x.toBitVec.toNat % 2 ^ 31, Nat.mod_lt _ (by decide), pk_and x 31 (by decide)⟩
theorem u_addsub {a k : Nat} (h : 1 ≤ a) : nI a + (nI k - nI 1) = nI (a + k - 1) := by
  rw [← pk_sub (show 1 ≤ a + k by omega), ← nI_add, Int32.sub_eq_add_neg, Int32.sub_eq_add_neg, Int32.add_assoc]
theorem u_month {y m : Nat} (h : m < 36) : (¬ 1 < nI m - nI y) ∨ True := Or.inr trivial
section RLW
variable {p : Program} {l : Launch} {e : Env} {R : Room} {s : State} {m : MethodId} {args : Array Value} {below : List Frame} {meth : Method} {c : Code} {H : Heap} {locs : List Loc} {cells slots : Nat} {Q : State → Prop}
variable {cc : ByteArray} {pc : Nat} {ls : Array Slot} {rest : List Value} {H0 : Heap} {A : Nat → Prop}
/-- the script is read -/
theorem l_sld (hexec : p.tables.exec = Jvm.exec) (hb : c.code = cc) {b L : Nat} {xs : Nat → Int32} (hX : va_X b L xs s H0) (hbl : b < H0.size) (hbA : ¬ A b) (hS : va_S A H0 H locs) (hL : L ≤ 260) (j : Nat) (hj : j < L) {i : Int32} (hi : i = nI j) (hdg : decode cc pc = .ok (.iaload, 1))
    (kk : W p l e R s m args below meth c H locs cells slots Q (F0 m (pc + 1) ls (.int (xs j) :: rest))) : W p l e R s m args below meth c H locs cells slots Q (F0 m pc ls (.int i :: .ref b :: rest)) := by
  subst hi
  refine va_sld hexec hb hX hbl hbA hS (vp_in_nI hj (by omega)) hdg ?_
  rw [nI_clamp (by omega)]
  exact kk
end RLW
/-! a turn's pure facts -/
section TPF
variable {nf nc : Nat} {r : rh_R} {v : rh_V} {w : rh_Wm} {L : u_L}
theorem o_op (h : inv nf nc r v w) (hl : lr nf nc r w L) {i : Nat} (hi : i < 4) : v 5 i 1 = nI (L 1 (4 * i + 1)) ∧ v 5 i 3 = nI (L 1 (4 * i + 3)) := by
  obtain ⟨e0, e1, e2, e3⟩ := h.2.2.1 i hi
  obtain ⟨-, ⟨b1, -⟩, -, ⟨d1, -⟩⟩ := hl.2.2.1 i hi
  exact ⟨e1.trans b1, e3.trans d1⟩
theorem o_wst (hl : lr nf nc r w L) {f : Nat} (hf : f < nf) (x : Nat) (hx : x < 100) : w 7 f = nI x ↔ L 2 (4 * f + 2) = x := by
  obtain ⟨-, -, ⟨c1, c2⟩, -⟩ := hl.2.2.2.1.1 f hf
  rw [c1]
  exact ⟨fun z => m_inj (by omega) (by omega) z, fun z => by rw [z]⟩
theorem o_cst (hl : lr nf nc r w L) {c : Nat} (hc : c < nc) (x : Nat) (hx : x < 100) : w 13 c = nI x ↔ u_st L c = x := by
  obtain ⟨-, ⟨c1, c2⟩, -⟩ := hl.2.2.2.2.1 c hc
  rw [c1]
  exact ⟨fun z => m_inj (a := L 3 c / 16 % 8) (by omega) (by omega) z, fun z => congrArg nI z⟩
theorem o_size (h : inv nf nc r v w) (hl : lr nf nc r w L) {f : Nat} (hf : f < nf) : v 8 f 3 = nI (u_all L f nc) := by
  rw [(h.2.2.2.2.1 f hf).2.2.2, ← m_cnt_0 (w := w) nc]
  exact u_cnt0 hl.2.2.2.2.1 f nc (Nat.le_refl _)
theorem o_can (h : inv nf nc r v w) (hl : lr nf nc r w L) {c : Nat} (hc : c < nc) : (v 9 c 3 = 1 ∧ ¬ 1 < v 0 0 6 - v 9 c 4) ↔ (u_st L c = 1 ∧ L 0 3 - u_mo L c < 2) := by
  have hlk := o_lk h hl
  obtain ⟨e1, e2⟩ := o_call h hl hc
  obtain ⟨n1, n2⟩ := o_now h hl
  rw [e1, n1]
  constructor
  · rintro ⟨z1, z2⟩
    have hs : u_st L c = 1 := m_inj (b := 1) (by omega) (by decide) z1
    obtain ⟨-, -, -, m1, -⟩ := lk_c hlk hc (by omega)
    rw [(o_month h hl hc).2 (by omega), pk_sub m1, show (1 : Int32) = nI 1 from rfl, nI_ltI (by decide) (by omega)] at z2
    exact ⟨hs, by omega⟩
  · rintro ⟨z1, z2⟩
    obtain ⟨-, -, -, m1, -⟩ := lk_c hlk hc (by omega)
    refine ⟨congrArg nI z1, ?_⟩
    rw [(o_month h hl hc).2 (by omega), pk_sub m1, show (1 : Int32) = nI 1 from rfl, nI_ltI (by decide) (by omega)]
    omega
theorem o_late (h : inv nf nc r v w) (hl : lr nf nc r w L) : ∀ c : Nat, c < nc → L 3 c / 16 % 8 = 2 → L 0 3 ≤ L 3 c / 8192 + 1 ∧ L 3 c / 8192 ≤ L 0 3 := by
  intro c hc hs
  obtain ⟨t, ht, hv, hw, -, hd, -⟩ := h.2.2.2.2.2.2.2.2.1
  obtain ⟨-, -, -, n3, n4⟩ := hl.2.1
  have ht' : t = L 0 3 := m_inj (by omega) (by omega) (hw.symm.trans n4)
  obtain ⟨⟨a1, a2⟩, ⟨b1, b2⟩, -, d1, -⟩ := hl.2.2.2.2.1 c hc
  obtain ⟨d2, d3⟩ := d1 hs
  obtain ⟨d, h1, h2, h3⟩ := hd c hc (by rw [b1, hs]; rfl)
  have := m_inj (by omega) (by omega) (d2.symm.trans h1)
  omega
theorem le7_begin (h : le7 nf L) {q x : Nat} : le7 (nf + 1) (un (un (un L 2 (4 * nf) q) 2 (4 * nf + 1) x) 0 0 (nf + 1)) := fun z hz => by
  have h1 := h z hz
  have h2 : u_dn (un (un (un L 2 (4 * nf) q) 2 (4 * nf + 1) x) 0 0 (nf + 1)) nf = u_dn L nf := dn_eq (fun g => by
    show un (un L 2 (4 * nf) q) 2 (4 * nf + 1) x 2 (4 * g + 2) = _
    rw [un_ne _ _ _ _ _ (by omega), un_ne _ _ _ _ _ (by omega)])
  have h3 : u_dn (un (un (un L 2 (4 * nf) q) 2 (4 * nf + 1) x) 0 0 (nf + 1)) (nf + 1) = u_dn (un (un (un L 2 (4 * nf) q) 2 (4 * nf + 1) x) 0 0 (nf + 1)) nf + (if 3 ≤ un (un (un L 2 (4 * nf) q) 2 (4 * nf + 1) x) 0 0 (nf + 1) 2 (4 * nf + 2) then 1 else 0) := rfl
  show L 7 z ≤ _
  omega
end TPF
