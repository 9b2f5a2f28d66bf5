/-! ===== the law: house and model side by side ===== -/
def l_mc (adm : Nat → Nat → Nat) (q : Nat) : Prop := ∃ k : Nat, 0 < m_n k ∧ adm k 0 = q
def lA (A0 : Nat → Prop) (adm : Nat → Nat → Nat) (q : Nat) : Prop := A0 q ∧ ¬ l_mc adm q
def lB (A0 : Nat → Prop) (ad : Nat → Nat → Nat) (nf nc oa : Nat) (q : Nat) : Prop := A0 q ∧ (¬ ∃ k i : Nat, i < rh_n nf nc k ∧ ad k i = q) ∧ q ≠ oa
theorem lB_D {A0 : Nat → Prop} {ad adm : Nat → Nat → Nat} {nf nc oa : Nat} (hD : rh_D (rh_A1 (lA A0 adm) oa) ad (fun k i => i < rh_n nf nc k)) (hm : rh_D (fun q => A0 q ∧ q ≠ oa) adm (fun k i => i < m_n k)) : rh_D (lB A0 ad nf nc oa) adm (fun k i => i < m_n k) := by
  refine ⟨hm.1, fun k i hk => ⟨(hm.2 k i hk).1, ?_, (hm.2 k i hk).2⟩⟩
  rintro ⟨a, b, hab, e⟩
  have h0 := m_n_one hk
  subst h0
  exact (hD.2 a b hab).1.2 ⟨k, hk, e.symm⟩
theorem m_W.keptA {G : va_G} {ca : Nat → ClassId} {A0 : Nat → Prop} {adm : Nat → Nat → Nat} {w : rh_Wm} {th : Int32} {H H1 : Heap} (h : m_W G ca adm w th H) (hk : ∀ q : Nat, q < H.size → ¬ lA A0 adm q → H1[q]? = H[q]?) : m_W G ca adm w th H1 := by
  intro k i hi
  have h0 := m_n_one hi
  subst h0
  have hat := h k 0 hi
  exact hat.kept (hk _ hat.lt (fun z => z.2 ⟨k, hi, rfl⟩))
theorem rh_W.keptB {G : va_G} {ca : Nat → ClassId} {A0 : Nat → Prop} {ad : Nat → Nat → Nat} {nf nc oa : Nat} {r : rh_R} {v : rh_V} {H H1 : Heap} (h : rh_W G ca ad nf nc r v H) (hk : ∀ q : Nat, q < H.size → ¬ lB A0 ad nf nc oa q → H1[q]? = H[q]?) : rh_W G ca ad nf nc r v H1 := by
  refine rh_P.kept h (fun k i e he => hk _ (h k i e he).lt (fun z => z.2.1 ⟨k, i, ?_, rfl⟩))
  unfold rh_ce at he
  by_cases hb : i < rh_n nf nc k
  · exact hb
  · rw [if_neg hb] at he; cases he
theorem lB_up {G : va_G} {ca : Nat → ClassId} {A0 : Nat → Prop} {ad : Nat → Nat → Nat} {nf nc oa n : Nat} {r : rh_R} {v : rh_V} {f : Nat → Int64} {H : Heap} (hA : ∀ q : Nat, n ≤ q → A0 q) (hn : n ≤ H.size) (hW : rh_W G ca ad nf nc r v H) (ho : rh_o G ca oa f H) : ∀ q : Nat, H.size ≤ q → lB A0 ad nf nc oa q := by
  intro q hq
  refine ⟨hA q (by omega), ?_, fun z => ?_⟩
  · rintro ⟨k, i, hi, e⟩
    have := (hW.at k i hi).lt
    omega
  · have := ho.lt
    omega
theorem lA_up {G : va_G} {ca : Nat → ClassId} {A0 : Nat → Prop} {adm : Nat → Nat → Nat} {n : Nat} {w : rh_Wm} {th : Int32} {H : Heap} (hA : ∀ q : Nat, n ≤ q → A0 q) (hn : n ≤ H.size) (hM : m_W G ca adm w th H) : ∀ q : Nat, H.size ≤ q → lA A0 adm q := by
  intro q hq
  refine ⟨hA q (by omega), ?_⟩
  rintro ⟨k, hk, e⟩
  have := (hM k 0 hk).lt
  omega
/-- what holds in the law throughout -/
def lwC (p : Program) (l : Launch) (s : State) (m : MethodId) (c : Code) (G : va_G) (ca : Nat → ClassId) (A0 : Nat → Prop) (b L : Nat) (xs : Nat → Int32) : Prop :=
  p.tables.exec = Jvm.exec ∧ c.code = cL_law ∧ c.maxLocals = 8 ∧ s.vm.findClass RL = some m.cls ∧ (∀ w ∈ wsL_law, w.before #[Value.ref b] s = true) ∧ rh_E G ca A0 s ∧ (∀ x ∈ rh_nc, va_Nc x.1 x.2 s) ∧ l.stackTraces = false ∧ (∀ q : Nat, s.heap.size ≤ q → A0 q) ∧ ¬ A0 b ∧ b < s.heap.size ∧ va_X b L xs s s.heap ∧ L ≤ 3072
/-- .. and between its calls -/
def lwS (G : va_G) (ca : Nat → ClassId) (A0 : Nat → Prop) (h hm oa : Nat) (ad adm : Nat → Nat → Nat) (nf nc : Nat) (r : rh_R) (v : rh_V) (w : rh_Wm) (th : Int32) (f : Nat → Int64) (H : Heap) : Prop :=
  ad 0 0 = h ∧ adm 10 0 = hm ∧ rh_W G ca ad nf nc r v H ∧ m_W G ca adm w th H ∧ rh_o G ca oa f H ∧ inv nf nc r v w ∧ rh_D (rh_A1 (lA A0 adm) oa) ad (fun k i => i < rh_n nf nc k) ∧ rh_D (fun q => A0 q ∧ q ≠ oa) adm (fun k i => i < m_n k) ∧ A0 oa
/-- the way on from a call's end -/
def lwK (p : Program) (l : Launch) (e : Env) (s : State) (m : MethodId) (below : List Frame) (meth : Method) (c : Code) (G : va_G) (ca : Nat → ClassId) (A0 : Nat → Prop) (b h hm oa i : Nat) (cells slots : Nat) (Q : State → Prop) : Prop :=
  ∀ (ad adm : Nat → Nat → Nat) (nf nc : Nat) (r : rh_R) (v : rh_V) (w : rh_Wm) (th : Int32) (f : Nat → Int64) (H : Heap) (locs : List Loc) (ls : Array Slot), lwS G ca A0 h hm oa ad adm nf nc r v w th f H → va_S A0 s.heap H locs → lv_has ls 8 [(0, .ref b), (1, .ref h), (2, .ref hm), (3, .ref oa), (4, .int (nI i))] →
    W p l e room_1 s m #[Value.ref b] below meth c H locs (cells + 5) (slots + 40) Q (F0 m 1523 ls [])
theorem rh_D.weak {A B : Nat → Prop} {ad : Nat → Nat → Nat} {ok : Nat → Nat → Prop} (h : rh_D A ad ok) (hAB : ∀ q, A q → B q) : rh_D B ad ok := ⟨h.1, fun k i hk => hAB _ (h.2 k i hk)⟩
section RLW
variable {p : Program} {l : Launch} {e : Env} {R : Room} {s : State} {m : MethodId} {args : Array Value} {below : List Frame} {meth : Method} {c : Code} {H : Heap} {locs : List Loc} {cells slots : Nat} {Q : State → Prop}
variable {cc : ByteArray} {pc : Nat} {ls : Array Slot} {rest : List Value} {H0 : Heap} {A : Nat → Prop}
/-- the script is read -/
theorem l_sld (hexec : p.tables.exec = Jvm.exec) (hb : c.code = cc) {b L : Nat} {xs : Nat → Int32} (hX : va_X b L xs s H0) (hbl : b < H0.size) (hbA : ¬ A b) (hS : va_S A H0 H locs) (hL : L ≤ 3072) (j : Nat) (hj : j < L) {i : Int32} (hi : i = nI j) (hdg : decode cc pc = .ok (.iaload, 1))
    (kk : W p l e R s m args below meth c H locs cells slots Q (F0 m (pc + 1) ls (.int (xs j) :: rest))) : W p l e R s m args below meth c H locs cells slots Q (F0 m pc ls (.int i :: .ref b :: rest)) := by
  subst hi
  refine va_sld hexec hb hX hbl hbA hS (vp_in_nI hj (by omega)) hdg ?_
  rw [nI_clamp (by omega)]
  exact kk
end RLW
theorem l_ix {x : Int32} {i n : Nat} (hn : n ≤ 60) (h : i < n) (e : x = nI i) : ix x n := (ix_iff (by omega)).mpr ⟨i, h, e⟩
theorem l_year {nf nc : Nat} {r : rh_R} {v : rh_V} {w : rh_Wm} (h : inv nf nc r v w) {ye : Int32} (hy : rng ye 0 1) : ye < v 0 0 6 / 12 ↔ ¬ w 26 24 < 12 * ye + 12 := by
  obtain ⟨t, ht, hv, hw, -⟩ := h.2.2.2.2.2.2.2.2.1
  have hye : ye = nI 0 ∨ ye = nI 1 := by
    have h1 := Int32.le_iff_toInt_le.mp hy.1
    have h2 := Int32.le_iff_toInt_le.mp hy.2
    have e0 : (0 : Int32).toInt = 0 := rfl
    have e1 : (1 : Int32).toInt = 1 := rfl
    rw [e0] at h1
    rw [e1] at h2
    by_cases hz : ye.toInt = 0
    · exact Or.inl (Int32.toInt_inj.mp hz)
    · exact Or.inr (Int32.toInt_inj.mp (show ye.toInt = 1 by omega))
  rw [hv, hw, (s_yr ht).1]
  rcases hye with rfl | rfl
  · rw [nI_ltI (by decide) (by omega), show 12 * nI 0 + 12 = nI 12 from rfl, nI_ltI (by omega) (by decide)]
    omega
  · rw [nI_ltI (by decide) (by omega), show 12 * nI 1 + 12 = nI 24 from rfl, nI_ltI (by omega) (by decide)]
    omega
