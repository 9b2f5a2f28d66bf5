/-! ===== rows over ints that are not negative, by their numbers ===== -/
def un (L : Nat → Nat → Nat) (k j x : Nat) : Nat → Nat → Nat := fun a b => if a = k ∧ b = j then x else L a b
theorem un_at (L : Nat → Nat → Nat) (k j x a b : Nat) : un L k j x a b = if a = k ∧ b = j then x else L a b := rfl
theorem un_other (L : Nat → Nat → Nat) (k j x : Nat) {a : Nat} (h : a ≠ k) : un L k j x a = L a := by
  funext b
  simp [un, h]
theorem un_row (L : Nat → Nat → Nat) (k j x b : Nat) : un L k j x k b = if b = j then x else L k b := by simp [un]
theorem un_self (L : Nat → Nat → Nat) (k j x : Nat) : un L k j x k j = x := by simp [un]
theorem un_ne (L : Nat → Nat → Nat) (k j x b : Nat) (h : b ≠ j) : un L k j x k b = L k b := by simp [un, h]
def u_len (k : Nat) : Nat := match k with
  | 0 => 4
  | 1 => 16
  | 2 => 64
  | 3 => 40
  | 4 => 40
  | 5 => 40
  | 6 => 40
  | 7 => 16
  | _ => 48
/-- the law's nine rows: 0 n, 1 a, 2 f, 3 c, 4 s, 5 q, 6 w, 7 e, 8 g -/
def u_W (G : va_G) (ca : Nat → ClassId) (ua : Nat → Nat) (L : Nat → Nat → Nat) (H : Heap) : Prop := ∀ k : Nat, k < 9 → va_at G vwCl (ua k, .inl (ca 0, u_len k, .inl (fun j => nI (L k j)))) H
def u_D (A : Nat → Prop) (ua : Nat → Nat) : Prop := (∀ k k' : Nat, k < 9 → k' < 9 → ua k = ua k' → k = k') ∧ ∀ k : Nat, k < 9 → A (ua k)
theorem u_len_lt (k : Nat) : u_len k < 2 ^ 31 := by
  unfold u_len
  split <;> decide
theorem u_W.kept {G : va_G} {ca : Nat → ClassId} {ua : Nat → Nat} {L : Nat → Nat → Nat} {H H1 : Heap} (h : u_W G ca ua L H) (hk : ∀ k : Nat, k < 9 → H1[ua k]? = H[ua k]?) : u_W G ca ua L H1 := fun k hk9 => (h k hk9).kept (hk k hk9)
theorem u_W.lt {G : va_G} {ca : Nat → ClassId} {ua : Nat → Nat} {L : Nat → Nat → Nat} {H : Heap} (h : u_W G ca ua L H) {k : Nat} (hk : k < 9) : ua k < H.size := (h k hk).lt
theorem u_W.grow {G : va_G} {ca : Nat → ClassId} {ua : Nat → Nat} {L : Nat → Nat → Nat} {H H1 : Heap} (h : u_W G ca ua L H) (hk : ∀ q : Nat, q < H.size → H1[q]? = H[q]?) : u_W G ca ua L H1 := h.kept fun _ hk9 => hk _ (h.lt hk9)
theorem u_W.upd {G : va_G} {ca : Nat → ClassId} {A : Nat → Prop} {ua : Nat → Nat} {L : Nat → Nat → Nat} {H H1 : Heap} (h : u_W G ca ua L H) (hD : u_D A ua) {k j x : Nat} (hk : k < 9) (hat : va_at G vwCl (ua k, .inl (ca 0, u_len k, .inl (va_up (fun j => nI (L k j)) j (nI x)))) H1) (oq : ∀ q : Nat, q ≠ ua k → H1[q]? = H[q]?) : u_W G ca ua (un L k j x) H1 := by
  intro a ha
  by_cases hak : a = k
  · subst hak
    have e : (fun b => nI (un L a j x a b)) = va_up (fun b => nI (L a b)) j (nI x) := by
      funext b
      by_cases hb : b = j <;> simp [un, va_up, hb]
    rw [e]
    exact hat
  · rw [show un L k j x a = L a from un_other L k j x hak]
    exact (h a ha).kept (oq _ (fun z => hak (hD.1 a k ha hk z)))
section RNA
variable {p : Program} {l : Launch} {e : Env} {R : Room} {s : State} {m : MethodId} {args : Array Value} {below : List Frame} {meth : Method} {c : Code} {H : Heap} {locs : List Loc} {cells slots : Nat} {Q : State → Prop}
variable {cc : ByteArray} {pc : Nat} {ls : Array Slot} {rest : List Value} {G : va_G} {H0 : Heap} {A : Nat → Prop} {ca : Nat → ClassId} {a b : Nat} {off : Int} {tgt : Nat} {ua : Nat → Nat} {L : Nat → Nat → Nat}
theorem un_add (hx : p.tables.exec = Jvm.exec) (hb : c.code = cc) (hdg : decode cc pc = .ok (.iadd, 1)) (k : W p l e R s m args below meth c H locs cells slots Q (F0 m (pc + 1) ls (.int (nI (a + b)) :: rest))) : W p l e R s m args below meth c H locs cells slots Q (F0 m pc ls (.int (nI b) :: .int (nI a) :: rest)) :=
  lv_iadd hx hb hdg (by rw [nI_add]; exact k)
theorem un_sub (hx : p.tables.exec = Jvm.exec) (hb : c.code = cc) (hdg : decode cc pc = .ok (.isub, 1)) (h : b ≤ a) (k : W p l e R s m args below meth c H locs cells slots Q (F0 m (pc + 1) ls (.int (nI (a - b)) :: rest))) : W p l e R s m args below meth c H locs cells slots Q (F0 m pc ls (.int (nI b) :: .int (nI a) :: rest)) :=
  lv_isub hx hb hdg (by rw [pk_sub h]; exact k)
theorem un_mul (hx : p.tables.exec = Jvm.exec) (hb : c.code = cc) (hdg : decode cc pc = .ok (.imul, 1)) (k : W p l e R s m args below meth c H locs cells slots Q (F0 m (pc + 1) ls (.int (nI (a * b)) :: rest))) : W p l e R s m args below meth c H locs cells slots Q (F0 m pc ls (.int (nI b) :: .int (nI a) :: rest)) :=
  lv_imul hx hb hdg (by rw [pk_mul]; exact k)
theorem un_div (hx : p.tables.exec = Jvm.exec) (hb : c.code = cc) (hdg : decode cc pc = .ok (.idiv, 1)) (ha : a < 2147483648) (h0 : 0 < b) (hbb : b < 2147483648) (k : W p l e R s m args below meth c H locs cells slots Q (F0 m (pc + 1) ls (.int (nI (a / b)) :: rest))) : W p l e R s m args below meth c H locs cells slots Q (F0 m pc ls (.int (nI b) :: .int (nI a) :: rest)) :=
  lv_idiv hx hb hdg (fun z => absurd (m_inj (a := b) (b := 0) hbb (by decide) z) (by omega)) (by rw [pk_div ha h0 hbb]; exact k)
theorem un_rem (hx : p.tables.exec = Jvm.exec) (hb : c.code = cc) (hdg : decode cc pc = .ok (.irem, 1)) (ha : a < 2147483648) (h0 : 0 < b) (hbb : b < 2147483648) (k : W p l e R s m args below meth c H locs cells slots Q (F0 m (pc + 1) ls (.int (nI (a % b)) :: rest))) : W p l e R s m args below meth c H locs cells slots Q (F0 m pc ls (.int (nI b) :: .int (nI a) :: rest)) :=
  lv_irem hx hb hdg (fun z => absurd (m_inj (a := b) (b := 0) hbb (by decide) z) (by omega)) (by rw [pk_rem ha h0 hbb]; exact k)
theorem un_ceq (hx : p.tables.exec = Jvm.exec) (hb : c.code = cc) (hdg : decode cc pc = .ok (.if_icmp .eq off, 3)) (ht : (pc : Int) + off = (tgt : Int)) (ha : a < 2147483648) (hbb : b < 2147483648)
    (kt : a = b → W p l e R s m args below meth c H locs cells slots Q (F0 m tgt ls rest)) (kf : ¬ a = b → W p l e R s m args below meth c H locs cells slots Q (F0 m (pc + 3) ls rest)) : W p l e R s m args below meth c H locs cells slots Q (F0 m pc ls (.int (nI b) :: .int (nI a) :: rest)) :=
  lv_icmp_eq hx hb hdg ht (fun z => kt (m_inj ha hbb z)) (fun z => kf (fun y => z (congrArg nI y)))
theorem un_cne (hx : p.tables.exec = Jvm.exec) (hb : c.code = cc) (hdg : decode cc pc = .ok (.if_icmp .ne off, 3)) (ht : (pc : Int) + off = (tgt : Int)) (ha : a < 2147483648) (hbb : b < 2147483648)
    (kt : ¬ a = b → W p l e R s m args below meth c H locs cells slots Q (F0 m tgt ls rest)) (kf : a = b → W p l e R s m args below meth c H locs cells slots Q (F0 m (pc + 3) ls rest)) : W p l e R s m args below meth c H locs cells slots Q (F0 m pc ls (.int (nI b) :: .int (nI a) :: rest)) :=
  lv_icmp_ne hx hb hdg ht (fun z => kt (fun y => z (congrArg nI y))) (fun z => kf (m_inj ha hbb z))
theorem un_clt (hx : p.tables.exec = Jvm.exec) (hb : c.code = cc) (hdg : decode cc pc = .ok (.if_icmp .lt off, 3)) (ht : (pc : Int) + off = (tgt : Int)) (ha : a < 2147483648) (hbb : b < 2147483648)
    (kt : a < b → W p l e R s m args below meth c H locs cells slots Q (F0 m tgt ls rest)) (kf : ¬ a < b → W p l e R s m args below meth c H locs cells slots Q (F0 m (pc + 3) ls rest)) : W p l e R s m args below meth c H locs cells slots Q (F0 m pc ls (.int (nI b) :: .int (nI a) :: rest)) :=
  lv_icmp_lt hx hb hdg ht (fun z => kt ((nI_ltI ha hbb).mp z)) (fun z => kf (fun y => z ((nI_ltI ha hbb).mpr y)))
theorem un_cge (hx : p.tables.exec = Jvm.exec) (hb : c.code = cc) (hdg : decode cc pc = .ok (.if_icmp .ge off, 3)) (ht : (pc : Int) + off = (tgt : Int)) (ha : a < 2147483648) (hbb : b < 2147483648)
    (kt : b ≤ a → W p l e R s m args below meth c H locs cells slots Q (F0 m tgt ls rest)) (kf : ¬ b ≤ a → W p l e R s m args below meth c H locs cells slots Q (F0 m (pc + 3) ls rest)) : W p l e R s m args below meth c H locs cells slots Q (F0 m pc ls (.int (nI b) :: .int (nI a) :: rest)) :=
  lv_icmp_ge hx hb hdg ht (fun z => kt ((nI_leI hbb ha).mp z)) (fun z => kf (fun y => z ((nI_leI hbb ha).mpr y)))
theorem un_cgt (hx : p.tables.exec = Jvm.exec) (hb : c.code = cc) (hdg : decode cc pc = .ok (.if_icmp .gt off, 3)) (ht : (pc : Int) + off = (tgt : Int)) (ha : a < 2147483648) (hbb : b < 2147483648)
    (kt : b < a → W p l e R s m args below meth c H locs cells slots Q (F0 m tgt ls rest)) (kf : ¬ b < a → W p l e R s m args below meth c H locs cells slots Q (F0 m (pc + 3) ls rest)) : W p l e R s m args below meth c H locs cells slots Q (F0 m pc ls (.int (nI b) :: .int (nI a) :: rest)) :=
  lv_icmp_gt hx hb hdg ht (fun z => kt ((nI_ltI hbb ha).mp z)) (fun z => kf (fun y => z ((nI_ltI hbb ha).mpr y)))
theorem un_cle (hx : p.tables.exec = Jvm.exec) (hb : c.code = cc) (hdg : decode cc pc = .ok (.if_icmp .le off, 3)) (ht : (pc : Int) + off = (tgt : Int)) (ha : a < 2147483648) (hbb : b < 2147483648)
    (kt : a ≤ b → W p l e R s m args below meth c H locs cells slots Q (F0 m tgt ls rest)) (kf : ¬ a ≤ b → W p l e R s m args below meth c H locs cells slots Q (F0 m (pc + 3) ls rest)) : W p l e R s m args below meth c H locs cells slots Q (F0 m pc ls (.int (nI b) :: .int (nI a) :: rest)) :=
  lv_icmp_le hx hb hdg ht (fun z => kt ((nI_leI ha hbb).mp z)) (fun z => kf (fun y => z ((nI_leI ha hbb).mpr y)))
theorem un_ieq (hx : p.tables.exec = Jvm.exec) (hb : c.code = cc) (hdg : decode cc pc = .ok (.ifCond .eq off, 3)) (ht : (pc : Int) + off = (tgt : Int)) (ha : a < 2147483648)
    (kt : a = 0 → W p l e R s m args below meth c H locs cells slots Q (F0 m tgt ls rest)) (kf : ¬ a = 0 → W p l e R s m args below meth c H locs cells slots Q (F0 m (pc + 3) ls rest)) : W p l e R s m args below meth c H locs cells slots Q (F0 m pc ls (.int (nI a) :: rest)) :=
  lv_if_eq hx hb hdg ht (fun z => kt (m_inj (b := 0) ha (by decide) z)) (fun z => kf (fun y => z (congrArg nI y)))
theorem un_ine (hx : p.tables.exec = Jvm.exec) (hb : c.code = cc) (hdg : decode cc pc = .ok (.ifCond .ne off, 3)) (ht : (pc : Int) + off = (tgt : Int)) (ha : a < 2147483648)
    (kt : ¬ a = 0 → W p l e R s m args below meth c H locs cells slots Q (F0 m tgt ls rest)) (kf : a = 0 → W p l e R s m args below meth c H locs cells slots Q (F0 m (pc + 3) ls rest)) : W p l e R s m args below meth c H locs cells slots Q (F0 m pc ls (.int (nI a) :: rest)) :=
  lv_if_ne hx hb hdg ht (fun z => kt (fun y => z (congrArg nI y))) (fun z => kf (m_inj (b := 0) ha (by decide) z))
theorem un_igt (hx : p.tables.exec = Jvm.exec) (hb : c.code = cc) (hdg : decode cc pc = .ok (.ifCond .gt off, 3)) (ht : (pc : Int) + off = (tgt : Int)) (ha : a < 2147483648)
    (kt : 0 < a → W p l e R s m args below meth c H locs cells slots Q (F0 m tgt ls rest)) (kf : ¬ 0 < a → W p l e R s m args below meth c H locs cells slots Q (F0 m (pc + 3) ls rest)) : W p l e R s m args below meth c H locs cells slots Q (F0 m pc ls (.int (nI a) :: rest)) :=
  lv_if_gt hx hb hdg ht (fun z => kt ((nI_ltI (a := 0) (by decide) ha).mp z)) (fun z => kf (fun y => z ((nI_ltI (a := 0) (by decide) ha).mpr y)))
theorem un_ile (hx : p.tables.exec = Jvm.exec) (hb : c.code = cc) (hdg : decode cc pc = .ok (.ifCond .le off, 3)) (ht : (pc : Int) + off = (tgt : Int)) (ha : a < 2147483648)
    (kt : a = 0 → W p l e R s m args below meth c H locs cells slots Q (F0 m tgt ls rest)) (kf : ¬ a = 0 → W p l e R s m args below meth c H locs cells slots Q (F0 m (pc + 3) ls rest)) : W p l e R s m args below meth c H locs cells slots Q (F0 m pc ls (.int (nI a) :: rest)) :=
  lv_if_le hx hb hdg ht (fun z => kt (Nat.le_zero.mp ((nI_leI (b := 0) ha (by decide)).mp z))) (fun z => kf (fun y => z ((nI_leI (b := 0) ha (by decide)).mpr (Nat.le_zero.mpr y))))
/-- .. an int below zero is not there -/
theorem un_ilt (hx : p.tables.exec = Jvm.exec) (hb : c.code = cc) (hdg : decode cc pc = .ok (.ifCond .lt off, 3)) (ht : (pc : Int) + off = (tgt : Int)) (ha : a < 2147483648)
    (kf : W p l e R s m args below meth c H locs cells slots Q (F0 m (pc + 3) ls rest)) : W p l e R s m args below meth c H locs cells slots Q (F0 m pc ls (.int (nI a) :: rest)) :=
  lv_if_lt hx hb hdg ht (fun z => absurd z (nI_pos ha)) (fun _ => kf)
theorem un_ige (hx : p.tables.exec = Jvm.exec) (hb : c.code = cc) (hdg : decode cc pc = .ok (.ifCond .ge off, 3)) (ht : (pc : Int) + off = (tgt : Int)) (ha : a < 2147483648)
    (kt : W p l e R s m args below meth c H locs cells slots Q (F0 m tgt ls rest)) : W p l e R s m args below meth c H locs cells slots Q (F0 m pc ls (.int (nI a) :: rest)) :=
  lv_if_ge hx hb hdg ht (fun _ => kt) (fun z => absurd (nI_pos' ha) z)
/-- the top is another name's -/
theorem un_top {x y : Int32} (h : x = y) (k : W p l e R s m args below meth c H locs cells slots Q (F0 m pc ls (.int y :: rest))) : W p l e R s m args below meth c H locs cells slots Q (F0 m pc ls (.int x :: rest)) := by
  subst h; exact k
theorem un_topl {x y : Int64} (h : x = y) (k : W p l e R s m args below meth c H locs cells slots Q (F0 m pc ls (.long y :: rest))) : W p l e R s m args below meth c H locs cells slots Q (F0 m pc ls (.long x :: rest)) := by
  subst h; exact k
/-- the law's rows are read and written -/
theorem un_ald (hx : p.tables.exec = Jvm.exec) (hb : c.code = cc) (hE : rh_E G ca A s) (hU : u_W G ca ua L H) (k : Nat) (hk : k < 9) (j : Nat) (hj : j < u_len k) (hdg : decode cc pc = .ok (.iaload, 1))
    (kk : W p l e R s m args below meth c H locs cells slots Q (F0 m (pc + 1) ls (.int (nI (L k j)) :: rest))) : W p l e R s m args below meth c H locs cells slots Q (F0 m pc ls (.int (nI j) :: .ref (ua k) :: rest)) :=
  rh_iald hx hb hE (hU k hk) j hj (u_len_lt k) rfl hdg kk
theorem un_ast (hx : p.tables.exec = Jvm.exec) (hb : c.code = cc) (hE : rh_E G ca A s) (hU : u_W G ca ua L H) (hD : u_D A ua) (hS : va_S A H0 H locs) (k : Nat) (hk : k < 9) (j : Nat) (hj : j < u_len k) {x : Nat} (hdg : decode cc pc = .ok (.iastore, 1))
    (kk : ∀ (H1 : Heap) (locs1 : List Loc), u_W G ca ua (un L k j x) H1 → H1.size = H.size → (∀ q : Nat, q ≠ ua k → H1[q]? = H[q]?) → va_S A H0 H1 locs1 → W p l e R s m args below meth c H1 locs1 cells slots Q (F0 m (pc + 1) ls rest)) : W p l e R s m args below meth c H locs cells slots Q (F0 m pc ls (.int (nI x) :: .int (nI j) :: .ref (ua k) :: rest)) :=
  rh_iast0 hx hb hE (hU k hk) hS (hD.2 k hk) j hj (u_len_lt k) rfl hdg fun H1 locs1 h1 h2 h3 h4 => kk H1 locs1 (hU.upd hD hk h1 h3) h2 h3 h4
end RNA
section RNC
variable {p : Program} {l : Launch} {e : Env} {R : Room} {s : State} {m : MethodId} {args : Array Value} {below : List Frame} {meth : Method} {c : Code} {H : Heap} {locs : List Loc} {cells slots : Nat}
variable {y : MethodName} {bytes cc : ByteArray} {maxL nL mc ms n index : Nat} {ret : Option FieldType} {ws : List Cond} {rm : Room} {Pc : Array Value → State → Prop} {Qc : Array Value → State → Outcome → State → Prop} {XC : String → State → State → Prop} {free : Addr → Prop} {Ts : List Cond} {own C : String} {b : Addr} {As rest : List Value} {g : JFrame}
/-- a static call with a higher operand stack -/
theorem un_runS (S : CallFix p m c cc nL s args Ts own) (hM : vx_Met l y ws rm Pc Qc XC mc ms free) (cw : CallB R s args own index y bytes maxL ret ws rm mc ms n ∧ (Cond.static y).before args s = true) (hp : PreS s H Pc As)
    (hg : g.method = m) (hn : As.length = n) (hsize : g.locals.size = nL) (hstack : g.stack = As.reverse ++ rest) (hW : 2 * g.monitorRoom + (rest.map fun v => v.category).sum ≤ 12) (hlo2 : 12 + (maxL + 11) + rm.locals ≤ R.locals) (hdg : decode cc g.pc = .ok (.invokestatic index, 3)) (hf : cells + mc ≤ R.cells ∧ slots + ms ≤ R.slots) :
    vx_Run p l e R s m args below meth c H locs cells slots mc ms g rest (Qc As.toArray) XC free := by
  have hK : vx_Back l R p e below s args y 3 12 (PreOf R mc ms Pc) (PostOf Qc mc ms free) (vx_Post XC mc ms free) := by
    obtain ⟨hrc, hrs, hfr, hlo, hws, hcw, -, hini, -⟩ := cw.1
    exact vx_back (bytes := bytes) (maxL := maxL) (ret := ret) hM hp.1 hrc hrs hfr hlo2 hws hcw (fun a' U hW => word_at hW (Or.inl (by first | rfl | simp [Cond.onTables, Cond.keeps, Cond.steady])) hini)
  obtain ⟨⟨-, -, -, -, -, -, hcode, hini, hy, hlen, hl⟩, hstt⟩ := cw
  obtain ⟨hx, hb, hml, ho, -⟩ := S
  intro T hT X
  rcases vx_callS X hx (bytes := bytes) (maxL := maxL) (ret := ret) ho hl hstt hini hcode hy hK hg (hsize.trans hml.symm) (argsL := As) (rest := rest) (fun sig h => hn.trans (hlen sig h)) hstack hW (by rw [hb]; exact hdg)
    (fun vm₁ hW₁ => ⟨hf.1, hf.2, hp.2 (T.setVm vm₁) hT hW₁⟩) with ⟨v, vm₁, ⟨U', l2, c2, s2⟩, hW₁, X', ⟨g', mk, t, L, e1, e2, hq, h1, hL, h2, h3⟩, st⟩ | ⟨q, vm₁, ⟨U', l2, c2, s2⟩, hW₁, X', ⟨g', mk, t, L, E, ce, e1, e2, hq, hce, hcv, hcl, h1, hL, h2, h3⟩, st⟩
  · dsimp only [Pt.U, Pt.locs, Pt.cells, Pt.slots] at X' e1 e2 h1 h2 h3 st
    subst h1; subst h2; subst h3
    exact Or.inl ⟨v, (T.setVm vm₁).calling g' mk As.toArray, t, U', L, hT, X', hL, e1, e2, hq, st⟩
  · dsimp only [Pt.U, Pt.locs, Pt.cells, Pt.slots] at X' e1 e2 h1 h2 h3 st hcl
    subst h1; subst h2; subst h3
    exact Or.inr ⟨q, (T.setVm vm₁).calling g' mk As.toArray, t, U', L, E, ce, hT, X', hL, e1, e2, hq, hce, hcv, vx_cls hW₁ hcl, st⟩
theorem un_room {m : MethodId} {pc : Nat} {ls : Array Slot} {rest st : List Value} (h : (st.map fun v => v.category).sum ≤ 12) : 2 * (F0 m pc ls rest).monitorRoom + (st.map fun v => v.category).sum ≤ 12 := by
  show 2 * 0 + _ ≤ 12
  omega
end RNC
