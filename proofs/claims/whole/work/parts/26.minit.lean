/-! ===== the model's own constructor ===== -/
section RMI
variable {p : Program} {l : Launch} {e : Env} {R : Room} {s : State} {m : MethodId} {args : Array Value} {below : List Frame} {meth : Method} {c : Code} {H : Heap} {locs : List Loc} {cells slots : Nat} {Q : State → Prop}
variable {cc : ByteArray} {pc : Nat} {ls : Array Slot} {rest : List Value} {G : va_G} {H0 : Heap} {A : Nat → Prop} {ca : Nat → ClassId}
/-- a new boolean array -/
theorem rh_newz0 (hexec : p.tables.exec = Jvm.exec) (hb : c.code = cc) (harr : (Cond.arrayClass .boolean).before args s = true) (hE : rh_E G ca A s) (hS : va_S A H0 H locs)
    {n : Int32} (N' : Nat) (hn : ¬ n < 0) (hN : n.toNatClampNeg = N') (hbytes : N' * componentBytes (newarray.typeOf .boolean) ≤ 536870912) (hcells : cells + 1 ≤ R.cells) (hslots : slots + N' ≤ R.slots) (hdg : decode cc pc = .ok (.newarray .boolean, 2))
    (kk : ∀ (q : Nat) (H1 : Heap), q = H.size → va_at G vwCl (q, .inl (ca 1, N', .inl (fun _ => 0))) H1 → H1.size = H.size + 1 → (∀ x : Nat, x < H.size → H1[x]? = H[x]?) → va_S A H0 H1 locs →
      W p l e R s m args below meth c H1 locs (cells + 1) (slots + N') Q (F0 m (pc + 2) ls (.ref q :: rest))) : W p l e R s m args below meth c H locs cells slots Q (F0 m pc ls (.int n :: rest)) := by
  refine va_newaK (atype := .boolean) hexec hb harr rfl hdg rfl hn hN hbytes hcells hslots rfl fun H1 cA e1 z1 o1 hAr hNm => ?_
  have hI : s.vm.findClass ("[" ++ FieldType.boolean.toString) = some (ca 1) := (hE.1.2 1 _ rfl).2
  have hca : cA = ca 1 := Option.some.inj (hNm.symm.trans hI)
  subst hca
  exact kk H.size H1 rfl e1 z1 o1 ⟨Nat.le_trans hS.1 (by omega), fun x h1 h2 => (o1 x (Nat.lt_of_lt_of_le h1 hS.1)).trans (hS.2.1 x h1 h2), hS.2.2⟩
end RMI
def m_ix (k : Nat) : Nat := match k with
  | 20 => 0
  | 21 => 1
  | 22 => 2
  | 23 => 3
  | 25 => 4
  | 26 => 5
  | 27 => 6
  | 28 => 7
  | 30 => 8
  | 31 => 9
  | 32 => 10
  | 33 => 11
  | 34 => 12
  | 35 => 13
  | 37 => 14
  | 38 => 15
  | 39 => 16
  | 40 => 17
  | 41 => 18
  | 42 => 19
  | 43 => 20
  | _ => 30
def m_iy (k : Nat) : Nat := match k with
  | 0 => 20
  | 1 => 21
  | 2 => 22
  | 3 => 23
  | 4 => 25
  | 5 => 26
  | 6 => 27
  | 7 => 28
  | 8 => 30
  | 9 => 31
  | 10 => 32
  | 11 => 33
  | 12 => 34
  | 13 => 35
  | 14 => 37
  | 15 => 38
  | 16 => 39
  | 17 => 40
  | 18 => 41
  | 19 => 42
  | 20 => 43
  | _ => 10
theorem m_iy_ix {k : Nat} (h : 0 < m_n k) : m_iy (m_ix k) = k := by
  rcases m_key h with rfl | rfl | rfl | rfl | rfl | rfl | rfl | rfl | rfl | rfl | rfl | rfl | rfl | rfl | rfl | rfl | rfl | rfl | rfl | rfl | rfl | rfl <;> rfl
theorem m_ix_le {k : Nat} (h : 0 < m_n k) : m_ix k ≤ 30 := by
  rcases m_key h with rfl | rfl | rfl | rfl | rfl | rfl | rfl | rfl | rfl | rfl | rfl | rfl | rfl | rfl | rfl | rfl | rfl | rfl | rfl | rfl | rfl | rfl <;> decide
def m_ad (h sz k _i : Nat) : Nat := if k = 10 then h else sz + m_ix k
theorem m_ad_D {A : Nat → Prop} {h sz : Nat} (hh : A h) (hlt : h < sz) (hA : ∀ q, sz ≤ q → A q) : rh_D A (m_ad h sz) (fun k i => i < m_n k) := by
  refine ⟨fun k i k' i' hk hk' he => ?_, fun k i hk => ?_⟩
  · have h0 := m_n_one hk
    have h0' := m_n_one hk'
    subst h0
    subst h0'
    refine ⟨?_, rfl⟩
    unfold m_ad at he
    by_cases h1 : k = 10
    · by_cases h2 : k' = 10
      · rw [h1, h2]
      · rw [if_pos h1, if_neg h2] at he; omega
    · by_cases h2 : k' = 10
      · rw [if_neg h1, if_pos h2] at he; omega
      · rw [if_neg h1, if_neg h2] at he
        rw [← m_iy_ix hk, ← m_iy_ix hk', show m_ix k = m_ix k' by omega]
  · unfold m_ad
    by_cases h1 : k = 10
    · rw [if_pos h1]; exact hh
    · rw [if_neg h1]; exact hA _ (by omega)
/-- the model's ints at first -/
def m_w1 (i : Nat) : rh_Wm := fun q j => if q = 0 ∧ j < i then 60 else if q = 1 ∧ j < i then 10 else if q = 3 ∧ j < i then 1000 else 0
def m_w2 (i : Nat) : rh_Wm := fun q j => if q = 18 ∧ j < i then 1 else m_w1 4 q j
theorem m_w1_0 : m_w1 0 = fun _ _ => 0 := by
  funext q j
  simp [m_w1]
theorem m_w2_0 : m_w2 0 = m_w1 4 := by
  funext q j
  simp [m_w2]
theorem m_w1_s (i : Nat) : wm (wm (wm (m_w1 i) 0 i 60) 1 i 10) 3 i 1000 = m_w1 (i + 1) := by
  funext q j
  simp only [wm_at, m_w1]
  by_cases h0 : q = 0
  · subst h0
    by_cases hj : j = i
    · subst hj; simp
    · by_cases hl : j < i
      · simp [hj, hl, show j < i + 1 by omega]
      · simp [hj, hl, show ¬ j < i + 1 by omega]
  · by_cases h1 : q = 1
    · subst h1
      by_cases hj : j = i
      · subst hj; simp
      · by_cases hl : j < i
        · simp [hj, hl, show j < i + 1 by omega]
        · simp [hj, hl, show ¬ j < i + 1 by omega]
    · by_cases h3 : q = 3
      · subst h3
        by_cases hj : j = i
        · subst hj; simp
        · by_cases hl : j < i
          · simp [hj, hl, show j < i + 1 by omega]
          · simp [hj, hl, show ¬ j < i + 1 by omega]
      · simp [h0, h1, h3]
theorem m_w2_s (i : Nat) : wm (m_w2 i) 18 i 1 = m_w2 (i + 1) := by
  funext q j
  simp only [wm_at, m_w2]
  by_cases h0 : q = 18
  · subst h0
    by_cases hj : j = i
    · subst hj; simp
    · by_cases hl : j < i
      · simp [hj, hl, show j < i + 1 by omega]
      · simp [hj, hl, show ¬ j < i + 1 by omega]
  · simp [h0]
set_option maxHeartbeats 8000000 in
set_option maxRecDepth 100000 in
/-- the model, made -/
theorem ci_X5_init (l : Launch) {G : va_G} {ca : Nat → ClassId} {A : Nat → Prop} (h : Nat) (hh : A h) : Met l yX5_init wsX5_init ({ frames := 1, cells := 21, slots := 652, locals := 30 } : Room) (rh_Pc G ca A [.ref h] (fun H => va_at G vwCl (h, .inr (5, [.null, .null, .null, .null, .int 0, .null, .null, .null, .null, .int 0, .null, .null, .null, .null, .null, .null, .int 0, .null, .null, .null, .null, .null, .null, .null, .int 0, .int 0])) H)) (rh_Q A (fun o H => o = none ∧ ∃ ad : Nat → Nat → Nat, ad 10 0 = h ∧ m_W G ca ad (m_w2 16) 0 H ∧ rh_D A ad (fun k i => i < m_n k))) 21 652 A := by
  refine rh_enterm (cc := cX5_init) (maxL := 2) (ret := none) (by decide) rfl (Nat.le_of_ble_eq_true rfl) ?_
  intro p e s m below meth c ls hx hb hr hml hown hts hlocks hin hE hA hat hl
  have hS : va_S A s.heap s.heap [] := va_S.rf
  have hlt0 : h < s.heap.size := hat.lt
  have hsz : s.heap.size = s.heap.size + 0 := rfl
  have hl : lv_has ls 2 [(0, .ref h)] := hl
  refine lv_aload_n hx hb dX5_init_0 rfl (lv_at hl 0 rfl) ?_
  refine W.objInit hx hb hown (hts (.methodLink RX5 1 objectInit) (by decide +kernel)) (hts (.instanceMethod objectInit) (by decide +kernel)) (hts (.code objectInit ⟨#[0xb1]⟩ 1 none) (by decide +kernel)) rfl (by rw [hml]; exact hl.1) rfl dX5_init_1 (Nat.le_of_ble_eq_true rfl) (Nat.le_of_ble_eq_true rfl) ?_
  refine W.eq (g2 := F0 m 4 ls []) rfl ?_
  refine lv_aload_n hx hb dX5_init_4 rfl (lv_at hl 0 rfl) ?_
  refine lv_iconst (v := 4) hx hb dX5_init_5 (by decide) ?_
  refine rh_newa0 hx hb (hts (.arrayClass .int) (by decide +kernel)) hE hS 4 (by decide) (by decide) (by decide) (by decide) (by decide) dX5_init_6 (fun q1 H1 hq1 hr1 hz1 ho1 hS => ?_)
  have hq1 : q1 = s.heap.size + 0 := by omega
  have hsz : H1.size = s.heap.size + 1 := by omega
  have hat := hat.kept (ho1 _ hat.lt)
  refine rh_putF0 (ci := 5) (C := RX5) (T := TX5) (N := 26) (v := .ref q1) hx hb hts (fun _ h => List.mem_cons_of_mem _ (List.mem_append_right _ (h))) tyX5 tyX5_ok nmX5 hown hE hat rfl hS hh 0 (by decide) (hts (.fieldLink RX5 7 "RoamingHouseModel" "steps" "[I") (by decide +kernel)) rfl hin rfl rfl rfl (Nat.le_of_ble_eq_true rfl) dX5_init_8 (fun H2 locs hat hz ho hS => ?_)
  have hat : va_at G vwCl (h, .inr (5, [.ref q1, .null, .null, .null, .int 0, .null, .null, .null, .null, .int 0, .null, .null, .null, .null, .null, .null, .int 0, .null, .null, .null, .null, .null, .null, .null, .int 0, .int 0])) H2 := hat
  have hsz : H2.size = s.heap.size + 1 := by omega
  have hr1 := hr1.kept (ho _ (by omega))
  refine lv_aload_n hx hb dX5_init_11 rfl (lv_at hl 0 rfl) ?_
  refine lv_iconst (v := 4) hx hb dX5_init_12 (by decide) ?_
  refine rh_newa0 hx hb (hts (.arrayClass .int) (by decide +kernel)) hE hS 4 (by decide) (by decide) (by decide) (by decide) (by decide) dX5_init_13 (fun q2 H1 hq2 hr2 hz1 ho1 hS => ?_)
  have hq2 : q2 = s.heap.size + 1 := by omega
  have hsz : H1.size = s.heap.size + 2 := by omega
  have hat := hat.kept (ho1 _ hat.lt)
  have hr1 := hr1.kept (ho1 _ hr1.lt)
  refine rh_putF0 (ci := 5) (C := RX5) (T := TX5) (N := 26) (v := .ref q2) hx hb hts (fun _ h => List.mem_cons_of_mem _ (List.mem_append_right _ (h))) tyX5 tyX5_ok nmX5 hown hE hat rfl hS hh 1 (by decide) (hts (.fieldLink RX5 13 "RoamingHouseModel" "prices" "[I") (by decide +kernel)) rfl hin rfl rfl rfl (Nat.le_of_ble_eq_true rfl) dX5_init_15 (fun H2 locs hat hz ho hS => ?_)
  have hat : va_at G vwCl (h, .inr (5, [.ref q1, .ref q2, .null, .null, .int 0, .null, .null, .null, .null, .int 0, .null, .null, .null, .null, .null, .null, .int 0, .null, .null, .null, .null, .null, .null, .null, .int 0, .int 0])) H2 := hat
  have hsz : H2.size = s.heap.size + 2 := by omega
  have hr1 := hr1.kept (ho _ (by omega))
  have hr2 := hr2.kept (ho _ (by omega))
  refine lv_aload_n hx hb dX5_init_18 rfl (lv_at hl 0 rfl) ?_
  refine lv_iconst (v := 4) hx hb dX5_init_19 (by decide) ?_
  refine rh_newa0 hx hb (hts (.arrayClass .int) (by decide +kernel)) hE hS 4 (by decide) (by decide) (by decide) (by decide) (by decide) dX5_init_20 (fun q3 H1 hq3 hr3 hz1 ho1 hS => ?_)
  have hq3 : q3 = s.heap.size + 2 := by omega
  have hsz : H1.size = s.heap.size + 3 := by omega
  have hat := hat.kept (ho1 _ hat.lt)
  have hr1 := hr1.kept (ho1 _ hr1.lt)
  have hr2 := hr2.kept (ho1 _ hr2.lt)
  refine rh_putF0 (ci := 5) (C := RX5) (T := TX5) (N := 26) (v := .ref q3) hx hb hts (fun _ h => List.mem_cons_of_mem _ (List.mem_append_right _ (h))) tyX5 tyX5_ok nmX5 hown hE hat rfl hS hh 2 (by decide) (hts (.fieldLink RX5 16 "RoamingHouseModel" "beginnings" "[I") (by decide +kernel)) rfl hin rfl rfl rfl (Nat.le_of_ble_eq_true rfl) dX5_init_22 (fun H2 locs hat hz ho hS => ?_)
  have hat : va_at G vwCl (h, .inr (5, [.ref q1, .ref q2, .ref q3, .null, .int 0, .null, .null, .null, .null, .int 0, .null, .null, .null, .null, .null, .null, .int 0, .null, .null, .null, .null, .null, .null, .null, .int 0, .int 0])) H2 := hat
  have hsz : H2.size = s.heap.size + 3 := by omega
  have hr1 := hr1.kept (ho _ (by omega))
  have hr2 := hr2.kept (ho _ (by omega))
  have hr3 := hr3.kept (ho _ (by omega))
  refine lv_aload_n hx hb dX5_init_25 rfl (lv_at hl 0 rfl) ?_
  refine lv_iconst (v := 4) hx hb dX5_init_26 (by decide) ?_
  refine rh_newa0 hx hb (hts (.arrayClass .int) (by decide +kernel)) hE hS 4 (by decide) (by decide) (by decide) (by decide) (by decide) dX5_init_27 (fun q4 H1 hq4 hr4 hz1 ho1 hS => ?_)
  have hq4 : q4 = s.heap.size + 3 := by omega
  have hsz : H1.size = s.heap.size + 4 := by omega
  have hat := hat.kept (ho1 _ hat.lt)
  have hr1 := hr1.kept (ho1 _ hr1.lt)
  have hr2 := hr2.kept (ho1 _ hr2.lt)
  have hr3 := hr3.kept (ho1 _ hr3.lt)
  refine rh_putF0 (ci := 5) (C := RX5) (T := TX5) (N := 26) (v := .ref q4) hx hb hts (fun _ h => List.mem_cons_of_mem _ (List.mem_append_right _ (h))) tyX5 tyX5_ok nmX5 hown hE hat rfl hS hh 3 (by decide) (hts (.fieldLink RX5 19 "RoamingHouseModel" "rates" "[I") (by decide +kernel)) rfl hin rfl rfl rfl (Nat.le_of_ble_eq_true rfl) dX5_init_29 (fun H2 locs hat hz ho hS => ?_)
  have hat : va_at G vwCl (h, .inr (5, [.ref q1, .ref q2, .ref q3, .ref q4, .int 0, .null, .null, .null, .null, .int 0, .null, .null, .null, .null, .null, .null, .int 0, .null, .null, .null, .null, .null, .null, .null, .int 0, .int 0])) H2 := hat
  have hsz : H2.size = s.heap.size + 4 := by omega
  have hr1 := hr1.kept (ho _ (by omega))
  have hr2 := hr2.kept (ho _ (by omega))
  have hr3 := hr3.kept (ho _ (by omega))
  have hr4 := hr4.kept (ho _ (by omega))
  refine lv_aload_n hx hb dX5_init_32 rfl (lv_at hl 0 rfl) ?_
  refine lv_bipush (v := 30) hx hb dX5_init_33 (by decide) ?_
  refine rh_newa0 hx hb (hts (.arrayClass .int) (by decide +kernel)) hE hS 30 (by decide) (by decide) (by decide) (by decide) (by decide) dX5_init_35 (fun q5 H1 hq5 hr5 hz1 ho1 hS => ?_)
  have hq5 : q5 = s.heap.size + 4 := by omega
  have hsz : H1.size = s.heap.size + 5 := by omega
  have hat := hat.kept (ho1 _ hat.lt)
  have hr1 := hr1.kept (ho1 _ hr1.lt)
  have hr2 := hr2.kept (ho1 _ hr2.lt)
  have hr3 := hr3.kept (ho1 _ hr3.lt)
  have hr4 := hr4.kept (ho1 _ hr4.lt)
  refine rh_putF0 (ci := 5) (C := RX5) (T := TX5) (N := 26) (v := .ref q5) hx hb hts (fun _ h => List.mem_cons_of_mem _ (List.mem_append_right _ (h))) tyX5 tyX5_ok nmX5 hown hE hat rfl hS hh 5 (by decide) (hts (.fieldLink RX5 22 "RoamingHouseModel" "pairOf" "[I") (by decide +kernel)) rfl hin rfl rfl rfl (Nat.le_of_ble_eq_true rfl) dX5_init_37 (fun H2 locs hat hz ho hS => ?_)
  have hat : va_at G vwCl (h, .inr (5, [.ref q1, .ref q2, .ref q3, .ref q4, .int 0, .ref q5, .null, .null, .null, .int 0, .null, .null, .null, .null, .null, .null, .int 0, .null, .null, .null, .null, .null, .null, .null, .int 0, .int 0])) H2 := hat
  have hsz : H2.size = s.heap.size + 5 := by omega
  have hr1 := hr1.kept (ho _ (by omega))
  have hr2 := hr2.kept (ho _ (by omega))
  have hr3 := hr3.kept (ho _ (by omega))
  have hr4 := hr4.kept (ho _ (by omega))
  have hr5 := hr5.kept (ho _ (by omega))
  refine lv_aload_n hx hb dX5_init_40 rfl (lv_at hl 0 rfl) ?_
  refine lv_bipush (v := 30) hx hb dX5_init_41 (by decide) ?_
  refine rh_newa0 hx hb (hts (.arrayClass .int) (by decide +kernel)) hE hS 30 (by decide) (by decide) (by decide) (by decide) (by decide) dX5_init_43 (fun q6 H1 hq6 hr6 hz1 ho1 hS => ?_)
  have hq6 : q6 = s.heap.size + 5 := by omega
  have hsz : H1.size = s.heap.size + 6 := by omega
  have hat := hat.kept (ho1 _ hat.lt)
  have hr1 := hr1.kept (ho1 _ hr1.lt)
  have hr2 := hr2.kept (ho1 _ hr2.lt)
  have hr3 := hr3.kept (ho1 _ hr3.lt)
  have hr4 := hr4.kept (ho1 _ hr4.lt)
  have hr5 := hr5.kept (ho1 _ hr5.lt)
  refine rh_putF0 (ci := 5) (C := RX5) (T := TX5) (N := 26) (v := .ref q6) hx hb hts (fun _ h => List.mem_cons_of_mem _ (List.mem_append_right _ (h))) tyX5 tyX5_ok nmX5 hown hE hat rfl hS hh 6 (by decide) (hts (.fieldLink RX5 25 "RoamingHouseModel" "fileMonths" "[I") (by decide +kernel)) rfl hin rfl rfl rfl (Nat.le_of_ble_eq_true rfl) dX5_init_45 (fun H2 locs hat hz ho hS => ?_)
  have hat : va_at G vwCl (h, .inr (5, [.ref q1, .ref q2, .ref q3, .ref q4, .int 0, .ref q5, .ref q6, .null, .null, .int 0, .null, .null, .null, .null, .null, .null, .int 0, .null, .null, .null, .null, .null, .null, .null, .int 0, .int 0])) H2 := hat
  have hsz : H2.size = s.heap.size + 6 := by omega
  have hr1 := hr1.kept (ho _ (by omega))
  have hr2 := hr2.kept (ho _ (by omega))
  have hr3 := hr3.kept (ho _ (by omega))
  have hr4 := hr4.kept (ho _ (by omega))
  have hr5 := hr5.kept (ho _ (by omega))
  have hr6 := hr6.kept (ho _ (by omega))
  refine lv_aload_n hx hb dX5_init_48 rfl (lv_at hl 0 rfl) ?_
  refine lv_bipush (v := 30) hx hb dX5_init_49 (by decide) ?_
  refine rh_newa0 hx hb (hts (.arrayClass .int) (by decide +kernel)) hE hS 30 (by decide) (by decide) (by decide) (by decide) (by decide) dX5_init_51 (fun q7 H1 hq7 hr7 hz1 ho1 hS => ?_)
  have hq7 : q7 = s.heap.size + 6 := by omega
  have hsz : H1.size = s.heap.size + 7 := by omega
  have hat := hat.kept (ho1 _ hat.lt)
  have hr1 := hr1.kept (ho1 _ hr1.lt)
  have hr2 := hr2.kept (ho1 _ hr2.lt)
  have hr3 := hr3.kept (ho1 _ hr3.lt)
  have hr4 := hr4.kept (ho1 _ hr4.lt)
  have hr5 := hr5.kept (ho1 _ hr5.lt)
  have hr6 := hr6.kept (ho1 _ hr6.lt)
  refine rh_putF0 (ci := 5) (C := RX5) (T := TX5) (N := 26) (v := .ref q7) hx hb hts (fun _ h => List.mem_cons_of_mem _ (List.mem_append_right _ (h))) tyX5 tyX5_ok nmX5 hown hE hat rfl hS hh 7 (by decide) (hts (.fieldLink RX5 28 "RoamingHouseModel" "fileStates" "[I") (by decide +kernel)) rfl hin rfl rfl rfl (Nat.le_of_ble_eq_true rfl) dX5_init_53 (fun H2 locs hat hz ho hS => ?_)
  have hat : va_at G vwCl (h, .inr (5, [.ref q1, .ref q2, .ref q3, .ref q4, .int 0, .ref q5, .ref q6, .ref q7, .null, .int 0, .null, .null, .null, .null, .null, .null, .int 0, .null, .null, .null, .null, .null, .null, .null, .int 0, .int 0])) H2 := hat
  have hsz : H2.size = s.heap.size + 7 := by omega
  have hr1 := hr1.kept (ho _ (by omega))
  have hr2 := hr2.kept (ho _ (by omega))
  have hr3 := hr3.kept (ho _ (by omega))
  have hr4 := hr4.kept (ho _ (by omega))
  have hr5 := hr5.kept (ho _ (by omega))
  have hr6 := hr6.kept (ho _ (by omega))
  have hr7 := hr7.kept (ho _ (by omega))
  refine lv_aload_n hx hb dX5_init_56 rfl (lv_at hl 0 rfl) ?_
  refine lv_bipush (v := 30) hx hb dX5_init_57 (by decide) ?_
  refine rh_newa0 hx hb (hts (.arrayClass .int) (by decide +kernel)) hE hS 30 (by decide) (by decide) (by decide) (by decide) (by decide) dX5_init_59 (fun q8 H1 hq8 hr8 hz1 ho1 hS => ?_)
  have hq8 : q8 = s.heap.size + 7 := by omega
  have hsz : H1.size = s.heap.size + 8 := by omega
  have hat := hat.kept (ho1 _ hat.lt)
  have hr1 := hr1.kept (ho1 _ hr1.lt)
  have hr2 := hr2.kept (ho1 _ hr2.lt)
  have hr3 := hr3.kept (ho1 _ hr3.lt)
  have hr4 := hr4.kept (ho1 _ hr4.lt)
  have hr5 := hr5.kept (ho1 _ hr5.lt)
  have hr6 := hr6.kept (ho1 _ hr6.lt)
  have hr7 := hr7.kept (ho1 _ hr7.lt)
  refine rh_putF0 (ci := 5) (C := RX5) (T := TX5) (N := 26) (v := .ref q8) hx hb hts (fun _ h => List.mem_cons_of_mem _ (List.mem_append_right _ (h))) tyX5 tyX5_ok nmX5 hown hE hat rfl hS hh 8 (by decide) (hts (.fieldLink RX5 31 "RoamingHouseModel" "sentAs" "[I") (by decide +kernel)) rfl hin rfl rfl rfl (Nat.le_of_ble_eq_true rfl) dX5_init_61 (fun H2 locs hat hz ho hS => ?_)
  have hat : va_at G vwCl (h, .inr (5, [.ref q1, .ref q2, .ref q3, .ref q4, .int 0, .ref q5, .ref q6, .ref q7, .ref q8, .int 0, .null, .null, .null, .null, .null, .null, .int 0, .null, .null, .null, .null, .null, .null, .null, .int 0, .int 0])) H2 := hat
  have hsz : H2.size = s.heap.size + 8 := by omega
  have hr1 := hr1.kept (ho _ (by omega))
  have hr2 := hr2.kept (ho _ (by omega))
  have hr3 := hr3.kept (ho _ (by omega))
  have hr4 := hr4.kept (ho _ (by omega))
  have hr5 := hr5.kept (ho _ (by omega))
  have hr6 := hr6.kept (ho _ (by omega))
  have hr7 := hr7.kept (ho _ (by omega))
  have hr8 := hr8.kept (ho _ (by omega))
  refine lv_aload_n hx hb dX5_init_64 rfl (lv_at hl 0 rfl) ?_
  refine lv_bipush (v := 60) hx hb dX5_init_65 (by decide) ?_
  refine rh_newa0 hx hb (hts (.arrayClass .int) (by decide +kernel)) hE hS 60 (by decide) (by decide) (by decide) (by decide) (by decide) dX5_init_67 (fun q9 H1 hq9 hr9 hz1 ho1 hS => ?_)
  have hq9 : q9 = s.heap.size + 8 := by omega
  have hsz : H1.size = s.heap.size + 9 := by omega
  have hat := hat.kept (ho1 _ hat.lt)
  have hr1 := hr1.kept (ho1 _ hr1.lt)
  have hr2 := hr2.kept (ho1 _ hr2.lt)
  have hr3 := hr3.kept (ho1 _ hr3.lt)
  have hr4 := hr4.kept (ho1 _ hr4.lt)
  have hr5 := hr5.kept (ho1 _ hr5.lt)
  have hr6 := hr6.kept (ho1 _ hr6.lt)
  have hr7 := hr7.kept (ho1 _ hr7.lt)
  have hr8 := hr8.kept (ho1 _ hr8.lt)
  refine rh_putF0 (ci := 5) (C := RX5) (T := TX5) (N := 26) (v := .ref q9) hx hb hts (fun _ h => List.mem_cons_of_mem _ (List.mem_append_right _ (h))) tyX5 tyX5_ok nmX5 hown hE hat rfl hS hh 10 (by decide) (hts (.fieldLink RX5 34 "RoamingHouseModel" "fileOf" "[I") (by decide +kernel)) rfl hin rfl rfl rfl (Nat.le_of_ble_eq_true rfl) dX5_init_69 (fun H2 locs hat hz ho hS => ?_)
  have hat : va_at G vwCl (h, .inr (5, [.ref q1, .ref q2, .ref q3, .ref q4, .int 0, .ref q5, .ref q6, .ref q7, .ref q8, .int 0, .ref q9, .null, .null, .null, .null, .null, .int 0, .null, .null, .null, .null, .null, .null, .null, .int 0, .int 0])) H2 := hat
  have hsz : H2.size = s.heap.size + 9 := by omega
  have hr1 := hr1.kept (ho _ (by omega))
  have hr2 := hr2.kept (ho _ (by omega))
  have hr3 := hr3.kept (ho _ (by omega))
  have hr4 := hr4.kept (ho _ (by omega))
  have hr5 := hr5.kept (ho _ (by omega))
  have hr6 := hr6.kept (ho _ (by omega))
  have hr7 := hr7.kept (ho _ (by omega))
  have hr8 := hr8.kept (ho _ (by omega))
  have hr9 := hr9.kept (ho _ (by omega))
  refine lv_aload_n hx hb dX5_init_72 rfl (lv_at hl 0 rfl) ?_
  refine lv_bipush (v := 60) hx hb dX5_init_73 (by decide) ?_
  refine rh_newa0 hx hb (hts (.arrayClass .int) (by decide +kernel)) hE hS 60 (by decide) (by decide) (by decide) (by decide) (by decide) dX5_init_75 (fun q10 H1 hq10 hr10 hz1 ho1 hS => ?_)
  have hq10 : q10 = s.heap.size + 9 := by omega
  have hsz : H1.size = s.heap.size + 10 := by omega
  have hat := hat.kept (ho1 _ hat.lt)
  have hr1 := hr1.kept (ho1 _ hr1.lt)
  have hr2 := hr2.kept (ho1 _ hr2.lt)
  have hr3 := hr3.kept (ho1 _ hr3.lt)
  have hr4 := hr4.kept (ho1 _ hr4.lt)
  have hr5 := hr5.kept (ho1 _ hr5.lt)
  have hr6 := hr6.kept (ho1 _ hr6.lt)
  have hr7 := hr7.kept (ho1 _ hr7.lt)
  have hr8 := hr8.kept (ho1 _ hr8.lt)
  have hr9 := hr9.kept (ho1 _ hr9.lt)
  refine rh_putF0 (ci := 5) (C := RX5) (T := TX5) (N := 26) (v := .ref q10) hx hb hts (fun _ h => List.mem_cons_of_mem _ (List.mem_append_right _ (h))) tyX5 tyX5_ok nmX5 hown hE hat rfl hS hh 11 (by decide) (hts (.fieldLink RX5 37 "RoamingHouseModel" "secondsOf" "[I") (by decide +kernel)) rfl hin rfl rfl rfl (Nat.le_of_ble_eq_true rfl) dX5_init_77 (fun H2 locs hat hz ho hS => ?_)
  have hat : va_at G vwCl (h, .inr (5, [.ref q1, .ref q2, .ref q3, .ref q4, .int 0, .ref q5, .ref q6, .ref q7, .ref q8, .int 0, .ref q9, .ref q10, .null, .null, .null, .null, .int 0, .null, .null, .null, .null, .null, .null, .null, .int 0, .int 0])) H2 := hat
  have hsz : H2.size = s.heap.size + 10 := by omega
  have hr1 := hr1.kept (ho _ (by omega))
  have hr2 := hr2.kept (ho _ (by omega))
  have hr3 := hr3.kept (ho _ (by omega))
  have hr4 := hr4.kept (ho _ (by omega))
  have hr5 := hr5.kept (ho _ (by omega))
  have hr6 := hr6.kept (ho _ (by omega))
  have hr7 := hr7.kept (ho _ (by omega))
  have hr8 := hr8.kept (ho _ (by omega))
  have hr9 := hr9.kept (ho _ (by omega))
  have hr10 := hr10.kept (ho _ (by omega))
  refine lv_aload_n hx hb dX5_init_80 rfl (lv_at hl 0 rfl) ?_
  refine lv_bipush (v := 60) hx hb dX5_init_81 (by decide) ?_
  refine rh_newa0 hx hb (hts (.arrayClass .int) (by decide +kernel)) hE hS 60 (by decide) (by decide) (by decide) (by decide) (by decide) dX5_init_83 (fun q11 H1 hq11 hr11 hz1 ho1 hS => ?_)
  have hq11 : q11 = s.heap.size + 10 := by omega
  have hsz : H1.size = s.heap.size + 11 := by omega
  have hat := hat.kept (ho1 _ hat.lt)
  have hr1 := hr1.kept (ho1 _ hr1.lt)
  have hr2 := hr2.kept (ho1 _ hr2.lt)
  have hr3 := hr3.kept (ho1 _ hr3.lt)
  have hr4 := hr4.kept (ho1 _ hr4.lt)
  have hr5 := hr5.kept (ho1 _ hr5.lt)
  have hr6 := hr6.kept (ho1 _ hr6.lt)
  have hr7 := hr7.kept (ho1 _ hr7.lt)
  have hr8 := hr8.kept (ho1 _ hr8.lt)
  have hr9 := hr9.kept (ho1 _ hr9.lt)
  have hr10 := hr10.kept (ho1 _ hr10.lt)
  refine rh_putF0 (ci := 5) (C := RX5) (T := TX5) (N := 26) (v := .ref q11) hx hb hts (fun _ h => List.mem_cons_of_mem _ (List.mem_append_right _ (h))) tyX5 tyX5_ok nmX5 hown hE hat rfl hS hh 12 (by decide) (hts (.fieldLink RX5 40 "RoamingHouseModel" "charges" "[I") (by decide +kernel)) rfl hin rfl rfl rfl (Nat.le_of_ble_eq_true rfl) dX5_init_85 (fun H2 locs hat hz ho hS => ?_)
  have hat : va_at G vwCl (h, .inr (5, [.ref q1, .ref q2, .ref q3, .ref q4, .int 0, .ref q5, .ref q6, .ref q7, .ref q8, .int 0, .ref q9, .ref q10, .ref q11, .null, .null, .null, .int 0, .null, .null, .null, .null, .null, .null, .null, .int 0, .int 0])) H2 := hat
  have hsz : H2.size = s.heap.size + 11 := by omega
  have hr1 := hr1.kept (ho _ (by omega))
  have hr2 := hr2.kept (ho _ (by omega))
  have hr3 := hr3.kept (ho _ (by omega))
  have hr4 := hr4.kept (ho _ (by omega))
  have hr5 := hr5.kept (ho _ (by omega))
  have hr6 := hr6.kept (ho _ (by omega))
  have hr7 := hr7.kept (ho _ (by omega))
  have hr8 := hr8.kept (ho _ (by omega))
  have hr9 := hr9.kept (ho _ (by omega))
  have hr10 := hr10.kept (ho _ (by omega))
  have hr11 := hr11.kept (ho _ (by omega))
  refine lv_aload_n hx hb dX5_init_88 rfl (lv_at hl 0 rfl) ?_
  refine lv_bipush (v := 60) hx hb dX5_init_89 (by decide) ?_
  refine rh_newa0 hx hb (hts (.arrayClass .int) (by decide +kernel)) hE hS 60 (by decide) (by decide) (by decide) (by decide) (by decide) dX5_init_91 (fun q12 H1 hq12 hr12 hz1 ho1 hS => ?_)
  have hq12 : q12 = s.heap.size + 11 := by omega
  have hsz : H1.size = s.heap.size + 12 := by omega
  have hat := hat.kept (ho1 _ hat.lt)
  have hr1 := hr1.kept (ho1 _ hr1.lt)
  have hr2 := hr2.kept (ho1 _ hr2.lt)
  have hr3 := hr3.kept (ho1 _ hr3.lt)
  have hr4 := hr4.kept (ho1 _ hr4.lt)
  have hr5 := hr5.kept (ho1 _ hr5.lt)
  have hr6 := hr6.kept (ho1 _ hr6.lt)
  have hr7 := hr7.kept (ho1 _ hr7.lt)
  have hr8 := hr8.kept (ho1 _ hr8.lt)
  have hr9 := hr9.kept (ho1 _ hr9.lt)
  have hr10 := hr10.kept (ho1 _ hr10.lt)
  have hr11 := hr11.kept (ho1 _ hr11.lt)
  refine rh_putF0 (ci := 5) (C := RX5) (T := TX5) (N := 26) (v := .ref q12) hx hb hts (fun _ h => List.mem_cons_of_mem _ (List.mem_append_right _ (h))) tyX5 tyX5_ok nmX5 hown hE hat rfl hS hh 13 (by decide) (hts (.fieldLink RX5 43 "RoamingHouseModel" "callStates" "[I") (by decide +kernel)) rfl hin rfl rfl rfl (Nat.le_of_ble_eq_true rfl) dX5_init_93 (fun H2 locs hat hz ho hS => ?_)
  have hat : va_at G vwCl (h, .inr (5, [.ref q1, .ref q2, .ref q3, .ref q4, .int 0, .ref q5, .ref q6, .ref q7, .ref q8, .int 0, .ref q9, .ref q10, .ref q11, .ref q12, .null, .null, .int 0, .null, .null, .null, .null, .null, .null, .null, .int 0, .int 0])) H2 := hat
  have hsz : H2.size = s.heap.size + 12 := by omega
  have hr1 := hr1.kept (ho _ (by omega))
  have hr2 := hr2.kept (ho _ (by omega))
  have hr3 := hr3.kept (ho _ (by omega))
  have hr4 := hr4.kept (ho _ (by omega))
  have hr5 := hr5.kept (ho _ (by omega))
  have hr6 := hr6.kept (ho _ (by omega))
  have hr7 := hr7.kept (ho _ (by omega))
  have hr8 := hr8.kept (ho _ (by omega))
  have hr9 := hr9.kept (ho _ (by omega))
  have hr10 := hr10.kept (ho _ (by omega))
  have hr11 := hr11.kept (ho _ (by omega))
  have hr12 := hr12.kept (ho _ (by omega))
  refine lv_aload_n hx hb dX5_init_96 rfl (lv_at hl 0 rfl) ?_
  refine lv_bipush (v := 60) hx hb dX5_init_97 (by decide) ?_
  refine rh_newa0 hx hb (hts (.arrayClass .int) (by decide +kernel)) hE hS 60 (by decide) (by decide) (by decide) (by decide) (by decide) dX5_init_99 (fun q13 H1 hq13 hr13 hz1 ho1 hS => ?_)
  have hq13 : q13 = s.heap.size + 12 := by omega
  have hsz : H1.size = s.heap.size + 13 := by omega
  have hat := hat.kept (ho1 _ hat.lt)
  have hr1 := hr1.kept (ho1 _ hr1.lt)
  have hr2 := hr2.kept (ho1 _ hr2.lt)
  have hr3 := hr3.kept (ho1 _ hr3.lt)
  have hr4 := hr4.kept (ho1 _ hr4.lt)
  have hr5 := hr5.kept (ho1 _ hr5.lt)
  have hr6 := hr6.kept (ho1 _ hr6.lt)
  have hr7 := hr7.kept (ho1 _ hr7.lt)
  have hr8 := hr8.kept (ho1 _ hr8.lt)
  have hr9 := hr9.kept (ho1 _ hr9.lt)
  have hr10 := hr10.kept (ho1 _ hr10.lt)
  have hr11 := hr11.kept (ho1 _ hr11.lt)
  have hr12 := hr12.kept (ho1 _ hr12.lt)
  refine rh_putF0 (ci := 5) (C := RX5) (T := TX5) (N := 26) (v := .ref q13) hx hb hts (fun _ h => List.mem_cons_of_mem _ (List.mem_append_right _ (h))) tyX5 tyX5_ok nmX5 hown hE hat rfl hS hh 14 (by decide) (hts (.fieldLink RX5 46 "RoamingHouseModel" "months" "[I") (by decide +kernel)) rfl hin rfl rfl rfl (Nat.le_of_ble_eq_true rfl) dX5_init_101 (fun H2 locs hat hz ho hS => ?_)
  have hat : va_at G vwCl (h, .inr (5, [.ref q1, .ref q2, .ref q3, .ref q4, .int 0, .ref q5, .ref q6, .ref q7, .ref q8, .int 0, .ref q9, .ref q10, .ref q11, .ref q12, .ref q13, .null, .int 0, .null, .null, .null, .null, .null, .null, .null, .int 0, .int 0])) H2 := hat
  have hsz : H2.size = s.heap.size + 13 := by omega
  have hr1 := hr1.kept (ho _ (by omega))
  have hr2 := hr2.kept (ho _ (by omega))
  have hr3 := hr3.kept (ho _ (by omega))
  have hr4 := hr4.kept (ho _ (by omega))
  have hr5 := hr5.kept (ho _ (by omega))
  have hr6 := hr6.kept (ho _ (by omega))
  have hr7 := hr7.kept (ho _ (by omega))
  have hr8 := hr8.kept (ho _ (by omega))
  have hr9 := hr9.kept (ho _ (by omega))
  have hr10 := hr10.kept (ho _ (by omega))
  have hr11 := hr11.kept (ho _ (by omega))
  have hr12 := hr12.kept (ho _ (by omega))
  have hr13 := hr13.kept (ho _ (by omega))
  refine lv_aload_n hx hb dX5_init_104 rfl (lv_at hl 0 rfl) ?_
  refine lv_bipush (v := 60) hx hb dX5_init_105 (by decide) ?_
  refine rh_newa0 hx hb (hts (.arrayClass .int) (by decide +kernel)) hE hS 60 (by decide) (by decide) (by decide) (by decide) (by decide) dX5_init_107 (fun q14 H1 hq14 hr14 hz1 ho1 hS => ?_)
  have hq14 : q14 = s.heap.size + 13 := by omega
  have hsz : H1.size = s.heap.size + 14 := by omega
  have hat := hat.kept (ho1 _ hat.lt)
  have hr1 := hr1.kept (ho1 _ hr1.lt)
  have hr2 := hr2.kept (ho1 _ hr2.lt)
  have hr3 := hr3.kept (ho1 _ hr3.lt)
  have hr4 := hr4.kept (ho1 _ hr4.lt)
  have hr5 := hr5.kept (ho1 _ hr5.lt)
  have hr6 := hr6.kept (ho1 _ hr6.lt)
  have hr7 := hr7.kept (ho1 _ hr7.lt)
  have hr8 := hr8.kept (ho1 _ hr8.lt)
  have hr9 := hr9.kept (ho1 _ hr9.lt)
  have hr10 := hr10.kept (ho1 _ hr10.lt)
  have hr11 := hr11.kept (ho1 _ hr11.lt)
  have hr12 := hr12.kept (ho1 _ hr12.lt)
  have hr13 := hr13.kept (ho1 _ hr13.lt)
  refine rh_putF0 (ci := 5) (C := RX5) (T := TX5) (N := 26) (v := .ref q14) hx hb hts (fun _ h => List.mem_cons_of_mem _ (List.mem_append_right _ (h))) tyX5 tyX5_ok nmX5 hown hE hat rfl hS hh 15 (by decide) (hts (.fieldLink RX5 49 "RoamingHouseModel" "disputedIn" "[I") (by decide +kernel)) rfl hin rfl rfl rfl (Nat.le_of_ble_eq_true rfl) dX5_init_109 (fun H2 locs hat hz ho hS => ?_)
  have hat : va_at G vwCl (h, .inr (5, [.ref q1, .ref q2, .ref q3, .ref q4, .int 0, .ref q5, .ref q6, .ref q7, .ref q8, .int 0, .ref q9, .ref q10, .ref q11, .ref q12, .ref q13, .ref q14, .int 0, .null, .null, .null, .null, .null, .null, .null, .int 0, .int 0])) H2 := hat
  have hsz : H2.size = s.heap.size + 14 := by omega
  have hr1 := hr1.kept (ho _ (by omega))
  have hr2 := hr2.kept (ho _ (by omega))
  have hr3 := hr3.kept (ho _ (by omega))
  have hr4 := hr4.kept (ho _ (by omega))
  have hr5 := hr5.kept (ho _ (by omega))
  have hr6 := hr6.kept (ho _ (by omega))
  have hr7 := hr7.kept (ho _ (by omega))
  have hr8 := hr8.kept (ho _ (by omega))
  have hr9 := hr9.kept (ho _ (by omega))
  have hr10 := hr10.kept (ho _ (by omega))
  have hr11 := hr11.kept (ho _ (by omega))
  have hr12 := hr12.kept (ho _ (by omega))
  have hr13 := hr13.kept (ho _ (by omega))
  have hr14 := hr14.kept (ho _ (by omega))
  refine lv_aload_n hx hb dX5_init_112 rfl (lv_at hl 0 rfl) ?_
  refine lv_bipush (v := 60) hx hb dX5_init_113 (by decide) ?_
  refine rh_newa0 hx hb (hts (.arrayClass .int) (by decide +kernel)) hE hS 60 (by decide) (by decide) (by decide) (by decide) (by decide) dX5_init_115 (fun q15 H1 hq15 hr15 hz1 ho1 hS => ?_)
  have hq15 : q15 = s.heap.size + 14 := by omega
  have hsz : H1.size = s.heap.size + 15 := by omega
  have hat := hat.kept (ho1 _ hat.lt)
  have hr1 := hr1.kept (ho1 _ hr1.lt)
  have hr2 := hr2.kept (ho1 _ hr2.lt)
  have hr3 := hr3.kept (ho1 _ hr3.lt)
  have hr4 := hr4.kept (ho1 _ hr4.lt)
  have hr5 := hr5.kept (ho1 _ hr5.lt)
  have hr6 := hr6.kept (ho1 _ hr6.lt)
  have hr7 := hr7.kept (ho1 _ hr7.lt)
  have hr8 := hr8.kept (ho1 _ hr8.lt)
  have hr9 := hr9.kept (ho1 _ hr9.lt)
  have hr10 := hr10.kept (ho1 _ hr10.lt)
  have hr11 := hr11.kept (ho1 _ hr11.lt)
  have hr12 := hr12.kept (ho1 _ hr12.lt)
  have hr13 := hr13.kept (ho1 _ hr13.lt)
  have hr14 := hr14.kept (ho1 _ hr14.lt)
  refine rh_putF0 (ci := 5) (C := RX5) (T := TX5) (N := 26) (v := .ref q15) hx hb hts (fun _ h => List.mem_cons_of_mem _ (List.mem_append_right _ (h))) tyX5 tyX5_ok nmX5 hown hE hat rfl hS hh 17 (by decide) (hts (.fieldLink RX5 52 "RoamingHouseModel" "accepted" "[I") (by decide +kernel)) rfl hin rfl rfl rfl (Nat.le_of_ble_eq_true rfl) dX5_init_117 (fun H2 locs hat hz ho hS => ?_)
  have hat : va_at G vwCl (h, .inr (5, [.ref q1, .ref q2, .ref q3, .ref q4, .int 0, .ref q5, .ref q6, .ref q7, .ref q8, .int 0, .ref q9, .ref q10, .ref q11, .ref q12, .ref q13, .ref q14, .int 0, .ref q15, .null, .null, .null, .null, .null, .null, .int 0, .int 0])) H2 := hat
  have hsz : H2.size = s.heap.size + 15 := by omega
  have hr1 := hr1.kept (ho _ (by omega))
  have hr2 := hr2.kept (ho _ (by omega))
  have hr3 := hr3.kept (ho _ (by omega))
  have hr4 := hr4.kept (ho _ (by omega))
  have hr5 := hr5.kept (ho _ (by omega))
  have hr6 := hr6.kept (ho _ (by omega))
  have hr7 := hr7.kept (ho _ (by omega))
  have hr8 := hr8.kept (ho _ (by omega))
  have hr9 := hr9.kept (ho _ (by omega))
  have hr10 := hr10.kept (ho _ (by omega))
  have hr11 := hr11.kept (ho _ (by omega))
  have hr12 := hr12.kept (ho _ (by omega))
  have hr13 := hr13.kept (ho _ (by omega))
  have hr14 := hr14.kept (ho _ (by omega))
  have hr15 := hr15.kept (ho _ (by omega))
  refine lv_aload_n hx hb dX5_init_120 rfl (lv_at hl 0 rfl) ?_
  refine lv_bipush (v := 16) hx hb dX5_init_121 (by decide) ?_
  refine rh_newa0 hx hb (hts (.arrayClass .int) (by decide +kernel)) hE hS 16 (by decide) (by decide) (by decide) (by decide) (by decide) dX5_init_123 (fun q16 H1 hq16 hr16 hz1 ho1 hS => ?_)
  have hq16 : q16 = s.heap.size + 15 := by omega
  have hsz : H1.size = s.heap.size + 16 := by omega
  have hat := hat.kept (ho1 _ hat.lt)
  have hr1 := hr1.kept (ho1 _ hr1.lt)
  have hr2 := hr2.kept (ho1 _ hr2.lt)
  have hr3 := hr3.kept (ho1 _ hr3.lt)
  have hr4 := hr4.kept (ho1 _ hr4.lt)
  have hr5 := hr5.kept (ho1 _ hr5.lt)
  have hr6 := hr6.kept (ho1 _ hr6.lt)
  have hr7 := hr7.kept (ho1 _ hr7.lt)
  have hr8 := hr8.kept (ho1 _ hr8.lt)
  have hr9 := hr9.kept (ho1 _ hr9.lt)
  have hr10 := hr10.kept (ho1 _ hr10.lt)
  have hr11 := hr11.kept (ho1 _ hr11.lt)
  have hr12 := hr12.kept (ho1 _ hr12.lt)
  have hr13 := hr13.kept (ho1 _ hr13.lt)
  have hr14 := hr14.kept (ho1 _ hr14.lt)
  have hr15 := hr15.kept (ho1 _ hr15.lt)
  refine rh_putF0 (ci := 5) (C := RX5) (T := TX5) (N := 26) (v := .ref q16) hx hb hts (fun _ h => List.mem_cons_of_mem _ (List.mem_append_right _ (h))) tyX5 tyX5_ok nmX5 hown hE hat rfl hS hh 18 (by decide) (hts (.fieldLink RX5 55 "RoamingHouseModel" "expects" "[I") (by decide +kernel)) rfl hin rfl rfl rfl (Nat.le_of_ble_eq_true rfl) dX5_init_125 (fun H2 locs hat hz ho hS => ?_)
  have hat : va_at G vwCl (h, .inr (5, [.ref q1, .ref q2, .ref q3, .ref q4, .int 0, .ref q5, .ref q6, .ref q7, .ref q8, .int 0, .ref q9, .ref q10, .ref q11, .ref q12, .ref q13, .ref q14, .int 0, .ref q15, .ref q16, .null, .null, .null, .null, .null, .int 0, .int 0])) H2 := hat
  have hsz : H2.size = s.heap.size + 16 := by omega
  have hr1 := hr1.kept (ho _ (by omega))
  have hr2 := hr2.kept (ho _ (by omega))
  have hr3 := hr3.kept (ho _ (by omega))
  have hr4 := hr4.kept (ho _ (by omega))
  have hr5 := hr5.kept (ho _ (by omega))
  have hr6 := hr6.kept (ho _ (by omega))
  have hr7 := hr7.kept (ho _ (by omega))
  have hr8 := hr8.kept (ho _ (by omega))
  have hr9 := hr9.kept (ho _ (by omega))
  have hr10 := hr10.kept (ho _ (by omega))
  have hr11 := hr11.kept (ho _ (by omega))
  have hr12 := hr12.kept (ho _ (by omega))
  have hr13 := hr13.kept (ho _ (by omega))
  have hr14 := hr14.kept (ho _ (by omega))
  have hr15 := hr15.kept (ho _ (by omega))
  have hr16 := hr16.kept (ho _ (by omega))
  refine lv_aload_n hx hb dX5_init_128 rfl (lv_at hl 0 rfl) ?_
  refine lv_bipush (v := 16) hx hb dX5_init_129 (by decide) ?_
  refine rh_newz0 hx hb (hts (.arrayClass .boolean) (by decide +kernel)) hE hS 16 (by decide) (by decide) (by decide) (by decide) (by decide) dX5_init_131 (fun q17 H1 hq17 hr17 hz1 ho1 hS => ?_)
  have hq17 : q17 = s.heap.size + 16 := by omega
  have hsz : H1.size = s.heap.size + 17 := by omega
  have hat := hat.kept (ho1 _ hat.lt)
  have hr1 := hr1.kept (ho1 _ hr1.lt)
  have hr2 := hr2.kept (ho1 _ hr2.lt)
  have hr3 := hr3.kept (ho1 _ hr3.lt)
  have hr4 := hr4.kept (ho1 _ hr4.lt)
  have hr5 := hr5.kept (ho1 _ hr5.lt)
  have hr6 := hr6.kept (ho1 _ hr6.lt)
  have hr7 := hr7.kept (ho1 _ hr7.lt)
  have hr8 := hr8.kept (ho1 _ hr8.lt)
  have hr9 := hr9.kept (ho1 _ hr9.lt)
  have hr10 := hr10.kept (ho1 _ hr10.lt)
  have hr11 := hr11.kept (ho1 _ hr11.lt)
  have hr12 := hr12.kept (ho1 _ hr12.lt)
  have hr13 := hr13.kept (ho1 _ hr13.lt)
  have hr14 := hr14.kept (ho1 _ hr14.lt)
  have hr15 := hr15.kept (ho1 _ hr15.lt)
  have hr16 := hr16.kept (ho1 _ hr16.lt)
  refine rh_putF0 (ci := 5) (C := RX5) (T := TX5) (N := 26) (v := .ref q17) hx hb hts (fun _ h => List.mem_cons_of_mem _ (List.mem_append_right _ (h))) tyX5 tyX5_ok nmX5 hown hE hat rfl hS hh 19 (by decide) (hts (.fieldLink RX5 58 "RoamingHouseModel" "hasAgreement" "[Z") (by decide +kernel)) rfl hin rfl rfl rfl (Nat.le_of_ble_eq_true rfl) dX5_init_133 (fun H2 locs hat hz ho hS => ?_)
  have hat : va_at G vwCl (h, .inr (5, [.ref q1, .ref q2, .ref q3, .ref q4, .int 0, .ref q5, .ref q6, .ref q7, .ref q8, .int 0, .ref q9, .ref q10, .ref q11, .ref q12, .ref q13, .ref q14, .int 0, .ref q15, .ref q16, .ref q17, .null, .null, .null, .null, .int 0, .int 0])) H2 := hat
  have hsz : H2.size = s.heap.size + 17 := by omega
  have hr1 := hr1.kept (ho _ (by omega))
  have hr2 := hr2.kept (ho _ (by omega))
  have hr3 := hr3.kept (ho _ (by omega))
  have hr4 := hr4.kept (ho _ (by omega))
  have hr5 := hr5.kept (ho _ (by omega))
  have hr6 := hr6.kept (ho _ (by omega))
  have hr7 := hr7.kept (ho _ (by omega))
  have hr8 := hr8.kept (ho _ (by omega))
  have hr9 := hr9.kept (ho _ (by omega))
  have hr10 := hr10.kept (ho _ (by omega))
  have hr11 := hr11.kept (ho _ (by omega))
  have hr12 := hr12.kept (ho _ (by omega))
  have hr13 := hr13.kept (ho _ (by omega))
  have hr14 := hr14.kept (ho _ (by omega))
  have hr15 := hr15.kept (ho _ (by omega))
  have hr16 := hr16.kept (ho _ (by omega))
  have hr17 := hr17.kept (ho _ (by omega))
  refine lv_aload_n hx hb dX5_init_136 rfl (lv_at hl 0 rfl) ?_
  refine lv_bipush (v := 16) hx hb dX5_init_137 (by decide) ?_
  refine rh_newa0 hx hb (hts (.arrayClass .int) (by decide +kernel)) hE hS 16 (by decide) (by decide) (by decide) (by decide) (by decide) dX5_init_139 (fun q18 H1 hq18 hr18 hz1 ho1 hS => ?_)
  have hq18 : q18 = s.heap.size + 17 := by omega
  have hsz : H1.size = s.heap.size + 18 := by omega
  have hat := hat.kept (ho1 _ hat.lt)
  have hr1 := hr1.kept (ho1 _ hr1.lt)
  have hr2 := hr2.kept (ho1 _ hr2.lt)
  have hr3 := hr3.kept (ho1 _ hr3.lt)
  have hr4 := hr4.kept (ho1 _ hr4.lt)
  have hr5 := hr5.kept (ho1 _ hr5.lt)
  have hr6 := hr6.kept (ho1 _ hr6.lt)
  have hr7 := hr7.kept (ho1 _ hr7.lt)
  have hr8 := hr8.kept (ho1 _ hr8.lt)
  have hr9 := hr9.kept (ho1 _ hr9.lt)
  have hr10 := hr10.kept (ho1 _ hr10.lt)
  have hr11 := hr11.kept (ho1 _ hr11.lt)
  have hr12 := hr12.kept (ho1 _ hr12.lt)
  have hr13 := hr13.kept (ho1 _ hr13.lt)
  have hr14 := hr14.kept (ho1 _ hr14.lt)
  have hr15 := hr15.kept (ho1 _ hr15.lt)
  have hr16 := hr16.kept (ho1 _ hr16.lt)
  have hr17 := hr17.kept (ho1 _ hr17.lt)
  refine rh_putF0 (ci := 5) (C := RX5) (T := TX5) (N := 26) (v := .ref q18) hx hb hts (fun _ h => List.mem_cons_of_mem _ (List.mem_append_right _ (h))) tyX5 tyX5_ok nmX5 hown hE hat rfl hS hh 20 (by decide) (hts (.fieldLink RX5 62 "RoamingHouseModel" "volumes" "[I") (by decide +kernel)) rfl hin rfl rfl rfl (Nat.le_of_ble_eq_true rfl) dX5_init_141 (fun H2 locs hat hz ho hS => ?_)
  have hat : va_at G vwCl (h, .inr (5, [.ref q1, .ref q2, .ref q3, .ref q4, .int 0, .ref q5, .ref q6, .ref q7, .ref q8, .int 0, .ref q9, .ref q10, .ref q11, .ref q12, .ref q13, .ref q14, .int 0, .ref q15, .ref q16, .ref q17, .ref q18, .null, .null, .null, .int 0, .int 0])) H2 := hat
  have hsz : H2.size = s.heap.size + 18 := by omega
  have hr1 := hr1.kept (ho _ (by omega))
  have hr2 := hr2.kept (ho _ (by omega))
  have hr3 := hr3.kept (ho _ (by omega))
  have hr4 := hr4.kept (ho _ (by omega))
  have hr5 := hr5.kept (ho _ (by omega))
  have hr6 := hr6.kept (ho _ (by omega))
  have hr7 := hr7.kept (ho _ (by omega))
  have hr8 := hr8.kept (ho _ (by omega))
  have hr9 := hr9.kept (ho _ (by omega))
  have hr10 := hr10.kept (ho _ (by omega))
  have hr11 := hr11.kept (ho _ (by omega))
  have hr12 := hr12.kept (ho _ (by omega))
  have hr13 := hr13.kept (ho _ (by omega))
  have hr14 := hr14.kept (ho _ (by omega))
  have hr15 := hr15.kept (ho _ (by omega))
  have hr16 := hr16.kept (ho _ (by omega))
  have hr17 := hr17.kept (ho _ (by omega))
  have hr18 := hr18.kept (ho _ (by omega))
  refine lv_aload_n hx hb dX5_init_144 rfl (lv_at hl 0 rfl) ?_
  refine lv_bipush (v := 16) hx hb dX5_init_145 (by decide) ?_
  refine rh_newa0 hx hb (hts (.arrayClass .int) (by decide +kernel)) hE hS 16 (by decide) (by decide) (by decide) (by decide) (by decide) dX5_init_147 (fun q19 H1 hq19 hr19 hz1 ho1 hS => ?_)
  have hq19 : q19 = s.heap.size + 18 := by omega
  have hsz : H1.size = s.heap.size + 19 := by omega
  have hat := hat.kept (ho1 _ hat.lt)
  have hr1 := hr1.kept (ho1 _ hr1.lt)
  have hr2 := hr2.kept (ho1 _ hr2.lt)
  have hr3 := hr3.kept (ho1 _ hr3.lt)
  have hr4 := hr4.kept (ho1 _ hr4.lt)
  have hr5 := hr5.kept (ho1 _ hr5.lt)
  have hr6 := hr6.kept (ho1 _ hr6.lt)
  have hr7 := hr7.kept (ho1 _ hr7.lt)
  have hr8 := hr8.kept (ho1 _ hr8.lt)
  have hr9 := hr9.kept (ho1 _ hr9.lt)
  have hr10 := hr10.kept (ho1 _ hr10.lt)
  have hr11 := hr11.kept (ho1 _ hr11.lt)
  have hr12 := hr12.kept (ho1 _ hr12.lt)
  have hr13 := hr13.kept (ho1 _ hr13.lt)
  have hr14 := hr14.kept (ho1 _ hr14.lt)
  have hr15 := hr15.kept (ho1 _ hr15.lt)
  have hr16 := hr16.kept (ho1 _ hr16.lt)
  have hr17 := hr17.kept (ho1 _ hr17.lt)
  have hr18 := hr18.kept (ho1 _ hr18.lt)
  refine rh_putF0 (ci := 5) (C := RX5) (T := TX5) (N := 26) (v := .ref q19) hx hb hts (fun _ h => List.mem_cons_of_mem _ (List.mem_append_right _ (h))) tyX5 tyX5_ok nmX5 hown hE hat rfl hS hh 21 (by decide) (hts (.fieldLink RX5 65 "RoamingHouseModel" "discounts" "[I") (by decide +kernel)) rfl hin rfl rfl rfl (Nat.le_of_ble_eq_true rfl) dX5_init_149 (fun H2 locs hat hz ho hS => ?_)
  have hat : va_at G vwCl (h, .inr (5, [.ref q1, .ref q2, .ref q3, .ref q4, .int 0, .ref q5, .ref q6, .ref q7, .ref q8, .int 0, .ref q9, .ref q10, .ref q11, .ref q12, .ref q13, .ref q14, .int 0, .ref q15, .ref q16, .ref q17, .ref q18, .ref q19, .null, .null, .int 0, .int 0])) H2 := hat
  have hsz : H2.size = s.heap.size + 19 := by omega
  have hr1 := hr1.kept (ho _ (by omega))
  have hr2 := hr2.kept (ho _ (by omega))
  have hr3 := hr3.kept (ho _ (by omega))
  have hr4 := hr4.kept (ho _ (by omega))
  have hr5 := hr5.kept (ho _ (by omega))
  have hr6 := hr6.kept (ho _ (by omega))
  have hr7 := hr7.kept (ho _ (by omega))
  have hr8 := hr8.kept (ho _ (by omega))
  have hr9 := hr9.kept (ho _ (by omega))
  have hr10 := hr10.kept (ho _ (by omega))
  have hr11 := hr11.kept (ho _ (by omega))
  have hr12 := hr12.kept (ho _ (by omega))
  have hr13 := hr13.kept (ho _ (by omega))
  have hr14 := hr14.kept (ho _ (by omega))
  have hr15 := hr15.kept (ho _ (by omega))
  have hr16 := hr16.kept (ho _ (by omega))
  have hr17 := hr17.kept (ho _ (by omega))
  have hr18 := hr18.kept (ho _ (by omega))
  have hr19 := hr19.kept (ho _ (by omega))
  refine lv_aload_n hx hb dX5_init_152 rfl (lv_at hl 0 rfl) ?_
  refine lv_bipush (v := 16) hx hb dX5_init_153 (by decide) ?_
  refine rh_newz0 hx hb (hts (.arrayClass .boolean) (by decide +kernel)) hE hS 16 (by decide) (by decide) (by decide) (by decide) (by decide) dX5_init_155 (fun q20 H1 hq20 hr20 hz1 ho1 hS => ?_)
  have hq20 : q20 = s.heap.size + 19 := by omega
  have hsz : H1.size = s.heap.size + 20 := by omega
  have hat := hat.kept (ho1 _ hat.lt)
  have hr1 := hr1.kept (ho1 _ hr1.lt)
  have hr2 := hr2.kept (ho1 _ hr2.lt)
  have hr3 := hr3.kept (ho1 _ hr3.lt)
  have hr4 := hr4.kept (ho1 _ hr4.lt)
  have hr5 := hr5.kept (ho1 _ hr5.lt)
  have hr6 := hr6.kept (ho1 _ hr6.lt)
  have hr7 := hr7.kept (ho1 _ hr7.lt)
  have hr8 := hr8.kept (ho1 _ hr8.lt)
  have hr9 := hr9.kept (ho1 _ hr9.lt)
  have hr10 := hr10.kept (ho1 _ hr10.lt)
  have hr11 := hr11.kept (ho1 _ hr11.lt)
  have hr12 := hr12.kept (ho1 _ hr12.lt)
  have hr13 := hr13.kept (ho1 _ hr13.lt)
  have hr14 := hr14.kept (ho1 _ hr14.lt)
  have hr15 := hr15.kept (ho1 _ hr15.lt)
  have hr16 := hr16.kept (ho1 _ hr16.lt)
  have hr17 := hr17.kept (ho1 _ hr17.lt)
  have hr18 := hr18.kept (ho1 _ hr18.lt)
  have hr19 := hr19.kept (ho1 _ hr19.lt)
  refine rh_putF0 (ci := 5) (C := RX5) (T := TX5) (N := 26) (v := .ref q20) hx hb hts (fun _ h => List.mem_cons_of_mem _ (List.mem_append_right _ (h))) tyX5 tyX5_ok nmX5 hown hE hat rfl hS hh 22 (by decide) (hts (.fieldLink RX5 68 "RoamingHouseModel" "goesBack" "[Z") (by decide +kernel)) rfl hin rfl rfl rfl (Nat.le_of_ble_eq_true rfl) dX5_init_157 (fun H2 locs hat hz ho hS => ?_)
  have hat : va_at G vwCl (h, .inr (5, [.ref q1, .ref q2, .ref q3, .ref q4, .int 0, .ref q5, .ref q6, .ref q7, .ref q8, .int 0, .ref q9, .ref q10, .ref q11, .ref q12, .ref q13, .ref q14, .int 0, .ref q15, .ref q16, .ref q17, .ref q18, .ref q19, .ref q20, .null, .int 0, .int 0])) H2 := hat
  have hsz : H2.size = s.heap.size + 20 := by omega
  have hr1 := hr1.kept (ho _ (by omega))
  have hr2 := hr2.kept (ho _ (by omega))
  have hr3 := hr3.kept (ho _ (by omega))
  have hr4 := hr4.kept (ho _ (by omega))
  have hr5 := hr5.kept (ho _ (by omega))
  have hr6 := hr6.kept (ho _ (by omega))
  have hr7 := hr7.kept (ho _ (by omega))
  have hr8 := hr8.kept (ho _ (by omega))
  have hr9 := hr9.kept (ho _ (by omega))
  have hr10 := hr10.kept (ho _ (by omega))
  have hr11 := hr11.kept (ho _ (by omega))
  have hr12 := hr12.kept (ho _ (by omega))
  have hr13 := hr13.kept (ho _ (by omega))
  have hr14 := hr14.kept (ho _ (by omega))
  have hr15 := hr15.kept (ho _ (by omega))
  have hr16 := hr16.kept (ho _ (by omega))
  have hr17 := hr17.kept (ho _ (by omega))
  have hr18 := hr18.kept (ho _ (by omega))
  have hr19 := hr19.kept (ho _ (by omega))
  have hr20 := hr20.kept (ho _ (by omega))
  refine lv_aload_n hx hb dX5_init_160 rfl (lv_at hl 0 rfl) ?_
  refine lv_bipush (v := 16) hx hb dX5_init_161 (by decide) ?_
  refine rh_newa0 hx hb (hts (.arrayClass .int) (by decide +kernel)) hE hS 16 (by decide) (by decide) (by decide) (by decide) (by decide) dX5_init_163 (fun q21 H1 hq21 hr21 hz1 ho1 hS => ?_)
  have hq21 : q21 = s.heap.size + 20 := by omega
  have hsz : H1.size = s.heap.size + 21 := by omega
  have hat := hat.kept (ho1 _ hat.lt)
  have hr1 := hr1.kept (ho1 _ hr1.lt)
  have hr2 := hr2.kept (ho1 _ hr2.lt)
  have hr3 := hr3.kept (ho1 _ hr3.lt)
  have hr4 := hr4.kept (ho1 _ hr4.lt)
  have hr5 := hr5.kept (ho1 _ hr5.lt)
  have hr6 := hr6.kept (ho1 _ hr6.lt)
  have hr7 := hr7.kept (ho1 _ hr7.lt)
  have hr8 := hr8.kept (ho1 _ hr8.lt)
  have hr9 := hr9.kept (ho1 _ hr9.lt)
  have hr10 := hr10.kept (ho1 _ hr10.lt)
  have hr11 := hr11.kept (ho1 _ hr11.lt)
  have hr12 := hr12.kept (ho1 _ hr12.lt)
  have hr13 := hr13.kept (ho1 _ hr13.lt)
  have hr14 := hr14.kept (ho1 _ hr14.lt)
  have hr15 := hr15.kept (ho1 _ hr15.lt)
  have hr16 := hr16.kept (ho1 _ hr16.lt)
  have hr17 := hr17.kept (ho1 _ hr17.lt)
  have hr18 := hr18.kept (ho1 _ hr18.lt)
  have hr19 := hr19.kept (ho1 _ hr19.lt)
  have hr20 := hr20.kept (ho1 _ hr20.lt)
  refine rh_putF0 (ci := 5) (C := RX5) (T := TX5) (N := 26) (v := .ref q21) hx hb hts (fun _ h => List.mem_cons_of_mem _ (List.mem_append_right _ (h))) tyX5 tyX5_ok nmX5 hown hE hat rfl hS hh 23 (by decide) (hts (.fieldLink RX5 71 "RoamingHouseModel" "promises" "[I") (by decide +kernel)) rfl hin rfl rfl rfl (Nat.le_of_ble_eq_true rfl) dX5_init_165 (fun H2 locs hat hz ho hS => ?_)
  have hat : va_at G vwCl (h, .inr (5, [.ref q1, .ref q2, .ref q3, .ref q4, .int 0, .ref q5, .ref q6, .ref q7, .ref q8, .int 0, .ref q9, .ref q10, .ref q11, .ref q12, .ref q13, .ref q14, .int 0, .ref q15, .ref q16, .ref q17, .ref q18, .ref q19, .ref q20, .ref q21, .int 0, .int 0])) H2 := hat
  have hsz : H2.size = s.heap.size + 21 := by omega
  have hr1 := hr1.kept (ho _ (by omega))
  have hr2 := hr2.kept (ho _ (by omega))
  have hr3 := hr3.kept (ho _ (by omega))
  have hr4 := hr4.kept (ho _ (by omega))
  have hr5 := hr5.kept (ho _ (by omega))
  have hr6 := hr6.kept (ho _ (by omega))
  have hr7 := hr7.kept (ho _ (by omega))
  have hr8 := hr8.kept (ho _ (by omega))
  have hr9 := hr9.kept (ho _ (by omega))
  have hr10 := hr10.kept (ho _ (by omega))
  have hr11 := hr11.kept (ho _ (by omega))
  have hr12 := hr12.kept (ho _ (by omega))
  have hr13 := hr13.kept (ho _ (by omega))
  have hr14 := hr14.kept (ho _ (by omega))
  have hr15 := hr15.kept (ho _ (by omega))
  have hr16 := hr16.kept (ho _ (by omega))
  have hr17 := hr17.kept (ho _ (by omega))
  have hr18 := hr18.kept (ho _ (by omega))
  have hr19 := hr19.kept (ho _ (by omega))
  have hr20 := hr20.kept (ho _ (by omega))
  have hr21 := hr21.kept (ho _ (by omega))
  subst hq1
  subst hq2
  subst hq3
  subst hq4
  subst hq5
  subst hq6
  subst hq7
  subst hq8
  subst hq9
  subst hq10
  subst hq11
  subst hq12
  subst hq13
  subst hq14
  subst hq15
  subst hq16
  subst hq17
  subst hq18
  subst hq19
  subst hq20
  subst hq21
  have hW : m_W G ca (m_ad h s.heap.size) (m_w1 0) 0 H2 := by
    rw [m_w1_0]
    intro k i hi
    have hi0 := m_n_one hi
    subst hi0
    rcases m_key hi with rfl | rfl | rfl | rfl | rfl | rfl | rfl | rfl | rfl | rfl | rfl | rfl | rfl | rfl | rfl | rfl | rfl | rfl | rfl | rfl | rfl | rfl
    · exact hat
    · exact hr1
    · exact hr2
    · exact hr3
    · exact hr4
    · exact hr5
    · exact hr6
    · exact hr7
    · exact hr8
    · exact hr9
    · exact hr10
    · exact hr11
    · exact hr12
    · exact hr13
    · exact hr14
    · exact hr15
    · exact hr16
    · exact hr17
    · exact hr18
    · exact hr19
    · exact hr20
    · exact hr21
  have hD : rh_D A (m_ad h s.heap.size) (fun k i => i < m_n k) := m_ad_D hh hlt0 (fun q hq => hA q hq)
  have had : m_ad h s.heap.size 10 0 = h := rfl
  clear hat hr1 hr2 hr3 hr4 hr5 hr6 hr7 hr8 hr9 hr10 hr11 hr12 hr13 hr14 hr15 hr16 hr17 hr18 hr19 hr20 hr21
  generalize m_ad h s.heap.size = ad at hW hD had
  subst had
  have hl : lv_has ls 2 [(0, .ref (ad 10 0))] := hl
  refine lv_iconst (v := 0) hx hb dX5_init_168 (by decide) ?_
  refine lv_istore_n (lv' := [(1, .int 0), (0, .ref (ad 10 0))]) hx hb dX5_init_169 rfl hl (by decide) rfl (fun ls hl => ?_)
  have loop170 : ∀ (n : Nat) (j : Nat) (H : Heap) (locs : List Loc) (ls : Array Slot), 4 + 1 ≤ j + n → j ≤ 4 → m_W G ca ad (m_w1 j) 0 H → va_S A s.heap H locs → lv_has ls 2 [(0, .ref (ad 10 0)), (1, .int (nI j))] → W p l e ({ frames := 1, cells := 21, slots := 652, locals := 30 } : Room) s m ([.ref (ad 10 0)] : List Value).toArray below meth c H locs 21 652 (MQ below (rh_Q A (fun o H => o = none ∧ ∃ ad9 : Nat → Nat → Nat, ad9 10 0 = ad 10 0 ∧ m_W G ca ad9 (m_w2 16) 0 H ∧ rh_D A ad9 (fun k i => i < m_n k))) ([.ref (ad 10 0)] : List Value).toArray s 21 652 A) (F0 m 170 ls []) := by
    intro n
    induction n with
    | zero => intro j H locs ls hjn hj hW hS hl; exact absurd hjn (by omega)
    | succ n ih =>
      intro j H locs ls hjn hj hW hS hl
      refine lv_iload_n hx hb dX5_init_170 rfl (lv_at hl 1 rfl) ?_
      refine lv_iconst (v := 4) hx hb dX5_init_171 (by decide) ?_
      refine lv_icmp_ge (tgt := 206) hx hb dX5_init_172 (by decide) (fun c1 => ?_) (fun c1 => ?_)
      · have hjf : j = 4 := by
          rcases Nat.lt_or_ge j 4 with z | z
          · exact absurd c1 (nI_ge (b := 4) z (by decide))
          · omega
        have hW : m_W G ca ad (m_w2 0) 0 H := by rw [m_w2_0, ← hjf]; exact hW
        refine lv_iconst (v := 0) hx hb dX5_init_206 (by decide) ?_
        refine lv_istore_n (lv' := [(1, .int 0), (0, .ref (ad 10 0))]) hx hb dX5_init_207 rfl hl (by decide) rfl (fun ls hl => ?_)
        have loop208 : ∀ (n : Nat) (j : Nat) (H : Heap) (locs : List Loc) (ls : Array Slot), 16 + 1 ≤ j + n → j ≤ 16 → m_W G ca ad (m_w2 j) 0 H → va_S A s.heap H locs → lv_has ls 2 [(0, .ref (ad 10 0)), (1, .int (nI j))] → W p l e ({ frames := 1, cells := 21, slots := 652, locals := 30 } : Room) s m ([.ref (ad 10 0)] : List Value).toArray below meth c H locs 21 652 (MQ below (rh_Q A (fun o H => o = none ∧ ∃ ad9 : Nat → Nat → Nat, ad9 10 0 = ad 10 0 ∧ m_W G ca ad9 (m_w2 16) 0 H ∧ rh_D A ad9 (fun k i => i < m_n k))) ([.ref (ad 10 0)] : List Value).toArray s 21 652 A) (F0 m 208 ls []) := by
          intro n
          induction n with
          | zero => intro j H locs ls hjn hj hW hS hl; exact absurd hjn (by omega)
          | succ n ih =>
            intro j H locs ls hjn hj hW hS hl
            refine lv_iload_n hx hb dX5_init_208 rfl (lv_at hl 1 rfl) ?_
            refine lv_bipush (v := 16) hx hb dX5_init_209 (by decide) ?_
            refine lv_icmp_ge (tgt := 227) hx hb dX5_init_211 (by decide) (fun c2 => ?_) (fun c2 => ?_)
            · have hjf : j = 16 := by
                rcases Nat.lt_or_ge j 16 with z | z
                · exact absurd c2 (nI_ge (b := 16) z (by decide))
                · omega
              exact rh_vretm hx hb hr hlocks ⟨rfl, ad, rfl, (by rw [← hjf]; exact hW), hD⟩ hS (by decide) (by decide) dX5_init_227
            · have hjl : j < 16 := by
                rcases Nat.lt_or_ge j 16 with z | z
                · exact z
                · exact absurd (nI_le (a := 16) z (by omega)) c2
              refine lv_aload_n hx hb dX5_init_214 rfl (lv_at hl 0 rfl) ?_
              refine rh_get (ci := 5) (C := RX5) (T := TX5) (N := 26) (v := .ref (ad 38 0)) hx hb hts (fun _ h => List.mem_cons_of_mem _ (List.mem_append_right _ (h))) hown hE (hW.at 10 0 Nat.zero_lt_one) rfl 18 (by decide) (hts (.fieldLink RX5 55 "RoamingHouseModel" "expects" "[I") (by decide +kernel)) rfl dX5_init_215 ?_
              refine lv_iload_n hx hb dX5_init_218 rfl (lv_at hl 1 rfl) ?_
              refine lv_iconst (v := 1) hx hb dX5_init_219 (by decide) ?_
              refine m_iast (x := 1) hx hb hE hW hD hS 18 (n := 16) (by decide) Nat.zero_lt_one rfl j (by omega) (by decide) rfl rfl dX5_init_220 (fun H locs hW hS => ?_)
              rw [m_w2_s] at hW
              refine lv_iinc (v := nI (j + 1)) (lv' := [(1, .int (nI (j + 1))), (0, .ref (ad 10 0))]) hx hb dX5_init_221 hl (k := 1) rfl (nI_1 j) (by decide) rfl (fun ls hl => ?_)
              refine lv_goto (tgt := 208) hx hb dX5_init_224 (by decide) ?_
              exact ih (j + 1) _ _ _ (by omega) (by omega) hW hS (lv_sub hl [1, 0] rfl)
        exact loop208 (16 + 1) 0  _ _ _ (by omega) (by omega)  hW hS (lv_sub hl [1, 0] rfl)
      · have hjl : j < 4 := by
          rcases Nat.lt_or_ge j 4 with z | z
          · exact z
          · exact absurd (nI_le (a := 4) z (by omega)) c1
        refine lv_aload_n hx hb dX5_init_175 rfl (lv_at hl 0 rfl) ?_
        refine rh_get (ci := 5) (C := RX5) (T := TX5) (N := 26) (v := .ref (ad 20 0)) hx hb hts (fun _ h => List.mem_cons_of_mem _ (List.mem_append_right _ (h))) hown hE (hW.at 10 0 Nat.zero_lt_one) rfl 0 (by decide) (hts (.fieldLink RX5 7 "RoamingHouseModel" "steps" "[I") (by decide +kernel)) rfl dX5_init_176 ?_
        refine lv_iload_n hx hb dX5_init_179 rfl (lv_at hl 1 rfl) ?_
        refine lv_bipush (v := 60) hx hb dX5_init_180 (by decide) ?_
        refine m_iast (x := 60) hx hb hE hW hD hS 0 (n := 4) (by decide) Nat.zero_lt_one rfl j (by omega) (by decide) rfl rfl dX5_init_182 (fun H locs hW hS => ?_)
        refine lv_aload_n hx hb dX5_init_183 rfl (lv_at hl 0 rfl) ?_
        refine rh_get (ci := 5) (C := RX5) (T := TX5) (N := 26) (v := .ref (ad 21 0)) hx hb hts (fun _ h => List.mem_cons_of_mem _ (List.mem_append_right _ (h))) hown hE (hW.at 10 0 Nat.zero_lt_one) rfl 1 (by decide) (hts (.fieldLink RX5 13 "RoamingHouseModel" "prices" "[I") (by decide +kernel)) rfl dX5_init_184 ?_
        refine lv_iload_n hx hb dX5_init_187 rfl (lv_at hl 1 rfl) ?_
        refine lv_bipush (v := 10) hx hb dX5_init_188 (by decide) ?_
        refine m_iast (x := 10) hx hb hE hW hD hS 1 (n := 4) (by decide) Nat.zero_lt_one rfl j (by omega) (by decide) rfl rfl dX5_init_190 (fun H locs hW hS => ?_)
        refine lv_aload_n hx hb dX5_init_191 rfl (lv_at hl 0 rfl) ?_
        refine rh_get (ci := 5) (C := RX5) (T := TX5) (N := 26) (v := .ref (ad 23 0)) hx hb hts (fun _ h => List.mem_cons_of_mem _ (List.mem_append_right _ (h))) hown hE (hW.at 10 0 Nat.zero_lt_one) rfl 3 (by decide) (hts (.fieldLink RX5 19 "RoamingHouseModel" "rates" "[I") (by decide +kernel)) rfl dX5_init_192 ?_
        refine lv_iload_n hx hb dX5_init_195 rfl (lv_at hl 1 rfl) ?_
        refine lv_sipush (v := 1000) hx hb dX5_init_196 (by decide) ?_
        refine m_iast (x := 1000) hx hb hE hW hD hS 3 (n := 4) (by decide) Nat.zero_lt_one rfl j (by omega) (by decide) rfl rfl dX5_init_199 (fun H locs hW hS => ?_)
        rw [m_w1_s] at hW
        refine lv_iinc (v := nI (j + 1)) (lv' := [(1, .int (nI (j + 1))), (0, .ref (ad 10 0))]) hx hb dX5_init_200 hl (k := 1) rfl (nI_1 j) (by decide) rfl (fun ls hl => ?_)
        refine lv_goto (tgt := 170) hx hb dX5_init_203 (by decide) ?_
        exact ih (j + 1) _ _ _ (by omega) (by omega) hW hS (lv_sub hl [1, 0] rfl)
  exact loop170 (4 + 1) 0  _ _ _ (by omega) (by omega)  hW hS (lv_sub hl [1, 0] rfl)
