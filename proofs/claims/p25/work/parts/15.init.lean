/-! ===== the house's own constructor, walked ===== -/
theorem i_start {A : Nat → Prop} {h q1 q2 q3 q4 sz : Nat} (hh : A h) (h1 : A q1) (h2 : A q2) (h3 : A q3) (h4 : A q4) (hlt : h < sz) (e1 : q1 = sz + 0) (e2 : q2 = sz + 1) (e3 : q3 = sz + 2) (e4 : q4 = sz + 3) :
    ∃ ad : Nat → Nat → Nat, ad 0 0 = h ∧ ad 1 0 = q1 ∧ ad 2 0 = q2 ∧ ad 3 0 = q3 ∧ ad 4 0 = q4 ∧ rh_D A ad (fun k i => i < i_n 0 0 k) := by
  obtain ⟨ad, had⟩ : ∃ ad : Nat → Nat → Nat, ad = fun k _ => match k with | 0 => h | 1 => q1 | 2 => q2 | 3 => q3 | 4 => q4 | _ => 0 := ⟨_, rfl⟩
  have a0 : ∀ i, ad 0 i = h := fun i => congrFun (congrFun had 0) i
  have a1 : ∀ i, ad 1 i = q1 := fun i => congrFun (congrFun had 1) i
  have a2 : ∀ i, ad 2 i = q2 := fun i => congrFun (congrFun had 2) i
  have a3 : ∀ i, ad 3 i = q3 := fun i => congrFun (congrFun had 3) i
  have a4 : ∀ i, ad 4 i = q4 := fun i => congrFun (congrFun had 4) i
  have key : ∀ k i : Nat, i < i_n 0 0 k → i = 0 ∧ A (ad k i) ∧ ((k = 0 ∧ ad k i = h) ∨ (1 ≤ k ∧ k ≤ 4 ∧ ad k i + 1 = sz + k)) := by
    intro k i hk
    match k, hk with
    | 0, hk => exact ⟨Nat.lt_one_iff.mp hk, by rw [a0]; exact hh, Or.inl ⟨rfl, a0 i⟩⟩
    | 1, hk => exact ⟨Nat.lt_one_iff.mp hk, by rw [a1]; exact h1, Or.inr ⟨by omega, by omega, by rw [a1]; omega⟩⟩
    | 2, hk => exact ⟨Nat.lt_one_iff.mp hk, by rw [a2]; exact h2, Or.inr ⟨by omega, by omega, by rw [a2]; omega⟩⟩
    | 3, hk => exact ⟨Nat.lt_one_iff.mp hk, by rw [a3]; exact h3, Or.inr ⟨by omega, by omega, by rw [a3]; omega⟩⟩
    | 4, hk => exact ⟨Nat.lt_one_iff.mp hk, by rw [a4]; exact h4, Or.inr ⟨by omega, by omega, by rw [a4]; omega⟩⟩
    | 5, hk => exact absurd (show i < 0 from hk) (Nat.not_lt_zero _)
    | 6, hk => exact absurd (show i < 0 from hk) (Nat.not_lt_zero _)
    | 7, hk => exact absurd (show i < 0 from hk) (Nat.not_lt_zero _)
    | k + 8, hk => exact absurd (show i < 0 from hk) (Nat.not_lt_zero _)
  refine ⟨ad, a0 0, a1 0, a2 0, a3 0, a4 0, fun k i k' i' x y hxy => ?_, fun k i x => (key k i x).2.1⟩
  obtain ⟨z1, -, w1⟩ := key k i x
  obtain ⟨z2, -, w2⟩ := key k' i' y
  rw [hxy] at w1
  rcases w1 with ⟨u1, t1⟩ | ⟨u1, v1, t1⟩ <;> rcases w2 with ⟨u2, t2⟩ | ⟨u2, v2, t2⟩ <;> refine ⟨?_, ?_⟩ <;> omega
set_option maxHeartbeats 8000000 in
set_option maxRecDepth 100000 in
/-- the house, made -/
theorem ci_X4_init (l : Launch) {G : va_G} {ca : Nat → ClassId} {A : Nat → Prop} (h : Nat) (hh : A h) (r : rh_R) : Met l yX4_init wsX4_init ({ frames := 3, cells := 40, slots := 286, locals := 90 } : Room) (rh_Pc G ca A [.ref h] (fun H => va_at G vwCl (h, .inr (4, [.null, .null, .null, .int 0, .null, .int 0, .int 0])) H)) (rh_Q A (fun o H => o = none ∧ ∃ ad : Nat → Nat → Nat, ad 0 0 = h ∧ rh_W G ca ad 0 0 r v_init H ∧ rh_D A ad (fun k i => i < rh_n 0 0 k))) 40 286 A := by
  refine rh_enterm (cc := cX4_init) (maxL := 3) (ret := none) (by decide) rfl (Nat.le_of_ble_eq_true rfl) ?_
  intro p e s m below meth c ls hx hb hr hml hown hts hlocks hin hE hA hat hl
  have hS : va_S A s.heap s.heap [] := va_S.rf
  have hlt0 : h < s.heap.size := hat.lt
  have hsz : s.heap.size = s.heap.size + 0 := rfl
  have hl : lv_has ls 3 [(0, .ref h)] := hl
  refine lv_aload_n hx hb dX4_init_0 rfl (lv_at hl 0 rfl) ?_
  refine W.objInit hx hb hown (hts (.methodLink RX4 1 objectInit) (by decide +kernel)) (hts (.instanceMethod objectInit) (by decide +kernel)) (hts (.code objectInit ⟨#[0xb1]⟩ 1 none) (by decide +kernel)) rfl (by rw [hml]; exact hl.1) rfl dX4_init_1 (Nat.le_of_ble_eq_true rfl) (Nat.le_of_ble_eq_true rfl) ?_
  refine W.eq (g2 := F0 m 4 ls []) rfl ?_
  refine lv_aload_n hx hb dX4_init_4 rfl (lv_at hl 0 rfl) ?_
  refine lv_iconst (v := 4) hx hb dX4_init_5 (by decide) ?_
  refine rh_newq0 hx hb hown (hts (.classLink RX4 9 RX2) (by decide +kernel)) (hE.2.2.2.2.2.2.2.2 _ (by decide +kernel)) 3 rfl hE hS 4 (by decide) (by decide) (by decide) (by decide) (by decide) dX4_init_6 (fun q1 H1 hq1 hr1 hz1 ho1 hS => ?_)
  have hq1 : q1 = s.heap.size + 0 := by omega
  have hsz : H1.size = s.heap.size + 1 := by omega
  have hat := hat.kept (ho1 _ hat.lt)
  refine rh_putF0 (ci := 4) (C := RX4) (T := TX4) (N := 7) (v := .ref q1) hx hb hts (fun _ h => List.mem_cons_of_mem _ (List.mem_append_left _ (List.mem_append_left _ (List.mem_append_right _ (h))))) tyX4 tyX4_ok nmX4 hown hE hat rfl hS hh 0 (by decide) (hts (.fieldLink RX4 11 "RoamingHouse" "operators" "[LRoamingHouse$Operator;") (by decide +kernel)) rfl hin rfl rfl rfl (Nat.le_of_ble_eq_true rfl) dX4_init_9 (fun H2 locs hat hz ho hS => ?_)
  have hat : va_at G vwCl (h, .inr (4, [.ref q1, .null, .null, .int 0, .null, .int 0, .int 0])) H2 := hat
  have hsz : H2.size = s.heap.size + 1 := by omega
  have hr1 := hr1.kept (ho _ (by omega))
  refine lv_aload_n hx hb dX4_init_12 rfl (lv_at hl 0 rfl) ?_
  refine lv_bipush (v := 16) hx hb dX4_init_13 (by decide) ?_
  refine rh_newq0 hx hb hown (hts (.classLink RX4 15 RX3) (by decide +kernel)) (hE.2.2.2.2.2.2.2.2 _ (by decide +kernel)) 4 rfl hE hS 16 (by decide) (by decide) (by decide) (by decide) (by decide) dX4_init_15 (fun q2 H1 hq2 hr2 hz1 ho1 hS => ?_)
  have hq2 : q2 = s.heap.size + 1 := by omega
  have hsz : H1.size = s.heap.size + 2 := by omega
  have hat := hat.kept (ho1 _ hat.lt)
  have hr1 := hr1.kept (ho1 _ hr1.lt)
  refine rh_putF0 (ci := 4) (C := RX4) (T := TX4) (N := 7) (v := .ref q2) hx hb hts (fun _ h => List.mem_cons_of_mem _ (List.mem_append_left _ (List.mem_append_left _ (List.mem_append_right _ (h))))) tyX4 tyX4_ok nmX4 hown hE hat rfl hS hh 1 (by decide) (hts (.fieldLink RX4 17 "RoamingHouse" "pairs" "[LRoamingHouse$Pair;") (by decide +kernel)) rfl hin rfl rfl rfl (Nat.le_of_ble_eq_true rfl) dX4_init_18 (fun H2 locs hat hz ho hS => ?_)
  have hat : va_at G vwCl (h, .inr (4, [.ref q1, .ref q2, .null, .int 0, .null, .int 0, .int 0])) H2 := hat
  have hsz : H2.size = s.heap.size + 2 := by omega
  have hr1 := hr1.kept (ho _ (by omega))
  have hr2 := hr2.kept (ho _ (by omega))
  refine lv_aload_n hx hb dX4_init_21 rfl (lv_at hl 0 rfl) ?_
  refine lv_bipush (v := 30) hx hb dX4_init_22 (by decide) ?_
  refine rh_newq0 hx hb hown (hts (.classLink RX4 21 RX1) (by decide +kernel)) (hE.2.2.2.2.2.2.2.2 _ (by decide +kernel)) 5 rfl hE hS 30 (by decide) (by decide) (by decide) (by decide) (by decide) dX4_init_24 (fun q3 H1 hq3 hr3 hz1 ho1 hS => ?_)
  have hq3 : q3 = s.heap.size + 2 := by omega
  have hsz : H1.size = s.heap.size + 3 := by omega
  have hat := hat.kept (ho1 _ hat.lt)
  have hr1 := hr1.kept (ho1 _ hr1.lt)
  have hr2 := hr2.kept (ho1 _ hr2.lt)
  refine rh_putF0 (ci := 4) (C := RX4) (T := TX4) (N := 7) (v := .ref q3) hx hb hts (fun _ h => List.mem_cons_of_mem _ (List.mem_append_left _ (List.mem_append_left _ (List.mem_append_right _ (h))))) tyX4 tyX4_ok nmX4 hown hE hat rfl hS hh 2 (by decide) (hts (.fieldLink RX4 23 "RoamingHouse" "fileRows" "[LRoamingHouse$CallFile;") (by decide +kernel)) rfl hin rfl rfl rfl (Nat.le_of_ble_eq_true rfl) dX4_init_27 (fun H2 locs hat hz ho hS => ?_)
  have hat : va_at G vwCl (h, .inr (4, [.ref q1, .ref q2, .ref q3, .int 0, .null, .int 0, .int 0])) H2 := hat
  have hsz : H2.size = s.heap.size + 3 := by omega
  have hr1 := hr1.kept (ho _ (by omega))
  have hr2 := hr2.kept (ho _ (by omega))
  have hr3 := hr3.kept (ho _ (by omega))
  refine lv_aload_n hx hb dX4_init_30 rfl (lv_at hl 0 rfl) ?_
  refine lv_iconst (v := 0) hx hb dX4_init_31 (by decide) ?_
  refine rh_put0 (ci := 4) (C := RX4) (T := TX4) (N := 7) (v := .int 0) hx hb hts (fun _ h => List.mem_cons_of_mem _ (List.mem_append_left _ (List.mem_append_left _ (List.mem_append_right _ (h))))) tyX4 tyX4_ok nmX4 hown hE hat rfl hS hh 3 (by decide) (hts (.fieldLink RX4 27 "RoamingHouse" "fileCount" "I") (by decide +kernel)) rfl rfl rfl (Nat.le_of_ble_eq_true rfl) dX4_init_32 (fun H2 locs hat hz ho hS => ?_)
  have hat : va_at G vwCl (h, .inr (4, [.ref q1, .ref q2, .ref q3, .int 0, .null, .int 0, .int 0])) H2 := hat
  have hsz : H2.size = s.heap.size + 3 := by omega
  have hr1 := hr1.kept (ho _ (by omega))
  have hr2 := hr2.kept (ho _ (by omega))
  have hr3 := hr3.kept (ho _ (by omega))
  refine lv_aload_n hx hb dX4_init_35 rfl (lv_at hl 0 rfl) ?_
  refine lv_bipush (v := 60) hx hb dX4_init_36 (by decide) ?_
  refine rh_newq0 hx hb hown (hts (.classLink RX4 31 RX0) (by decide +kernel)) (hE.2.2.2.2.2.2.2.2 _ (by decide +kernel)) 6 rfl hE hS 60 (by decide) (by decide) (by decide) (by decide) (by decide) dX4_init_38 (fun q4 H1 hq4 hr4 hz1 ho1 hS => ?_)
  have hq4 : q4 = s.heap.size + 3 := by omega
  have hsz : H1.size = s.heap.size + 4 := by omega
  have hat := hat.kept (ho1 _ hat.lt)
  have hr1 := hr1.kept (ho1 _ hr1.lt)
  have hr2 := hr2.kept (ho1 _ hr2.lt)
  have hr3 := hr3.kept (ho1 _ hr3.lt)
  refine rh_putF0 (ci := 4) (C := RX4) (T := TX4) (N := 7) (v := .ref q4) hx hb hts (fun _ h => List.mem_cons_of_mem _ (List.mem_append_left _ (List.mem_append_left _ (List.mem_append_right _ (h))))) tyX4 tyX4_ok nmX4 hown hE hat rfl hS hh 4 (by decide) (hts (.fieldLink RX4 33 "RoamingHouse" "callRows" "[LRoamingHouse$Call;") (by decide +kernel)) rfl hin rfl rfl rfl (Nat.le_of_ble_eq_true rfl) dX4_init_41 (fun H2 locs hat hz ho hS => ?_)
  have hat : va_at G vwCl (h, .inr (4, [.ref q1, .ref q2, .ref q3, .int 0, .ref q4, .int 0, .int 0])) H2 := hat
  have hsz : H2.size = s.heap.size + 4 := by omega
  have hr1 := hr1.kept (ho _ (by omega))
  have hr2 := hr2.kept (ho _ (by omega))
  have hr3 := hr3.kept (ho _ (by omega))
  have hr4 := hr4.kept (ho _ (by omega))
  refine lv_aload_n hx hb dX4_init_44 rfl (lv_at hl 0 rfl) ?_
  refine lv_iconst (v := 0) hx hb dX4_init_45 (by decide) ?_
  refine rh_put0 (ci := 4) (C := RX4) (T := TX4) (N := 7) (v := .int 0) hx hb hts (fun _ h => List.mem_cons_of_mem _ (List.mem_append_left _ (List.mem_append_left _ (List.mem_append_right _ (h))))) tyX4 tyX4_ok nmX4 hown hE hat rfl hS hh 5 (by decide) (hts (.fieldLink RX4 37 "RoamingHouse" "callCount" "I") (by decide +kernel)) rfl rfl rfl (Nat.le_of_ble_eq_true rfl) dX4_init_46 (fun H2 locs hat hz ho hS => ?_)
  have hat : va_at G vwCl (h, .inr (4, [.ref q1, .ref q2, .ref q3, .int 0, .ref q4, .int 0, .int 0])) H2 := hat
  have hsz : H2.size = s.heap.size + 4 := by omega
  have hr1 := hr1.kept (ho _ (by omega))
  have hr2 := hr2.kept (ho _ (by omega))
  have hr3 := hr3.kept (ho _ (by omega))
  have hr4 := hr4.kept (ho _ (by omega))
  refine lv_aload_n hx hb dX4_init_49 rfl (lv_at hl 0 rfl) ?_
  refine lv_iconst (v := 0) hx hb dX4_init_50 (by decide) ?_
  refine rh_put0 (ci := 4) (C := RX4) (T := TX4) (N := 7) (v := .int 0) hx hb hts (fun _ h => List.mem_cons_of_mem _ (List.mem_append_left _ (List.mem_append_left _ (List.mem_append_right _ (h))))) tyX4 tyX4_ok nmX4 hown hE hat rfl hS hh 6 (by decide) (hts (.fieldLink RX4 40 "RoamingHouse" "now" "I") (by decide +kernel)) rfl rfl rfl (Nat.le_of_ble_eq_true rfl) dX4_init_51 (fun H2 locs hat hz ho hS => ?_)
  have hat : va_at G vwCl (h, .inr (4, [.ref q1, .ref q2, .ref q3, .int 0, .ref q4, .int 0, .int 0])) H2 := hat
  have hsz : H2.size = s.heap.size + 4 := by omega
  have hr1 := hr1.kept (ho _ (by omega))
  have hr2 := hr2.kept (ho _ (by omega))
  have hr3 := hr3.kept (ho _ (by omega))
  have hr4 := hr4.kept (ho _ (by omega))
  obtain ⟨ad, had0, had1, had2, had3, had4, hD⟩ := i_start hh (hA q1 (by omega)) (hA q2 (by omega)) (hA q3 (by omega)) (hA q4 (by omega)) hlt0 hq1 hq2 hq3 hq4
  rw [← had1] at hr1
  rw [← had2] at hr2
  rw [← had3] at hr3
  rw [← had4] at hr4
  rw [← had1, ← had2, ← had3, ← had4, ← had0] at hat
  have hI : i_W G ca ad 0 (4 * 0) H2 := by
    intro k i hi
    match k, hi with
    | 0, hi => rw [Nat.lt_one_iff.mp (show i < 1 from hi)]; exact hat
    | 1, hi => rw [Nat.lt_one_iff.mp (show i < 1 from hi)]; exact va_at_row hr1 (fun j hj => (if_neg (Nat.not_lt_zero j)).symm)
    | 2, hi => rw [Nat.lt_one_iff.mp (show i < 1 from hi)]; exact va_at_row hr2 (fun j hj => (if_neg (Nat.not_lt_zero j)).symm)
    | 3, hi => rw [Nat.lt_one_iff.mp (show i < 1 from hi)]; exact hr3
    | 4, hi => rw [Nat.lt_one_iff.mp (show i < 1 from hi)]; exact hr4
    | 5, hi => exact absurd (show i < 0 from hi) (Nat.not_lt_zero _)
    | 6, hi => exact absurd (show i < 0 from hi) (Nat.not_lt_zero _)
    | 7, hi => exact absurd (show i < 0 from hi) (Nat.not_lt_zero _)
    | k + 8, hi => exact absurd (show i < 0 from hi) (Nat.not_lt_zero _)
  refine lv_iconst (v := 0) hx hb dX4_init_54 (by decide) ?_
  refine lv_istore_n (lv' := [(1, .int 0), (0, .ref h)]) hx hb dX4_init_55 rfl hl (by decide) rfl (fun ls hl => ?_)
  have loopA : ∀ (n i : Nat) (ad : Nat → Nat → Nat) (H : Heap) (locs : List Loc) (ls : Array Slot), 5 ≤ i + n → i ≤ 4 → ad 0 0 = h → i_W G ca ad i (4 * i) H → rh_D A ad (fun k j => j < i_n i (4 * i) k) → va_S A s.heap H locs → lv_has ls 3 [(0, .ref h), (1, .int (nI i))] → W p l e ({ frames := 3, cells := 40, slots := 286, locals := 90 } : Room) s m ([.ref h] : List Value).toArray below meth c H locs (4 + 9 * i) (110 + 44 * i) (MQ below (rh_Q A (fun o H => o = none ∧ ∃ ad : Nat → Nat → Nat, ad 0 0 = h ∧ rh_W G ca ad 0 0 r v_init H ∧ rh_D A ad (fun k i => i < rh_n 0 0 k))) ([.ref h] : List Value).toArray s 40 286 A) (F0 m 56 ls []) := by
    intro n
    induction n with
    | zero => intro i ad H locs ls hn hi had hI hD hS hl; exact absurd hn (by omega)
    | succ n ihA =>
      intro i ad H locs ls hn hi had hI hD hS hl
      refine lv_iload_n hx hb dX4_init_56 rfl (lv_at hl 1 rfl) ?_
      refine lv_iconst (v := 4) hx hb dX4_init_57 (by decide) ?_
      refine lv_icmp_ge (tgt := 116) hx hb dX4_init_58 (by decide) (fun c1 => ?_) (fun c1 => ?_)
      · have hi4 : i = 4 := by
          rcases Nat.lt_or_ge i 4 with z | z
          · exact absurd c1 (nI_ge (b := 4) z (by decide))
          · omega
        subst hi4
        obtain ⟨hW, hD⟩ := i_W.done r hI hD
        exact rh_vretm hx hb hr hlocks ⟨rfl, ad, had, hW, hD⟩ hS (by decide) (by decide) dX4_init_116
      have hil : i < 4 := by
        rcases Nat.lt_or_ge i 4 with z | z
        · exact z
        · exact absurd (nI_le (a := 4) z (by omega)) c1
      have hat0 : va_at G vwCl (h, .inr (4, [.ref (ad 1 0), .ref (ad 2 0), .ref (ad 3 0), .int 0, .ref (ad 4 0), .int 0, .int 0])) H := had ▸ hI 0 0 Nat.zero_lt_one
      refine lv_aload_n hx hb dX4_init_61 rfl (lv_at hl 0 rfl) ?_
      refine rh_get (ci := 4) (C := RX4) (T := TX4) (N := 7) (v := .ref (ad 1 0)) hx hb hts (fun _ h => List.mem_cons_of_mem _ (List.mem_append_left _ (List.mem_append_left _ (List.mem_append_right _ (h))))) hown hE hat0 rfl 0 (by decide) (hts (.fieldLink RX4 11 "RoamingHouse" "operators" "[LRoamingHouse$Operator;") (by decide +kernel)) rfl dX4_init_62 ?_
      refine lv_iload_n hx hb dX4_init_65 rfl (lv_at hl 1 rfl) ?_
      have hszH : s.heap.size ≤ H.size := hS.1
      refine rh_new0 (ci := 2) (C := RX2) (T := TX2) (N := 4) hx hb hts (fun _ h => List.mem_cons_of_mem _ (List.mem_append_left _ (List.mem_append_right _ (h)))) tyX2 tyX2_ok hown (hts (.classLink RX4 9 RX2) (by decide +kernel)) (hts (.instantiable RX2 4) (by decide +kernel)) (hts (.initialized RX2) (by decide +kernel)) hE hS rfl [.int 0, .int 0, .int 0, .int 0] (fun j hj => by rcases (show j = 0 ∨ j = 1 ∨ j = 2 ∨ j = 3 by omega) with rfl | rfl | rfl | rfl <;> rfl) (by show 4 + 9 * i + 1 ≤ 40; omega) (by show 110 + 44 * i + 4 ≤ 286; omega) dX4_init_66 (fun q H1 hq hat hz ho1 hS => ?_)
      have hqA : A q := hA q (by omega)
      have hA1 : ∀ z : Nat, (z = q ∨ H1.size ≤ z) → A z := fun z hz9 => hz9.elim (fun e => by rw [e]; exact hqA) (fun e => hA z (Nat.le_trans hS.1 e))
      refine lv_dup hx hb dX4_init_69 rfl ?_
      refine rh_callm2 (A1 := fun z => z = q ∨ H1.size ≤ z) (va_runIN (As := []) (rest := [.ref q, .int (nI i), .ref (ad 1 0)]) ⟨hx, hb, hml, hown, hts⟩ (ci_X2_init l q (Or.inl rfl)) ⟨va_cnB 0 hts gX4_init_X2_init_n43 rfl rfl rfl hE.2.2.2.2.2.2.1 (hts (.initialized RX2) (by decide +kernel)) (by decide +kernel) ⟨by decide, by decide⟩, rfl, (hts (.instanceMethod yX2_init) (by decide +kernel))⟩ (rh_pre2 hE hS hA1 (fun z hz9 => Or.inr hz9) hat) rfl rfl hl.1 rfl (lv_room (Nat.le_of_ble_eq_true rfl)) dX4_init_70 ⟨by show 4 + 9 * i + 1 + 0 ≤ 40; omega, by show 110 + 44 * i + 4 + 0 ≤ 286; omega⟩) hS hA1 (fun o H2 locs hN hz2 ho2 hS => ?_)
      obtain ⟨rfl, hat2⟩ := hN
      refine W.eq (g2 := F0 m 73 ls [.ref q, .int (nI i), .ref (ad 1 0)]) rfl ?_
      have ho2x : ∀ x : Nat, x < H.size → H2[x]? = H[x]? := fun x hx9 => (ho2 x (by omega) (fun z => z.elim (fun z => by omega) (fun z => by omega))).trans (ho1 x hx9)
      have hrow0 : va_at G vwCl (ad 1 0, .inl (ca 3, 4, .inr (.inr (.inr (.inr (fun j => if j < i then some (ad 5 j) else none)))))) H2 := (hI 1 0 Nat.zero_lt_one).kept (ho2x _ (hI 1 0 Nat.zero_lt_one).lt)
      refine rh_aast0 hx hb hE 3 (r := (RX2, TX2, 4)) hrow0 rfl hat2 rfl hS (hD.2 1 0 Nat.zero_lt_one) i (by omega) (by decide) rfl dX4_init_73 (fun H3 locs hrow hz3 ho3 hS => ?_)
      have hnq : q ≠ ad 1 0 := fun z => by have := (hI 1 0 Nat.zero_lt_one).lt; omega
      obtain ⟨hI, hD⟩ := i_W.op hI hD (by omega) hq hqA (hat2.kept (ho3 q hnq)) hrow (fun x h1 h2 => (ho3 x h2).trans (ho2x x h1))
      have had : ad2 ad 5 i q 0 0 = h := (ad2_ne ad 5 i q (by omega)).trans had
      refine lv_iconst (v := 0) hx hb dX4_init_74 (by decide) ?_
      refine lv_istore_n (lv' := [(2, .int 0), (0, .ref h), (1, .int (nI i))]) hx hb dX4_init_75 rfl hl (by decide) rfl (fun ls hl => ?_)
      have loopB : ∀ (n2 j : Nat) (ad : Nat → Nat → Nat) (H : Heap) (locs : List Loc) (ls : Array Slot), 5 ≤ j + n2 → j ≤ 4 → ad 0 0 = h → i_W G ca ad (i + 1) (4 * i + j) H → rh_D A ad (fun k z => z < i_n (i + 1) (4 * i + j) k) → va_S A s.heap H locs → lv_has ls 3 [(0, .ref h), (1, .int (nI i)), (2, .int (nI j))] → W p l e ({ frames := 3, cells := 40, slots := 286, locals := 90 } : Room) s m ([.ref h] : List Value).toArray below meth c H locs (4 + 9 * i + 1 + 2 * j) (110 + 44 * i + 4 + 10 * j) (MQ below (rh_Q A (fun o H => o = none ∧ ∃ ad : Nat → Nat → Nat, ad 0 0 = h ∧ rh_W G ca ad 0 0 r v_init H ∧ rh_D A ad (fun k i => i < rh_n 0 0 k))) ([.ref h] : List Value).toArray s 40 286 A) (F0 m 76 ls []) := by
        intro n2
        induction n2 with
        | zero => intro j ad H locs ls hn2 hj had hI hD hS hl; exact absurd hn2 (by omega)
        | succ n2 ihB =>
          intro j ad H locs ls hn2 hj had hI hD hS hl
          refine lv_iload_n hx hb dX4_init_76 rfl (lv_at hl 2 rfl) ?_
          refine lv_iconst (v := 4) hx hb dX4_init_77 (by decide) ?_
          refine lv_icmp_ge (tgt := 110) hx hb dX4_init_78 (by decide) (fun c2 => ?_) (fun c2 => ?_)
          · have hj4 : j = 4 := by
              rcases Nat.lt_or_ge j 4 with z | z
              · exact absurd c2 (nI_ge (b := 4) z (by decide))
              · omega
            subst hj4
            rw [show 4 * i + 4 = 4 * (i + 1) by omega] at hI hD
            refine lv_iinc (v := nI (i + 1)) (lv' := [(1, .int (nI (i + 1))), (0, .ref h), (2, .int (nI 4))]) hx hb dX4_init_110 hl (k := 1) rfl (nI_1 i) (by decide) rfl (fun ls hl => ?_)
            refine lv_goto (tgt := 56) hx hb dX4_init_113 (by decide) ?_
            exact W.widen (by omega) (by omega) (ihA (i + 1) ad _ _ _ (by omega) (by omega) had hI hD hS (lv_sub hl [1, 0] rfl))
          have hjl : j < 4 := by
            rcases Nat.lt_or_ge j 4 with z | z
            · exact z
            · exact absurd (nI_le (a := 4) z (by omega)) c2
          have hat0 : va_at G vwCl (h, .inr (4, [.ref (ad 1 0), .ref (ad 2 0), .ref (ad 3 0), .int 0, .ref (ad 4 0), .int 0, .int 0])) H := had ▸ hI 0 0 Nat.zero_lt_one
          refine lv_aload_n hx hb dX4_init_81 rfl (lv_at hl 0 rfl) ?_
          refine rh_get (ci := 4) (C := RX4) (T := TX4) (N := 7) (v := .ref (ad 2 0)) hx hb hts (fun _ h => List.mem_cons_of_mem _ (List.mem_append_left _ (List.mem_append_left _ (List.mem_append_right _ (h))))) hown hE hat0 rfl 1 (by decide) (hts (.fieldLink RX4 17 "RoamingHouse" "pairs" "[LRoamingHouse$Pair;") (by decide +kernel)) rfl dX4_init_82 ?_
          refine lv_iload_n hx hb dX4_init_85 rfl (lv_at hl 1 rfl) ?_
          refine lv_iconst (v := 4) hx hb dX4_init_86 (by decide) ?_
          refine lv_imul hx hb dX4_init_87 ?_
          refine lv_iload_n hx hb dX4_init_88 rfl (lv_at hl 2 rfl) ?_
          refine lv_iadd hx hb dX4_init_89 ?_
          have hix : nI i * 4 + nI j = nI (4 * i + j) := by rw [(rh_pq hil hjl).1, Nat.mul_comm]
          have hszH : s.heap.size ≤ H.size := hS.1
          refine rh_new0 (ci := 3) (C := RX3) (T := TX3) (N := 7) hx hb hts (fun _ h => List.mem_cons_of_mem _ (List.mem_append_right _ (h))) tyX3 tyX3_ok hown (hts (.classLink RX4 15 RX3) (by decide +kernel)) (hts (.instantiable RX3 7) (by decide +kernel)) (hts (.initialized RX3) (by decide +kernel)) hE hS rfl [.null, .int 0, .int 0, .int 0, .int 0, .int 0, .null] (fun j hj => by rcases (show j = 0 ∨ j = 1 ∨ j = 2 ∨ j = 3 ∨ j = 4 ∨ j = 5 ∨ j = 6 by omega) with rfl | rfl | rfl | rfl | rfl | rfl | rfl <;> rfl) (by show 4 + 9 * i + 1 + 2 * j + 1 ≤ 40; omega) (by show 110 + 44 * i + 4 + 10 * j + 7 ≤ 286; omega) dX4_init_90 (fun q H1 hq hat hz ho1 hS => ?_)
          have hqA : A q := hA q (by omega)
          have hA1 : ∀ z : Nat, (z = q ∨ H1.size ≤ z) → A z := fun z hz9 => hz9.elim (fun e => by rw [e]; exact hqA) (fun e => hA z (Nat.le_trans hS.1 e))
          refine lv_dup hx hb dX4_init_93 rfl ?_
          refine lv_aload_n hx hb dX4_init_94 rfl (lv_at hl 0 rfl) ?_
          refine rh_get (ci := 4) (C := RX4) (T := TX4) (N := 7) (v := .ref (ad 1 0)) hx hb hts (fun _ h => List.mem_cons_of_mem _ (List.mem_append_left _ (List.mem_append_left _ (List.mem_append_right _ (h))))) hown hE (hat0.kept (ho1 _ hat0.lt)) rfl 0 (by decide) (hts (.fieldLink RX4 11 "RoamingHouse" "operators" "[LRoamingHouse$Operator;") (by decide +kernel)) rfl dX4_init_95 ?_
          refine lv_iload_n hx hb dX4_init_98 rfl (lv_at hl 1 rfl) ?_
          have hrow1 : va_at G vwCl (ad 1 0, .inl (ca 3, 4, .inr (.inr (.inr (.inr (fun z => if z < i + 1 then some (ad 5 z) else none)))))) H1 := (hI 1 0 Nat.zero_lt_one).kept (ho1 _ (hI 1 0 Nat.zero_lt_one).lt)
          refine rh_qald hx hb hE 3 rfl hrow1 i (by omega) (by decide) rfl (q := ad 5 i) (if_pos (Nat.lt_succ_self i)) dX4_init_99 ?_
          refine rh_callm2 (A1 := fun z => z = q ∨ H1.size ≤ z) (va_runI (As := [.ref (ad 5 i)]) (rest := [.ref q, .int (nI i * 4 + nI j), .ref (ad 2 0)]) ⟨hx, hb, hml, hown, hts⟩ (ci_X3_init l q (Or.inl rfl) (ad 5 i)) (cwI 1 hts gX4_init_X3_init rfl rfl rfl (hts (.initialized RX3) (by decide +kernel)) (hts (.methodLink RX4 44 yX3_init) (by decide +kernel)) (hts (.instanceMethod yX3_init) (by decide +kernel)) rfl (by decide +kernel) ⟨by decide, by decide⟩) (rh_pre2 hE hS hA1 (fun z hz9 => Or.inr hz9) hat) rfl rfl hl.1 rfl (lv_room (Nat.le_of_ble_eq_true rfl)) dX4_init_100 ⟨by show 4 + 9 * i + 1 + 2 * j + 1 + 1 ≤ 40; omega, by show 110 + 44 * i + 4 + 10 * j + 7 + 3 ≤ 286; omega⟩) hS hA1 (fun o H2 locs hN hz2 ho2 hS => ?_)
          obtain ⟨rfl, q9, hat2, hat9, hne9, hA9⟩ := hN
          refine W.eq (g2 := F0 m 103 ls [.ref q, .int (nI i * 4 + nI j), .ref (ad 2 0)]) rfl ?_
          have hq9 : H.size < q9 := by rcases hA9 with z | z <;> omega
          have ho2x : ∀ x : Nat, x < H.size → H2[x]? = H[x]? := fun x hx9 => (ho2 x (by omega) (fun z => z.elim (fun z => by omega) (fun z => by omega))).trans (ho1 x hx9)
          have hrow0 : va_at G vwCl (ad 2 0, .inl (ca 4, 16, .inr (.inr (.inr (.inr (fun z => if z < 4 * i + j then some (ad 6 z) else none)))))) H2 := (hI 2 0 Nat.zero_lt_one).kept (ho2x _ (hI 2 0 Nat.zero_lt_one).lt)
          refine rh_aast0 hx hb hE 4 (r := (RX3, TX3, 7)) hrow0 rfl hat2 rfl hS (hD.2 2 0 Nat.zero_lt_one) (4 * i + j) (by omega) (by decide) hix dX4_init_103 (fun H3 locs hrow hz3 ho3 hS => ?_)
          have hlt2 : ad 2 0 < H.size := (hI 2 0 Nat.zero_lt_one).lt
          have hdiv : (4 * i + j) / 4 = i := by omega
          obtain ⟨hI, hD⟩ := i_W.pr hI hD hq hqA hq9 (hA1 q9 hA9) (by rw [hdiv]; exact hat2.kept (ho3 q (by omega))) (hat9.kept (ho3 q9 (by omega))) hrow (fun x h1 h2 => (ho3 x h2).trans (ho2x x h1))
          have had : ad2 (ad2 ad 6 (4 * i + j) q) 7 (4 * i + j) q9 0 0 = h := by rw [ad2_ne _ 7 _ q9 (by omega), ad2_ne ad 6 _ q (by omega)]; exact had
          refine lv_iinc (v := nI (j + 1)) (lv' := [(2, .int (nI (j + 1))), (0, .ref h), (1, .int (nI i))]) hx hb dX4_init_104 hl (k := 2) rfl (nI_1 j) (by decide) rfl (fun ls hl => ?_)
          refine lv_goto (tgt := 76) hx hb dX4_init_107 (by decide) ?_
          exact W.widen (by omega) (by omega) (ihB (j + 1) _ _ _ _ (by omega) (by omega) had hI hD hS (lv_sub hl [1, 2, 0] rfl))
      exact W.widen (by omega) (by omega) (loopB 5 0 _ _ _ _ (by omega) (by omega) had hI hD hS (lv_sub hl [1, 2, 0] rfl))
  exact W.widen (by decide) (by decide) (loopA 5 0 ad _ _ _ (by omega) (by omega) had0 hI hD hS (lv_sub hl [1, 0] rfl))
