/-! ===== constructors of the house's parts ===== -/
set_option maxHeartbeats 4000000 in
set_option maxRecDepth 100000 in
theorem ci_X2_init (l : Launch) {G : va_G} {ca : Nat → ClassId} {A : Nat → Prop} (h : Nat) (hh : A h)  : Met l yX2_init wsX2_init ({ frames := 1, cells := 0, slots := 0, locals := 30 } : Room) (rh_Pc G ca A [.ref h] (fun H => va_at G vwCl (h, .inr (2, [.int 0, .int 0, .int 0, .int 0])) H)) (rh_Q A (fun o H => o = none ∧ va_at G vwCl (h, .inr (2, [.int 60, .int 10, .int 0, .int 1000])) H)) 0 0 A := by
  refine rh_enterm (cc := cX2_init) (maxL := 1) (ret := none) (by decide) rfl (Nat.le_of_ble_eq_true rfl) ?_
  intro p e s m below meth c ls hx hb hr hml hown hts hlocks hin hE hA hat hl
  have hS : va_S A s.heap s.heap [] := va_S.rf
  have hl : lv_has ls 1 [(0, .ref h)] := hl
  refine lv_aload_n hx hb dX2_init_0 rfl (lv_at hl 0 rfl) ?_
  refine W.objInit hx hb hown (hts (.methodLink RX2 3 objectInit) (by decide +kernel)) (hts (.instanceMethod objectInit) (by decide +kernel)) (hts (.code objectInit ⟨#[0xb1]⟩ 1 none) (by decide +kernel)) rfl (by rw [hml]; exact hl.1) rfl dX2_init_1 (Nat.le_of_ble_eq_true rfl) (Nat.le_of_ble_eq_true rfl) ?_
  refine W.eq (g2 := F0 m 4 ls []) rfl ?_
  refine lv_aload_n hx hb dX2_init_4 rfl (lv_at hl 0 rfl) ?_
  refine lv_bipush (v := 60) hx hb dX2_init_5 (by decide) ?_
  refine rh_put0 (ci := 2) (C := RX2) (T := TX2) (N := 4) (v := .int 60) hx hb hts (fun _ h => List.mem_cons_of_mem _ (List.mem_append_right _ (h))) tyX2 tyX2_ok nmX2 hown hE hat rfl hS hh 0 (by decide) (hts (.fieldLink RX2 9 "RoamingHouse$Operator" "step" "I") (by decide +kernel)) rfl rfl rfl (Nat.le_of_ble_eq_true rfl) dX2_init_7 (fun H locs hat hz ho hS => ?_)
  have hat : va_at G vwCl (h, .inr (2, [.int 60, .int 0, .int 0, .int 0])) H := hat
  refine lv_aload_n hx hb dX2_init_10 rfl (lv_at hl 0 rfl) ?_
  refine lv_bipush (v := 10) hx hb dX2_init_11 (by decide) ?_
  refine rh_put0 (ci := 2) (C := RX2) (T := TX2) (N := 4) (v := .int 10) hx hb hts (fun _ h => List.mem_cons_of_mem _ (List.mem_append_right _ (h))) tyX2 tyX2_ok nmX2 hown hE hat rfl hS hh 1 (by decide) (hts (.fieldLink RX2 15 "RoamingHouse$Operator" "price" "I") (by decide +kernel)) rfl rfl rfl (Nat.le_of_ble_eq_true rfl) dX2_init_13 (fun H locs hat hz ho hS => ?_)
  have hat : va_at G vwCl (h, .inr (2, [.int 60, .int 10, .int 0, .int 0])) H := hat
  refine lv_aload_n hx hb dX2_init_16 rfl (lv_at hl 0 rfl) ?_
  refine lv_iconst (v := 0) hx hb dX2_init_17 (by decide) ?_
  refine rh_put0 (ci := 2) (C := RX2) (T := TX2) (N := 4) (v := .int 0) hx hb hts (fun _ h => List.mem_cons_of_mem _ (List.mem_append_right _ (h))) tyX2 tyX2_ok nmX2 hown hE hat rfl hS hh 2 (by decide) (hts (.fieldLink RX2 18 "RoamingHouse$Operator" "beginning" "I") (by decide +kernel)) rfl rfl rfl (Nat.le_of_ble_eq_true rfl) dX2_init_18 (fun H locs hat hz ho hS => ?_)
  have hat : va_at G vwCl (h, .inr (2, [.int 60, .int 10, .int 0, .int 0])) H := hat
  refine lv_aload_n hx hb dX2_init_21 rfl (lv_at hl 0 rfl) ?_
  refine lv_sipush (v := 1000) hx hb dX2_init_22 (by decide) ?_
  refine rh_put0 (ci := 2) (C := RX2) (T := TX2) (N := 4) (v := .int 1000) hx hb hts (fun _ h => List.mem_cons_of_mem _ (List.mem_append_right _ (h))) tyX2 tyX2_ok nmX2 hown hE hat rfl hS hh 3 (by decide) (hts (.fieldLink RX2 21 "RoamingHouse$Operator" "unitRate" "I") (by decide +kernel)) rfl rfl rfl (Nat.le_of_ble_eq_true rfl) dX2_init_25 (fun H locs hat hz ho hS => ?_)
  have hat : va_at G vwCl (h, .inr (2, [.int 60, .int 10, .int 0, .int 1000])) H := hat
  exact rh_vretm hx hb hr hlocks ⟨rfl, hat⟩ hS (by decide) (by decide) dX2_init_28
set_option maxHeartbeats 4000000 in
set_option maxRecDepth 100000 in
theorem ci_X1_init (l : Launch) {G : va_G} {ca : Nat → ClassId} {A : Nat → Prop} (h : Nat) (hh : A h) (pr : Nat) (b : Int32) : Met l yX1_init wsX1_init ({ frames := 1, cells := 0, slots := 0, locals := 30 } : Room) (rh_Pc G ca A [.ref h, .ref pr, .int b] (fun H => va_at G vwCl (h, .inr (1, [.null, .int 0, .int 0, .int 0, .int 0])) H)) (rh_Q A (fun o H => o = none ∧ va_at G vwCl (h, .inr (1, [.ref pr, .int b, .int 0, .int 0, .int (-1)])) H)) 0 0 A := by
  refine rh_enterm (cc := cX1_init) (maxL := 3) (ret := none) (by decide) rfl (Nat.le_of_ble_eq_true rfl) ?_
  intro p e s m below meth c ls hx hb hr hml hown hts hlocks hin hE hA hat hl
  have hS : va_S A s.heap s.heap [] := va_S.rf
  have hl : lv_has ls 3 [(0, .ref h), (1, .ref pr), (2, .int b)] := hl
  refine lv_aload_n hx hb dX1_init_0 rfl (lv_at hl 0 rfl) ?_
  refine W.objInit hx hb hown (hts (.methodLink RX1 3 objectInit) (by decide +kernel)) (hts (.instanceMethod objectInit) (by decide +kernel)) (hts (.code objectInit ⟨#[0xb1]⟩ 1 none) (by decide +kernel)) rfl (by rw [hml]; exact hl.1) rfl dX1_init_1 (Nat.le_of_ble_eq_true rfl) (Nat.le_of_ble_eq_true rfl) ?_
  refine W.eq (g2 := F0 m 4 ls []) rfl ?_
  refine lv_aload_n hx hb dX1_init_4 rfl (lv_at hl 0 rfl) ?_
  refine lv_iconst (v := 0) hx hb dX1_init_5 (by decide) ?_
  refine rh_put0 (ci := 1) (C := RX1) (T := TX1) (N := 5) (v := .int 0) hx hb hts (fun _ h => List.mem_cons_of_mem _ (List.mem_append_right _ (h))) tyX1 tyX1_ok nmX1 hown hE hat rfl hS hh 2 (by decide) (hts (.fieldLink RX1 9 "RoamingHouse$CallFile" "state" "I") (by decide +kernel)) rfl rfl rfl (Nat.le_of_ble_eq_true rfl) dX1_init_6 (fun H locs hat hz ho hS => ?_)
  have hat : va_at G vwCl (h, .inr (1, [.null, .int 0, .int 0, .int 0, .int 0])) H := hat
  refine lv_aload_n hx hb dX1_init_9 rfl (lv_at hl 0 rfl) ?_
  refine lv_iconst (v := 0) hx hb dX1_init_10 (by decide) ?_
  refine rh_put0 (ci := 1) (C := RX1) (T := TX1) (N := 5) (v := .int 0) hx hb hts (fun _ h => List.mem_cons_of_mem _ (List.mem_append_right _ (h))) tyX1 tyX1_ok nmX1 hown hE hat rfl hS hh 3 (by decide) (hts (.fieldLink RX1 15 "RoamingHouse$CallFile" "size" "I") (by decide +kernel)) rfl rfl rfl (Nat.le_of_ble_eq_true rfl) dX1_init_11 (fun H locs hat hz ho hS => ?_)
  have hat : va_at G vwCl (h, .inr (1, [.null, .int 0, .int 0, .int 0, .int 0])) H := hat
  refine lv_aload_n hx hb dX1_init_14 rfl (lv_at hl 0 rfl) ?_
  refine lv_iconst (v := -1) hx hb dX1_init_15 (by decide) ?_
  refine rh_put0 (ci := 1) (C := RX1) (T := TX1) (N := 5) (v := .int (-1)) hx hb hts (fun _ h => List.mem_cons_of_mem _ (List.mem_append_right _ (h))) tyX1 tyX1_ok nmX1 hown hE hat rfl hS hh 4 (by decide) (hts (.fieldLink RX1 18 "RoamingHouse$CallFile" "number" "I") (by decide +kernel)) rfl rfl rfl (Nat.le_of_ble_eq_true rfl) dX1_init_16 (fun H locs hat hz ho hS => ?_)
  have hat : va_at G vwCl (h, .inr (1, [.null, .int 0, .int 0, .int 0, .int (-1)])) H := hat
  refine lv_aload_n hx hb dX1_init_19 rfl (lv_at hl 0 rfl) ?_
  refine lv_aload_n hx hb dX1_init_20 rfl (lv_at hl 1 rfl) ?_
  refine rh_putF0 (ci := 1) (C := RX1) (T := TX1) (N := 5) (v := .ref pr) hx hb hts (fun _ h => List.mem_cons_of_mem _ (List.mem_append_right _ (h))) tyX1 tyX1_ok nmX1 hown hE hat rfl hS hh 0 (by decide) (hts (.fieldLink RX1 21 "RoamingHouse$CallFile" "pair" "LRoamingHouse$Pair;") (by decide +kernel)) rfl hin rfl rfl rfl (Nat.le_of_ble_eq_true rfl) dX1_init_21 (fun H locs hat hz ho hS => ?_)
  have hat : va_at G vwCl (h, .inr (1, [.ref pr, .int 0, .int 0, .int 0, .int (-1)])) H := hat
  refine lv_aload_n hx hb dX1_init_24 rfl (lv_at hl 0 rfl) ?_
  refine lv_iload_n hx hb dX1_init_25 rfl (lv_at hl 2 rfl) ?_
  refine rh_putF0 (ci := 1) (C := RX1) (T := TX1) (N := 5) (v := .int b) hx hb hts (fun _ h => List.mem_cons_of_mem _ (List.mem_append_right _ (h))) tyX1 tyX1_ok nmX1 hown hE hat rfl hS hh 1 (by decide) (hts (.fieldLink RX1 25 "RoamingHouse$CallFile" "begunIn" "I") (by decide +kernel)) rfl hin rfl rfl rfl (Nat.le_of_ble_eq_true rfl) dX1_init_26 (fun H locs hat hz ho hS => ?_)
  have hat : va_at G vwCl (h, .inr (1, [.ref pr, .int b, .int 0, .int 0, .int (-1)])) H := hat
  exact rh_vretm hx hb hr hlocks ⟨rfl, hat⟩ hS (by decide) (by decide) dX1_init_29
set_option maxHeartbeats 4000000 in
set_option maxRecDepth 100000 in
theorem ci_X0_init (l : Launch) {G : va_G} {ca : Nat → ClassId} {A : Nat → Prop} (h : Nat) (hh : A h) (f : Nat) (se to : Int32) : Met l yX0_init wsX0_init ({ frames := 1, cells := 0, slots := 0, locals := 30 } : Room) (rh_Pc G ca A [.ref h, .ref f, .int se, .int to] (fun H => va_at G vwCl (h, .inr (0, [.null, .int 0, .int 0, .int 0, .int 0, .int 0, .int 0])) H)) (rh_Q A (fun o H => o = none ∧ va_at G vwCl (h, .inr (0, [.ref f, .int se, .int to, .int 0, .int (-1), .int (-1), .int 0])) H)) 0 0 A := by
  refine rh_enterm (cc := cX0_init) (maxL := 4) (ret := none) (by decide) rfl (Nat.le_of_ble_eq_true rfl) ?_
  intro p e s m below meth c ls hx hb hr hml hown hts hlocks hin hE hA hat hl
  have hS : va_S A s.heap s.heap [] := va_S.rf
  have hl : lv_has ls 4 [(0, .ref h), (1, .ref f), (2, .int se), (3, .int to)] := hl
  refine lv_aload_n hx hb dX0_init_0 rfl (lv_at hl 0 rfl) ?_
  refine W.objInit hx hb hown (hts (.methodLink RX0 3 objectInit) (by decide +kernel)) (hts (.instanceMethod objectInit) (by decide +kernel)) (hts (.code objectInit ⟨#[0xb1]⟩ 1 none) (by decide +kernel)) rfl (by rw [hml]; exact hl.1) rfl dX0_init_1 (Nat.le_of_ble_eq_true rfl) (Nat.le_of_ble_eq_true rfl) ?_
  refine W.eq (g2 := F0 m 4 ls []) rfl ?_
  refine lv_aload_n hx hb dX0_init_4 rfl (lv_at hl 0 rfl) ?_
  refine lv_iconst (v := 0) hx hb dX0_init_5 (by decide) ?_
  refine rh_put0 (ci := 0) (C := RX0) (T := TX0) (N := 7) (v := .int 0) hx hb hts (fun _ h => List.mem_cons_of_mem _ (List.mem_append_right _ (h))) tyX0 tyX0_ok nmX0 hown hE hat rfl hS hh 3 (by decide) (hts (.fieldLink RX0 9 "RoamingHouse$Call" "state" "I") (by decide +kernel)) rfl rfl rfl (Nat.le_of_ble_eq_true rfl) dX0_init_6 (fun H locs hat hz ho hS => ?_)
  have hat : va_at G vwCl (h, .inr (0, [.null, .int 0, .int 0, .int 0, .int 0, .int 0, .int 0])) H := hat
  refine lv_aload_n hx hb dX0_init_9 rfl (lv_at hl 0 rfl) ?_
  refine lv_iconst (v := -1) hx hb dX0_init_10 (by decide) ?_
  refine rh_put0 (ci := 0) (C := RX0) (T := TX0) (N := 7) (v := .int (-1)) hx hb hts (fun _ h => List.mem_cons_of_mem _ (List.mem_append_right _ (h))) tyX0 tyX0_ok nmX0 hown hE hat rfl hS hh 4 (by decide) (hts (.fieldLink RX0 15 "RoamingHouse$Call" "acceptedIn" "I") (by decide +kernel)) rfl rfl rfl (Nat.le_of_ble_eq_true rfl) dX0_init_11 (fun H locs hat hz ho hS => ?_)
  have hat : va_at G vwCl (h, .inr (0, [.null, .int 0, .int 0, .int 0, .int (-1), .int 0, .int 0])) H := hat
  refine lv_aload_n hx hb dX0_init_14 rfl (lv_at hl 0 rfl) ?_
  refine lv_iconst (v := -1) hx hb dX0_init_15 (by decide) ?_
  refine rh_put0 (ci := 0) (C := RX0) (T := TX0) (N := 7) (v := .int (-1)) hx hb hts (fun _ h => List.mem_cons_of_mem _ (List.mem_append_right _ (h))) tyX0 tyX0_ok nmX0 hown hE hat rfl hS hh 5 (by decide) (hts (.fieldLink RX0 18 "RoamingHouse$Call" "disputedIn" "I") (by decide +kernel)) rfl rfl rfl (Nat.le_of_ble_eq_true rfl) dX0_init_16 (fun H locs hat hz ho hS => ?_)
  have hat : va_at G vwCl (h, .inr (0, [.null, .int 0, .int 0, .int 0, .int (-1), .int (-1), .int 0])) H := hat
  refine lv_aload_n hx hb dX0_init_19 rfl (lv_at hl 0 rfl) ?_
  refine lv_iconst (v := 0) hx hb dX0_init_20 (by decide) ?_
  refine rh_put0 (ci := 0) (C := RX0) (T := TX0) (N := 7) (v := .int 0) hx hb hts (fun _ h => List.mem_cons_of_mem _ (List.mem_append_right _ (h))) tyX0 tyX0_ok nmX0 hown hE hat rfl hS hh 6 (by decide) (hts (.fieldLink RX0 21 "RoamingHouse$Call" "secondsAhead" "I") (by decide +kernel)) rfl rfl rfl (Nat.le_of_ble_eq_true rfl) dX0_init_21 (fun H locs hat hz ho hS => ?_)
  have hat : va_at G vwCl (h, .inr (0, [.null, .int 0, .int 0, .int 0, .int (-1), .int (-1), .int 0])) H := hat
  refine lv_aload_n hx hb dX0_init_24 rfl (lv_at hl 0 rfl) ?_
  refine lv_aload_n hx hb dX0_init_25 rfl (lv_at hl 1 rfl) ?_
  refine rh_putF0 (ci := 0) (C := RX0) (T := TX0) (N := 7) (v := .ref f) hx hb hts (fun _ h => List.mem_cons_of_mem _ (List.mem_append_right _ (h))) tyX0 tyX0_ok nmX0 hown hE hat rfl hS hh 0 (by decide) (hts (.fieldLink RX0 24 "RoamingHouse$Call" "file" "LRoamingHouse$CallFile;") (by decide +kernel)) rfl hin rfl rfl rfl (Nat.le_of_ble_eq_true rfl) dX0_init_26 (fun H locs hat hz ho hS => ?_)
  have hat : va_at G vwCl (h, .inr (0, [.ref f, .int 0, .int 0, .int 0, .int (-1), .int (-1), .int 0])) H := hat
  refine lv_aload_n hx hb dX0_init_29 rfl (lv_at hl 0 rfl) ?_
  refine lv_iload_n hx hb dX0_init_30 rfl (lv_at hl 2 rfl) ?_
  refine rh_putF0 (ci := 0) (C := RX0) (T := TX0) (N := 7) (v := .int se) hx hb hts (fun _ h => List.mem_cons_of_mem _ (List.mem_append_right _ (h))) tyX0 tyX0_ok nmX0 hown hE hat rfl hS hh 1 (by decide) (hts (.fieldLink RX0 28 "RoamingHouse$Call" "seconds" "I") (by decide +kernel)) rfl hin rfl rfl rfl (Nat.le_of_ble_eq_true rfl) dX0_init_31 (fun H locs hat hz ho hS => ?_)
  have hat : va_at G vwCl (h, .inr (0, [.ref f, .int se, .int 0, .int 0, .int (-1), .int (-1), .int 0])) H := hat
  refine lv_aload_n hx hb dX0_init_34 rfl (lv_at hl 0 rfl) ?_
  refine lv_iload_n hx hb dX0_init_35 rfl (lv_at hl 3 rfl) ?_
  refine rh_putF0 (ci := 0) (C := RX0) (T := TX0) (N := 7) (v := .int to) hx hb hts (fun _ h => List.mem_cons_of_mem _ (List.mem_append_right _ (h))) tyX0 tyX0_ok nmX0 hown hE hat rfl hS hh 2 (by decide) (hts (.fieldLink RX0 31 "RoamingHouse$Call" "told" "I") (by decide +kernel)) rfl hin rfl rfl rfl (Nat.le_of_ble_eq_true rfl) dX0_init_36 (fun H locs hat hz ho hS => ?_)
  have hat : va_at G vwCl (h, .inr (0, [.ref f, .int se, .int to, .int 0, .int (-1), .int (-1), .int 0])) H := hat
  exact rh_vretm hx hb hr hlocks ⟨rfl, hat⟩ hS (by decide) (by decide) dX0_init_39
set_option maxHeartbeats 4000000 in
set_option maxRecDepth 100000 in
theorem ci_X3_init (l : Launch) {G : va_G} {ca : Nat → ClassId} {A : Nat → Prop} (h : Nat) (hh : A h) (op : Nat) : Met l yX3_init wsX3_init ({ frames := 1, cells := 1, slots := 3, locals := 30 } : Room) (rh_Pc G ca A [.ref h, .ref op] (fun H => va_at G vwCl (h, .inr (3, [.null, .int 0, .int 0, .int 0, .int 0, .int 0, .null])) H)) (rh_Q A (fun o H => o = none ∧ ∃ q9 : Nat, va_at G vwCl (h, .inr (3, [.ref op, .int 1, .int 0, .int 0, .int 0, .int 0, .ref q9])) H ∧ va_at G vwCl (q9, .inl (ca 0, 3, .inl (fun _ => 0))) H ∧ q9 ≠ h ∧ A q9)) 1 3 A := by
  refine rh_enterm (cc := cX3_init) (maxL := 2) (ret := none) (by decide) rfl (Nat.le_of_ble_eq_true rfl) ?_
  intro p e s m below meth c ls hx hb hr hml hown hts hlocks hin hE hA hat hl
  have hS : va_S A s.heap s.heap [] := va_S.rf
  have hS1 : ∀ (H : Heap) (locs : List Loc), va_S A s.heap H locs → s.heap.size ≤ H.size := fun H locs h => h.1
  have hl : lv_has ls 2 [(0, .ref h), (1, .ref op)] := hl
  refine lv_aload_n hx hb dX3_init_0 rfl (lv_at hl 0 rfl) ?_
  refine W.objInit hx hb hown (hts (.methodLink RX3 3 objectInit) (by decide +kernel)) (hts (.instanceMethod objectInit) (by decide +kernel)) (hts (.code objectInit ⟨#[0xb1]⟩ 1 none) (by decide +kernel)) rfl (by rw [hml]; exact hl.1) rfl dX3_init_1 (Nat.le_of_ble_eq_true rfl) (Nat.le_of_ble_eq_true rfl) ?_
  refine W.eq (g2 := F0 m 4 ls []) rfl ?_
  refine lv_aload_n hx hb dX3_init_4 rfl (lv_at hl 0 rfl) ?_
  refine lv_iconst (v := 1) hx hb dX3_init_5 (by decide) ?_
  refine rh_put0 (ci := 3) (C := RX3) (T := TX3) (N := 7) (v := .int 1) hx hb hts (fun _ h => List.mem_cons_of_mem _ (List.mem_append_right _ (h))) tyX3 tyX3_ok nmX3 hown hE hat rfl hS hh 1 (by decide) (hts (.fieldLink RX3 9 "RoamingHouse$Pair" "expectedNumber" "I") (by decide +kernel)) rfl rfl rfl (Nat.le_of_ble_eq_true rfl) dX3_init_6 (fun H locs hat hz ho hS => ?_)
  have hat : va_at G vwCl (h, .inr (3, [.null, .int 1, .int 0, .int 0, .int 0, .int 0, .null])) H := hat
  refine lv_aload_n hx hb dX3_init_9 rfl (lv_at hl 0 rfl) ?_
  refine lv_iconst (v := 0) hx hb dX3_init_10 (by decide) ?_
  refine rh_put0 (ci := 3) (C := RX3) (T := TX3) (N := 7) (v := .int 0) hx hb hts (fun _ h => List.mem_cons_of_mem _ (List.mem_append_right _ (h))) tyX3 tyX3_ok nmX3 hown hE hat rfl hS hh 2 (by decide) (hts (.fieldLink RX3 15 "RoamingHouse$Pair" "promised" "I") (by decide +kernel)) rfl rfl rfl (Nat.le_of_ble_eq_true rfl) dX3_init_11 (fun H locs hat hz ho hS => ?_)
  have hat : va_at G vwCl (h, .inr (3, [.null, .int 1, .int 0, .int 0, .int 0, .int 0, .null])) H := hat
  refine lv_aload_n hx hb dX3_init_14 rfl (lv_at hl 0 rfl) ?_
  refine lv_iconst (v := 0) hx hb dX3_init_15 (by decide) ?_
  refine rh_put0 (ci := 3) (C := RX3) (T := TX3) (N := 7) (v := .int 0) hx hb hts (fun _ h => List.mem_cons_of_mem _ (List.mem_append_right _ (h))) tyX3 tyX3_ok nmX3 hown hE hat rfl hS hh 3 (by decide) (hts (.fieldLink RX3 18 "RoamingHouse$Pair" "volume" "I") (by decide +kernel)) rfl rfl rfl (Nat.le_of_ble_eq_true rfl) dX3_init_16 (fun H locs hat hz ho hS => ?_)
  have hat : va_at G vwCl (h, .inr (3, [.null, .int 1, .int 0, .int 0, .int 0, .int 0, .null])) H := hat
  refine lv_aload_n hx hb dX3_init_19 rfl (lv_at hl 0 rfl) ?_
  refine lv_iconst (v := 0) hx hb dX3_init_20 (by decide) ?_
  refine rh_put0 (ci := 3) (C := RX3) (T := TX3) (N := 7) (v := .int 0) hx hb hts (fun _ h => List.mem_cons_of_mem _ (List.mem_append_right _ (h))) tyX3 tyX3_ok nmX3 hown hE hat rfl hS hh 4 (by decide) (hts (.fieldLink RX3 21 "RoamingHouse$Pair" "discountRate" "I") (by decide +kernel)) rfl rfl rfl (Nat.le_of_ble_eq_true rfl) dX3_init_21 (fun H locs hat hz ho hS => ?_)
  have hat : va_at G vwCl (h, .inr (3, [.null, .int 1, .int 0, .int 0, .int 0, .int 0, .null])) H := hat
  refine lv_aload_n hx hb dX3_init_24 rfl (lv_at hl 0 rfl) ?_
  refine lv_iconst (v := 0) hx hb dX3_init_25 (by decide) ?_
  refine rh_put0 (ci := 3) (C := RX3) (T := TX3) (N := 7) (v := .int 0) hx hb hts (fun _ h => List.mem_cons_of_mem _ (List.mem_append_right _ (h))) tyX3 tyX3_ok nmX3 hown hE hat rfl hS hh 5 (by decide) (hts (.fieldLink RX3 24 "RoamingHouse$Pair" "goesBack" "Z") (by decide +kernel)) rfl rfl rfl (Nat.le_of_ble_eq_true rfl) dX3_init_26 (fun H locs hat hz ho hS => ?_)
  have hat : va_at G vwCl (h, .inr (3, [.null, .int 1, .int 0, .int 0, .int 0, .int 0, .null])) H := hat
  refine lv_aload_n hx hb dX3_init_29 rfl (lv_at hl 0 rfl) ?_
  refine lv_iconst (v := 3) hx hb dX3_init_30 (by decide) ?_
  refine rh_newa0 hx hb (hts (.arrayClass .int) (by decide +kernel)) hE hS 3 (by decide) (by decide) (by decide) (by decide) (by decide) dX3_init_31 (fun q9 H1 hq9 hat9 hz9 ho9 hS => ?_)
  have hne9 : q9 ≠ h := fun z => by have := hat.lt; rw [← z, hq9] at this; exact absurd this (Nat.lt_irrefl _)
  have hat := hat.kept (ho9 _ hat.lt)
  have hA9 : A q9 := hA q9 (by have := hS.1; omega)
  clear hq9
  refine rh_putF0 (ci := 3) (C := RX3) (T := TX3) (N := 7) (v := .ref q9) hx hb hts (fun _ h => List.mem_cons_of_mem _ (List.mem_append_right _ (h))) tyX3 tyX3_ok nmX3 hown hE hat rfl hS hh 6 (by decide) (hts (.fieldLink RX3 28 "RoamingHouse$Pair" "acceptedSeconds" "[I") (by decide +kernel)) rfl hin rfl rfl rfl (Nat.le_of_ble_eq_true rfl) dX3_init_33 (fun H locs hat hz ho hS => ?_)
  have hat : va_at G vwCl (h, .inr (3, [.null, .int 1, .int 0, .int 0, .int 0, .int 0, .ref q9])) H := hat
  have hat9 := hat9.kept (ho _ hne9)
  refine lv_aload_n hx hb dX3_init_36 rfl (lv_at hl 0 rfl) ?_
  refine lv_aload_n hx hb dX3_init_37 rfl (lv_at hl 1 rfl) ?_
  refine rh_putF0 (ci := 3) (C := RX3) (T := TX3) (N := 7) (v := .ref op) hx hb hts (fun _ h => List.mem_cons_of_mem _ (List.mem_append_right _ (h))) tyX3 tyX3_ok nmX3 hown hE hat rfl hS hh 0 (by decide) (hts (.fieldLink RX3 32 "RoamingHouse$Pair" "host" "LRoamingHouse$Operator;") (by decide +kernel)) rfl hin rfl rfl rfl (Nat.le_of_ble_eq_true rfl) dX3_init_38 (fun H locs hat hz ho hS => ?_)
  have hat : va_at G vwCl (h, .inr (3, [.ref op, .int 1, .int 0, .int 0, .int 0, .int 0, .ref q9])) H := hat
  have hat9 := hat9.kept (ho _ hne9)
  exact rh_vretm hx hb hr hlocks ⟨rfl, q9, hat, hat9, hne9, hA9⟩ hS (by decide) (by decide) dX3_init_41
