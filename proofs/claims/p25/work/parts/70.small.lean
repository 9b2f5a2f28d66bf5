/-! ===== small helpers of the law ===== -/
theorem u_c1 {x st : Nat} (h : 512 * st < x) (h1 : 1 ≤ st) : (x + st - 1) / st = 512 + (x - 512 * st + st - 1) / st := by
  rw [show x + st - 1 = (x - 512 * st + st - 1) + 512 * st by omega, Nat.add_mul_div_right _ _ (by omega), Nat.add_comm]
theorem u_c2 {x st : Nat} (h0 : 0 < x) (h1 : 1 ≤ st) : (x + st - 1) / st = x / st + (if 0 < x % st then 1 else 0) := by
  have e := Nat.div_add_mod x st
  have hm := Nat.mod_lt x (show st > 0 by omega)
  generalize hq : x / st = q at *
  generalize hr : x % st = r at *
  by_cases hz : 0 < r
  · rw [if_pos hz, ← e, show st * q + r + st - 1 = (r - 1) + (q + 1) * st by rw [Nat.add_mul, Nat.mul_comm st q]; omega, Nat.add_mul_div_right _ _ (by omega), Nat.div_eq_of_lt (show r - 1 < st by omega)]
    omega
  · rw [if_neg hz, ← e, show st * q + r + st - 1 = (st - 1) + q * st by rw [Nat.mul_comm st q]; omega, Nat.add_mul_div_right _ _ (by omega), Nat.div_eq_of_lt (show st - 1 < st by omega)]
    omega
theorem u_le0 {a b : Nat} (h : a ≤ b) (hb : b < 1073741824) : nI a - nI b ≤ 0 := by
  rw [Int32.le_iff_toInt_le, pk_sub_toInt (by omega) hb, show (0 : Int32).toInt = 0 from by decide]
  omega
set_option maxHeartbeats 4000000 in
set_option maxRecDepth 100000 in
theorem ct_L_state (l : Launch) {G : va_G} {ca : Nat → ClassId} {A : Nat → Prop} {ua : Nat → Nat} {L : u_L} (k : Nat) (hc : k < 40) (hub : ub L) : rh_M l yL_state wsL_state ({ frames := 0, cells := 0, slots := 0, locals := 0 } : Room) G ca A [.ref (ua 3), .int (nI k)] (u_W G ca ua L) (fun o H => o = some (.int (nI (u_st L k)))) rh_no 0 0 := by
  refine rh_enter (cc := cL_state) (maxL := 2) (ret := (some .int)) (by decide) rfl (Nat.le_of_ble_eq_true rfl) ?_
  intro p e s m below meth c ls hx hb hr hml hown hts hlocks hex hin hE hA hU hl
  have hS : va_S A s.heap s.heap [] := va_S.rf
  have hl : lv_has ls 2 [(0, .ref (ua 3)), (1, .int (nI k))] := hl
  refine lv_aload_n hx hb dL_state_0 rfl (lv_at hl 0 rfl) ?_
  refine lv_iload_n hx hb dL_state_1 rfl (lv_at hl 1 rfl) ?_
  have hb2_2 := hub 3 k
  refine un_ald (L := L) hx hb hE hU 3 (by decide) k (show k < 40 from (by omega)) dL_state_2 ?_
  refine lv_bipush (v := nI 16) hx hb dL_state_3 (by decide) ?_
  refine un_div hx hb dL_state_5 (by omega) (by decide) (by decide) ?_
  refine lv_bipush (v := nI 8) hx hb dL_state_6 (by decide) ?_
  refine un_rem hx hb dL_state_8 (by omega) (by decide) (by decide) ?_
  exact rh_iret hx hb hr hlocks rfl hS (by decide) (by decide) dL_state_9
set_option maxHeartbeats 4000000 in
set_option maxRecDepth 100000 in
theorem ct_L_month (l : Launch) {G : va_G} {ca : Nat → ClassId} {A : Nat → Prop} {ua : Nat → Nat} {L : u_L} (k : Nat) (hc : k < 40) (hub : ub L) : rh_M l yL_month wsL_month ({ frames := 0, cells := 0, slots := 0, locals := 0 } : Room) G ca A [.ref (ua 3), .int (nI k)] (u_W G ca ua L) (fun o H => o = some (.int (nI (u_mo L k)))) rh_no 0 0 := by
  refine rh_enter (cc := cL_month) (maxL := 2) (ret := (some .int)) (by decide) rfl (Nat.le_of_ble_eq_true rfl) ?_
  intro p e s m below meth c ls hx hb hr hml hown hts hlocks hex hin hE hA hU hl
  have hS : va_S A s.heap s.heap [] := va_S.rf
  have hl : lv_has ls 2 [(0, .ref (ua 3)), (1, .int (nI k))] := hl
  refine lv_aload_n hx hb dL_month_0 rfl (lv_at hl 0 rfl) ?_
  refine lv_iload_n hx hb dL_month_1 rfl (lv_at hl 1 rfl) ?_
  have hb2_2 := hub 3 k
  refine un_ald (L := L) hx hb hE hU 3 (by decide) k (show k < 40 from (by omega)) dL_month_2 ?_
  refine lv_sipush (v := nI 128) hx hb dL_month_3 (by decide) ?_
  refine un_div hx hb dL_month_6 (by omega) (by decide) (by decide) ?_
  refine lv_bipush (v := nI 64) hx hb dL_month_7 (by decide) ?_
  refine un_rem hx hb dL_month_9 (by omega) (by decide) (by decide) ?_
  exact rh_iret hx hb hr hlocks rfl hS (by decide) (by decide) dL_month_10
set_option maxHeartbeats 4000000 in
set_option maxRecDepth 100000 in
theorem ct_L_pair (l : Launch) {G : va_G} {ca : Nat → ClassId} {A : Nat → Prop} {ua : Nat → Nat} {L : u_L} (k : Nat) (hc : k < 40) (hub : ub L) : rh_M l yL_pair wsL_pair ({ frames := 0, cells := 0, slots := 0, locals := 0 } : Room) G ca A [.ref (ua 3), .ref (ua 2), .int (nI k)] (u_W G ca ua L) (fun o H => o = some (.int (nI (u_pr L k)))) rh_no 0 0 := by
  refine rh_enter (cc := cL_pair) (maxL := 3) (ret := (some .int)) (by decide) rfl (Nat.le_of_ble_eq_true rfl) ?_
  intro p e s m below meth c ls hx hb hr hml hown hts hlocks hex hin hE hA hU hl
  have hS : va_S A s.heap s.heap [] := va_S.rf
  have hl : lv_has ls 3 [(0, .ref (ua 3)), (1, .ref (ua 2)), (2, .int (nI k))] := hl
  refine lv_aload_n hx hb dL_pair_0 rfl (lv_at hl 1 rfl) ?_
  refine lv_iconst (v := nI 4) hx hb dL_pair_1 (by decide) ?_
  refine lv_aload_n hx hb dL_pair_2 rfl (lv_at hl 0 rfl) ?_
  refine lv_iload_n hx hb dL_pair_3 rfl (lv_at hl 2 rfl) ?_
  have hb4_4 := hub 3 k
  refine un_ald (L := L) hx hb hE hU 3 (by decide) k (show k < 40 from (by omega)) dL_pair_4 ?_
  refine lv_bipush (v := nI 16) hx hb dL_pair_5 (by decide) ?_
  refine un_rem hx hb dL_pair_7 (by omega) (by decide) (by decide) ?_
  refine un_mul hx hb dL_pair_8 ?_
  have hb9_9 := hub 2 (4 * ((L 3 k) % 16))
  refine un_ald (L := L) hx hb hE hU 2 (by decide) (4 * ((L 3 k) % 16)) (show (4 * ((L 3 k) % 16)) < 64 from (by omega)) dL_pair_9 ?_
  exact rh_iret hx hb hr hlocks rfl hS (by decide) (by decide) dL_pair_10
set_option maxHeartbeats 4000000 in
set_option maxRecDepth 100000 in
theorem ct_L_charge (l : Launch) {G : va_G} {ca : Nat → ClassId} {A : Nat → Prop} {ua : Nat → Nat} {L : u_L} (h : Nat) (hh : h < 4) (z : Nat) (hz : z ≤ 36000) (hub : ub L) {w : rh_Wm} (hla : la w L) : rh_M l yL_charge wsL_charge ({ frames := 0, cells := 0, slots := 0, locals := 0 } : Room) G ca A [.ref (ua 1), .int (nI h), .int (nI z)] (u_W G ca ua L) (fun o H => o = some (.int (nI (u_ch L h z)))) rh_no 0 0 := by
  obtain ⟨⟨-, hs1, hs2⟩, -⟩ := hla h hh
  refine rh_enter (cc := cL_charge) (maxL := 5) (ret := (some .int)) (by decide) rfl (Nat.le_of_ble_eq_true rfl) ?_
  intro p e s m below meth c ls hx hb hr hml hown hts hlocks hex hin hE hA hU hl
  have hS : va_S A s.heap s.heap [] := va_S.rf
  have hl : lv_has ls 5 [(0, .ref (ua 1)), (1, .int (nI h)), (2, .int (nI z))] := hl
  refine lv_iconst (v := nI 0) hx hb dL_charge_0 (by decide) ?_
  refine lv_istore_n (lv' := [(3, .int (nI 0)), (0, .ref (ua 1)), (1, .int (nI h)), (2, .int (nI z))]) hx hb dL_charge_1 rfl hl (by decide) rfl (fun ls hl => ?_)
  refine lv_iload_n hx hb dL_charge_2 rfl (lv_at hl 3 rfl) ?_
  refine lv_istore (lv' := [(4, .int (nI z)), (3, .int (nI 0)), (0, .ref (ua 1)), (1, .int (nI h)), (2, .int (nI z))]) hx hb dL_charge_3 hl (by decide) rfl (fun ls hl => ?_)
  have loop5 : ∀ (n : Nat) (u : Nat) (left : Int32) (x : Nat) (H : Heap) (locs : List Loc) (ls : Array Slot), x < n → x ≤ 36000 → (left = nI x ∨ (left ≤ 0 ∧ x = 0)) → u + (x + (L 1 (4 * h)) - 1) / (L 1 (4 * h)) = (z + (L 1 (4 * h)) - 1) / (L 1 (4 * h)) → u_W G ca ua L H → va_S A s.heap H locs → lv_has ls 5 [(0, .ref (ua 1)), (1, .int (nI h)), (2, .int (nI z)), (3, .int (nI u)), (4, .int left)] → W p l e ({ frames := 0, cells := 0, slots := 0, locals := 0 } : Room) s m ([.ref (ua 1), .int (nI h), .int (nI z)] : List Value).toArray below meth c H locs 0 0 (vx_MQ below (rh_Q A (fun o H => o = some (.int (nI (u_ch L h z))))) (rh_XC A rh_no) ([.ref (ua 1), .int (nI h), .int (nI z)] : List Value).toArray s 0 0 A) (F0 m 5 ls []) := by
    intro n
    induction n with
    | zero => intro u left x H locs ls hn hxb hlx hu hU hS hl; exfalso; omega
    | succ n ih5 =>
      intro u left x H locs ls hn hxb hlx hu hU hS hl
      refine lv_iload hx hb dL_charge_5 (lv_at hl 4 rfl) ?_
      refine lv_if_le (tgt := 75) hx hb dL_charge_7 (by decide) (fun c1 => ?_) (fun c1 => ?_)
      · have hx0 : x = 0 := by
          rcases hlx with z | ⟨-, z⟩
          · rcases Nat.eq_zero_or_pos x with z0 | z0
            · exact z0
            · exact absurd c1 (by rw [z]; exact nI_ge (a := 0) z0 (by omega))
          · exact z
        subst hx0
        have hz0 : (0 + (L 1 (4 * h)) - 1) / (L 1 (4 * h)) = 0 := by rw [Nat.zero_add]; exact Nat.div_eq_of_lt (by omega)
        rw [hz0, Nat.add_zero] at hu
        refine lv_iload_n hx hb dL_charge_75 rfl (lv_at hl 3 rfl) ?_
        refine lv_aload_n hx hb dL_charge_76 rfl (lv_at hl 0 rfl) ?_
        refine lv_iconst (v := nI 4) hx hb dL_charge_77 (by decide) ?_
        refine lv_iload_n hx hb dL_charge_78 rfl (lv_at hl 1 rfl) ?_
        refine un_mul hx hb dL_charge_79 ?_
        refine lv_iconst (v := nI 1) hx hb dL_charge_80 (by decide) ?_
        refine un_add hx hb dL_charge_81 ?_
        have hb82_28 := hub 1 ((4 * h) + 1)
        refine un_ald (L := L) hx hb hE hU 1 (by decide) ((4 * h) + 1) (show ((4 * h) + 1) < 16 from (by omega)) dL_charge_82 ?_
        refine un_mul hx hb dL_charge_83 ?_
        refine lv_aload_n hx hb dL_charge_84 rfl (lv_at hl 0 rfl) ?_
        refine lv_iconst (v := nI 4) hx hb dL_charge_85 (by decide) ?_
        refine lv_iload_n hx hb dL_charge_86 rfl (lv_at hl 1 rfl) ?_
        refine un_mul hx hb dL_charge_87 ?_
        refine lv_iconst (v := nI 2) hx hb dL_charge_88 (by decide) ?_
        refine un_add hx hb dL_charge_89 ?_
        have hb90_37 := hub 1 ((4 * h) + 2)
        refine un_ald (L := L) hx hb hE hU 1 (by decide) ((4 * h) + 2) (show ((4 * h) + 2) < 16 from (by omega)) dL_charge_90 ?_
        refine un_add hx hb dL_charge_91 ?_
        exact rh_iret hx hb hr hlocks (show some (Value.int (nI _)) = some (Value.int (nI _)) from by unfold u_ch; rw [hu]) hS (by decide) (by decide) dL_charge_92
      · have hxx : left = nI x ∧ 0 < x := by
          rcases hlx with z | ⟨z, -⟩
          · refine ⟨z, ?_⟩
            rcases Nat.eq_zero_or_pos x with z0 | z0
            · exact absurd (by rw [z, z0]; decide) c1
            · exact z0
          · exact absurd z c1
        obtain ⟨rfl, hx0⟩ := hxx
        refine lv_iload_n hx hb dL_charge_10 rfl (lv_at hl 3 rfl) ?_
        refine lv_iload hx hb dL_charge_11 (lv_at hl 4 rfl) ?_
        refine lv_sipush (v := nI 512) hx hb dL_charge_13 (by decide) ?_
        refine lv_aload_n hx hb dL_charge_16 rfl (lv_at hl 0 rfl) ?_
        refine lv_iconst (v := nI 4) hx hb dL_charge_17 (by decide) ?_
        refine lv_iload_n hx hb dL_charge_18 rfl (lv_at hl 1 rfl) ?_
        refine un_mul hx hb dL_charge_19 ?_
        have hb20_56 := hub 1 (4 * h)
        refine un_ald (L := L) hx hb hE hU 1 (by decide) (4 * h) (show (4 * h) < 16 from (by omega)) dL_charge_20 ?_
        refine un_mul hx hb dL_charge_21 ?_
        refine un_cle (tgt := 31) hx hb dL_charge_22 (by decide) (by omega) (by omega) (fun c2 => ?_) (fun c2 => ?_)
        · refine lv_iload hx hb dL_charge_31 (lv_at hl 4 rfl) ?_
          refine lv_aload_n hx hb dL_charge_33 rfl (lv_at hl 0 rfl) ?_
          refine lv_iconst (v := nI 4) hx hb dL_charge_34 (by decide) ?_
          refine lv_iload_n hx hb dL_charge_35 rfl (lv_at hl 1 rfl) ?_
          refine un_mul hx hb dL_charge_36 ?_
          have hb37_65 := hub 1 (4 * h)
          refine un_ald (L := L) hx hb hE hU 1 (by decide) (4 * h) (show (4 * h) < 16 from (by omega)) dL_charge_37 ?_
          refine un_div hx hb dL_charge_38 (by omega) (by omega) (by omega) ?_
          refine lv_iload hx hb dL_charge_39 (lv_at hl 4 rfl) ?_
          refine lv_aload_n hx hb dL_charge_41 rfl (lv_at hl 0 rfl) ?_
          refine lv_iconst (v := nI 4) hx hb dL_charge_42 (by decide) ?_
          refine lv_iload_n hx hb dL_charge_43 rfl (lv_at hl 1 rfl) ?_
          refine un_mul hx hb dL_charge_44 ?_
          have hb45_73 := hub 1 (4 * h)
          refine un_ald (L := L) hx hb hE hU 1 (by decide) (4 * h) (show (4 * h) < 16 from (by omega)) dL_charge_45 ?_
          refine un_rem hx hb dL_charge_46 (by omega) (by omega) (by omega) ?_
          have hmd := Nat.mod_lt x (show (L 1 (4 * h)) > 0 by omega)
          refine un_ile (tgt := 54) hx hb dL_charge_47 (by decide) (by omega) (fun c3 => ?_) (fun c3 => ?_)
          · refine lv_iconst (v := nI 0) hx hb dL_charge_54 (by decide) ?_
            refine un_add hx hb dL_charge_55 ?_
            refine un_add hx hb dL_charge_56 ?_
            refine lv_istore_n (lv' := [(3, .int (nI (u + ((x / (L 1 (4 * h))) + 0)))), (0, .ref (ua 1)), (1, .int (nI h)), (2, .int (nI z)), (4, .int (nI x))]) hx hb dL_charge_57 rfl hl (by decide) rfl (fun ls hl => ?_)
            refine lv_iload hx hb dL_charge_58 (lv_at hl 4 rfl) ?_
            refine lv_sipush (v := nI 512) hx hb dL_charge_60 (by decide) ?_
            refine lv_aload_n hx hb dL_charge_63 rfl (lv_at hl 1 rfl) ?_
            refine lv_iconst (v := nI 4) hx hb dL_charge_64 (by decide) ?_
            refine lv_iload_n hx hb dL_charge_65 rfl (lv_at hl 2 rfl) ?_
            refine un_mul hx hb dL_charge_66 ?_
            have hb67_88 := hub 1 (4 * h)
            refine un_ald (L := L) hx hb hE hU 1 (by decide) (4 * h) (show (4 * h) < 16 from (by omega)) dL_charge_67 ?_
            refine un_mul hx hb dL_charge_68 ?_
            refine lv_isub hx hb dL_charge_69 ?_
            refine lv_istore (lv' := [(4, .int (nI x - nI (512 * (L 1 (4 * h))))), (3, .int (nI (u + ((x / (L 1 (4 * h))) + 0)))), (0, .ref (ua 1)), (1, .int (nI h)), (2, .int (nI z))]) hx hb dL_charge_70 hl (by decide) rfl (fun ls hl => ?_)
            refine lv_goto (tgt := 5) hx hb dL_charge_72 (by decide) ?_
            have hc2 := u_c2 (x := x) (st := (L 1 (4 * h))) (by omega) (by omega)
            have hz0 : (0 + (L 1 (4 * h)) - 1) / (L 1 (4 * h)) = 0 := by rw [Nat.zero_add]; exact Nat.div_eq_of_lt (by omega)
            rw [if_neg (by omega)] at hc2
            exact ih5 (u + ((x / (L 1 (4 * h))) + 0)) (nI x - nI (512 * (L 1 (4 * h)))) 0 _ _ _ (by omega) (by omega) (Or.inr ⟨u_le0 (by omega) (by omega), rfl⟩) (by omega) hU hS (lv_sub hl [2, 3, 4, 1, 0] rfl)
          · refine lv_iconst (v := nI 1) hx hb dL_charge_50 (by decide) ?_
            refine lv_goto (tgt := 55) hx hb dL_charge_51 (by decide) ?_
            refine un_add hx hb dL_charge_55 ?_
            refine un_add hx hb dL_charge_56 ?_
            refine lv_istore_n (lv' := [(3, .int (nI (u + ((x / (L 1 (4 * h))) + 1)))), (0, .ref (ua 1)), (1, .int (nI h)), (2, .int (nI z)), (4, .int (nI x))]) hx hb dL_charge_57 rfl hl (by decide) rfl (fun ls hl => ?_)
            refine lv_iload hx hb dL_charge_58 (lv_at hl 4 rfl) ?_
            refine lv_sipush (v := nI 512) hx hb dL_charge_60 (by decide) ?_
            refine lv_aload_n hx hb dL_charge_63 rfl (lv_at hl 1 rfl) ?_
            refine lv_iconst (v := nI 4) hx hb dL_charge_64 (by decide) ?_
            refine lv_iload_n hx hb dL_charge_65 rfl (lv_at hl 2 rfl) ?_
            refine un_mul hx hb dL_charge_66 ?_
            have hb67_109 := hub 1 (4 * h)
            refine un_ald (L := L) hx hb hE hU 1 (by decide) (4 * h) (show (4 * h) < 16 from (by omega)) dL_charge_67 ?_
            refine un_mul hx hb dL_charge_68 ?_
            refine lv_isub hx hb dL_charge_69 ?_
            refine lv_istore (lv' := [(4, .int (nI x - nI (512 * (L 1 (4 * h))))), (3, .int (nI (u + ((x / (L 1 (4 * h))) + 1)))), (0, .ref (ua 1)), (1, .int (nI h)), (2, .int (nI z))]) hx hb dL_charge_70 hl (by decide) rfl (fun ls hl => ?_)
            refine lv_goto (tgt := 5) hx hb dL_charge_72 (by decide) ?_
            have hc2 := u_c2 (x := x) (st := (L 1 (4 * h))) (by omega) (by omega)
            have hz0 : (0 + (L 1 (4 * h)) - 1) / (L 1 (4 * h)) = 0 := by rw [Nat.zero_add]; exact Nat.div_eq_of_lt (by omega)
            rw [if_pos (by omega)] at hc2
            exact ih5 (u + ((x / (L 1 (4 * h))) + 1)) (nI x - nI (512 * (L 1 (4 * h)))) 0 _ _ _ (by omega) (by omega) (Or.inr ⟨u_le0 (by omega) (by omega), rfl⟩) (by omega) hU hS (lv_sub hl [2, 3, 4, 1, 0] rfl)
        · refine lv_sipush (v := nI 512) hx hb dL_charge_25 (by decide) ?_
          refine lv_goto (tgt := 56) hx hb dL_charge_28 (by decide) ?_
          refine un_add hx hb dL_charge_56 ?_
          refine lv_istore_n (lv' := [(3, .int (nI (u + 512))), (0, .ref (ua 1)), (1, .int (nI h)), (2, .int (nI z)), (4, .int (nI x))]) hx hb dL_charge_57 rfl hl (by decide) rfl (fun ls hl => ?_)
          refine lv_iload hx hb dL_charge_58 (lv_at hl 4 rfl) ?_
          refine lv_sipush (v := nI 512) hx hb dL_charge_60 (by decide) ?_
          refine lv_aload_n hx hb dL_charge_63 rfl (lv_at hl 1 rfl) ?_
          refine lv_iconst (v := nI 4) hx hb dL_charge_64 (by decide) ?_
          refine lv_iload_n hx hb dL_charge_65 rfl (lv_at hl 2 rfl) ?_
          refine un_mul hx hb dL_charge_66 ?_
          have hb67_129 := hub 1 (4 * h)
          refine un_ald (L := L) hx hb hE hU 1 (by decide) (4 * h) (show (4 * h) < 16 from (by omega)) dL_charge_67 ?_
          refine un_mul hx hb dL_charge_68 ?_
          refine lv_isub hx hb dL_charge_69 ?_
          refine lv_istore (lv' := [(4, .int (nI x - nI (512 * (L 1 (4 * h))))), (3, .int (nI (u + 512))), (0, .ref (ua 1)), (1, .int (nI h)), (2, .int (nI z))]) hx hb dL_charge_70 hl (by decide) rfl (fun ls hl => ?_)
          refine lv_goto (tgt := 5) hx hb dL_charge_72 (by decide) ?_
          have hc1 := u_c1 (x := x) (st := (L 1 (4 * h))) (by omega) (by omega)
          exact ih5 (u + 512) (nI x - nI (512 * (L 1 (4 * h)))) (x - 512 * (L 1 (4 * h))) _ _ _ (by omega) (by omega) (Or.inl (pk_sub (by omega))) (by omega) hU hS (lv_sub hl [2, 3, 4, 1, 0] rfl)
  exact loop5 (z + 1) 0 (nI z) z _ _ _ (by omega) hz (Or.inl rfl) (Nat.zero_add _) hU hS (lv_sub hl [2, 3, 4, 1, 0] rfl)
