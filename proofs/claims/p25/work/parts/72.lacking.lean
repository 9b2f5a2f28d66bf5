/-! ===== numbers that are lacking, by the law ===== -/
theorem u_dec {x : Nat} (h : 1 ≤ x) : nI x + Int32.ofInt (-1) = nI (x - 1) := by
  obtain ⟨y, rfl⟩ : ∃ y, x = y + 1 := ⟨x - 1, by omega⟩
  exact pk_m1 y
theorem u_wt_le (L : u_L) (q x n : Nat) : u_wt L q x n ≤ n := by
  have := sm_le (F := fun j => if u_is L q j ∧ L 2 (4 * j + 3) = x then 1 else 0) (b := 1) n (fun k _ => by
    show (if u_is L q k ∧ L 2 (4 * k + 3) = x then 1 else 0) ≤ 1
    split <;> omega)
  unfold u_wt
  omega
theorem u_ab_le (L : u_L) (q x n : Nat) : u_ab L q x n ≤ n := by
  have := sm_le (F := fun j => if u_is L q j ∧ x < L 2 (4 * j + 3) then 1 else 0) (b := 1) n (fun k _ => by
    show (if u_is L q k ∧ x < L 2 (4 * k + 3) then 1 else 0) ≤ 1
    split <;> omega)
  unfold u_ab
  omega
set_option maxHeartbeats 4000000 in
set_option maxRecDepth 100000 in
theorem ct_L_lacking (l : Launch) {G : va_G} {ca : Nat → ClassId} {A : Nat → Prop} {ua : Nat → Nat} {L : u_L} (q : Nat) (hq : q < 16) {nf nc : Nat} {r : rh_R} {w : rh_Wm} (hl9 : lr nf nc r w L) (h7 : L 7 q ≤ 17) : rh_M l yL_lacking wsL_lacking ({ frames := 0, cells := 0, slots := 0, locals := 0 } : Room) G ca A [.ref (ua 0), .ref (ua 2), .ref (ua 7), .int (nI q)] (u_W G ca ua L) (fun o H => o = some (.int (nI (u_lk L q nf (100 - L 7 q))))) rh_no 0 0 := by
  have hub := hl9.1
  have hn00 := hl9.2.1.1.1
  have hn16 := hl9.2.1.1.2
  have he1 := (hl9.2.2.2.2.2.2 q hq).1.2
  refine rh_enter (cc := cL_lacking) (maxL := 10) (ret := (some .int)) (by decide) rfl (Nat.le_of_ble_eq_true rfl) ?_
  intro p e s m below meth c ls hx hb hr hml hown hts hlocks hex hin hE hA hU hl
  have hS : va_S A s.heap s.heap [] := va_S.rf
  have hl : lv_has ls 10 [(0, .ref (ua 0)), (1, .ref (ua 2)), (2, .ref (ua 7)), (3, .int (nI q))] := hl
  refine lv_iconst (v := nI 0) hx hb dL_lacking_0 (by decide) ?_
  refine lv_istore (lv' := [(4, .int (nI 0)), (0, .ref (ua 0)), (1, .ref (ua 2)), (2, .ref (ua 7)), (3, .int (nI q))]) hx hb dL_lacking_1 hl (by decide) rfl (fun ls hl => ?_)
  refine lv_bipush (v := nI 99) hx hb dL_lacking_3 (by decide) ?_
  refine lv_istore (lv' := [(5, .int (nI 99)), (4, .int (nI 0)), (0, .ref (ua 0)), (1, .ref (ua 2)), (2, .ref (ua 7)), (3, .int (nI q))]) hx hb dL_lacking_5 hl (by decide) rfl (fun ls hl => ?_)
  have loop7 : ∀ (n : Nat) (x : Nat) (mn : Nat) (H : Heap) (locs : List Loc) (ls : Array Slot), x < n → x ≤ 99 → L 7 q ≤ x + 1 → mn = u_lk L q nf (99 - x) → u_W G ca ua L H → va_S A s.heap H locs → lv_has ls 10 [(0, .ref (ua 0)), (1, .ref (ua 2)), (2, .ref (ua 7)), (3, .int (nI q)), (4, .int (nI mn)), (5, .int (nI x))] → W p l e ({ frames := 0, cells := 0, slots := 0, locals := 0 } : Room) s m ([.ref (ua 0), .ref (ua 2), .ref (ua 7), .int (nI q)] : List Value).toArray below meth c H locs 0 0 (vx_MQ below (rh_Q A (fun o H => o = some (.int (nI (u_lk L q nf (100 - L 7 q)))))) (rh_XC A rh_no) ([.ref (ua 0), .ref (ua 2), .ref (ua 7), .int (nI q)] : List Value).toArray s 0 0 A) (F0 m 7 ls []) := by
    intro n
    induction n with
    | zero => intro x mn H locs ls hn hx9 hxe hmn hU hS hl; exfalso; omega
    | succ n ih7 =>
      intro x mn H locs ls hn hx9 hxe hmn hU hS hl
      refine lv_iload hx hb dL_lacking_7 (lv_at hl 5 rfl) ?_
      refine lv_aload_n hx hb dL_lacking_9 rfl (lv_at hl 2 rfl) ?_
      refine lv_iload_n hx hb dL_lacking_10 rfl (lv_at hl 3 rfl) ?_
      have hb11_13 := hub 7 q
      refine un_ald (L := L) hx hb hE hU 7 (by decide) q (show q < 16 from (by omega)) dL_lacking_11 ?_
      refine un_clt (tgt := 149) hx hb dL_lacking_12 (by decide) (by omega) (by omega) (fun c1 => ?_) (fun c1 => ?_)
      · refine lv_iload hx hb dL_lacking_149 (lv_at hl 4 rfl) ?_
        exact rh_iret hx hb hr hlocks (by rw [hmn, show 99 - x = 100 - L 7 q by omega]) hS (by decide) (by decide) dL_lacking_151
      · refine lv_iconst (v := nI 0) hx hb dL_lacking_15 (by decide) ?_
        refine lv_istore (lv' := [(6, .int (nI 0)), (0, .ref (ua 0)), (1, .ref (ua 2)), (2, .ref (ua 7)), (3, .int (nI q)), (4, .int (nI mn)), (5, .int (nI x))]) hx hb dL_lacking_16 hl (by decide) rfl (fun ls hl => ?_)
        refine lv_iconst (v := nI 0) hx hb dL_lacking_18 (by decide) ?_
        refine lv_istore (lv' := [(7, .int (nI 0)), (6, .int (nI 0)), (0, .ref (ua 0)), (1, .ref (ua 2)), (2, .ref (ua 7)), (3, .int (nI q)), (4, .int (nI mn)), (5, .int (nI x))]) hx hb dL_lacking_19 hl (by decide) rfl (fun ls hl => ?_)
        refine lv_iconst (v := nI 0) hx hb dL_lacking_21 (by decide) ?_
        refine lv_istore (lv' := [(8, .int (nI 0)), (7, .int (nI 0)), (6, .int (nI 0)), (0, .ref (ua 0)), (1, .ref (ua 2)), (2, .ref (ua 7)), (3, .int (nI q)), (4, .int (nI mn)), (5, .int (nI x))]) hx hb dL_lacking_22 hl (by decide) rfl (fun ls hl => ?_)
        have loop24 : ∀ (n : Nat) (j : Nat) (wt : Nat) (ab : Nat) (H : Heap) (locs : List Loc) (ls : Array Slot), nf + 1 ≤ j + n → j ≤ nf → wt = u_wt L q x j → ab = u_ab L q x j → u_W G ca ua L H → va_S A s.heap H locs → lv_has ls 10 [(0, .ref (ua 0)), (1, .ref (ua 2)), (2, .ref (ua 7)), (3, .int (nI q)), (4, .int (nI mn)), (5, .int (nI x)), (6, .int (nI wt)), (7, .int (nI ab)), (8, .int (nI j))] → W p l e ({ frames := 0, cells := 0, slots := 0, locals := 0 } : Room) s m ([.ref (ua 0), .ref (ua 2), .ref (ua 7), .int (nI q)] : List Value).toArray below meth c H locs 0 0 (vx_MQ below (rh_Q A (fun o H => o = some (.int (nI (u_lk L q nf (100 - L 7 q)))))) (rh_XC A rh_no) ([.ref (ua 0), .ref (ua 2), .ref (ua 7), .int (nI q)] : List Value).toArray s 0 0 A) (F0 m 24 ls []) := by
          intro n
          induction n with
          | zero => intro j wt ab H locs ls hn hj hwt hab hU hS hl; exfalso; omega
          | succ n ih24 =>
            intro j wt ab H locs ls hn hj hwt hab hU hS hl
            refine lv_iload hx hb dL_lacking_24 (lv_at hl 8 rfl) ?_
            refine lv_aload_n hx hb dL_lacking_26 rfl (lv_at hl 0 rfl) ?_
            refine lv_iconst (v := nI 0) hx hb dL_lacking_27 (by decide) ?_
            have hb28_33 := hub 0 0
            refine un_ald (L := L) hx hb hE hU 0 (by decide) 0 (show 0 < 4 from (by decide)) dL_lacking_28 ?_
            refine un_cge (tgt := 123) hx hb dL_lacking_29 (by decide) (by omega) (by omega) (fun c2 => ?_) (fun c2 => ?_)
            · have hjf : j = nf := by omega
              rw [hjf] at hwt hab
              have hwl : wt ≤ nf := by rw [hwt]; exact u_wt_le L q x nf
              have hal : ab ≤ nf := by rw [hab]; exact u_ab_le L q x nf
              refine lv_iload hx hb dL_lacking_123 (lv_at hl 4 rfl) ?_
              have jn140_41 : ∀ (b3 : Nat), ((wt = 0 ∧ 0 < ab) ∧ b3 = 1) ∨ (¬ (wt = 0 ∧ 0 < ab) ∧ b3 = 0) → W p l e ({ frames := 0, cells := 0, slots := 0, locals := 0 } : Room) s m ([.ref (ua 0), .ref (ua 2), .ref (ua 7), .int (nI q)] : List Value).toArray below meth c H locs 0 0 (vx_MQ below (rh_Q A (fun o H => o = some (.int (nI (u_lk L q nf (100 - L 7 q)))))) (rh_XC A rh_no) ([.ref (ua 0), .ref (ua 2), .ref (ua 7), .int (nI q)] : List Value).toArray s 0 0 A) (F0 m 140 ls [.int (nI b3), .int (nI mn)]) := by
                intro b3 hb3
                refine un_add hx hb dL_lacking_140 ?_
                refine lv_istore (lv' := [(4, .int (nI (mn + b3))), (0, .ref (ua 0)), (1, .ref (ua 2)), (2, .ref (ua 7)), (3, .int (nI q)), (5, .int (nI x)), (6, .int (nI wt)), (7, .int (nI ab)), (8, .int (nI j))]) hx hb dL_lacking_141 hl (by decide) rfl (fun ls hl => ?_)
                refine lv_iinc (v := nI (x - 1)) (lv' := [(5, .int (nI (x - 1))), (4, .int (nI (mn + b3))), (0, .ref (ua 0)), (1, .ref (ua 2)), (2, .ref (ua 7)), (3, .int (nI q)), (6, .int (nI wt)), (7, .int (nI ab)), (8, .int (nI j))]) hx hb dL_lacking_143 hl (k := 5) rfl (u_dec (by omega)) (by decide) rfl (fun ls hl => ?_)
                refine lv_goto (tgt := 7) hx hb dL_lacking_146 (by decide) ?_
                have hz3 : (u_wt L q x nf = 0 ∧ 0 < u_ab L q x nf) ∧ b3 = 1 ∨ ¬ (u_wt L q x nf = 0 ∧ 0 < u_ab L q x nf) ∧ b3 = 0 := by rw [← hwt, ← hab]; exact hb3
                have hs9 : u_lk L q nf (99 - (x - 1)) = u_lk L q nf (99 - x) + b3 := by
                  rw [show 99 - (x - 1) = (99 - x) + 1 by omega]
                  show u_lk L q nf (99 - x) + (if u_wt L q (99 - (99 - x)) nf = 0 ∧ 0 < u_ab L q (99 - (99 - x)) nf then 1 else 0) = _
                  rw [show 99 - (99 - x) = x by omega, u_pick hz3]
                exact ih7 (x - 1) (mn + b3) _ _ _ (by omega) (by omega) (by omega) (by rw [hs9, hmn]) hU hS (lv_sub hl [2, 3, 4, 5, 1, 0] rfl)
              refine lv_iload hx hb dL_lacking_125 (lv_at hl 6 rfl) ?_
              refine un_ine (tgt := 139) hx hb dL_lacking_127 (by decide) (by omega) (fun c3 => ?_) (fun c3 => ?_)
              · refine lv_iconst (v := nI 0) hx hb dL_lacking_139 (by decide) ?_
                exact jn140_41 0 (by omega)
              · refine lv_iload hx hb dL_lacking_130 (lv_at hl 7 rfl) ?_
                refine un_ile (tgt := 139) hx hb dL_lacking_132 (by decide) (by omega) (fun c4 => ?_) (fun c4 => ?_)
                · refine lv_iconst (v := nI 0) hx hb dL_lacking_139 (by decide) ?_
                  exact jn140_41 0 (by omega)
                · refine lv_iconst (v := nI 1) hx hb dL_lacking_135 (by decide) ?_
                  refine lv_goto (tgt := 140) hx hb dL_lacking_136 (by decide) ?_
                  exact jn140_41 1 (by omega)
            · have hjl : j < nf := by omega
              have jn59_65 : ∀ (i1 : Nat), ((L 2 (4 * j) = q ∧ L 2 (4 * j + 2) = 2) ∧ i1 = 1) ∨ (¬ (L 2 (4 * j) = q ∧ L 2 (4 * j + 2) = 2) ∧ i1 = 0) → W p l e ({ frames := 0, cells := 0, slots := 0, locals := 0 } : Room) s m ([.ref (ua 0), .ref (ua 2), .ref (ua 7), .int (nI q)] : List Value).toArray below meth c H locs 0 0 (vx_MQ below (rh_Q A (fun o H => o = some (.int (nI (u_lk L q nf (100 - L 7 q)))))) (rh_XC A rh_no) ([.ref (ua 0), .ref (ua 2), .ref (ua 7), .int (nI q)] : List Value).toArray s 0 0 A) (F0 m 59 ls [.int (nI i1)]) := by
                intro i1 hi1
                refine lv_istore (lv' := [(9, .int (nI i1)), (0, .ref (ua 0)), (1, .ref (ua 2)), (2, .ref (ua 7)), (3, .int (nI q)), (4, .int (nI mn)), (5, .int (nI x)), (6, .int (nI wt)), (7, .int (nI ab)), (8, .int (nI j))]) hx hb dL_lacking_59 hl (by decide) rfl (fun ls hl => ?_)
                refine lv_iload hx hb dL_lacking_61 (lv_at hl 7 rfl) ?_
                have jn86_69 : ∀ (b1 : Nat), ((i1 = 1 ∧ L 2 (4 * j + 3) = x) ∧ b1 = 1) ∨ (¬ (i1 = 1 ∧ L 2 (4 * j + 3) = x) ∧ b1 = 0) → W p l e ({ frames := 0, cells := 0, slots := 0, locals := 0 } : Room) s m ([.ref (ua 0), .ref (ua 2), .ref (ua 7), .int (nI q)] : List Value).toArray below meth c H locs 0 0 (vx_MQ below (rh_Q A (fun o H => o = some (.int (nI (u_lk L q nf (100 - L 7 q)))))) (rh_XC A rh_no) ([.ref (ua 0), .ref (ua 2), .ref (ua 7), .int (nI q)] : List Value).toArray s 0 0 A) (F0 m 86 ls [.int (nI b1), .int (nI wt)]) := by
                  intro b1 hb1
                  refine un_add hx hb dL_lacking_86 ?_
                  refine lv_istore (lv' := [(6, .int (nI (wt + b1))), (9, .int (nI i1)), (0, .ref (ua 0)), (1, .ref (ua 2)), (2, .ref (ua 7)), (3, .int (nI q)), (4, .int (nI mn)), (5, .int (nI x)), (7, .int (nI ab)), (8, .int (nI j))]) hx hb dL_lacking_87 hl (by decide) rfl (fun ls hl => ?_)
                  refine lv_iload hx hb dL_lacking_89 (lv_at hl 8 rfl) ?_
                  have jn114_74 : ∀ (b2 : Nat), ((i1 = 1 ∧ x < L 2 (4 * j + 3)) ∧ b2 = 1) ∨ (¬ (i1 = 1 ∧ x < L 2 (4 * j + 3)) ∧ b2 = 0) → W p l e ({ frames := 0, cells := 0, slots := 0, locals := 0 } : Room) s m ([.ref (ua 0), .ref (ua 2), .ref (ua 7), .int (nI q)] : List Value).toArray below meth c H locs 0 0 (vx_MQ below (rh_Q A (fun o H => o = some (.int (nI (u_lk L q nf (100 - L 7 q)))))) (rh_XC A rh_no) ([.ref (ua 0), .ref (ua 2), .ref (ua 7), .int (nI q)] : List Value).toArray s 0 0 A) (F0 m 114 ls [.int (nI b2), .int (nI ab)]) := by
                    intro b2 hb2
                    refine un_add hx hb dL_lacking_114 ?_
                    refine lv_istore (lv' := [(7, .int (nI (ab + b2))), (6, .int (nI (wt + b1))), (9, .int (nI i1)), (0, .ref (ua 0)), (1, .ref (ua 2)), (2, .ref (ua 7)), (3, .int (nI q)), (4, .int (nI mn)), (5, .int (nI x)), (8, .int (nI j))]) hx hb dL_lacking_115 hl (by decide) rfl (fun ls hl => ?_)
                    refine lv_iinc (v := nI (j + 1)) (lv' := [(8, .int (nI (j + 1))), (7, .int (nI (ab + b2))), (6, .int (nI (wt + b1))), (9, .int (nI i1)), (0, .ref (ua 0)), (1, .ref (ua 2)), (2, .ref (ua 7)), (3, .int (nI q)), (4, .int (nI mn)), (5, .int (nI x))]) hx hb dL_lacking_117 hl (k := 9) rfl (nI_add j 1) (by decide) rfl (fun ls hl => ?_)
                    refine lv_goto (tgt := 24) hx hb dL_lacking_120 (by decide) ?_
                    have hz1 : ((L 2 (4 * j) = q ∧ L 2 (4 * j + 2) = 2) ∧ L 2 (4 * j + 3) = x) ∧ b1 = 1 ∨ ¬ ((L 2 (4 * j) = q ∧ L 2 (4 * j + 2) = 2) ∧ L 2 (4 * j + 3) = x) ∧ b1 = 0 := by omega
                    have hz2 : ((L 2 (4 * j) = q ∧ L 2 (4 * j + 2) = 2) ∧ x < L 2 (4 * j + 3)) ∧ b2 = 1 ∨ ¬ ((L 2 (4 * j) = q ∧ L 2 (4 * j + 2) = 2) ∧ x < L 2 (4 * j + 3)) ∧ b2 = 0 := by omega
                    exact ih24 (j + 1) (wt + b1) (ab + b2) _ _ _ (by omega) (by omega) (by rw [hwt, ← u_pick hz1]; rfl) (by rw [hab, ← u_pick hz2]; rfl) hU hS (lv_sub hl [4, 5, 6, 7, 8, 9, 2, 1, 0] rfl)
                  refine lv_iload hx hb dL_lacking_91 (lv_at hl 1 rfl) ?_
                  refine un_ieq (tgt := 113) hx hb dL_lacking_93 (by decide) (by omega) (fun c5 => ?_) (fun c5 => ?_)
                  · refine lv_iconst (v := nI 0) hx hb dL_lacking_113 (by decide) ?_
                    exact jn114_74 0 (by omega)
                  · refine lv_aload_n hx hb dL_lacking_96 rfl (lv_at hl 3 rfl) ?_
                    refine lv_iconst (v := nI 4) hx hb dL_lacking_97 (by decide) ?_
                    refine lv_iload hx hb dL_lacking_98 (lv_at hl 9 rfl) ?_
                    refine un_mul hx hb dL_lacking_100 ?_
                    refine lv_iconst (v := nI 3) hx hb dL_lacking_101 (by decide) ?_
                    refine un_add hx hb dL_lacking_102 ?_
                    have hb103_93 := hub 2 ((4 * j) + 3)
                    refine un_ald (L := L) hx hb hE hU 2 (by decide) ((4 * j) + 3) (show ((4 * j) + 3) < 64 from (by omega)) dL_lacking_103 ?_
                    refine lv_iload hx hb dL_lacking_104 (lv_at hl 7 rfl) ?_
                    refine un_cle (tgt := 113) hx hb dL_lacking_106 (by decide) (by omega) (by omega) (fun c6 => ?_) (fun c6 => ?_)
                    · refine lv_iconst (v := nI 0) hx hb dL_lacking_113 (by decide) ?_
                      exact jn114_74 0 (by omega)
                    · refine lv_iconst (v := nI 1) hx hb dL_lacking_109 (by decide) ?_
                      refine lv_goto (tgt := 114) hx hb dL_lacking_110 (by decide) ?_
                      exact jn114_74 1 (by omega)
                refine lv_iload hx hb dL_lacking_63 (lv_at hl 0 rfl) ?_
                refine un_ieq (tgt := 85) hx hb dL_lacking_65 (by decide) (by omega) (fun c7 => ?_) (fun c7 => ?_)
                · refine lv_iconst (v := nI 0) hx hb dL_lacking_85 (by decide) ?_
                  exact jn86_69 0 (by omega)
                · refine lv_aload_n hx hb dL_lacking_68 rfl (lv_at hl 2 rfl) ?_
                  refine lv_iconst (v := nI 4) hx hb dL_lacking_69 (by decide) ?_
                  refine lv_iload hx hb dL_lacking_70 (lv_at hl 9 rfl) ?_
                  refine un_mul hx hb dL_lacking_72 ?_
                  refine lv_iconst (v := nI 3) hx hb dL_lacking_73 (by decide) ?_
                  refine un_add hx hb dL_lacking_74 ?_
                  have hb75_112 := hub 2 ((4 * j) + 3)
                  refine un_ald (L := L) hx hb hE hU 2 (by decide) ((4 * j) + 3) (show ((4 * j) + 3) < 64 from (by omega)) dL_lacking_75 ?_
                  refine lv_iload hx hb dL_lacking_76 (lv_at hl 6 rfl) ?_
                  refine un_cne (tgt := 85) hx hb dL_lacking_78 (by decide) (by omega) (by omega) (fun c8 => ?_) (fun c8 => ?_)
                  · refine lv_iconst (v := nI 0) hx hb dL_lacking_85 (by decide) ?_
                    exact jn86_69 0 (by omega)
                  · refine lv_iconst (v := nI 1) hx hb dL_lacking_81 (by decide) ?_
                    refine lv_goto (tgt := 86) hx hb dL_lacking_82 (by decide) ?_
                    exact jn86_69 1 (by omega)
              refine lv_aload_n hx hb dL_lacking_32 rfl (lv_at hl 1 rfl) ?_
              refine lv_iconst (v := nI 4) hx hb dL_lacking_33 (by decide) ?_
              refine lv_iload hx hb dL_lacking_34 (lv_at hl 8 rfl) ?_
              refine un_mul hx hb dL_lacking_36 ?_
              have hb37_125 := hub 2 (4 * j)
              refine un_ald (L := L) hx hb hE hU 2 (by decide) (4 * j) (show (4 * j) < 64 from (by omega)) dL_lacking_37 ?_
              refine lv_iload_n hx hb dL_lacking_38 rfl (lv_at hl 3 rfl) ?_
              refine un_cne (tgt := 58) hx hb dL_lacking_39 (by decide) (by omega) (by omega) (fun c9 => ?_) (fun c9 => ?_)
              · refine lv_iconst (v := nI 0) hx hb dL_lacking_58 (by decide) ?_
                exact jn59_65 0 (by omega)
              · refine lv_aload_n hx hb dL_lacking_42 rfl (lv_at hl 1 rfl) ?_
                refine lv_iconst (v := nI 4) hx hb dL_lacking_43 (by decide) ?_
                refine lv_iload hx hb dL_lacking_44 (lv_at hl 8 rfl) ?_
                refine un_mul hx hb dL_lacking_46 ?_
                refine lv_iconst (v := nI 2) hx hb dL_lacking_47 (by decide) ?_
                refine un_add hx hb dL_lacking_48 ?_
                have hb49_137 := hub 2 ((4 * j) + 2)
                refine un_ald (L := L) hx hb hE hU 2 (by decide) ((4 * j) + 2) (show ((4 * j) + 2) < 64 from (by omega)) dL_lacking_49 ?_
                refine lv_iconst (v := nI 2) hx hb dL_lacking_50 (by decide) ?_
                refine un_cne (tgt := 58) hx hb dL_lacking_51 (by decide) (by omega) (by decide) (fun c10 => ?_) (fun c10 => ?_)
                · refine lv_iconst (v := nI 0) hx hb dL_lacking_58 (by decide) ?_
                  exact jn59_65 0 (by omega)
                · refine lv_iconst (v := nI 1) hx hb dL_lacking_54 (by decide) ?_
                  refine lv_goto (tgt := 59) hx hb dL_lacking_55 (by decide) ?_
                  exact jn59_65 1 (by omega)
        exact loop24 (nf + 1) 0 0 0 _ _ _ (by omega) (by omega) rfl rfl hU hS (lv_sub hl [3, 4, 5, 6, 7, 8, 2, 1, 0] rfl)
  exact loop7 (100) 99 0 _ _ _ (by omega) (by omega) (by omega) rfl hU hS (lv_sub hl [2, 3, 4, 5, 1, 0] rfl)
