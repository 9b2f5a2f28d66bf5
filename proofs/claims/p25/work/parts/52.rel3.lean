/-! ===== files that waited ===== -/
theorem s_isw {nc : Nat} {r : rh_R} {v : rh_V} {w : rh_Wm} {q j : Nat} {x : Int32} (h : rl_f nc r v w j) : c_isw r v q x j = true ↔ m_isw r w q x j := by
  obtain ⟨-, f2, f3, -⟩ := h
  unfold c_isw
  rw [decide_eq_true_iff, f2]
  constructor
  · rintro ⟨a, b, c⟩
    exact ⟨b, a, by rw [← f3 b]; exact c⟩
  · rintro ⟨a, b, c⟩
    exact ⟨b, a, by rw [f3 a]; exact c⟩
theorem s_wait {nf nc : Nat} {r : rh_R} {v : rh_V} {w : rh_Wm} {q : Nat} {x : Int32} (h : rl_fi nf nc r v w) (hu : ∀ f g : Nat, f < nf → g < nf → w 7 f = 2 → w 7 g = 2 → r 8 f = r 8 g → w 8 f = w 8 g → f = g) : c_wait r v nf q x = m_wait r w q x nf := by
  unfold c_wait
  cases hc : firstp (c_isw r v q x) nf with
  | none =>
    cases hm : m_wait r w q x nf with
    | none => rfl
    | some k =>
      obtain ⟨k1, k2⟩ := m_wait_some nf hm
      exact absurd ((s_isw (h k k1)).mpr k2) (firstp_none _ hc k k1)
  | some j =>
    obtain ⟨j1, j2, -⟩ := firstp_some _ hc
    have j3 := (s_isw (h j j1)).mp j2
    cases hm : m_wait r w q x nf with
    | none => exact absurd j3 (m_wait_none nf hm j j1)
    | some k =>
      obtain ⟨k1, k2⟩ := m_wait_some nf hm
      rw [hu j k j1 k1 j3.1 k2.1 (j3.2.1.trans k2.2.1.symm) (j3.2.2.trans k2.2.2.symm)]
theorem m_look_row {r : rh_R} {w : rh_Wm} {nc g q : Nat} (h7 : q ≠ 7) (h13 : q ≠ 13) (h14 : q ≠ 14) (h17 : q ≠ 17) (h26 : q ≠ 26) : m_look r w nc g q = w q := by
  unfold m_look
  split
  · exact wm_other _ _ _ _ h7
  · split
    · exact wm_other _ _ _ _ h7
    · rw [m_acc_row h13 h14 h17 h26]; exact wm_other _ _ _ _ h7
theorem i32_succ {a b : Int32} (h : a < b) : a + 1 = b ∨ a + 1 < b := by
  have h1 := Int32.lt_iff_toInt_lt.mp h
  have h2 := Int32.toInt_lt b
  have h3 := Int32.le_toInt a
  have e : (a + 1).toInt = a.toInt + 1 := by
    rw [Int32.toInt_add]
    show Int.bmod (a.toInt + 1) (2 ^ 32) = _
    exact Int.bmod_eq_of_le (by omega) (by omega)
  by_cases hq : a.toInt + 1 = b.toInt
  · exact Or.inl (Int32.toInt_inj.mp (by rw [e]; exact hq))
  · refine Or.inr (Int32.lt_iff_toInt_lt.mpr ?_)
    rw [e]; omega
theorem i32_irr {a : Int32} (h : a < a) : False := Int32.lt_irrefl h
/-- files are looked at, one behind the other -/
theorem i_all {nf nc q : Nat} {r : rh_R} (hq : q < 16) : ∀ (n : Nat) (v : rh_V) (w : rh_Wm) (g : Nat), rx nf nc r v w g → g < nf → w 7 g = 2 → r 8 g = q → w 8 g = w 18 q → (∀ f : Nat, f < nf → f ≠ g → w 7 f = 2 → w 18 (r 8 f) < w 8 f ∧ w 8 f ≤ 99) → (∀ f k : Nat, f < nf → k < nf → w 7 f = 2 → w 7 k = 2 → r 8 f = r 8 k → w 8 f = w 8 k → f = k) → m_cw w nf ≤ n → inv nf nc r (c_all r nf nc q n v (some g)) (m_all r nf nc q n w (some g))
  | 0, v, w, g, hx, hg, h2, hrq, he, ho, hu, hn => absurd (m_cw_pos hg h2) (by omega)
  | n + 1, v, w, g, hx, hg, h2, hrq, he, ho, hu, hn => by
    have h5 : ¬ w 7 g = 5 := by rw [h2]; decide
    have k1 := rx_look hx hg h5
    have hl7 := m_look_7 (nf := nf) (nc := nc) (r := r) (w := w) (f := g)
    have hcs := m_cw_set h2 hl7.1 hl7.2 nf hg
    have e18 : m_look r w nc g 18 = w 18 := m_look_row (by decide) (by decide) (by decide) (by decide) (by decide)
    have e8 : m_look r w nc g 8 = w 8 := m_look_row (by decide) (by decide) (by decide) (by decide) (by decide)
    have hv6 : c_look r v nc g 6 q 1 = m_look r w nc g 18 q := (k1.2.2.2.1 q hq).1
    have k2 := rk_exp k1 hq
    unfold c_all m_all
    generalize hw2 : wm (m_look r w nc g) 18 q (m_look r w nc g 18 q + 1) = w2 at k2 ⊢
    generalize hv2 : wr (c_look r v nc g) 6 q 1 (c_look r v nc g 6 q 1 + 1) = v2 at k2 ⊢
    have r7 : w2 7 = m_look r w nc g 7 := by rw [← hw2]; exact wm_other _ _ _ _ (by decide)
    have r8 : w2 8 = w 8 := by rw [← hw2, wm_other _ _ _ _ (by decide)]; exact e8
    have r18 : ∀ a, w2 18 a = if a = q then w 18 q + 1 else w 18 a := by
      intro a
      rw [← hw2, wm_at, e18]
      by_cases ha : a = q
      · rw [if_pos ⟨rfl, ha⟩, if_pos ha]
      · rw [if_neg (fun z => ha z.2), if_neg ha]
    have w7 : ∀ f, w2 7 f = 2 → f ≠ g ∧ w 7 f = 2 := by
      intro f hf
      rw [r7] at hf
      have hfg : f ≠ g := fun z => hl7.1 (by rw [z] at hf; exact hf)
      exact ⟨hfg, by rw [← hl7.2 f hfg]; exact hf⟩
    have hu2 : ∀ f k : Nat, f < nf → k < nf → w2 7 f = 2 → w2 7 k = 2 → r 8 f = r 8 k → w2 8 f = w2 8 k → f = k := by
      intro f k hf hk f7 k7 e1 e2
      rw [r8] at e2
      exact hu f k hf hk (w7 f f7).2 (w7 k k7).2 e1 e2
    have hwa : ∀ f : Nat, f < nf → w2 7 f = 2 → (r 8 f = q ∧ w2 8 f = w 18 q + 1 ∧ w2 8 f ≤ 99) ∨ (w2 18 (r 8 f) < w2 8 f ∧ w2 8 f ≤ 99) := by
      intro f hf f7
      obtain ⟨hfg, f2⟩ := w7 f f7
      obtain ⟨o1, o2⟩ := ho f hf hfg f2
      rw [r8, r18]
      by_cases hrf : r 8 f = q
      · rw [if_pos hrf]
        rw [hrf] at o1
        rcases i32_succ o1 with z | z
        · exact Or.inl ⟨hrf, z.symm, o2⟩
        · exact Or.inr ⟨z, o2⟩
      · rw [if_neg hrf]
        exact Or.inr ⟨o1, o2⟩
    rw [hv6, s_wait k2.2.2.2.2.1 hu2]
    cases hm : m_wait r w2 q (m_look r w nc g 18 q + 1) nf with
    | none =>
      have ec : c_all r nf nc q n v2 none = v2 := by cases n <;> rfl
      have em : m_all r nf nc q n w2 none = w2 := by cases n <;> rfl
      rw [ec, em]
      refine k2.inv ⟨fun f hf f7 => ?_, hu2⟩
      rcases hwa f hf f7 with z | z
      · exact absurd ⟨f7, z.1, by rw [e18]; exact z.2.1⟩ (m_wait_none nf hm f hf)
      · exact z
    | some g' =>
      obtain ⟨g1, g7, grq, g8⟩ := m_wait_some nf hm
      refine i_all hq n v2 w2 g' (k2.x g1) g1 g7 grq ?_ (fun f hf hfg f7 => ?_) hu2 ?_
      · rw [r18, if_pos rfl, g8, e18]
      · rcases hwa f hf f7 with z | z
        · exact absurd (hu2 f g' hf g1 f7 g7 (z.1.trans grq.symm) (by rw [z.2.1, g8, e18])) hfg
        · exact z
      · rw [m_cw_eq (w := m_look r w nc g) nf (fun c _ => by rw [r7])]
        omega
/-- a file that begins to wait -/
theorem rx_put {nf nc : Nat} {r : rh_R} {v : rh_V} {w : rh_Wm} {g : Nat} (h : rx nf nc r v w g) (h5 : ¬ w 7 g = 5) (y : Int32) : rk nf nc r (wr (wr v 8 g 4 y) 8 g 2 2) (m_put2 w g y) ∧ rx nf nc r v (m_put2 w g y) g := by
  obtain ⟨hwf, hm, ho, hp, hf, ⟨g1, g3⟩, hca, hye, hac, hti⟩ := h
  have e7 : ∀ f, m_put2 w g y 7 f = if f = g then 2 else w 7 f := fun f => by simp [m_put2, wm_at]
  have e8 : ∀ f, m_put2 w g y 8 f = if f = g then y else w 8 f := fun f => by simp [m_put2, wm_at]
  have hm2 : m_wf nf nc r (m_put2 w g y) := m_exp_wf ⟨m_wf0_wm hm.1 (by decide) (by decide) (by decide) (by decide), m_file_wf1 hm.2 (m_out hm h5) 2⟩ (Or.inr (Or.inl rfl))
  have hca2 : ∀ v' : rh_V, (∀ c, v' 9 c = v 9 c) → rl_ca nc r v' (m_put2 w g y) := fun v' hv c hc => rl_c_eq (hca c hc) (hv c) rfl rfl rfl rfl rfl rfl rfl
  refine ⟨⟨wf_wr (wf_wr hwf (by decide) (by decide) (by decide)) (by decide) (by decide) (by decide), hm2, ho, hp, fun f hf9 => ?_, hca2 _ (fun c => rfl), rl_ye_eq hye rfl rfl rfl rfl rfl, hac, hti⟩, ⟨hwf, hm2, ho, hp, fun f hf9 hfg => ?_, ⟨g1, g3⟩, hca2 v (fun c => rfl), rl_ye_eq hye rfl rfl rfl rfl rfl, hac, hti⟩⟩
  · by_cases hfg : f = g
    · subst hfg
      unfold rl_f
      rw [e7, if_pos rfl, e8, if_pos rfl]
      refine ⟨?_, ?_, fun _ => ?_, ?_⟩
      · rw [wr_at, if_neg (by omega), wr_at, if_neg (by omega)]; exact g1
      · rw [wr_at, if_pos ⟨rfl, rfl, rfl⟩]
      · rw [wr_at, if_neg (by omega), wr_at, if_pos ⟨rfl, rfl, rfl⟩]
      · rw [wr_at, if_neg (by omega), wr_at, if_neg (by omega)]; exact g3
    · exact rl_f_eq (hf f hf9 hfg) (by rw [wr_row8 hfg, wr_row8 hfg]) rfl (by rw [e7, if_neg hfg]) (by rw [e8, if_neg hfg])
  · exact rl_f_eq (hf f hf9 hfg) rfl rfl (by rw [e7, if_neg hfg]) (by rw [e8, if_neg hfg])
theorem i_send {nf nc : Nat} {r : rh_R} {v : rh_V} {w : rh_Wm} (h : inv nf nc r v w) {f : Nat} (hf : f < nf) (h0 : w 7 f = 0) {y : Int32} (hy : rng y 1 99) : inv nf nc r (c_send r v nf nc f y) (m_send r w nf nc f y) := by
  have hk := h.k
  obtain ⟨hwa, hu⟩ := h.2.2.2.2.2.2.2.2.2
  have hq : r 8 f < 16 := h.1.2.2.1 f hf
  have h5 : ¬ w 7 f = 5 := by rw [h0]; decide
  have hp1 := (hk.2.2.2.1 _ hq).1
  have hx := hk.x hf
  have e7 : ∀ a, m_put2 w f y 7 a = if a = f then 2 else w 7 a := fun a => by simp [m_put2, wm_at]
  have e8 : ∀ a, m_put2 w f y 8 a = if a = f then y else w 8 a := fun a => by simp [m_put2, wm_at]
  have e18 : m_put2 w f y 18 = w 18 := rfl
  unfold c_send m_send
  rw [hp1, s_wait hk.2.2.2.2.1 hu]
  by_cases hA : y < w 18 (r 8 f) ∨ m_wait r w (r 8 f) y nf ≠ none
  · rw [if_pos hA, if_pos hA]
    refine (rx_state hx h5 (by decide)).inv ⟨fun a ha a7 => ?_, fun a b ha hb a7 b7 => ?_⟩
    · have : a ≠ f := fun z => by rw [z, wm_at, if_pos ⟨rfl, rfl⟩] at a7; exact absurd a7 (by decide)
      rw [wm_at, if_neg (fun z => this z.2)] at a7
      exact hwa a ha a7
    · have h1 : a ≠ f := fun z => by rw [z, wm_at, if_pos ⟨rfl, rfl⟩] at a7; exact absurd a7 (by decide)
      have h2 : b ≠ f := fun z => by rw [z, wm_at, if_pos ⟨rfl, rfl⟩] at b7; exact absurd b7 (by decide)
      rw [wm_at, if_neg (fun z => h1 z.2)] at a7
      rw [wm_at, if_neg (fun z => h2 z.2)] at b7
      exact hu a b ha hb a7 b7
  · rw [if_neg hA, if_neg hA]
    have hge : ¬ y < w 18 (r 8 f) := fun z => hA (Or.inl z)
    have hnone : m_wait r w (r 8 f) y nf = none := Decidable.of_not_not (fun z => hA (Or.inr z))
    obtain ⟨kp, xp⟩ := rx_put hx h5 y
    have hu2 : ∀ a b : Nat, a < nf → b < nf → m_put2 w f y 7 a = 2 → m_put2 w f y 7 b = 2 → r 8 a = r 8 b → m_put2 w f y 8 a = m_put2 w f y 8 b → a = b := by
      intro a b ha hb a7 b7 e1 e2
      rw [e7] at a7 b7
      rw [e8, e8] at e2
      by_cases h1 : a = f
      · by_cases h2 : b = f
        · rw [h1, h2]
        · rw [if_neg h2] at b7
          rw [if_pos h1, if_neg h2] at e2
          exact absurd ⟨b7, by rw [← e1, h1], e2.symm⟩ (m_wait_none nf hnone b hb)
      · rw [if_neg h1] at a7
        by_cases h2 : b = f
        · rw [if_neg h1, if_pos h2] at e2
          exact absurd ⟨a7, by rw [e1, h2], e2⟩ (m_wait_none nf hnone a ha)
        · rw [if_neg h2] at b7
          rw [if_neg h1, if_neg h2] at e2
          exact hu a b ha hb a7 b7 e1 e2
    have hot : ∀ a : Nat, a < nf → a ≠ f → m_put2 w f y 7 a = 2 → m_put2 w f y 18 (r 8 a) < m_put2 w f y 8 a ∧ m_put2 w f y 8 a ≤ 99 := by
      intro a ha haf a7
      rw [e7, if_neg haf] at a7
      rw [e8, if_neg haf, e18]
      exact hwa a ha a7
    by_cases hB : w 18 (r 8 f) < y
    · rw [if_pos hB]
      have hn2 : m_wait r (m_put2 w f y) (r 8 f) (m_put2 w f y 18 (r 8 f)) nf = none := by
        cases hm : m_wait r (m_put2 w f y) (r 8 f) (m_put2 w f y 18 (r 8 f)) nf with
        | none => rfl
        | some j =>
          obtain ⟨j1, j7, jq, j8⟩ := m_wait_some nf hm
          exfalso
          by_cases hjf : j = f
          · rw [e8, if_pos hjf, e18] at j8
            rw [j8] at hB
            exact i32_irr hB
          · have := (hot j j1 hjf j7).1
            rw [jq, j8] at this
            exact i32_irr this
      rw [hn2]
      show inv nf nc r _ (m_put2 w f y)
      refine kp.inv ⟨fun a ha a7 => ?_, hu2⟩
      by_cases haf : a = f
      · subst haf
        rw [e8, if_pos rfl, e18]
        exact ⟨hB, hy.2⟩
      · exact hot a ha haf a7
    · rw [if_neg hB]
      have hye : y = w 18 (r 8 f) := Int32.le_antisymm (nlt_le hB) (nlt_le hge)
      have f7 : m_put2 w f y 7 f = 2 := by rw [e7, if_pos rfl]
      have f8 : m_put2 w f y 8 f = m_put2 w f y 18 (r 8 f) := by rw [e8, if_pos rfl, e18]; exact hye
      have hs2 : m_wait r (m_put2 w f y) (r 8 f) (m_put2 w f y 18 (r 8 f)) nf = some f := by
        cases hm : m_wait r (m_put2 w f y) (r 8 f) (m_put2 w f y 18 (r 8 f)) nf with
        | none => exact absurd ⟨f7, rfl, f8⟩ (m_wait_none nf hm f hf)
        | some j =>
          obtain ⟨j1, j7, jq, j8⟩ := m_wait_some nf hm
          by_cases hjf : j = f
          · rw [hjf]
          · have := (hot j j1 hjf j7).1
            rw [jq, j8] at this
            exact (i32_irr this).elim
      rw [hs2]
      have hnf := h.1.1
      have hcw := m_cw_le (m_put2 w f y) nf
      exact i_all hq 30 v (m_put2 w f y) f xp hf f7 rfl f8 hot hu2 (by omega)
