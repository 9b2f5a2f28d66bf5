/-! ===== the law's start ===== -/
theorem l_flags {l : Launch} (h : l.flags = flags0) : l.stackTraces = false := by
  unfold Launch.stackTraces
  rw [h]
  decide
theorem l_tabs {s : State} {ty : FieldType} {cA : ClassId} {k : Class} {comp : ClassId} (h1 : s.vm.classes[cA]? = some k) (h2 : k.kind = .array comp ty) : ArrOfT s cA ty := fun n z => ⟨fun k9 h => (by cases h), k, h1, comp, h2⟩
theorem l_prim {s : State} {ar : Array Value} {ty : FieldType} (hn : ∀ C, ty ≠ .object C) (h : (Cond.arrayClass ty).before ar s = true) : ∃ cA : ClassId, ArrOfT s cA ty ∧ va_RA s cA ty := by
  obtain ⟨cA, k, comp, h1, h2, h3⟩ := Cond.arrayClass_spec h
  refine ⟨cA, l_tabs h2 h3, ?_⟩
  cases ty with
  | object C => exact absurd rfl (hn C)
  | _ => exact h1
theorem l_refs {s : State} {ar : Array Value} {C : String} (h : (Cond.arrayOver (.object C)).before ar s = true) : ∃ cA : ClassId, ArrOfT s cA (.object C) ∧ va_RA s cA (.object C) := by
  obtain ⟨comp, cA, k, h1, h2, h3, h4, h5⟩ := Cond.arrayOver_spec h
  exact ⟨cA, l_tabs h3 h4, k, comp, h3, h4, h1, h5⟩
theorem l_string {s : State} {ar : Array Value} {k : Nat} {tx : String} (h1 : (Cond.stringRef RX4 k tx).before ar s = true) (h2 : (Cond.exactly (.string RX4 k) "java/lang/String").before ar s = true) : ∃ a : Nat, vk_R RX4 k tx a s := by
  obtain ⟨a, _, _, _, e, _⟩ := Cond.exactly_spec h2
  exact ⟨a, vk_R.of (A := ar) h1 e⟩
set_option maxHeartbeats 4000000 in
set_option maxRecDepth 100000 in
theorem l_start {p : Program} {s : State} {m : MethodId} {meth : Method} {c : Code} (l : Launch) (hflags : l.flags = flags0) {b L : Nat} {xs : Nat → Int32} (hL : L ≤ 260) (C0 : lw_At p s m meth c b L xs) : ∃ (G : va_G) (ca : Nat → ClassId), ∀ ua : Nat → Nat, u_D (fun q => s.heap.size ≤ q) ua → lwC p l s m c G ca (fun q => s.heap.size ≤ q) ua b L xs := by
  obtain ⟨hx, hb, hr, hml, hown, hts, hX, hbl, hlocks, hgv⟩ := id C0
  have hs := flat_of_before _ hgv
  obtain ⟨c0, iS0, k0⟩ := u_known (C := RX0) (T := TX0) (N := 7) (n := 7) hts inX0 (hts (.instantiable RX0 7) (by decide +kernel))
  obtain ⟨c1, iS1, k1⟩ := u_known (C := RX1) (T := TX1) (N := 5) (n := 5) hts inX1 (hts (.instantiable RX1 5) (by decide +kernel))
  obtain ⟨c2, iS2, k2⟩ := u_known (C := RX2) (T := TX2) (N := 4) (n := 4) hts inX2 (hts (.instantiable RX2 4) (by decide +kernel))
  obtain ⟨c3, iS3, k3⟩ := u_known (C := RX3) (T := TX3) (N := 7) (n := 7) hts inX3 (hts (.instantiable RX3 7) (by decide +kernel))
  obtain ⟨c4, iS4, k4⟩ := u_known (C := RX4) (T := TX4) (N := 7) (n := 7) hts inX4 (hts (.instantiable RX4 7) (by decide +kernel))
  obtain ⟨a0, t0, r0⟩ := l_prim (ty := .int) (fun C z => by cases z) (hts (.arrayClass .int) (by decide +kernel))
  obtain ⟨a1, t1, r1⟩ := l_prim (ty := .int) (fun C z => by cases z) (hts (.arrayClass .int) (by decide +kernel))
  obtain ⟨a2, t2, r2⟩ := l_prim (ty := .long) (fun C z => by cases z) (hts (.arrayClass .long) (by decide +kernel))
  obtain ⟨a3, t3, r3⟩ := l_refs (C := "RoamingHouse$Operator") (hts (.arrayOver (.object "RoamingHouse$Operator")) (by decide +kernel))
  obtain ⟨a4, t4, r4⟩ := l_refs (C := "RoamingHouse$Pair") (hts (.arrayOver (.object "RoamingHouse$Pair")) (by decide +kernel))
  obtain ⟨a5, t5, r5⟩ := l_refs (C := "RoamingHouse$CallFile") (hts (.arrayOver (.object "RoamingHouse$CallFile")) (by decide +kernel))
  obtain ⟨a6, t6, r6⟩ := l_refs (C := "RoamingHouse$Call") (hts (.arrayOver (.object "RoamingHouse$Call")) (by decide +kernel))
  have hA0 : ∀ a : Nat, a < s.heap.size → ¬ s.heap.size ≤ a := fun a h => Nat.not_le.mpr h
  refine ⟨(fun k => match k with | 0 => c0 | 1 => c1 | 2 => c2 | 3 => c3 | _ => c4, fun k => match k with | 0 => iS0 | 1 => iS1 | 2 => iS2 | 3 => iS3 | _ => iS4), (fun k => match k with | 0 => a0 | 1 => a1 | 2 => a2 | 3 => a3 | 4 => a4 | 5 => a5 | _ => a6), fun ua hud => ⟨hx, hb, hml, hown, fun w h => hts w (wsL_law_in w h), ⟨⟨?_, ?_⟩, ?_, ?_, ?_, ?_, ?_, ?_, ?_, ?_⟩, ?_, l_flags hflags, fun q h => h, Nat.not_le.mpr hbl, hbl, hX, hL, hud⟩⟩
  · intro k q hq
    match k, hq with
    | 0, hq => cases hq; exact k0
    | 1, hq => cases hq; exact k1
    | 2, hq => cases hq; exact k2
    | 3, hq => cases hq; exact k3
    | 4, hq => cases hq; exact k4
    | k + 5, hq => simp [vwCl] at hq
  · intro k q hq
    match k, hq with
    | 0, hq => cases hq; exact ⟨t0, r0⟩
    | 1, hq => cases hq; exact ⟨t1, r1⟩
    | 2, hq => cases hq; exact ⟨t2, r2⟩
    | 3, hq => cases hq; exact ⟨t3, r3⟩
    | 4, hq => cases hq; exact ⟨t4, r4⟩
    | 5, hq => cases hq; exact ⟨t5, r5⟩
    | 6, hq => cases hq; exact ⟨t6, r6⟩
    | k + 7, hq => simp [rh_ty] at hq
  · exact vx_Zqof (hts (.laysStatic "java/lang/Throwable" "UNASSIGNED_STACK" "[Ljava/lang/StackTraceElement;") (by decide +kernel)) (hts (.initialized "java/lang/Throwable") (by decide +kernel)) (hs (.isRef (.static "java/lang/Throwable" "UNASSIGNED_STACK" "[Ljava/lang/StackTraceElement;")) (by decide +kernel)) hA0
  · exact vx_Zqof (hts (.laysStatic "java/lang/Throwable" "SUPPRESSED_SENTINEL" "Ljava/util/List;") (by decide +kernel)) (hts (.initialized "java/lang/Throwable") (by decide +kernel)) (hs (.isRef (.static "java/lang/Throwable" "SUPPRESSED_SENTINEL" "Ljava/util/List;")) (by decide +kernel)) hA0
  · intro E hE
    have h1 : ∀ E ∈ rh_ex, Cond.castable E E ∈ lw_tbl := by decide +kernel
    exact va_Nw.of rfl (hts _ (h1 E hE))
  · intro q hq
    have h1 : ∀ q ∈ rh_tx, Cond.stringRef RX4 q.1 q.2 ∈ lw_tbl := by decide +kernel
    have h2 : ∀ q ∈ rh_tx, Cond.exactly (.string RX4 q.1) "java/lang/String" ∈ flatC (Jvm.Cond.and given_1 narrow_1) := by decide +kernel
    exact l_string (hts _ (h1 q hq)) (hs _ (h2 q hq))
  · exact va_Nw.of rfl (hts (.methodLinkNest RX0 52 yX4_yearOf RX4) (by decide +kernel))
  · exact va_Nw.of rfl (hts (.methodLinkNest RX4 43 yX2_init RX4) (by decide +kernel))
  · intro Y hY
    have h1 : ∀ Y ∈ rh_sup, Cond.declares (Bundle.initS Y) ∈ lw_tbl := by decide +kernel
    exact va_Nw.of rfl (hts _ (h1 Y hY))
  · intro C hC
    have h1 : ∀ C ∈ rh_own, Cond.arrayOver (.object C) ∈ lw_tbl := by decide +kernel
    exact va_AO.of (hts _ (h1 C hC))
  · intro x hx9
    have h1 : ∀ x ∈ rh_nc, Cond.not (.castable x.1 x.2) ∈ flatC (Jvm.Cond.and given_1 narrow_1) := by decide +kernel
    exact va_Nc.of (hs _ (h1 x hx9))
