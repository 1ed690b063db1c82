/-! the law: what the JVM holds ready at its start -/
set_option maxRecDepth 20000 in
set_option maxHeartbeats 4000000 in
theorem law_g {b : Nat} {s : State} (hts : ∀ w ∈ lw_tbl, w.before #[Value.ref b] s = true) (hgv : (Jvm.Cond.and given_1 narrow_1).before #[Value.ref b] s = true) : ∃ g : gE, va_K g.1 vwCl (gTy g) s ∧ gS g (lA s) s s.heap := by
  have m : ∀ (i : Nat) (w : Cond), lw_tbl[i]? = some w → w.before #[Value.ref b] s = true := fun i w h => hts w (List.mem_of_getElem? h)
  have hn := flat_of_before _ hgv
  have hA : ∀ a : Nat, a < s.heap.size → ¬ lA s a := fun a h => Nat.not_le.mpr h
  obtain ⟨c0, t0, k0⟩ := u_known (C := RX0) (T := TX0) (N := 9) (n := 9) hts i_wsX00 (m 136 _ rfl)
  obtain ⟨c1, t1, k1⟩ := u_known (C := RX1) (T := TX1) (N := 5) (n := 5) hts i_wsX10 (m 170 _ rfl)
  obtain ⟨c2, t2, k2⟩ := u_known (C := RX2) (T := TX2) (N := 6) (n := 6) hts i_wsX20 (m 102 _ rfl)
  obtain ⟨c3, t3, k3⟩ := u_known (C := RX3) (T := TX3) (N := 3) (n := 3) hts i_wsX30 (m 83 _ rfl)
  obtain ⟨c4, t4, k4⟩ := u_known (C := RX4) (T := TX4) (N := 6) (n := 6) hts i_wsX40 (m 75 _ rfl)
  obtain ⟨c5, t5, k5⟩ := u_known (C := RX5) (T := TX5) (N := 22) (n := 22) hts i_wsX50 (m 734 _ rfl)
  obtain ⟨a0, q0, o0, f0, g0, h0⟩ := Cond.arrayClass_spec (m 100 (.arrayClass .int) rfl)
  obtain ⟨a1, q1, o1, f1, g1, h1⟩ := Cond.arrayClass_spec (m 99 (.arrayClass .char) rfl)
  obtain ⟨a2, q2, o2, f2, g2, h2⟩ := Cond.arrayClass_spec (m 191 (.arrayClass .boolean) rfl)
  obtain ⟨o3, a3, q3, f3, -, g3, h3, e3⟩ := Cond.arrayOver_spec (m 134 (.arrayOver (.object "HillSlices$Hill")) rfl)
  obtain ⟨adK, adV, hS, hK⟩ := vk_Sof (args := #[Value.ref b]) (s := s) (N := 2) (tm := fun i => .string "HillSlices" (if i = 0 then 62 else 75)) (len := gLen) (byt := gByt) (A := lA s)
    (by decide) (fun i hi => hn _ ((by decide +kernel : ∀ i : Nat, i < 2 → Cond.exactly (.string "HillSlices" (if i = 0 then 62 else 75)) "java/lang/String" ∈ flatC (Jvm.Cond.and given_1 narrow_1)) i hi))
    (fun i hi => hn _ ((by decide +kernel : ∀ i : Nat, i < 2 → Cond.eq (.field (.string "HillSlices" (if i = 0 then 62 else 75)) "java/lang/String" "coder" "B") (.int 0) ∈ flatC (Jvm.Cond.and given_1 narrow_1)) i hi))
    (fun i hi => hn _ ((by decide +kernel : ∀ i : Nat, i < 2 → Cond.arrayOf (.field (.string "HillSlices" (if i = 0 then 62 else 75)) "java/lang/String" "value" "[B") .byte ∈ flatC (Jvm.Cond.and given_1 narrow_1)) i hi))
    (fun i hi => hn _ ((by decide +kernel : ∀ i : Nat, i < 2 → Cond.eq (.length (.field (.string "HillSlices" (if i = 0 then 62 else 75)) "java/lang/String" "value" "[B")) (.int (Int32.ofNat (gLen.getD i 0))) ∈ flatC (Jvm.Cond.and given_1 narrow_1)) i hi))
    (fun i hi j hj => hn _ ((by decide +kernel : ∀ i : Nat, i < 2 → ∀ j : Nat, j < gLen.getD i 0 → Cond.eq (.elem (.field (.string "HillSlices" (if i = 0 then 62 else 75)) "java/lang/String" "value" "[B") (.int (Int32.ofNat j))) (.int ((gByt.getD i []).getD j 0)) ∈ flatC (Jvm.Cond.and given_1 narrow_1)) i hi j hj))
    (fun i j hi hj hij => by
      rcases (show (i = 0 ∧ j = 1) ∨ (i = 1 ∧ j = 0) by omega) with ⟨rfl, rfl⟩ | ⟨rfl, rfl⟩
      · exact Or.inl (hn (Cond.not (Cond.eq (.string "HillSlices" 62) (.string "HillSlices" 75))) (by decide +kernel))
      · exact Or.inr (hn (Cond.not (Cond.eq (.string "HillSlices" 62) (.string "HillSlices" 75))) (by decide +kernel))) hA
  obtain ⟨ts, hts1, hT1⟩ := va_Tof (args := #[Value.ref b]) (s := s) (tm := .static "HillSlices" "FIRST_SORTS" "[I") (ty := .int) (N := 5) (f := fun j => .int (gFS.getD j 0)) (A := lA s) (by decide)
    (hn _ (by decide +kernel)) (va_eqt (hn (Cond.eq (.length (.static "HillSlices" "FIRST_SORTS" "[I")) (.int 5)) (by decide +kernel)))
    (fun j hj => va_eqt (hn _ ((by decide +kernel : ∀ j : Nat, j < 5 → Cond.eq (.elem (.static "HillSlices" "FIRST_SORTS" "[I") (.int (Int32.ofNat j))) (.int (gFS.getD j 0)) ∈ flatC (Jvm.Cond.and given_1 narrow_1)) j hj))) hA
  obtain ⟨tw, hts2, hT2⟩ := va_Tof (args := #[Value.ref b]) (s := s) (tm := .static "HillSlices" "FIRST_WORTHS" "[I") (ty := .int) (N := 5) (f := fun j => .int (gFW.getD j 0)) (A := lA s) (by decide)
    (hn _ (by decide +kernel)) (va_eqt (hn (Cond.eq (.length (.static "HillSlices" "FIRST_WORTHS" "[I")) (.int 5)) (by decide +kernel)))
    (fun j hj => va_eqt (hn _ ((by decide +kernel : ∀ j : Nat, j < 5 → Cond.eq (.elem (.static "HillSlices" "FIRST_WORTHS" "[I") (.int (Int32.ofNat j))) (.int (gFW.getD j 0)) ∈ flatC (Jvm.Cond.and given_1 narrow_1)) j hj))) hA
  have hZ1 := va_Zref (args := #[Value.ref b]) (s := s) (C := "HillSlices") (n := "FIRST_SORTS") (d := "[I") (t := ts) (A := lA s) (m 108 _ rfl) (m 60 _ rfl) hts1 hA
  have hZ2 := va_Zref (args := #[Value.ref b]) (s := s) (C := "HillSlices") (n := "FIRST_WORTHS") (d := "[I") (t := tw) (A := lA s) (m 110 _ rfl) (m 60 _ rfl) hts2 hA
  have hZ3 := va_Zof (args := #[Value.ref b]) (s := s) (C := "java/lang/String") (n := "COMPACT_STRINGS") (d := "Z") (v := .int 1) (A := lA s) (m 257 _ rfl) (m 66 _ rfl) (va_eqi (hn _ (by decide +kernel))) hA
  have hZ4 := va_Zqof (args := #[Value.ref b]) (s := s) (C := "jdk/internal/util/Preconditions") (n := "SIOOBE_FORMATTER") (d := "Ljava/util/function/BiFunction;") (A := lA s) (m 300 _ rfl) (m 70 _ rfl) (hn _ (by decide +kernel)) hA
  have n1 : va_Nw (.methodLinkNest RX4 11 yX3_init "HillSlices") s := va_Nw.of rfl (m 84 _ rfl)
  have n2 : va_Nw (.methodLinkNest RX4 41 yX1_init "HillSlices") s := va_Nw.of rfl (m 171 _ rfl)
  have n3 : va_Nw (.fieldLinkNest RX2 28 "HillSlices" "FIRST_SORTS" "[I" "HillSlices") s := va_Nw.of rfl (m 107 _ rfl)
  have n4 : va_Nw (.fieldLinkNest RX2 31 "HillSlices" "FIRST_WORTHS" "[I" "HillSlices") s := va_Nw.of rfl (m 109 _ rfl)
  have r1 : vk_R RX4 62 "vwmrs" (adK 0) s := vk_R.of (m 235 _ rfl) (hK 0 (by decide))
  have r2 : vk_R RX4 75 "abcdef" (adK 1) s := vk_R.of (m 334 _ rfl) (hK 1 (by decide))
  have ao : va_AO RX2 s := va_AO.of (m 134 _ rfl)
  refine ⟨((fun k => if k = 0 then c0 else if k = 1 then c1 else if k = 2 then c2 else if k = 3 then c3 else if k = 4 then c4 else c5, fun k => if k = 0 then t0 else if k = 1 then t1 else if k = 2 then t2 else if k = 3 then t3 else if k = 4 then t4 else t5), (fun k => if k = 0 then a0 else if k = 1 then a1 else if k = 2 then a2 else a3), (fun k => if k < 10 then adK k else if k < 20 then adV (k - 10) else if k = 20 then ts else tw)), ⟨fun k q hq => ?_, fun k q hq => ?_⟩, ?_⟩
  · match k, hq with
    | 0, hq => cases hq; exact k0
    | 1, hq => cases hq; exact k1
    | 2, hq => cases hq; exact k2
    | 3, hq => cases hq; exact k3
    | 4, hq => cases hq; exact k4
    | 5, hq => cases hq; exact k5
    | k + 6, hq => simp [vwCl] at hq
  · match k, hq with
    | 0, hq => cases hq; exact ⟨fun n z => ⟨(fun k h => by cases h), q0, g0, o0, h0⟩, f0⟩
    | 1, hq => cases hq; exact ⟨fun n z => ⟨(fun k h => by cases h), q1, g1, o1, h1⟩, f1⟩
    | 2, hq => cases hq; exact ⟨fun n z => ⟨(fun k h => by cases h), q2, g2, o2, h2⟩, f2⟩
    | 3, hq => cases hq; exact ⟨fun n z => ⟨(fun k h => by cases h), q3, g3, o3, h3⟩, ⟨q3, o3, g3, h3, f3, e3⟩⟩
    | k + 4, hq => simp at hq
  · refine ⟨⟨?_, hZ3, hZ4⟩, ⟨⟨hZ1, hT1⟩, ⟨hZ2, hT2⟩⟩, ⟨r1, r2⟩, ⟨n1, n2⟩, ⟨n3, n4⟩, ao⟩
    refine ⟨fun i hi => ?_, fun i j hi hj e => ?_⟩
    · have := hS.1 i hi
      rcases (show i = 0 ∨ i = 1 by omega) with rfl | rfl <;> exact this
    · refine hS.2 i j hi hj ?_
      rcases (show i = 0 ∨ i = 1 by omega) with rfl | rfl <;> rcases (show j = 0 ∨ j = 1 by omega) with rfl | rfl <;> exact e
