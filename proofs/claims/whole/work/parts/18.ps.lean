/-! slices, will, wedding -/
theorem s5_keep {gen : Nat} {fo fw : Nat → Int32} {ow o : Nat → Nat} (hg : gen ≤ 20) (ho : rep 24 fo o) (hw : rep 504 fw ow) {K : (Nat → Int32) → Prop} (hK : ∀ fw', rep 504 fw' (rowN ow (24 * gen) 24 o) → K fw') : wp_X5_keepGeneration (nI gen) fo fw K := by
  refine lpW2_inv (fun a w => ∃ s, s ≤ 24 ∧ a = nI s ∧ rep 504 w (rowN ow (24 * gen) s o)) (fun a w => 24 - a.toInt.toNat) ?_ _ _ ⟨0, by omega, rfl, fun k hk => (hw k hk).trans (congrArg nI (rowN_out (by omega)).symm)⟩
  rintro _ w ⟨s, hs, rfl, hr⟩
  refine pk_le 24 s (fun z => ?_) (fun z => ?_) rfl rfl (by omega) (by omega)
  · rw [show s = 24 by omega] at hr
    exact hK w hr
  refine ⟨s, rfl, z, nm_r (ho s z) ⟨24 * gen + s, by rw [lit_n 24, pk_mul, nI_add], by omega, nm_r (nI_1 s) ⟨_, ?_, ⟨s + 1, z, rfl, fun k hk => ?_⟩, rfl⟩⟩⟩
  · show 24 - (nI (s + 1)).toInt.toNat < _
    rw [nI_toInt (by omega), nI_toInt (by omega)]; omega
  · by_cases q : k = 24 * gen + s
    · subst q
      rw [pk_us, rowN_in (by omega), show 24 * gen + s - 24 * gen = s by omega]
    · rw [pk_un q, hr k hk]
      by_cases v : 24 * gen ≤ k ∧ k < 24 * gen + s
      · rw [rowN_in v, rowN_in (by omega)]
      · rw [rowN_out v, rowN_out (by omega)]
theorem s5_slicesL {n fu : Nat} {f fm fo fw : Nat → Int32} {si ow o : Nat → Nat} (hp : padR n f fm si) (hf : n < 2 * fu) (ho : rep 24 fo o) (hw : rep 504 fw ow) (hok : flt n si 1 fu 24 0 = -6) {K : Int32 → Int32 → Int32 → (Nat → Int32) → (Nat → Int32) → Prop} (hK : ∀ fo' fw', rep 24 fo' (rv n si 1 fu 0) → rep 504 fw' (rowN ow 0 24 (rv n si 1 fu 0)) → K (nI (n / 2)) 0 0 fo' fw') : lpW3 (wb_X5_slices_15 (nI n) fm fw K) (0 : Int32) (0 : Int32) fo := by
  have hn := hp.1
  refine lpW3_inv (fun a b s' => ∃ p i f, a = nI p ∧ b = nI i ∧ p ≤ 24 ∧ i ≤ n ∧ n < i + 2 * f ∧ flt n si 1 f (24 - p) i = -6 ∧ rep 24 s' (rowN o 0 p (rv n si 1 fu 0)) ∧ ∀ j, p ≤ j → rv n si 1 fu 0 j = rv n si 1 f i (j - p)) (fun a b s' => 61 - b.toInt.toNat) ?_ _ _ _ ⟨0, 0, fu, rfl, rfl, by omega, by omega, by omega, hok, fun k hk => (ho k hk).trans (congrArg nI (rowN_out (by omega)).symm), fun j _ => rfl⟩
  rintro _ _ s' ⟨p, i, f, rfl, rfl, hpc, hi, hf, hok, hrow, hval⟩
  obtain ⟨f, rfl⟩ : ∃ m, f = m + 1 := ⟨f - 1, by omega⟩
  refine pk_le n i (fun z => ?_) (fun z => ?_) rfl rfl (by omega) (by omega)
  · rcases flt_ok (by omega) hok with h | h
    · rw [show p = 24 by omega] at hrow
      have hrow2 : rep 24 s' (rv n si 1 fu 0) := fun k hk => (hrow k hk).trans (congrArg nI (rowN_in (by omega)))
      exact nm_r (pk_div (d := 2) (by omega) (by omega) (by omega)) (s5_keep (gen := 0) (by omega) hrow2 hw (fun fw' hw' => hK s' fw' hrow2 hw'))
    · omega
  rcases flt_ok (by omega) hok with h | ⟨h1, h2, h3, h4, h5, h6, h7, h8, h9⟩
  · omega
  have g0 := hp.2 i h1
  have g1 := hp.2 (i + 1) h2
  have g2 := ltr_ltv h4
  generalize hd : dgv n si (i + 1) = d at *
  refine lpW3_inv (fun a b s2 => ∃ e, e ≤ d ∧ a = nI (p + e) ∧ b = nI e ∧ rep 24 s2 (rowN o 0 (p + e) (rv n si 1 fu 0))) (fun a b s2 => 61 - b.toInt.toNat) ?_ _ _ _ ⟨0, by omega, rfl, rfl, hrow⟩
  rintro _ _ s2 ⟨e, he, rfl, rfl, hr2⟩
  refine ⟨i + 1, nI_1 i, by omega, ?_⟩
  rw [g1.2.1, lit_n 48, pk_sub h8, ← h7]
  refine pk_le d e (fun y => ?_) (fun y => ?_) rfl rfl (by omega) (by omega)
  · have e1 : e = d := by omega
    subst e1
    refine nm_r (e' := nI (i + 2)) (by rw [lit_n 2, nI_add]) ⟨_, ?_, ⟨p + e, i + 2, f, rfl, rfl, by omega, by omega, by omega, by rw [show 24 - (p + e) = 24 - p - e by omega]; exact h9, hr2, fun j hj => ?_⟩, rfl⟩
    · show 61 - (nI (i + 2)).toInt.toNat < _
      rw [nI_toInt (by omega), nI_toInt (by omega)]; omega
    · rw [hval j (by omega), rv, hd, if_neg (by omega)]
      congr 1; omega
  · refine ⟨i, rfl, by omega, nm_r (e' := nI (ltv 1 (si i))) (by rw [g0.2.1, lit_n 97, pk_sub g2.1, g2.2.1]) ⟨p + e, rfl, by omega, nm_r (nI_1 _) (nm_r (nI_1 _) ⟨_, ?_, ⟨e + 1, y, rfl, rfl, fun k hk => ?_⟩, rfl⟩)⟩⟩
    · show 61 - (nI (e + 1)).toInt.toNat < _
      rw [nI_toInt (by omega), nI_toInt (by omega)]; omega
    · by_cases q : k = p + e
      · subst q
        rw [pk_us, rowN_in (by omega), Nat.sub_zero, hval _ (by omega), rv, hd, if_pos (by omega)]
      · rw [pk_un q, hr2 k hk]
        by_cases w : 0 ≤ k ∧ k < 0 + (p + e)
        · rw [rowN_in w, rowN_in (by omega)]
        · rw [rowN_out w, rowN_out (by omega)]
/-- what slices, will and wedding leave -/
def hlE (n' g' : Nat) (f fm : Nat → Int32) (si ow' : Nat → Nat) (fo' mo' mw' : Nat → Int32) : Prop := padR n' f fm si ∧ g' ≤ 20 ∧ rep 504 fo' ow' ∧ rep 504 mw' ow' ∧ rep 24 mo' (own ow' g') ∧ ∀ k, k < 504 → ow' k < 6
theorem own_row {ow r : Nat → Nat} {g : Nat} : ∀ s, s < 24 → own (rowN ow (24 * g) 24 r) g s = r s := fun s hs => by
  show rowN ow (24 * g) 24 r (24 * g + s) = r s
  rw [rowN_in (by omega), show 24 * g + s - 24 * g = s by omega]
theorem p_slices {n g : Nat} {f fm row fo mo mw : Nat → Int32} {si ow : Nat → Nat} (hp : padR n f fm si) (ho : rep 504 fo ow) (hmo : rep 24 mo (own ow g)) (hmw : rep 504 mw ow) (vo : ∀ k, k < 504 → ow k < 6) (hg : g ≤ 20) : wp_X4_slices (nI n) f row (nI g) fo (fun r c row' g2 fo' => wp_X5_slices (nI n) (nI g) fm mo mw (fun r2 c2 g3 mo' mw' => r = r2 ∧ ∃ n' g' ow', c = nI n' ∧ c2 = nI n' ∧ g2 = nI g' ∧ g3 = nI g' ∧ hlE n' g' f fm si ow' fo' mo' mw')) := by
  have hn := hp.1
  refine s4_faultAs (x := 1) hp ho vo hg (by decide) ?_
  rcases fltA_v n si ow g 1 hn with e | ⟨k, hk, e⟩
  · rw [e]
    have hok : flt n si 1 31 24 0 = -6 := e
    refine br_t rfl (s_readRuns (t := 1) (i0 := 0) (c := 24) (fu := 31) hp (by decide) (by omega) (by omega) (by omega) hok (fun row' hrow => ?_))
    refine ⟨0, 0, 24, rfl, rfl, rfl, by omega, by omega, ?_⟩
    show wp_X5_slices (nI n) (nI g) fm mo mw _
    refine s5_faultOf (x := 1) hp hmo vo hg (by decide) ?_
    rw [e]
    refine br_t (by decide) (s5_slicesL (fu := 31) hp (by omega) hmo hmw hok (fun fo' fw' hfo hfw => ?_))
    refine ⟨pk_div (d := 2) (by omega) (by omega) (by omega), 0, 0, rowN ow 0 24 (rv n si 1 31 0), rfl, rfl, rfl, rfl, pad0 hp, by omega, rep_cpy ho (fun j hj => by rw [Nat.zero_add]; exact hrow j hj), hfw, fun s hs => (hfo s hs).trans (congrArg nI (own_row (g := 0) s hs).symm), rowN_all (P := (· < 6)) vo (fun j hj => rv_lt (t := 1) (by omega) hok (by omega) (by omega) j hj)⟩
  · rw [e]
    refine br_f (nI_n6 hk) ?_
    show wp_X5_slices (nI n) (nI g) fm mo mw _
    refine s5_faultOf (x := 1) hp hmo vo hg (by decide) ?_
    rw [e]
    exact br_f (nI_pos hk) ⟨rfl, n, g, ow, rfl, rfl, rfl, rfl, hp, hg, ho, hmw, hmo, vo⟩
/-- whose a sector is when x1's go to x2 -/
theorem p_wedding {n g : Nat} {x1 x2 : Int32} {f fm fo mo mw : Nat → Int32} {si ow : Nat → Nat} (hp : padR n f fm si) (ho : rep 504 fo ow) (hmo : rep 24 mo (own ow g)) (hmw : rep 504 mw ow) (vo : ∀ k, k < 504 → ow k < 6) (hg : g ≤ 20) : wp_X4_wedding (nI g) fo x1 x2 (fun r g2 fo' => wp_X5_wedding (nI g) mo mw x1 x2 (fun r2 g3 mo' mw' => r = r2 ∧ ∃ g' ow', g2 = nI g' ∧ g3 = nI g' ∧ hlE n g' f fm si ow' fo' mo' mw')) := by
  have fin : ∀ c : Int32, c = c ∧ ∃ g' ow', nI g = nI g' ∧ nI g = nI g' ∧ hlE n g' f fm si ow' fo mo mw := fun c => ⟨rfl, g, ow, rfl, rfl, hp, hg, ho, hmw, hmo, vo⟩
  rcases pk_ix' x1 6 (by decide) with h | h | ⟨j, hj, rfl⟩
  · exact s4_two_a (Or.inl h) (bn_t rfl (s5_isHeir_f (Or.inl h) (br_t rfl (fin _))))
  · exact s4_two_a (Or.inr h) (bn_t rfl (s5_isHeir_f (Or.inr h) (br_t rfl (fin _))))
  rcases pk_ix' x2 6 (by decide) with h | h | ⟨q, hq, rfl⟩
  · exact s4_two_b hj (Or.inl h) (bn_t rfl (s5_isHeir_t hj (br_f (by decide) (s5_isHeir_f (Or.inl h) (br_t rfl (fin _))))))
  · exact s4_two_b hj (Or.inr h) (bn_t rfl (s5_isHeir_t hj (br_f (by decide) (s5_isHeir_f (Or.inr h) (br_t rfl (fin _))))))
  refine s4_two hj hq (fun e => bn_t rfl (s5_isHeir_t hj (br_f (by decide) (s5_isHeir_t hq (br_f (by decide) (bn_t (by rw [e]) (fin _))))))) (fun ne => bn_f (by decide) ?_)
  have hne : ¬ nI j = nI q := fun z => ne ((nI_eq (by omega) (by omega)).mp z)
  by_cases h20 : g = 20
  · subst h20
    exact br_f (nI_nlt (a := 20) (b := 20) (by omega) (by omega)) (s5_isHeir_t hj (br_f (by decide) (s5_isHeir_t hq (br_f (by decide) (bn_f hne (bn_t rfl (fin _)))))))
  let o : Nat → Nat := fun s => if own ow g s = q then j else own ow g s
  have vo6 : ∀ s, s < 24 → o s < 6 := fun s hs => by
    show (if own ow g s = q then j else own ow g s) < 6
    have := vo (24 * g + s) (by omega)
    split
    · exact hj
    · exact this
  refine br_t (nI_lt (b := 20) (by omega) (by omega)) ⟨24 * g, 24 * (g + 1), 24, by rw [lit_n 24, pk_mul, Nat.mul_comm], by rw [nI_1, lit_n 24, pk_mul, Nat.mul_comm], rfl, by omega, by omega, nm_r (nI_1 g) ?_⟩
  have hc0 := rep_cpy (sp := 24 * g) (dp := 24 * (g + 1)) (n := 24) (r := own ow g) ho (fun k hk => ho _ (by omega))
  generalize va_cpy fo fo (24 * g) (24 * (g + 1)) 24 = fo1 at hc0 ⊢
  refine lpW2_inv (fun a w => ∃ s, s ≤ 24 ∧ a = nI s ∧ rep 504 w (rowN ow (24 * (g + 1)) 24 (fun k => if k < s then o k else own ow g k))) (fun a w => 24 - a.toInt.toNat) ?_ _ _ ⟨0, by omega, rfl, hc0⟩
  rintro _ w ⟨s, hs, rfl, hr⟩
  refine pk_le 24 s (fun z => ?_) (fun z => ?_) rfl rfl (by omega) (by omega)
  · have e24 : s = 24 := by omega
    subst e24
    have hr2 : rep 504 w (rowN ow (24 * (g + 1)) 24 o) := fun k hk => by
      rw [hr k hk]
      by_cases v : 24 * (g + 1) ≤ k ∧ k < 24 * (g + 1) + 24
      · rw [rowN_in v, rowN_in v, if_pos (by omega)]
      · rw [rowN_out v, rowN_out v]
    show wp_X5_wedding (nI g) mo mw (nI j) (nI q) _
    refine s5_isHeir_t hj (br_f (by decide) (s5_isHeir_t hq (br_f (by decide) (bn_f hne (bn_f (fun z => h20 ((nI_eq (a := g) (b := 20) (by omega) (by omega)).mp z)) ?_)))))
    refine lpW2_inv (fun a w => ∃ s, s ≤ 24 ∧ a = nI s ∧ rep 24 w (fun k => if k < s then o k else own ow g k)) (fun a w => 24 - a.toInt.toNat) ?_ _ _ ⟨0, by omega, rfl, fun k hk => hmo k hk⟩
    rintro _ m ⟨s, hs, rfl, hm⟩
    refine pk_le 24 s (fun z => ?_) (fun z => ?_) rfl rfl (by omega) (by omega)
    · have hm2 : rep 24 m o := fun k hk => by rw [hm k hk]; show nI (if k < s then o k else own ow g k) = _; rw [if_pos (by omega)]
      refine nm_r (nI_1 g) (s5_keep (by omega) hm2 hmw (fun fw' hfw => ?_))
      exact ⟨rfl, g + 1, rowN ow (24 * (g + 1)) 24 o, rfl, rfl, hp, by omega, hr2, hfw, fun s hs => (hm2 s hs).trans (congrArg nI (own_row s hs).symm), rowN_all (P := (· < 6)) vo vo6⟩
    · have v6 := vo (24 * g + s) (by omega)
      have hms : m s = nI (own ow g s) := by rw [hm s z]; show nI (if s < s then o s else own ow g s) = _; rw [if_neg (by omega)]
      refine ⟨s, rfl, z, ?_⟩
      rw [hms]
      refine pk_ne (own ow g s) q (fun a => ?_) (fun a => ?_) rfl rfl (by show ow _ < _; omega) (by omega)
      · refine ⟨s, rfl, z, nm_r hms ⟨s, rfl, z, nm_r (nI_1 s) ⟨_, ?_, ⟨s + 1, z, rfl, fun k hk => ?_⟩, rfl⟩⟩⟩
        · show 24 - (nI (s + 1)).toInt.toNat < _
          rw [nI_toInt (by omega), nI_toInt (by omega)]; omega
        · show _ = nI (if k < s + 1 then o k else own ow g k)
          by_cases e : k = s
          · subst e
            rw [pk_us, if_pos (by omega)]
            show _ = nI (if own ow g k = q then j else own ow g k)
            rw [if_neg a]
          · rw [pk_un e, hm k hk]
            show nI (if k < s then o k else own ow g k) = _
            by_cases u : k < s
            · rw [if_pos u, if_pos (by omega)]
            · rw [if_neg u, if_neg (by omega)]
      · refine ⟨s, rfl, z, nm_r (nI_1 s) ⟨_, ?_, ⟨s + 1, z, rfl, fun k hk => ?_⟩, rfl⟩⟩
        · show 24 - (nI (s + 1)).toInt.toNat < _
          rw [nI_toInt (by omega), nI_toInt (by omega)]; omega
        · show _ = nI (if k < s + 1 then o k else own ow g k)
          by_cases e : k = s
          · subst e
            rw [pk_us, if_pos (by omega)]
            show _ = nI (if own ow g k = q then j else own ow g k)
            rw [if_pos a]
          · rw [pk_un e, hm k hk]
            show nI (if k < s then o k else own ow g k) = _
            by_cases u : k < s
            · rw [if_pos u, if_pos (by omega)]
            · rw [if_neg u, if_neg (by omega)]
  · have v6 := vo (24 * g + s) (by omega)
    have hw : w (24 * (g + 1) + s) = nI (own ow g s) := by
      rw [hr _ (by omega), rowN_in (by omega), show 24 * (g + 1) + s - 24 * (g + 1) = s by omega, if_neg (by omega)]
    refine ⟨24 * (g + 1) + s, by rw [lit_n 24, pk_mul, nI_add, Nat.mul_comm], by omega, ?_⟩
    rw [hw]
    refine pk_ne (own ow g s) q (fun a => ?_) (fun a => ?_) rfl rfl (by show ow _ < _; omega) (by omega)
    · refine nm_r (nI_1 s) ⟨_, ?_, ⟨s + 1, z, rfl, fun k hk => ?_⟩, rfl⟩
      · show 24 - (nI (s + 1)).toInt.toNat < _
        rw [nI_toInt (by omega), nI_toInt (by omega)]; omega
      · rw [hr k hk]
        by_cases v : 24 * (g + 1) ≤ k ∧ k < 24 * (g + 1) + 24
        · rw [rowN_in v, rowN_in v]
          by_cases e : k - 24 * (g + 1) = s
          · rw [if_neg (by omega), if_pos (by omega), e]
            show _ = nI (if own ow g s = q then j else own ow g s)
            rw [if_neg a]
          · by_cases u : k - 24 * (g + 1) < s
            · rw [if_pos u, if_pos (by omega)]
            · rw [if_neg u, if_neg (by omega)]
        · rw [rowN_out v, rowN_out v]
    · refine ⟨24 * (g + 1) + s, by rw [lit_n 24, pk_mul, nI_add, Nat.mul_comm], by omega, nm_r (nI_1 s) ⟨_, ?_, ⟨s + 1, z, rfl, fun k hk => ?_⟩, rfl⟩⟩
      · show 24 - (nI (s + 1)).toInt.toNat < _
        rw [nI_toInt (by omega), nI_toInt (by omega)]; omega
      · by_cases e : k = 24 * (g + 1) + s
        · subst e
          rw [pk_us, rowN_in (by omega), show 24 * (g + 1) + s - 24 * (g + 1) = s by omega, if_pos (by omega)]
          show _ = nI (if own ow g s = q then j else own ow g s)
          rw [if_pos a]
        · rw [pk_un e, hr k hk]
          by_cases v : 24 * (g + 1) ≤ k ∧ k < 24 * (g + 1) + 24
          · rw [rowN_in v, rowN_in v]
            by_cases u : k - 24 * (g + 1) < s
            · rw [if_pos u, if_pos (by omega)]
            · rw [if_neg u, if_neg (by omega)]
          · rw [rowN_out v, rowN_out v]
