/-! slices, will, wedding -/
theorem s5_keep {gen : Nat} {fo fw : Nat → Int32} {ow o : Nat → Nat} (hg : gen ≤ 20) (ho : rep 24 fo o) (hw : rep 504 fw ow) {K : (Nat → Int32) → Prop} (hK : ∀ fw', rep 504 fw' (rowN ow (24 * gen) 24 o) → K fw') : wp_X5_keepGeneration (nI gen) fo fw K := by
  refine lpW2_inv (fun a w => ∃ s, s ≤ 24 ∧ a = nI s ∧ rep 504 w (rowN ow (24 * gen) s o)) (fun a w => 24 - a.toInt.toNat) ?_ _ _ ⟨0, by omega, rfl, fun k hk => (hw k hk).trans (congrArg nI (rowN_out (by omega)).symm)⟩
  rintro _ w ⟨s, hs, rfl, hr⟩
  refine pk_le 24 s (fun z => ?_) (fun z => ?_) rfl rfl (by omega) (by omega)
  · rw [show s = 24 by omega] at hr
    exact hK w hr
  refine ⟨s, rfl, z, nm_r (ho s z) ⟨24 * gen + s, by rw [lit_n 24, pk_mul, nI_add], by omega, nm_r (nI_1 s) ⟨_, ?_, ⟨s + 1, z, rfl, fun k hk => ?_⟩, rfl⟩⟩⟩
  · show 24 - (nI (s + 1)).toInt.toNat < _
    rw [nI_toInt (by omega), nI_toInt (by omega)]; omega
  · by_cases q : k = 24 * gen + s
    · subst q
      rw [pk_us, rowN_in (by omega), show 24 * gen + s - 24 * gen = s by omega]
    · rw [pk_un q, hr k hk]
      by_cases v : 24 * gen ≤ k ∧ k < 24 * gen + s
      · rw [rowN_in v, rowN_in (by omega)]
      · rw [rowN_out v, rowN_out (by omega)]
theorem s5_slicesL {n fu : Nat} {f fm fo fw : Nat → Int32} {si ow o : Nat → Nat} (hp : padR n f fm si) (hf : n < 2 * fu) (ho : rep 24 fo o) (hw : rep 504 fw ow) (hok : flt n si 1 fu 24 0 = -6) {K : Int32 → Int32 → Int32 → (Nat → Int32) → (Nat → Int32) → Prop} (hK : ∀ fo' fw', rep 24 fo' (rv n si 1 fu 0) → rep 504 fw' (rowN ow 0 24 (rv n si 1 fu 0)) → K (nI (n / 2)) 0 0 fo' fw') : lpW3 (wb_X5_slices_15 (nI n) fm fw K) (0 : Int32) (0 : Int32) fo := by
  have hn := hp.1
  refine lpW3_inv (fun a b s' => ∃ p i f, a = nI p ∧ b = nI i ∧ p ≤ 24 ∧ i ≤ n ∧ n < i + 2 * f ∧ flt n si 1 f (24 - p) i = -6 ∧ rep 24 s' (rowN o 0 p (rv n si 1 fu 0)) ∧ ∀ j, p ≤ j → rv n si 1 fu 0 j = rv n si 1 f i (j - p)) (fun a b s' => 61 - b.toInt.toNat) ?_ _ _ _ ⟨0, 0, fu, rfl, rfl, by omega, by omega, by omega, hok, fun k hk => (ho k hk).trans (congrArg nI (rowN_out (by omega)).symm), fun j _ => rfl⟩
  rintro _ _ s' ⟨p, i, f, rfl, rfl, hpc, hi, hf, hok, hrow, hval⟩
  obtain ⟨f, rfl⟩ : ∃ m, f = m + 1 := ⟨f - 1, by omega⟩
  refine pk_le n i (fun z => ?_) (fun z => ?_) rfl rfl (by omega) (by omega)
  · rcases flt_ok (by omega) hok with h | h
    · rw [show p = 24 by omega] at hrow
      have hrow2 : rep 24 s' (rv n si 1 fu 0) := fun k hk => (hrow k hk).trans (congrArg nI (rowN_in (by omega)))
      exact nm_r (pk_div (d := 2) (by omega) (by omega) (by omega)) (s5_keep (gen := 0) (by omega) hrow2 hw (fun fw' hw' => hK s' fw' hrow2 hw'))
    · omega
  rcases flt_ok (by omega) hok with h | ⟨h1, h2, h3, h4, h5, h6, h7, h8, h9⟩
  · omega
  have g0 := hp.2 i h1
  have g1 := hp.2 (i + 1) h2
  have g2 := ltr_ltv h4
  generalize hd : dgv n si (i + 1) = d at *
  refine lpW3_inv (fun a b s2 => ∃ e, e ≤ d ∧ a = nI (p + e) ∧ b = nI e ∧ rep 24 s2 (rowN o 0 (p + e) (rv n si 1 fu 0))) (fun a b s2 => 61 - b.toInt.toNat) ?_ _ _ _ ⟨0, by omega, rfl, rfl, hrow⟩
  rintro _ _ s2 ⟨e, he, rfl, rfl, hr2⟩
  refine ⟨i + 1, nI_1 i, by omega, ?_⟩
  rw [g1.2.1, lit_n 48, pk_sub h8, ← h7]
  refine pk_le d e (fun y => ?_) (fun y => ?_) rfl rfl (by omega) (by omega)
  · have e1 : e = d := by omega
    subst e1
    refine nm_r (e' := nI (i + 2)) (by rw [lit_n 2, nI_add]) ⟨_, ?_, ⟨p + e, i + 2, f, rfl, rfl, by omega, by omega, by omega, by rw [show 24 - (p + e) = 24 - p - e by omega]; exact h9, hr2, fun j hj => ?_⟩, rfl⟩
    · show 61 - (nI (i + 2)).toInt.toNat < _
      rw [nI_toInt (by omega), nI_toInt (by omega)]; omega
    · rw [hval j (by omega), rv, hd, if_neg (by omega)]
      congr 1; omega
  · refine ⟨i, rfl, by omega, nm_r (e' := nI (ltv 1 (si i))) (by rw [g0.2.1, lit_n 97, pk_sub g2.1, g2.2.1]) ⟨p + e, rfl, by omega, nm_r (nI_1 _) (nm_r (nI_1 _) ⟨_, ?_, ⟨e + 1, y, rfl, rfl, fun k hk => ?_⟩, rfl⟩)⟩⟩
    · show 61 - (nI (e + 1)).toInt.toNat < _
      rw [nI_toInt (by omega), nI_toInt (by omega)]; omega
    · by_cases q : k = p + e
      · subst q
        rw [pk_us, rowN_in (by omega), Nat.sub_zero, hval _ (by omega), rv, hd, if_pos (by omega)]
      · rw [pk_un q, hr2 k hk]
        by_cases w : 0 ≤ k ∧ k < 0 + (p + e)
        · rw [rowN_in w, rowN_in (by omega)]
        · rw [rowN_out w, rowN_out (by omega)]
/-- what slices, will and wedding leave -/
def hlE (n' g' : Nat) (f fm : Nat → Int32) (si ow' : Nat → Nat) (fo' mo' mw' : Nat → Int32) : Prop := padR n' f fm si ∧ g' ≤ 20 ∧ rep 504 fo' ow' ∧ rep 504 mw' ow' ∧ rep 24 mo' (own ow' g') ∧ ∀ k, k < 504 → ow' k < 6
theorem own_row {ow r : Nat → Nat} {g : Nat} : ∀ s, s < 24 → own (rowN ow (24 * g) 24 r) g s = r s := fun s hs => by
  show rowN ow (24 * g) 24 r (24 * g + s) = r s
  rw [rowN_in (by omega), show 24 * g + s - 24 * g = s by omega]
theorem p_slices {n g : Nat} {f fm row fo mo mw : Nat → Int32} {si ow : Nat → Nat} (hp : padR n f fm si) (ho : rep 504 fo ow) (hmo : rep 24 mo (own ow g)) (hmw : rep 504 mw ow) (vo : ∀ k, k < 504 → ow k < 6) (hg : g ≤ 20) : wp_X4_slices (nI n) f row (nI g) fo (fun r c row' g2 fo' => wp_X5_slices (nI n) (nI g) fm mo mw (fun r2 c2 g3 mo' mw' => r = r2 ∧ ∃ n' g' ow', c = nI n' ∧ c2 = nI n' ∧ g2 = nI g' ∧ g3 = nI g' ∧ hlE n' g' f fm si ow' fo' mo' mw')) := by
  have hn := hp.1
  refine s4_faultAs (x := 1) hp ho vo hg (by decide) ?_
  rcases fltA_v n si ow g 1 hn with e | ⟨k, hk, e⟩
  · rw [e]
    have hok : flt n si 1 31 24 0 = -6 := e
    refine br_t rfl (s_readRuns (t := 1) (i0 := 0) (c := 24) (fu := 31) hp (by decide) (by omega) (by omega) (by omega) hok (fun row' hrow => ?_))
    refine ⟨0, 0, 24, rfl, rfl, rfl, by omega, by omega, ?_⟩
    show wp_X5_slices (nI n) (nI g) fm mo mw _
    refine s5_faultOf (x := 1) hp hmo vo hg (by decide) ?_
    rw [e]
    refine br_t (by decide) (s5_slicesL (fu := 31) hp (by omega) hmo hmw hok (fun fo' fw' hfo hfw => ?_))
    refine ⟨pk_div (d := 2) (by omega) (by omega) (by omega), 0, 0, rowN ow 0 24 (rv n si 1 31 0), rfl, rfl, rfl, rfl, pad0 hp, by omega, rep_cpy ho (fun j hj => by rw [Nat.zero_add]; exact hrow j hj), hfw, fun s hs => (hfo s hs).trans (congrArg nI (own_row (g := 0) s hs).symm), rowN_all (P := (· < 6)) vo (fun j hj => rv_lt (t := 1) (by omega) hok (by omega) (by omega) j hj)⟩
  · rw [e]
    refine br_f (nI_n6 hk) ?_
    show wp_X5_slices (nI n) (nI g) fm mo mw _
    refine s5_faultOf (x := 1) hp hmo vo hg (by decide) ?_
    rw [e]
    exact br_f (nI_pos hk) ⟨rfl, n, g, ow, rfl, rfl, rfl, rfl, hp, hg, ho, hmw, hmo, vo⟩
