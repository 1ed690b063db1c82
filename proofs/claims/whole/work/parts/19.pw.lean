/-! will -/
theorem cntN_mono (p : Nat → Bool) (a : Nat) : ∀ b, cntN p a ≤ cntN p (a + b)
  | 0 => Nat.le_refl _
  | b + 1 => by have := cntN_mono p a b; rw [← Nat.add_assoc, cntN]; omega
theorem cnt_lt {p : Nat → Bool} {s n : Nat} (hs : s < n) (h : p s = true) : cntN p s < cntN p n := by
  have h1 := cntN_mono p (s + 1) (n - (s + 1))
  rw [show s + 1 + (n - (s + 1)) = n by omega, cntN, if_pos h] at h1
  omega
theorem fltA2 {n g : Nat} {si ow : Nat → Nat} (hn : n ≤ 60) (h : fltA n si ow g 2 = -6) : 2 ≤ n ∧ unltr (si 0) < 6 ∧ flt n si 1 31 (cntN (fun s => decide (own ow g s = unltr (si 0))) 24) 2 = -6 := by
  rw [fltA, if_neg (by decide), if_neg (by decide)] at h
  split at h
  · exact absurd h (by decide)
  split at h
  · split at h
    · exact absurd h (by decide)
    split at h
    · exact ⟨by omega, by assumption, h⟩
    · exact absurd h (by decide)
  · exact absurd h (by decide)
/-- whose a sector is when x's sectors go one after another as v says -/
def giv (o : Nat → Nat) (x : Nat) (v : Nat → Nat) (s : Nat) : Nat := if o s = x then v (cntN (fun k => decide (o k = x)) s) else o s
theorem p_will {n g : Nat} {f fm row fo mo mw : Nat → Int32} {si ow : Nat → Nat} (hp : padR n f fm si) (ho : rep 504 fo ow) (hmo : rep 24 mo (own ow g)) (hmw : rep 504 mw ow) (vo : ∀ k, k < 504 → ow k < 6) (hg : g ≤ 20) : wp_X4_will (nI n) f row (nI g) fo (fun r c row' g2 fo' => wp_X5_will (nI n) (nI g) fm mo mw (fun r2 c2 g3 mo' mw' => r = r2 ∧ ∃ n' g' ow', c = nI n' ∧ c2 = nI n' ∧ g2 = nI g' ∧ g3 = nI g' ∧ hlE n' g' f fm si ow' fo' mo' mw')) := by
  have hn := hp.1
  by_cases h20 : g = 20
  · subst h20
    refine br_f (nI_nlt (a := 20) (b := 20) (by omega) (by omega)) (bn_t rfl ⟨rfl, n, 20, ow, rfl, rfl, rfl, rfl, hp, hg, ho, hmw, hmo, vo⟩)
  have hg20 : ¬ nI g = 20 := fun z => h20 ((nI_eq (a := g) (b := 20) (by omega) (by omega)).mp z)
  refine br_t (nI_lt (b := 20) (by omega) (by omega)) (s4_faultAs (x := 2) hp ho vo hg (by decide) ?_)
  rcases fltA_v n si ow g 2 hn with e | ⟨k, hk, e⟩
  case inr =>
    rw [e]
    refine br_f (nI_n6 hk) (bn_f hg20 (s5_faultOf (x := 2) hp hmo vo hg (by decide) ?_))
    rw [e]
    exact br_f (nI_pos hk) ⟨rfl, n, g, ow, rfl, rfl, rfl, rfl, hp, hg, ho, hmw, hmo, vo⟩
  obtain ⟨hn2, hx, hok⟩ := fltA2 hn e
  rw [e]
  have e1 : ltB 1 (si 0) = true := decide_eq_true hx
  have e2 := ltr_ltv e1
  have e3 : ltv 1 (si 0) = unltr (si 0) := rfl
  generalize hX : unltr (si 0) = x at *
  have hcn := cntN_le (fun s => decide (own ow g s = x)) 24
  refine br_t rfl (s_letter (k := 0) hp (by decide) (by omega) ?_)
  rw [if_pos e1, e3]
  refine ⟨24 * g, 24 * (g + 1), 24, by rw [lit_n 24, pk_mul, Nat.mul_comm], by rw [nI_1, lit_n 24, pk_mul, Nat.mul_comm], rfl, by omega, by omega, nm_r (nI_1 g) ?_⟩
  have hc0 := rep_cpy (sp := 24 * g) (dp := 24 * (g + 1)) (n := 24) (r := own ow g) ho (fun k hk => ho _ (by omega))
  generalize va_cpy fo fo (24 * g) (24 * (g + 1)) 24 = fo1 at hc0 ⊢
  refine s_readRuns (t := 1) (i0 := 2) (fu := 31) hp (by decide) hn2 (by omega) hcn hok (fun row' hrow => ?_)
  have hv6 := rv_lt (t := 1) (by omega) hok (by omega) hn2
  generalize hV : rv n si 1 31 2 = V at *
  have vg : ∀ s, s < 24 → giv (own ow g) x V s < 6 := fun s hs => by
    unfold giv
    split
    · rename_i a; exact hv6 _ (cnt_lt hs (decide_eq_true a))
    · exact vo _ (by omega)
  refine lpW3_inv (fun a b w => ∃ s, s ≤ 24 ∧ a = nI (cntN (fun k => decide (own ow g k = x)) s) ∧ b = nI s ∧ rep 504 w (rowN ow (24 * (g + 1)) 24 (fun k => if k < s then giv (own ow g) x V k else own ow g k))) (fun a b w => 24 - b.toInt.toNat) ?_ _ _ _ ⟨0, by omega, rfl, rfl, hc0⟩
  rintro _ _ w ⟨s, hs, rfl, rfl, hr⟩
  refine pk_le 24 s (fun z => ?_) (fun z => ?_) rfl rfl (by omega) (by omega)
  · have e24 : s = 24 := by omega
    subst e24
    have hr2 : rep 504 w (rowN ow (24 * (g + 1)) 24 (giv (own ow g) x V)) := fun k hk => by
      rw [hr k hk]
      by_cases v : 24 * (g + 1) ≤ k ∧ k < 24 * (g + 1) + 24
      · rw [rowN_in v, rowN_in v, if_pos (by omega)]
      · rw [rowN_out v, rowN_out v]
    show wp_X5_will (nI n) (nI g) fm mo mw _
    refine bn_f hg20 (s5_faultOf (x := 2) hp hmo vo hg (by decide) ?_)
    rw [e]
    have h0 := hp.2 0 (by omega)
    refine br_t (by decide) (nm_r (e' := nI x) (by rw [h0.2.1, lit_n 97, pk_sub e2.1, e2.2.1, e3]) ?_)
    refine lpW4_inv (fun a b c m => ∃ s i e f', a = nI i ∧ b = nI e ∧ c = nI s ∧ s ≤ 24 ∧ i ≤ n ∧ n < i + 2 * f' ∧ e ≤ cntN (fun k => decide (own ow g k = x)) s ∧ flt n si 1 f' (cntN (fun k => decide (own ow g k = x)) 24 - (cntN (fun k => decide (own ow g k = x)) s - e)) i = -6 ∧ (e = 0 ∨ e < dgv n si (i + 1)) ∧ (∀ j, V (cntN (fun k => decide (own ow g k = x)) s + j) = rv n si 1 f' i (e + j)) ∧ rep 24 m (fun k => if k < s then giv (own ow g) x V k else own ow g k)) (fun a b c m => 24 - c.toInt.toNat) ?_ _ _ _ _ ⟨0, 2, 0, 31, rfl, rfl, rfl, by omega, by omega, by omega, by omega, hok, Or.inl rfl, fun j => by rw [← hV]; rfl, fun k hk => hmo k hk⟩
    rintro _ _ _ m ⟨s, i, ee, f', rfl, rfl, rfl, hs, hi, hf, hee, hok, hd, hval, hm⟩
    refine pk_le 24 s (fun z => ?_) (fun z => ?_) rfl rfl (by omega) (by omega)
    · have hm2 : rep 24 m (giv (own ow g) x V) := fun k hk => by rw [hm k hk]; show nI (if k < s then _ else own ow g k) = _; rw [if_pos (by omega)]
      refine nm_r (nI_1 g) (s5_keep (by omega) hm2 hmw (fun fw' hfw => ?_))
      exact ⟨rfl, 0, g + 1, rowN ow (24 * (g + 1)) 24 (giv (own ow g) x V), rfl, rfl, rfl, rfl, pad0 hp, by omega, hr2, hfw, fun s hs => (hm2 s hs).trans (congrArg nI (own_row s hs).symm), rowN_all (P := (· < 6)) vo vg⟩
    have v6 := vo (24 * g + s) (by omega)
    have hcs := cntN_le (fun k => decide (own ow g k = x)) s
    refine ⟨24 * g + s, by rw [lit_n 24, pk_mul, nI_add], by omega, ?_⟩
    rw [hmw _ (by omega)]
    refine pk_ne (own ow g s) x (fun a => ?_) (fun a => ?_) rfl rfl (by show ow _ < _; omega) (by omega)
    · have ec : cntN (fun k => decide (own ow g k = x)) (s + 1) = cntN (fun k => decide (own ow g k = x)) s := by rw [cntN, if_neg (by simp [a])]; rfl
      refine nm_r (nI_1 s) ⟨_, ?_, ⟨s + 1, i, ee, f', rfl, rfl, rfl, z, hi, hf, by rw [ec]; exact hee, by rw [ec]; exact hok, hd, by rw [ec]; exact hval, fun k hk => ?_⟩, rfl⟩
      · show 24 - (nI (s + 1)).toInt.toNat < _
        rw [nI_toInt (by omega), nI_toInt (by omega)]; omega
      · rw [hm k hk]
        show nI (if k < s then giv (own ow g) x V k else own ow g k) = nI (if k < s + 1 then giv (own ow g) x V k else own ow g k)
        by_cases u : k < s
        · rw [if_pos u, if_pos (by omega)]
        · by_cases u2 : k = s
          · subst u2; rw [if_neg u, if_pos (by omega), giv, if_neg a]
          · rw [if_neg u, if_neg (by omega)]
    have ec : cntN (fun k => decide (own ow g k = x)) (s + 1) = cntN (fun k => decide (own ow g k = x)) s + 1 := by rw [cntN, if_pos (by simp [a])]
    have hlt := cnt_lt (p := fun k => decide (own ow g k = x)) z (decide_eq_true a)
    obtain ⟨f', rfl⟩ : ∃ m, f' = m + 1 := ⟨f' - 1, by omega⟩
    rcases flt_ok (by omega) hok with h | ⟨h1, h2, h3, h4, h5, h6, h7, h8, h9⟩
    · omega
    have g0 := hp.2 i h1
    have g1 := hp.2 (i + 1) h2
    have g2 := ltr_ltv h4
    have hvs := hval 0
    rw [Nat.add_zero, Nat.add_zero, rv, if_pos (by omega)] at hvs
    have hgs : giv (own ow g) x V s = ltv 1 (si i) := by rw [giv, if_pos a]; exact hvs
    have hm' : rep 24 (upd m s (nI (ltv 1 (si i)))) (fun k => if k < s + 1 then giv (own ow g) x V k else own ow g k) := fun k hk => by
      show _ = nI (if k < s + 1 then giv (own ow g) x V k else own ow g k)
      by_cases u2 : k = s
      · subst u2; rw [pk_us, if_pos (by omega), hgs]
      · rw [pk_un u2, hm k hk]
        show nI (if k < s then giv (own ow g) x V k else own ow g k) = _
        by_cases u : k < s
        · rw [if_pos u, if_pos (by omega)]
        · rw [if_neg u, if_neg (by omega)]
    refine ⟨i, rfl, by omega, nm_r (e' := nI (ltv 1 (si i))) (by rw [g0.2.1, lit_n 97, pk_sub g2.1, g2.2.1]) ⟨s, rfl, z, nm_r (nI_1 ee) ⟨i + 1, nI_1 i, by omega, ?_⟩⟩⟩
    rw [g1.2.1, lit_n 48, pk_sub h8, ← h7]
    have hd9 := dgv_le n si (i + 1)
    refine pk_ne (ee + 1) (dgv n si (i + 1)) (fun b => ?_) (fun b => ?_) rfl rfl (by omega) (by omega)
    · refine nm_r (nI_1 s) ⟨_, ?_, ⟨s + 1, i, ee + 1, f' + 1, rfl, rfl, rfl, z, hi, hf, by omega, by rw [ec, show cntN (fun k => decide (own ow g k = x)) s + 1 - (ee + 1) = cntN (fun k => decide (own ow g k = x)) s - ee by omega]; exact hok, by omega, fun j => ?_, hm'⟩, rfl⟩
      · show 24 - (nI (s + 1)).toInt.toNat < _
        rw [nI_toInt (by omega), nI_toInt (by omega)]; omega
      · rw [ec, Nat.add_assoc, hval (1 + j), Nat.add_assoc]
    · refine nm_r (e' := nI (i + 2)) (by rw [lit_n 2, nI_add]) (nm_r (nI_1 s) ⟨_, ?_, ⟨s + 1, i + 2, 0, f', rfl, rfl, rfl, z, by omega, by omega, by omega, ?_, Or.inl rfl, fun j => ?_, hm'⟩, rfl⟩)
      · show 24 - (nI (s + 1)).toInt.toNat < _
        rw [nI_toInt (by omega), nI_toInt (by omega)]; omega
      · rw [ec, show cntN (fun k => decide (own ow g k = x)) 24 - (cntN (fun k => decide (own ow g k = x)) s + 1 - 0) = cntN (fun k => decide (own ow g k = x)) 24 - (cntN (fun k => decide (own ow g k = x)) s - ee) - dgv n si (i + 1) by omega]
        exact h9
      · rw [ec, Nat.add_assoc, hval (1 + j), rv, if_neg (by omega)]
        congr 1; omega
  · have v6 := vo (24 * g + s) (by omega)
    have hcs := cntN_le (fun k => decide (own ow g k = x)) s
    have hw : w (24 * (g + 1) + s) = nI (own ow g s) := by
      rw [hr _ (by omega), rowN_in (by omega), show 24 * (g + 1) + s - 24 * (g + 1) = s by omega, if_neg (by omega)]
    refine ⟨24 * (g + 1) + s, by rw [lit_n 24, pk_mul, nI_add, Nat.mul_comm], by omega, ?_⟩
    rw [hw]
    refine pk_ne (own ow g s) x (fun a => ?_) (fun a => ?_) rfl rfl (by show ow _ < _; omega) (by omega)
    · have ec : cntN (fun k => decide (own ow g k = x)) (s + 1) = cntN (fun k => decide (own ow g k = x)) s := by rw [cntN, if_neg (by simp [a])]; rfl
      refine nm_r (nI_1 s) ⟨_, ?_, ⟨s + 1, z, by rw [ec], rfl, fun k hk => ?_⟩, rfl⟩
      · show 24 - (nI (s + 1)).toInt.toNat < _
        rw [nI_toInt (by omega), nI_toInt (by omega)]; omega
      · rw [hr k hk]
        by_cases v : 24 * (g + 1) ≤ k ∧ k < 24 * (g + 1) + 24
        · rw [rowN_in v, rowN_in v]
          by_cases e : k - 24 * (g + 1) = s
          · rw [if_neg (by omega), if_pos (by omega), e, giv, if_neg a]
          · by_cases u : k - 24 * (g + 1) < s
            · rw [if_pos u, if_pos (by omega)]
            · rw [if_neg u, if_neg (by omega)]
        · rw [rowN_out v, rowN_out v]
    · have ec : cntN (fun k => decide (own ow g k = x)) (s + 1) = cntN (fun k => decide (own ow g k = x)) s + 1 := by rw [cntN, if_pos (by simp [a])]
      have hlt := cnt_lt (p := fun k => decide (own ow g k = x)) z (decide_eq_true a)
      refine ⟨cntN (fun k => decide (own ow g k = x)) s, rfl, by omega, nm_r (hrow _ hlt) ⟨24 * (g + 1) + s, by rw [lit_n 24, pk_mul, nI_add, Nat.mul_comm], by omega, nm_r (nI_1 _) (nm_r (nI_1 s) ⟨_, ?_, ⟨s + 1, z, by rw [ec], rfl, fun k hk => ?_⟩, rfl⟩)⟩⟩
      · show 24 - (nI (s + 1)).toInt.toNat < _
        rw [nI_toInt (by omega), nI_toInt (by omega)]; omega
      · by_cases e : k = 24 * (g + 1) + s
        · subst e
          rw [pk_us, rowN_in (by omega), show 24 * (g + 1) + s - 24 * (g + 1) = s by omega, if_pos (by omega), giv, if_pos a]
        · rw [pk_un e, hr k hk]
          by_cases v : 24 * (g + 1) ≤ k ∧ k < 24 * (g + 1) + 24
          · rw [rowN_in v, rowN_in v]
            by_cases u : k - 24 * (g + 1) < s
            · rw [if_pos u, if_pos (by omega)]
            · rw [if_neg u, if_neg (by omega)]
          · rw [rowN_out v, rowN_out v]
