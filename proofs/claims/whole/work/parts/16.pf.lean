/-! the pad's fault -/
def ltv (t c : Nat) : Nat := if t = 0 then uncde c else unltr c
def ltB (t c : Nat) : Bool := if t = 0 then decide (uncde c < 5) else decide (unltr c < 6)
def dgv (n : Nat) (si : Nat → Nat) (k : Nat) : Nat := if k < n ∧ 49 ≤ si k ∧ si k ≤ 57 then si k - 48 else 0
theorem dgv_le (n : Nat) (si : Nat → Nat) (k : Nat) : dgv n si k ≤ 9 := by unfold dgv; split <;> omega
/-- where the runs go wrong -/
def flt (n : Nat) (si : Nat → Nat) (t : Nat) : Nat → Nat → Nat → Int32
  | 0, _, _ => 0
  | f + 1, r, i => if n ≤ i then (if r = 0 then -6 else nI n) else if r = 0 then nI i else if ltB t (si i) then (if dgv n si (i + 1) = 0 then nI (i + 1) else if dgv n si (i + 1) ≤ r then flt n si t f (r - dgv n si (i + 1)) (i + 2) else nI (i + 1)) else nI i
theorem s_letter {n t k : Nat} {f fm : Nat → Int32} {si : Nat → Nat} (hp : padR n f fm si) (ht : t < 2) (hk : k < n) {K : Int32 → Prop} (hK : K (if ltB t (si k) then nI (ltv t (si k)) else -1)) : wp_X3_letterAt (nI n) f (nI k) t K := by
  have hn := hp.1
  have h1 := hp.2 k hk
  refine br_f (nI_ge hk (by omega)) ⟨k, rfl, by omega, nm_r h1.1 ?_⟩
  rcases (show t = 0 ∨ t = 1 by omega) with rfl | rfl
  · refine s_idxS (by omega) ?_
    by_cases z : uncde (si k) < 5 <;> simp [ltB, ltv, z] at hK ⊢ <;> exact hK
  · refine s_idxL (by omega) ?_
    by_cases z : unltr (si k) < 6 <;> simp [ltB, ltv, z] at hK ⊢ <;> exact hK
theorem s_letter_o {n t k : Nat} {f : Nat → Int32} (hn : n ≤ 60) (hk : n ≤ k) (hk2 : k < 100) {K : Int32 → Prop} (hK : K (-1)) : wp_X3_letterAt (nI n) f (nI k) t K := br_t (nI_le hk (by omega)) hK
theorem s_digit {n k : Nat} {f fm : Nat → Int32} {si : Nat → Nat} (hp : padR n f fm si) (hk : k < 100) {K : Int32 → Prop} (hK : K (nI (dgv n si k))) : wp_X3_digitAt (nI n) f (nI k) K := by
  have hn := hp.1
  refine pk_le n k (fun z => ?_) (fun z => ?_) rfl rfl (by omega) (by omega)
  · rw [dgv, if_neg (by omega)] at hK
    exact br_t (by decide) hK
  · have h1 := hp.2 k z
    refine ⟨k, rfl, by omega, ?_⟩
    rw [h1.1]
    by_cases a : si k < 48
    · rw [dgv, if_neg (by omega)] at hK
      refine br_t ?_ hK
      rw [lit_n 48, lit_n 1, Int32.lt_iff_toInt_lt, pk_sub_toInt (by omega) (by omega), nI_toInt (by omega)]; omega
    · rw [lit_n 48, pk_sub (by omega)]
      refine pk_lt (si k - 48) 1 (fun y => ?_) (fun y => pk_lt 9 (si k - 48) (fun x => ?_) (fun x => ?_) rfl rfl (by omega) (by omega)) rfl rfl (by omega) (by omega)
      · rw [dgv, if_neg (by omega)] at hK; exact hK
      · rw [dgv, if_neg (by omega)] at hK; exact hK
      · rw [dgv, if_pos (by omega)] at hK; exact hK
theorem s_faultOfRuns {n t i r fu : Nat} {f fm : Nat → Int32} {si : Nat → Nat} (hp : padR n f fm si) (ht : t < 2) (hi : i ≤ n) (hf : n < i + 2 * fu) (hr : r ≤ 24) {K : Int32 → Prop} (hK : K (flt n si t fu r i)) : wp_X3_faultOfRuns (nI n) f t (nI i) (nI r) K := by
  have hn := hp.1
  refine lpW2_inv (fun a b => ∃ r i fu, a = nI r ∧ b = nI i ∧ i ≤ n ∧ n < i + 2 * fu ∧ r ≤ 24 ∧ K (flt n si t fu r i)) (fun a b => 61 - b.toInt.toNat) ?_ _ _ ⟨r, i, fu, rfl, rfl, hi, hf, hr, hK⟩
  rintro _ _ ⟨r, i, fu, rfl, rfl, hi, hf, hr, hK⟩
  obtain ⟨fu, rfl⟩ : ∃ m, fu = m + 1 := ⟨fu - 1, by omega⟩
  rw [flt] at hK
  refine pk_le n i (fun z => ?_) (fun z => ?_) rfl rfl (by omega) (by omega)
  · rw [if_pos z] at hK
    refine pk_ne r 0 (fun y => ?_) (fun y => ?_) rfl rfl (by omega) (by omega)
    · rw [if_neg y] at hK; exact hK
    · rw [if_pos y] at hK; exact hK
  rw [if_neg (by omega)] at hK
  refine pk_eq r 0 (fun y => ?_) (fun y => ?_) rfl rfl (by omega) (by omega)
  · rw [if_pos y] at hK; exact hK
  rw [if_neg y] at hK
  refine s_letter hp ht z ?_
  by_cases hl : ltB t (si i)
  · rw [if_pos hl] at hK ⊢
    have hlv : ltv t (si i) ≤ 6 := by unfold ltv; split; have := uncde_le (si i); omega; exact unltr_le _
    refine br_t (nI_pos' (by omega)) (nm_r (nI_1 i) (s_digit hp (by omega) ?_))
    have hd := dgv_le n si (i + 1)
    refine pk_eq (dgv n si (i + 1)) 0 (fun x => ?_) (fun x => ?_) rfl rfl (by omega) (by omega)
    · rw [if_pos x] at hK; rw [nI_1]; exact hK
    rw [if_neg x] at hK
    refine pk_le (dgv n si (i + 1)) r (fun w => ?_) (fun w => ?_) rfl rfl (by omega) (by omega)
    · rw [if_pos w] at hK
      have hi1 : i + 1 < n := by unfold dgv at x; split at x; omega; omega
      refine nm_r (pk_sub w) (nm_r (e' := nI (i + 2)) (by rw [lit_n 2, nI_add]) ⟨_, ?_, ⟨r - dgv n si (i + 1), i + 2, fu, rfl, rfl, by omega, by omega, by omega, hK⟩, rfl⟩)
      rw [nI_toInt (by omega), nI_toInt (by omega)]; omega
    · rw [if_neg (by omega)] at hK; rw [nI_1]; exact hK
  · rw [if_neg hl] at hK ⊢
    exact br_f (by decide) hK
theorem s5_isLetter {x : Nat} {c : Nat} (hx : x < 3) (hc : c < 128) {K : Int32 → Prop} (hK : K (bI (ltB x c))) : wp_X5_isLetter (nI x) (nI c) K := by
  refine pk_ne x 0 (fun n0 => ?_) (fun e => ?_) rfl rfl (by omega) (by omega)
  · by_cases a : 97 ≤ c ∧ c ≤ 102
    · have e : ltB x c = true := by unfold ltB unltr; rw [if_neg n0]; first | exact decide_eq_true (by split <;> omega) | exact decide_eq_false (by split <;> omega)
      rw [e] at hK
      exact s5_in_t 97 102 a.1 a.2 (by decide) ⟨rfl, hK⟩
    · have e : ltB x c = false := by unfold ltB unltr; rw [if_neg n0]; first | exact decide_eq_true (by split <;> omega) | exact decide_eq_false (by split <;> omega)
      rw [e] at hK
      exact s5_in_o 97 102 (by omega) (by omega) (by decide) (by decide) ⟨rfl, hK⟩
  · subst e
    by_cases a : uncde c < 5
    · have e : ltB 0 c = true := by simp [ltB, a]
      rw [e] at hK
      rw [← cde_uncde a]
      exact s5_sortOf a (br_f (nI_pos (by omega)) hK)
    · have e : ltB 0 c = false := by simp [ltB, a]
      rw [e] at hK
      refine s5_sort_f (fun q hq z => a ?_) (br_t (by decide) hK)
      have := cde_lt q
      rw [(nI_eq (by omega) (by omega)).mp z, uncde_cde q hq]; exact hq
theorem s5_runs {n x t st r fu : Nat} {f fm : Nat → Int32} {si : Nat → Nat} (hp : padR n f fm si) (hx : x < 3) (hxt : ∀ c, ltB x c = ltB t c) (hi : st ≤ n) (hf : n < st + 2 * fu) (hr : r ≤ 24) {K : Int32 → Prop} (hK : K (flt n si t fu r st)) : lpW2 (wb_X5_faultOf_75 (nI n) fm (nI x) (nI st) K) (nI r) (nI st) := by
  have hn := hp.1
  refine lpW2_inv (fun a b => (∃ r j fu, a = nI r ∧ b = nI (st + 2 * j) ∧ st + 2 * j ≤ n ∧ n < st + 2 * j + 2 * fu ∧ r ≤ 24 ∧ K (flt n si t fu r (st + 2 * j))) ∨ (∃ r j fu, a = nI r ∧ b = nI (st + 2 * j + 1) ∧ st + 2 * j + 1 ≤ n ∧ n < st + 2 * j + 2 + 2 * fu ∧ 0 < r ∧ r ≤ 24 ∧ K (if dgv n si (st + 2 * j + 1) = 0 then nI (st + 2 * j + 1) else if dgv n si (st + 2 * j + 1) ≤ r then flt n si t fu (r - dgv n si (st + 2 * j + 1)) (st + 2 * j + 2) else nI (st + 2 * j + 1)))) (fun a b => 61 - b.toInt.toNat) ?_ _ _ (Or.inl ⟨r, 0, fu, rfl, rfl, hi, hf, hr, hK⟩)
  rintro _ _ (⟨r, j, fu, rfl, rfl, hi, hf, hr, hK⟩ | ⟨r, j, fu, rfl, rfl, hi, hf, h0, hr, hK⟩)
  · obtain ⟨fu, rfl⟩ : ∃ m, fu = m + 1 := ⟨fu - 1, by omega⟩
    rw [flt] at hK
    refine pk_le n (st + 2 * j) (fun z => ?_) (fun z => ?_) rfl rfl (by omega) (by omega)
    · rw [if_pos z] at hK
      refine pk_lt 0 r (fun y => ?_) (fun y => ?_) rfl rfl (by omega) (by omega)
      · rw [if_neg (by omega)] at hK; exact hK
      · rw [if_pos (by omega)] at hK
        rw [pk_sub (by omega), lit_n 2, rem_n (by omega) (by decide) (by decide)]
        exact pk_ne ((n - st) % 2) 1 (fun _ => hK) (fun e => by omega) rfl rfl (by omega) (by omega)
    rw [if_neg (by omega)] at hK
    have h1 := hp.2 _ z
    have hev : (st + 2 * j - st) % 2 = 0 := by omega
    refine bn_t (by rw [pk_sub (by omega), lit_n 2, rem_n (by omega) (by decide) (by decide), hev]; rfl) ?_
    refine br_f (by decide) (pk_le r 0 (fun y => ?_) (fun y => ?_) rfl rfl (by omega) (by omega))
    · rw [if_pos (by omega)] at hK; exact bn_t rfl hK
    rw [if_neg (by omega)] at hK
    refine ⟨st + 2 * j, rfl, by omega, nm_r h1.2.1 (s5_isLetter hx (by omega) ?_)⟩
    rw [hxt]
    by_cases hl : ltB t (si (st + 2 * j))
    · rw [if_pos hl] at hK
      rw [hl]
      refine br_f (by decide) (bn_f (by decide) (br_f (by decide) (nm_r (e' := nI r) (pk_sub (b := 0) (by omega)) (nm_r (nI_1 _) ⟨_, ?_, Or.inr ⟨r, j, fu, rfl, rfl, by omega, by omega, y, hr, hK⟩, rfl⟩))))
      rw [nI_toInt (by omega), nI_toInt (by omega)]; omega
    · rw [if_neg hl] at hK
      rw [Bool.eq_false_iff.mpr hl]
      exact br_t rfl (bn_t rfl hK)
  · refine pk_le n (st + 2 * j + 1) (fun z => ?_) (fun z => ?_) rfl rfl (by omega) (by omega)
    · have e : n = st + 2 * j + 1 := by omega
      rw [if_pos (by rw [dgv, if_neg (by omega)])] at hK
      refine br_t (nI_lt (a := 0) h0 (by omega)) ?_
      rw [e]; exact hK
    have h1 := hp.2 _ z
    have hev : (st + 2 * j + 1 - st) % 2 = 1 := by omega
    refine bn_f (by rw [pk_sub (by omega), lit_n 2, rem_n (by omega) (by decide) (by decide), hev]; decide) ?_
    refine br_t rfl ⟨st + 2 * j + 1, rfl, by omega, nm_r h1.2.1 ?_⟩
    by_cases a : 49 ≤ si (st + 2 * j + 1) ∧ si (st + 2 * j + 1) ≤ 57
    · have ed : dgv n si (st + 2 * j + 1) = si (st + 2 * j + 1) - 48 := by rw [dgv, if_pos ⟨z, a⟩]
      rw [ed, if_neg (by omega)] at hK
      refine s5_in_t 49 57 a.1 a.2 (by decide) (br_f (by decide) ⟨st + 2 * j + 1, rfl, by omega, ?_⟩)
      rw [h1.2.1, lit_n 48, pk_sub (by omega)]
      refine pk_lt r (si (st + 2 * j + 1) - 48) (fun y => ?_) (fun y => ?_) rfl rfl (by omega) (by omega)
      · rw [if_neg (by omega)] at hK
        exact bn_t rfl hK
      · rw [if_pos (by omega)] at hK
        refine bn_f (by decide) (br_t rfl ⟨st + 2 * j + 1, rfl, by omega, nm_r (e' := nI (r - (si (st + 2 * j + 1) - 48))) (by rw [h1.2.1, lit_n 48, pk_sub (by omega), pk_sub y]) (nm_r (nI_1 _) ⟨_, ?_, Or.inl ⟨_, j + 1, fu, rfl, rfl, by omega, by omega, by omega, hK⟩, rfl⟩)⟩)
        rw [nI_toInt (by omega), nI_toInt (by omega)]; omega
    · rw [if_pos (by rw [dgv, if_neg (by omega)])] at hK
      exact s5_in_o 49 57 (by omega) (by omega) (by decide) (by decide) (br_t rfl (bn_t rfl hK))
/-- where the pad goes wrong, read as x -/
def fltA (n : Nat) (si ow : Nat → Nat) (g x : Nat) : Int32 := if x = 0 then flt n si 0 31 24 0 else if x = 1 then flt n si 1 31 24 0 else if n = 0 then 0 else if unltr (si 0) < 6 then (if n = 1 then 1 else if si 1 = 58 then flt n si 1 31 (cntN (fun s => decide (own ow g s = unltr (si 0))) 24) 2 else 1) else 0
theorem s4_faultAs {n g x : Nat} {f fm fo : Nat → Int32} {si ow : Nat → Nat} (hp : padR n f fm si) (ho : rep 504 fo ow) (vo : ∀ k, k < 504 → ow k < 6) (hg : g ≤ 20) (hx : x < 3) {K : Int32 → Prop} (hK : K (fltA n si ow g x)) : wp_X4_faultAs (nI n) f (nI g) fo (nI x) K := by
  have hn := hp.1
  rcases (show x = 0 ∨ x = 1 ∨ x = 2 by omega) with rfl | rfl | rfl
  · exact bn_t rfl (s_faultOfRuns (i := 0) (r := 24) hp (by decide) (by omega) (by omega) (by omega) hK)
  · exact bn_f (by decide) (bn_t rfl (s_faultOfRuns (i := 0) (r := 24) hp (by decide) (by omega) (by omega) (by omega) hK))
  refine bn_f (by decide) (bn_f (by decide) ?_)
  rw [fltA, if_neg (by decide), if_neg (by decide)] at hK
  by_cases h0 : n = 0
  · rw [if_pos h0] at hK
    subst h0
    exact s_letter_o (n := 0) (k := 0) (by omega) (by omega) (by omega) (br_f (by decide) hK)
  rw [if_neg h0] at hK
  refine s_letter (k := 0) hp (by decide) (by omega) ?_
  by_cases hl : unltr (si 0) < 6
  · rw [if_pos hl] at hK
    have e1 : ltB 1 (si 0) = true := by simp [ltB, hl]
    have e2 : ltv 1 (si 0) = unltr (si 0) := rfl
    rw [if_pos e1, e2]
    refine br_t (nI_pos' (by omega)) ?_
    by_cases h1 : n = 1
    · rw [if_pos h1] at hK
      subst h1
      exact br_t (nI_le (a := 1) (b := 1) (by omega) (by omega)) (bn_t rfl hK)
    rw [if_neg h1] at hK
    have h11 := hp.2 1 (by omega)
    refine br_f (nI_ge (a := 1) (b := n) (by omega) (by omega)) ⟨1, rfl, by omega, ?_⟩
    rw [h11.1]
    refine pk_ne (si 1) 58 (fun ne => ?_) (fun e => ?_) rfl rfl (by omega) (by omega)
    · rw [if_neg ne] at hK; exact bn_t rfl hK
    · rw [if_pos e] at hK
      refine bn_f (by decide) (s_sectorsOf ho vo hg (by omega) (s_bits (setOf_lt ow g (unltr (si 0))) ?_))
      rw [cnt_bits]
      have := cntN_le (fun s => decide (own ow g s = unltr (si 0))) 24
      exact s_faultOfRuns (i := 2) hp (by decide) (by omega) (by omega) (by omega) hK
  · rw [if_neg hl] at hK
    have e1 : ¬ ltB 1 (si 0) = true := by simp [ltB, hl]
    rw [if_neg e1]
    exact br_f (by decide) hK
theorem s5_faultOf {n g x : Nat} {f fm fo : Nat → Int32} {si ow : Nat → Nat} (hp : padR n f fm si) (ho : rep 24 fo (own ow g)) (vo : ∀ k, k < 504 → ow k < 6) (hg : g ≤ 20) (hx : x < 3) {K : Int32 → Prop} (hK : K (fltA n si ow g x)) : wp_X5_faultOf (nI n) fm fo (nI x) K := by
  have hn := hp.1
  have vo' : ∀ s, s < 24 → own ow g s < 6 := fun s hs => vo _ (by omega)
  rcases (show x = 0 ∨ x = 1 ∨ x = 2 by omega) with rfl | rfl | rfl
  · exact bn_f (by decide) (s5_runs (t := 0) (st := 0) (r := 24) hp (by decide) (fun _ => rfl) (by omega) (by omega) (by omega) hK)
  · exact bn_f (by decide) (s5_runs (t := 1) (st := 0) (r := 24) hp (by decide) (fun _ => rfl) (by omega) (by omega) (by omega) hK)
  refine bn_t rfl ?_
  rw [fltA, if_neg (by decide), if_neg (by decide)] at hK
  refine pk_eq n 0 (fun h0 => ?_) (fun h0 => ?_) rfl rfl (by omega) (by omega)
  · rw [if_pos h0] at hK; exact hK
  rw [if_neg h0] at hK
  have h00 := hp.2 0 (by omega)
  refine nm_r h00.2.1 ?_
  by_cases hl : unltr (si 0) < 6
  · have hu : 97 ≤ si 0 ∧ si 0 < 103 := by unfold unltr at hl; split at hl; assumption; omega
    have hu2 : unltr (si 0) = si 0 - 97 := by rw [unltr, if_pos hu]
    rw [if_pos hl] at hK
    refine s5_in_t 97 102 hu.1 (by omega) (by decide) (bn_f (by decide) (pk_eq n 1 (fun h1 => ?_) (fun h1 => ?_) rfl rfl (by omega) (by omega)))
    · rw [if_pos h1] at hK; exact hK
    rw [if_neg h1] at hK
    have h11 := hp.2 1 (by omega)
    rw [h11.2.1]
    refine pk_eq (si 1) 58 (fun e => ?_) (fun ne => ?_) rfl rfl (by omega) (by omega)
    · rw [if_pos e] at hK
      refine nm_r (e' := nI (unltr (si 0))) (by rw [h00.2.1, lit_n 97, pk_sub hu.1, hu2]) (s5_sectorsOf ho vo' (by omega) ?_)
      have := cntN_le (fun s => decide (own ow g s = unltr (si 0))) 24
      exact s5_runs (x := 2) (t := 1) (st := 2) hp (by decide) (fun _ => rfl) (by omega) (by omega) (by omega) hK
    · rw [if_neg ne] at hK; exact hK
  · rw [if_neg hl] at hK
    have hu : ¬ (97 ≤ si 0 ∧ si 0 < 103) := fun z => hl (by unfold unltr; rw [if_pos z]; omega)
    exact s5_in_o 97 102 (by omega) (by omega) (by decide) (by decide) (bn_t rfl hK)
theorem p_fault {n g : Nat} {x1 : Int32} {f fm fo mo : Nat → Int32} {si ow : Nat → Nat} (hp : padR n f fm si) (ho : rep 504 fo ow) (hmo : rep 24 mo (own ow g)) (vo : ∀ k, k < 504 → ow k < 6) (hg : g ≤ 20) : wp_X4_fault (nI n) f (nI g) fo x1 (fun r => wp_X5_fault (nI n) fm mo x1 (fun r2 => r = r2)) := by
  rcases pk_ix' x1 3 (by decide) with h | h | ⟨v, hv, rfl⟩
  · exact br_t h (s5_in_f 2 (Or.inl h) (by decide) (br_t rfl rfl))
  · have h0 : ¬ x1 < 0 := fun z => ng_nle z 3 (by decide) h
    have h1 : ¬ x1 ≤ nI 2 := fun z => by
      rw [Int32.le_iff_toInt_le, nI_toInt (by omega)] at h z
      omega
    exact br_f h0 (br_f h1 (s5_in_f 2 (Or.inr h) (by decide) (br_t rfl rfl)))
  · exact br_f (nI_pos (by omega)) (br_t (nI_le (b := 2) (by omega) (by omega)) (s4_faultAs hp ho vo hg hv (s5_in_t 0 2 (by omega) (by omega) (by decide) (br_f (by decide) (s5_faultOf hp hmo vo hg hv rfl)))))
