/-! more pairs: envies, worth, toll, right, told, say, wipe -/
theorem ng_lt {x : Int32} (h : x < 0) (n : Nat) (hn : n < 2 ^ 31) : x < nI n := by
  rw [Int32.lt_iff_toInt_lt] at h ⊢
  rw [nI_toInt hn]
  rw [show (0 : Int32).toInt = 0 by decide] at h
  omega
theorem ng_ne {x : Int32} (h : x < 0) (n : Nat) (hn : n < 2 ^ 31) : ¬ x = nI n := fun e => by rw [e] at h; exact nI_pos hn h
theorem ng_nle {x : Int32} (h : x < 0) (n : Nat) (hn : n < 2 ^ 31) : ¬ nI n ≤ x := fun z => by
  have h2 := ng_lt h n hn
  rw [Int32.lt_iff_toInt_lt] at h2
  rw [Int32.le_iff_toInt_le] at z
  omega
theorem ng_le {x : Int32} (h : x < 0) (n : Nat) (hn : n < 2 ^ 31) : x ≤ nI n := by
  have h2 := ng_lt h n hn
  rw [Int32.lt_iff_toInt_lt] at h2
  rw [Int32.le_iff_toInt_le]
  omega
/-- a number, or below zero -/
theorem pk_all (x : Int32) : x < 0 ∨ ∃ v, v < 2 ^ 31 ∧ x = nI v := by
  by_cases h : x < 0
  · exact Or.inl h
  · obtain ⟨j, hj, e⟩ := nI_of h; exact Or.inr ⟨j, hj, e⟩
/-- the sectors of an heir -/
abbrev setOf (ow : Nat → Nat) (g h : Nat) : Nat := bitsN (fun s => decide (own ow g s = h)) 24
theorem setOf_lt (ow : Nat → Nat) (g h : Nat) : setOf ow g h < 2 ^ 24 := bitsN_lt _ 24
theorem setOf31 (ow : Nat → Nat) (g h : Nat) : setOf ow g h < 2 ^ 31 := Nat.lt_trans (setOf_lt ow g h) (by decide)
/-- whom an heir envies -/
abbrev envB (so wo ow : Nat → Nat) (g h : Nat) (j : Nat) : Bool := decide (shr so wo h (setOf ow g h) < shr so wo h (setOf ow g j))
theorem s4_envies {g h : Nat} {so ow wo : Nat → Nat} {fs fo fw : Nat → Int32} (hs : rep 120 fs so) (ho : rep 504 fo ow) (hw : rep 30 fw wo) (vs : ∀ k, k < 120 → so k < 5) (vo : ∀ k, k < 504 → ow k < 6) (vw : ∀ k, k < 30 → wo k ≤ 99) (hg : g ≤ 20) (hh : h < 6) {K : Int32 → Prop} (hK : K (nI (bitsN (envB so wo ow g h) 6))) : wp_X4_envies (nI g) fs fo fw (nI h) K := by
  refine s4_isHeir_t hh (bn_f (by decide) (s_sectorsOf ho vo hg (by omega) (s_shareOf hs hw vs hh (setOf31 ow g h) ?_)))
  refine lpW2_for (fun k => nI (bitsN (envB so wo ow g h) k)) (fun k => nI k) 6 (fun k hk L hL => ?_) (fun L => ?_)
  · refine pk_le 6 k (fun z => by omega) (fun _ => ?_)
    refine s_sectorsOf ho vo hg (by omega) (s_shareOf hs hw vs hh (setOf31 ow g k) ?_)
    have b1 := shr_le (set := setOf ow g k) vs vw hh
    have b2 := shr_le (set := setOf ow g h) vs vw hh
    refine pk_le (shr so wo h (setOf ow g k)) (shr so wo h (setOf ow g h)) (fun he => ?_) (fun hne => ?_) rfl rfl (by omega) (by omega)
    · refine nm_r (nI_1 k) ?_
      rw [bitsN, if_neg (by simp [envB]; omega)] at hL
      exact hL
    · refine nm_r (or_bit (bitsN_lt _ k) (by omega)) (nm_r (nI_1 k) ?_)
      rw [bitsN, if_pos (by simp [envB]; omega)] at hL
      exact hL
  · exact pk_le 6 6 (fun _ => hK) (fun z => by omega)
theorem s5_envies {g h : Nat} {so ow wo : Nat → Nat} {fs fo fw : Nat → Int32} (hs : rep 120 fs (fun k => cde (so k))) (ho : rep 24 fo (own ow g)) (hw : rep 30 fw wo) (vs : ∀ k, k < 120 → so k < 5) (vo : ∀ k, k < 504 → ow k < 6) (vw : ∀ k, k < 30 → wo k ≤ 99) (hg : g ≤ 20) (hh : h < 6) {K : Int32 → Prop} (hK : K (nI (bitsN (envB so wo ow g h) 6))) : wp_X5_envies fs fo fw (nI h) K := by
  have vo' : ∀ s, s < 24 → own ow g s < 6 := fun s hs => vo _ (by omega)
  refine s5_isHeir_t hh (bn_f (by decide) (s5_sectors ho vo' (by omega) (s5_shareOf hs hw vs hh (setOf31 ow g h) ?_)))
  refine lpW2_for (fun k => nI (bitsN (envB so wo ow g h) k)) (fun k => nI k) 6 (fun k hk L hL => ?_) (fun L => ?_)
  · refine pk_le 6 k (fun z => by omega) (fun _ => ?_)
    refine pk_eq k h (fun e => ?_) (fun _ => ?_) rfl rfl (by omega) (by omega)
    · subst e
      refine nm_r (nI_o0 _) (nm_r (nI_1 k) ?_)
      rw [bitsN, if_neg (by simp [envB])] at hL
      exact hL
    refine s5_sectors ho vo' (by omega) (s5_shareOf hs hw vs hh (setOf31 ow g k) ?_)
    have b1 := shr_le (set := setOf ow g k) vs vw hh
    have b2 := shr_le (set := setOf ow g h) vs vw hh
    refine pk_le (shr so wo h (setOf ow g k)) (shr so wo h (setOf ow g h)) (fun he => ?_) (fun hne => ?_) rfl rfl (by omega) (by omega)
    · refine nm_r (nI_o0 _) (nm_r (nI_1 k) ?_)
      rw [bitsN, if_neg (by simp [envB]; omega)] at hL
      exact hL
    · refine nm_r (or_bit (bitsN_lt _ k) (by omega)) (nm_r (nI_1 k) ?_)
      rw [bitsN, if_pos (by simp [envB]; omega)] at hL
      exact hL
  · exact pk_le 6 6 (fun _ => hK) (fun z => by omega)
theorem p_envies {g : Nat} {so ow wo : Nat → Nat} {fs fo fw ms mo mw : Nat → Int32} {x1 : Int32} (hs : rep 120 fs so) (hms : rep 120 ms (fun k => cde (so k))) (ho : rep 504 fo ow) (hmo : rep 24 mo (own ow g)) (hw : rep 30 fw wo) (hmw : rep 30 mw wo) (vs : ∀ k, k < 120 → so k < 5) (vo : ∀ k, k < 504 → ow k < 6) (vw : ∀ k, k < 30 → wo k ≤ 99) (hg : g ≤ 20) : wp_X4_envies (nI g) fs fo fw x1 (fun r => wp_X5_envies ms mo mw x1 (fun r2 => r = r2)) := by
  have hout : x1 < 0 ∨ nI 6 ≤ x1 → wp_X4_envies (nI g) fs fo fw x1 (fun r => wp_X5_envies ms mo mw x1 (fun r2 => r = r2)) := fun h => s4_isHeir_f h (bn_t rfl (s5_isHeir_f h (bn_t rfl rfl)))
  rcases pk_ix' x1 6 (by decide) with h | h | ⟨j, hj, rfl⟩
  · exact hout (Or.inl h)
  · exact hout (Or.inr h)
  exact s4_envies hs ho hw vs vo vw hg hj (s5_envies hms hmo hmw vs vo vw hg hj rfl)
/-! the sort of a code -/
theorem s4_sort_t {q : Nat} (hq : q < 5) {K : Int32 → Prop} (hK : K (nI q)) : wp_X4_sortOfCode (nI (cde q)) K := by
  have h1 := cde_lt q
  have h2 : 33 ≤ cde q ∧ cde q ≤ 126 := by rcases (show q = 0 ∨ q = 1 ∨ q = 2 ∨ q = 3 ∨ q = 4 by omega) with rfl | rfl | rfl | rfl | rfl <;> decide
  refine pk_lt (cde q) 33 (fun z => by omega) (fun _ => pk_le (cde q) 126 (fun _ => nm_r (c16 _ h1) (s_idxS h1 ?_)) (fun z => by omega) rfl rfl (by omega) (by omega)) rfl rfl (by omega) (by omega)
  rw [uncde_cde q hq, if_pos hq]; exact hK
theorem s4_sort_f {x : Int32} (h : ∀ q, q < 5 → ¬ x = nI (cde q)) {K : Int32 → Prop} (hK : K (-1)) : wp_X4_sortOfCode x K := by
  rcases pk_all x with h0 | ⟨c, hc, rfl⟩
  · exact br_t (ng_lt h0 33 (by decide)) hK
  refine pk_lt c 33 (fun _ => hK) (fun _ => pk_le c 126 (fun h2 => nm_r (c16 _ (by omega)) (s_idxS (by omega) ?_)) (fun _ => hK) rfl rfl hc (by omega)) rfl rfl hc (by omega)
  rw [if_neg (fun z => h _ z (by rw [cde_uncde z]))]; exact hK
theorem s5_sort_f {x : Int32} (h : ∀ q, q < 5 → ¬ x = nI (cde q)) {K : Int32 → Prop} (hK : K (-6)) : wp_X5_sortOf x K :=
  ⟨fun _ => hK, fun z => absurd z (h 2 (by decide)), fun _ => hK, fun _ => hK, fun _ => hK, fun _ => hK, fun z => absurd z (h 3 (by decide)), fun z => absurd z (h 4 (by decide)), fun _ => hK, fun _ => hK, fun z => absurd z (h 0 (by decide)), fun z => absurd z (h 1 (by decide))⟩
theorem sort_or (x : Int32) : (∃ q, q < 5 ∧ x = nI (cde q)) ∨ ∀ q, q < 5 → ¬ x = nI (cde q) := by
  by_cases h : ∃ q, q < 5 ∧ x = nI (cde q)
  · exact Or.inl h
  · exact Or.inr (fun q hq e => h ⟨q, hq, e⟩)
/-- one number set -/
def updN (a : Nat → Nat) (k v : Nat) : Nat → Nat := fun j => if j = k then v else a j
theorem updN_s (a : Nat → Nat) (k v : Nat) : updN a k v k = v := if_pos rfl
theorem updN_n {a : Nat → Nat} {k v j : Nat} (h : j ≠ k) : updN a k v j = a j := if_neg h
theorem rep_upd {n k v : Nat} {f : Nat → Int32} {a : Nat → Nat} (h : rep n f a) : rep n (upd f k (nI v)) (updN a k v) := fun j hj => by
  by_cases e : j = k
  · subst e; rw [pk_us, updN_s]
  · rw [pk_un e, updN_n e, h j hj]
theorem updN_all {P : Nat → Prop} {n k v : Nat} {a : Nat → Nat} (h : ∀ j, j < n → P (a j)) (hv : P v) : ∀ j, j < n → P (updN a k v j) := fun j hj => by
  by_cases e : j = k
  · subst e; rw [updN_s]; exact hv
  · rw [updN_n e]; exact h j hj
theorem p_worth {wo : Nat → Nat} {f fm : Nat → Int32} {n1 n2 x1 x2 x3 : Int32} (hf : rep 30 f wo) (hm : rep 30 fm wo) (hv : ∀ k, k < 30 → wo k ≤ 99) : wp_X4_worth f n1 n2 x1 x2 x3 (fun r f' a b => wp_X5_worth fm x1 x2 x3 (fun r2 fm' => r = r2 ∧ ∃ wo', rep 30 f' wo' ∧ rep 30 fm' wo' ∧ (∀ k, k < 30 → wo' k ≤ 99) ∧ ((wo' = wo ∧ a = n1 ∧ b = n2) ∨ (a = 0 ∧ b = 0)))) := by
  have fin : ∀ c : Int32, c = c ∧ ∃ wo', rep 30 f wo' ∧ rep 30 fm wo' ∧ (∀ k, k < 30 → wo' k ≤ 99) ∧ ((wo' = wo ∧ n1 = n1 ∧ n2 = n2) ∨ (n1 = 0 ∧ n2 = 0)) := fun c => ⟨rfl, wo, hf, hm, hv, Or.inl ⟨rfl, rfl, rfl⟩⟩
  rcases pk_ix' x1 6 (by decide) with h | h | ⟨j, hj, rfl⟩
  · exact s4_isHeir_f (Or.inl h) (bn_t rfl (s5_isHeir_f (Or.inl h) (bn_t rfl (fin _))))
  · exact s4_isHeir_f (Or.inr h) (bn_t rfl (s5_isHeir_f (Or.inr h) (bn_t rfl (fin _))))
  refine s4_isHeir_t hj (bn_f (by decide) ?_)
  rcases sort_or x2 with ⟨q, hq, rfl⟩ | h
  case inr => exact s4_sort_f h (br_t (by decide) (s5_isHeir_t hj (bn_f (by decide) (s5_sort_f h (br_t (by decide) (fin _))))))
  refine s4_sort_t hq (br_f (nI_pos (by omega)) ?_)
  rcases pk_ix' x3 100 (by decide) with h | h | ⟨v, hw, rfl⟩
  · exact br_t h (s5_isHeir_t hj (bn_f (by decide) (s5_sortOf hq (br_f (nI_pos (by omega)) (s5_in_f 99 (Or.inl h) (by decide) (bn_t rfl (fin _)))))))
  · have h0 : ¬ x3 < 0 := fun z => ng_nle z 100 (by decide) h
    have h1 : ¬ x3 ≤ nI 99 := fun z => by
      rw [Int32.le_iff_toInt_le, nI_toInt (by omega)] at h z
      omega
    exact br_f h0 (br_f h1 (s5_isHeir_t hj (bn_f (by decide) (s5_sortOf hq (br_f (nI_pos (by omega)) (s5_in_f 99 (Or.inr h) (by decide) (bn_t rfl (fin _))))))))
  have hk : 5 * j + q < 30 := by omega
  refine br_f (nI_pos (by omega)) (br_t (nI_le (b := 99) (by omega) (by omega)) ⟨5 * j + q, by rw [lit_n 5, pk_mul, nI_add, Nat.mul_comm], hk, nm_r (hf _ hk) ⟨5 * j + q, by rw [lit_n 5, pk_mul, nI_add, Nat.mul_comm], hk, ?_⟩⟩)
  refine s5_isHeir_t hj (bn_f (by decide) (s5_sortOf hq (br_f (nI_pos (by omega)) (s5_in_t 0 99 (by omega) (by omega) (by decide) (bn_f (by decide) (s5_sortOf hq ⟨5 * j + q, by rw [lit_n 5, pk_mul, nI_add], hk, nm_r (hm _ hk) (s5_sortOf hq ⟨5 * j + q, by rw [lit_n 5, pk_mul, nI_add], hk, ?_⟩)⟩))))))
  exact ⟨rfl, updN wo (5 * j + q) v, rep_upd hf, rep_upd hm, updN_all (P := (· ≤ 99)) hv (by omega : v ≤ 99), Or.inr ⟨rfl, rfl⟩⟩
theorem p_toll {t : Nat} {x1 : Int32} (ht : t ≤ 99) : wp_X4_toll (nI t) x1 (fun r a => wp_X5_toll (nI t) x1 (fun r2 b => r = r2 ∧ ∃ t', t' ≤ 99 ∧ a = nI t' ∧ b = nI t')) := by
  rcases pk_ix' x1 100 (by decide) with h | h | ⟨v, hv, rfl⟩
  · exact br_t h (s5_in_f 99 (Or.inl h) (by decide) (bn_t rfl ⟨rfl, t, ht, rfl, rfl⟩))
  · have h0 : ¬ x1 < 0 := fun z => ng_nle z 100 (by decide) h
    have h1 : ¬ x1 ≤ nI 99 := fun z => by
      rw [Int32.le_iff_toInt_le, nI_toInt (by omega)] at h z
      omega
    exact br_f h0 (br_f h1 (s5_in_f 99 (Or.inr h) (by decide) (bn_t rfl ⟨rfl, t, ht, rfl, rfl⟩)))
  · exact br_f (nI_pos (by omega)) (br_t (nI_le (b := 99) (by omega) (by omega)) (s5_in_t 0 99 (by omega) (by omega) (by decide) (bn_f (by decide) ⟨rfl, v, by omega, rfl, rfl⟩)))
/-- one heir's bit taken away -/
def clr (a j : Nat) : Nat := a - if a.testBit j then 2 ^ j else 0
theorem clr_e : ∀ a, a < 64 → ∀ j, j < 6 → nI a &&& (((1 : Int32) <<< (nI j &&& 31)) ^^^ (-1 : Int32)) = nI (clr a j) ∧ clr a j < 64 := by decide +kernel
theorem set_e : ∀ a, a < 64 → ∀ j, j < 6 → nI a ||| ((1 : Int32) <<< (nI j &&& 31)) = nI (a ||| 2 ^ j) ∧ a ||| 2 ^ j < 64 := by decide +kernel
theorem s4_two_a {x1 x2 : Int32} (h : x1 < 0 ∨ nI 6 ≤ x1) {K : Int32 → Prop} (hK : K 0) : wp_X4_areTwoHeirs x1 x2 K := s4_isHeir_f h (br_t rfl hK)
theorem s4_two_b {j : Nat} {x2 : Int32} (hj : j < 6) (h : x2 < 0 ∨ nI 6 ≤ x2) {K : Int32 → Prop} (hK : K 0) : wp_X4_areTwoHeirs (nI j) x2 K := s4_isHeir_t hj (br_f (by decide) (s4_isHeir_f h (br_t rfl hK)))
theorem s4_two {j q : Nat} (hj : j < 6) (hq : q < 6) {K : Int32 → Prop} (h0 : j = q → K 0) (h1 : j ≠ q → K 1) : wp_X4_areTwoHeirs (nI j) (nI q) K := s4_isHeir_t hj (br_f (by decide) (s4_isHeir_t hq (br_f (by decide) (pk_eq j q h0 h1 rfl rfl (by omega) (by omega)))))
theorem p_right {ga : Nat → Nat} {f fm : Nat → Int32} {x1 x2 x3 : Int32} (hf : rep 6 f ga) (hm : rep 6 fm ga) (hv : ∀ k, k < 6 → ga k < 64) : wp_X4_right f x1 x2 x3 (fun r f' => wp_X5_right fm x1 x2 x3 (fun r2 fm' => r = r2 ∧ ∃ ga', rep 6 f' ga' ∧ rep 6 fm' ga' ∧ (∀ k, k < 6 → ga' k < 64))) := by
  have fin : ∀ c : Int32, c = c ∧ ∃ ga', rep 6 f ga' ∧ rep 6 fm ga' ∧ (∀ k, k < 6 → ga' k < 64) := fun c => ⟨rfl, ga, hf, hm, hv⟩
  rcases pk_ix' x1 6 (by decide) with h | h | ⟨j, hj, rfl⟩
  · exact s4_two_a (Or.inl h) (bn_t rfl (s5_isHeir_f (Or.inl h) (br_t rfl (fin _))))
  · exact s4_two_a (Or.inr h) (bn_t rfl (s5_isHeir_f (Or.inr h) (br_t rfl (fin _))))
  rcases pk_ix' x2 6 (by decide) with h | h | ⟨q, hq, rfl⟩
  · exact s4_two_b hj (Or.inl h) (bn_t rfl (s5_isHeir_t hj (br_f (by decide) (s5_isHeir_f (Or.inl h) (br_t rfl (fin _))))))
  · exact s4_two_b hj (Or.inr h) (bn_t rfl (s5_isHeir_t hj (br_f (by decide) (s5_isHeir_f (Or.inr h) (br_t rfl (fin _))))))
  refine s4_two hj hq (fun e => bn_t rfl (s5_isHeir_t hj (br_f (by decide) (s5_isHeir_t hq (br_f (by decide) (bn_t (by rw [e]) (fin _))))))) (fun ne => bn_f (by decide) ?_)
  have hne : ¬ nI j = nI q := fun z => ne ((nI_eq (by omega) (by omega)).mp z)
  have hgj := hv j hj
  refine s_hasRight hf hv hq hj (nm_r rfl ?_)
  by_cases h3 : x3 = 0
  · refine br_t h3 ⟨j, rfl, hj, nm_r (e' := nI (clr (ga j) q)) (by rw [hf j hj]; exact (clr_e _ hgj q hq).1) ⟨j, rfl, hj, bI_n _, ?_⟩⟩
    have R := rep_upd (k := j) (v := clr (ga j) q) hf
    have R2 := rep_upd (k := j) (v := clr (ga j) q) hm
    have V := updN_all (P := (· < 64)) (k := j) hv (clr_e _ hgj q hq).2
    cases hb : (ga j).testBit q
    · refine br_t rfl (s5_isHeir_t hj (br_f (by decide) (s5_isHeir_t hq (br_f (by decide) (bn_f hne ⟨j, rfl, hj, nm_r (e' := 0) (by rw [hm j hj, shr_bit (by omega) (by omega), hb]; rfl) (br_t h3 ⟨j, rfl, hj, nm_r (e' := nI (clr (ga j) q)) (by rw [hm j hj]; exact (clr_e _ hgj q hq).1) ⟨j, rfl, hj, ?_⟩⟩)⟩)))))
      exact ⟨rfl, _, R, R2, V⟩
    · refine br_f (by decide) (s5_isHeir_t hj (br_f (by decide) (s5_isHeir_t hq (br_f (by decide) (bn_f hne ⟨j, rfl, hj, nm_r (e' := 1) (by rw [hm j hj, shr_bit (by omega) (by omega), hb]; rfl) (br_t h3 ⟨j, rfl, hj, nm_r (e' := nI (clr (ga j) q)) (by rw [hm j hj]; exact (clr_e _ hgj q hq).1) ⟨j, rfl, hj, ?_⟩⟩)⟩)))))
      exact ⟨rfl, _, R, R2, V⟩
  · refine br_f h3 ⟨j, rfl, hj, nm_r (e' := nI (ga j ||| 2 ^ q)) (by rw [hf j hj]; exact (set_e _ hgj q hq).1) ⟨j, rfl, hj, bI_n _, ?_⟩⟩
    have R := rep_upd (k := j) (v := ga j ||| 2 ^ q) hf
    have R2 := rep_upd (k := j) (v := ga j ||| 2 ^ q) hm
    have V := updN_all (P := (· < 64)) (k := j) hv (set_e _ hgj q hq).2
    cases hb : (ga j).testBit q
    · refine br_t rfl (s5_isHeir_t hj (br_f (by decide) (s5_isHeir_t hq (br_f (by decide) (bn_f hne ⟨j, rfl, hj, nm_r (e' := 0) (by rw [hm j hj, shr_bit (by omega) (by omega), hb]; rfl) (br_f h3 ⟨j, rfl, hj, nm_r (e' := nI (ga j ||| 2 ^ q)) (by rw [hm j hj]; exact (set_e _ hgj q hq).1) ⟨j, rfl, hj, ?_⟩⟩)⟩)))))
      exact ⟨rfl, _, R, R2, V⟩
    · refine br_f (by decide) (s5_isHeir_t hj (br_f (by decide) (s5_isHeir_t hq (br_f (by decide) (bn_f hne ⟨j, rfl, hj, nm_r (e' := 1) (by rw [hm j hj, shr_bit (by omega) (by omega), hb]; rfl) (br_f h3 ⟨j, rfl, hj, nm_r (e' := nI (ga j ||| 2 ^ q)) (by rw [hm j hj]; exact (set_e _ hgj q hq).1) ⟨j, rfl, hj, ?_⟩⟩)⟩)))))
      exact ⟨rfl, _, R, R2, V⟩
theorem cnt_bits (p : Nat → Bool) : cntN (fun k => (bitsN p 24).testBit k) 24 = cntN p 24 := cntN_cong (fun k hk => by rw [bitsN_test]; simp [hk])
theorem s4_told {n g t v : Nat} {ow wo ga : Nat → Nat} {fo fw fg : Nat → Int32} (ho : rep 504 fo ow) (hw : rep 30 fw wo) (hga : rep 6 fg ga) (vo : ∀ k, k < 504 → ow k < 6) (hg : g ≤ 20) (hv : v < 2 ^ 31) {K : Int32 → Prop} (h0 : v = 0 → K (nI n)) (h1 : v = 1 → K (nI g)) (h2 : v = 2 → K (nI t)) (h3 : 10 ≤ v → v < 16 → K (nI (cntN (fun s => decide (own ow g s = v - 10)) 24))) (h4 : 20 ≤ v → v < 26 → K (nI (ga (v - 20)))) (h5 : 100 ≤ v → v < 130 → K (nI (wo (v - 100)))) (h6 : 2 < v → (v < 10 ∨ 16 ≤ v) → (v < 20 ∨ 26 ≤ v) → (v < 100 ∨ 130 ≤ v) → K (-2)) : wp_X4_told (nI n) (nI g) (nI t) fo fw fg (nI v) K := by
  have t90 : 2 < v → (v < 10 ∨ 16 ≤ v) → (v < 20 ∨ 26 ≤ v) → wj_X4_told_90 fw (nI v) K := fun a b c => pk_lt v 100 (fun z => h6 a b c (by omega)) (fun z => pk_le 130 v (fun y => h6 a b c (by omega)) (fun y => ⟨v - 100, by rw [lit_n 100, pk_sub z], by omega, by rw [hw _ (by omega)]; exact h5 z (by omega)⟩) rfl rfl (by omega) hv) rfl rfl hv (by omega)
  have t65 : 2 < v → (v < 10 ∨ 16 ≤ v) → wj_X4_told_65 fw fg (nI v) K := fun a b => pk_lt v 20 (fun z => t90 a b (by omega)) (fun z => pk_le 26 v (fun y => t90 a b (by omega)) (fun y => ⟨v - 20, by rw [lit_n 20, pk_sub z], by omega, by rw [hga _ (by omega)]; exact h4 z (by omega)⟩) rfl rfl (by omega) hv) rfl rfl hv (by omega)
  refine pk_ne v 0 (fun n0 => pk_ne v 1 (fun n1 => pk_ne v 2 (fun n2 => pk_lt v 10 (fun z => t65 (by omega) (by omega)) (fun z => pk_le 16 v (fun y => t65 (by omega) (by omega)) (fun y => nm_r (e' := nI (v - 10)) (by rw [lit_n 10, pk_sub z]) (s_sectorsOf ho vo hg (by omega) (s_bits (setOf_lt ow g (v - 10)) ?_))) rfl rfl (by omega) hv) rfl rfl hv (by omega)) h2 rfl rfl hv (by omega)) h1 rfl rfl hv (by omega)) h0 rfl rfl hv (by omega)
  rw [cnt_bits]; exact h3 z y
theorem s5_told {n g t v : Nat} {ow wo ga : Nat → Nat} {fo fw fg : Nat → Int32} (ho : rep 24 fo (own ow g)) (hw : rep 30 fw wo) (hga : rep 6 fg ga) (vo : ∀ k, k < 504 → ow k < 6) (hg : g ≤ 20) (hv : v < 2 ^ 31) {K : Int32 → Prop} (h0 : v = 0 → K (nI n)) (h1 : v = 1 → K (nI g)) (h2 : v = 2 → K (nI t)) (h3 : 10 ≤ v → v < 16 → K (nI (cntN (fun s => decide (own ow g s = v - 10)) 24))) (h4 : 20 ≤ v → v < 26 → K (nI (ga (v - 20)))) (h5 : 100 ≤ v → v < 130 → K (nI (wo (v - 100)))) (h6 : 2 < v → (v < 10 ∨ 16 ≤ v) → (v < 20 ∨ 26 ≤ v) → (v < 100 ∨ 130 ≤ v) → K (-2)) : wp_X5_told (nI n) (nI g) (nI t) fo fw fg (nI v) K := by
  have vo' : ∀ s, s < 24 → own ow g s < 6 := fun s hs => vo _ (by omega)
  have o1 : (v < 10 ∨ 16 ≤ v) → (v < 20 ∨ 26 ≤ v) → (v < 100 ∨ 130 ≤ v) → ((¬ nI v = 0 → (¬ nI v = 1 → (¬ nI v = 2 → K (-2)) ∧ (nI v = 2 → K (nI t))) ∧ (nI v = 1 → K (nI g))) ∧ (nI v = 0 → K (nI n))) := fun b c d => pk_ne v 0 (fun n0 => pk_ne v 1 (fun n1 => pk_ne v 2 (fun n2 => h6 (by omega) b c d) h2 rfl rfl hv (by omega)) h1 rfl rfl hv (by omega)) h0 rfl rfl hv (by omega)
  by_cases a : 10 ≤ v ∧ v < 16
  · exact s5_in_t 10 15 (by omega) (by omega) (by decide) (br_f (by decide) (nm_r (e' := nI (v - 10)) (by rw [lit_n 10, pk_sub a.1]) (s5_sectorsOf ho vo' (by omega) (h3 a.1 a.2))))
  refine s5_in_o 10 15 (by omega) hv (by decide) (by decide) (br_t rfl ?_)
  by_cases b : 20 ≤ v ∧ v < 26
  · exact s5_in_t 20 25 (by omega) (by omega) (by decide) (br_f (by decide) ⟨v - 20, by rw [lit_n 20, pk_sub b.1], by omega, by rw [hga _ (by omega)]; exact h4 b.1 b.2⟩)
  refine s5_in_o 20 25 (by omega) hv (by decide) (by decide) (br_t rfl ?_)
  by_cases c : 100 ≤ v ∧ v < 130
  · exact s5_in_t 100 129 (by omega) (by omega) (by decide) (br_f (by decide) ⟨v - 100, by rw [lit_n 100, pk_sub c.1], by omega, by rw [hw _ (by omega)]; exact h5 c.1 c.2⟩)
  exact s5_in_o 100 129 (by omega) hv (by decide) (by decide) (br_t rfl (o1 (by omega) (by omega) (by omega)))
theorem p_told {n g t : Nat} {x1 : Int32} {ow wo ga : Nat → Nat} {fo fw fg mo mw mg : Nat → Int32} (ho : rep 504 fo ow) (hmo : rep 24 mo (own ow g)) (hw : rep 30 fw wo) (hmw : rep 30 mw wo) (hga : rep 6 fg ga) (hmg : rep 6 mg ga) (vo : ∀ k, k < 504 → ow k < 6) (hg : g ≤ 20) : wp_X4_told (nI n) (nI g) (nI t) fo fw fg x1 (fun r => wp_X5_told (nI n) (nI g) (nI t) mo mw mg x1 (fun r2 => r = r2)) := by
  rcases pk_all x1 with h | ⟨v, hv, rfl⟩
  · exact bn_f (ng_ne h 0 (by decide)) (bn_f (ng_ne h 1 (by decide)) (bn_f (ng_ne h 2 (by decide)) (br_t (ng_lt h 10 (by decide)) (br_t (ng_lt h 20 (by decide)) (br_t (ng_lt h 100 (by decide)) (br_t (ng_lt h 10 (by decide)) (br_t rfl (br_t (ng_lt h 20 (by decide)) (br_t rfl (br_t (ng_lt h 100 (by decide)) (br_t rfl (bn_f (ng_ne h 0 (by decide)) (bn_f (ng_ne h 1 (by decide)) (bn_f (ng_ne h 2 (by decide)) rfl))))))))))))))
  have M (K : Int32 → Prop) := s5_told (n := n) (t := t) hmo hmw hmg vo hg hv (K := K)
  exact s4_told ho hw hga vo hg hv (fun z => M _ (fun _ => rfl) (by omega) (by omega) (by omega) (by omega) (by omega) (by omega)) (fun z => M _ (by omega) (fun _ => rfl) (by omega) (by omega) (by omega) (by omega) (by omega)) (fun z => M _ (by omega) (by omega) (fun _ => rfl) (by omega) (by omega) (by omega) (by omega)) (fun z y => M _ (by omega) (by omega) (by omega) (fun _ _ => rfl) (by omega) (by omega) (by omega)) (fun z y => M _ (by omega) (by omega) (by omega) (by omega) (fun _ _ => rfl) (by omega) (by omega)) (fun z y => M _ (by omega) (by omega) (by omega) (by omega) (by omega) (fun _ _ => rfl) (by omega)) (fun a b c d => M _ (by omega) (by omega) (by omega) (by omega) (by omega) (by omega) (fun _ _ _ _ => rfl))
/-- what the pad holds: the same signs in both, below the count -/
def padR (n : Nat) (f fm : Nat → Int32) (si : Nat → Nat) : Prop := n ≤ 60 ∧ ∀ k, k < n → f k = nI (si k) ∧ fm k = nI (si k) ∧ 33 ≤ si k ∧ si k ≤ 126
theorem p_say {n : Nat} {f fm : Nat → Int32} {si : Nat → Nat} {x1 : Int32} (hp : padR n f fm si) : wp_X4_say (nI n) f x1 (fun r c f' => wp_X5_say (nI n) fm x1 (fun r2 c2 fm' => r = r2 ∧ ∃ n' si', c = nI n' ∧ c2 = nI n' ∧ padR n' f' fm' si')) := by
  have hn := hp.1
  rcases pk_all x1 with h | ⟨v, hv, rfl⟩
  · exact br_t (ng_lt h 33 (by decide)) (br_t (ng_lt h 33 (by decide)) (bn_t rfl ⟨rfl, n, si, rfl, rfl, hp⟩))
  by_cases a : 33 ≤ v ∧ v ≤ 126
  · refine br_f (nI_nlt a.1 hv) (br_t (nI_le (b := 126) (by omega) (by omega)) (nm_r (c16 v (by omega)) ?_))
    by_cases hf : n < 60
    · refine br_t (nI_lt (b := 60) hf (by decide)) ⟨n, rfl, hf, nm_r (nI_1 n) ?_⟩
      refine s5_in_t 33 126 (by omega) (by omega) (by decide) (bn_f (by decide) (bn_f (fun z => by have := (nI_eq (a := n) (b := 60) (by omega) (by decide)).mp z; omega) ⟨n, rfl, hf, nm_r (nI_1 n) ?_⟩))
      refine ⟨rfl, n + 1, updN si n v, rfl, rfl, by omega, fun k hk => ?_⟩
      by_cases e : k = n
      · subst e
        rw [pk_us, pk_us, updN_s]
        exact ⟨c16 v (by omega), rfl, a.1, a.2⟩
      · rw [pk_un e, pk_un e, updN_n e]; exact hp.2 k (by omega)
    · have e : n = 60 := by omega
      subst e
      exact br_f (nI_nlt (a := 60) (b := 60) (by omega) (by omega)) (s5_in_t 33 126 (by omega) (by omega) (by decide) (bn_f (by decide) (bn_t rfl ⟨rfl, 60, si, rfl, rfl, hp⟩)))
  · refine pk_lt v 33 (fun z => ?_) (fun z => pk_le v 126 (fun _ => by omega) (fun y => ?_) rfl rfl hv (by omega)) rfl rfl hv (by omega)
    · exact s5_in_o 33 126 (by omega) hv (by decide) (by decide) (bn_t rfl ⟨rfl, n, si, rfl, rfl, hp⟩)
    · exact s5_in_o 33 126 (by omega) hv (by decide) (by decide) (bn_t rfl ⟨rfl, n, si, rfl, rfl, hp⟩)
theorem p_wipe {n : Nat} {f fm : Nat → Int32} {si : Nat → Nat} (hp : padR n f fm si) : wp_X4_wipe (nI n) (fun r c => wp_X5_wipe (nI n) (fun r2 c2 => r = r2 ∧ ∃ n' si', c = nI n' ∧ c2 = nI n' ∧ padR n' f fm si')) :=
  ⟨rfl, 0, si, rfl, rfl, Nat.zero_le _, fun k hk => absurd hk (Nat.not_lt_zero k)⟩
