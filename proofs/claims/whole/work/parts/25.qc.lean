/-! springs -/
/-- whether a spring is an heir's in a year -/
def spP (o : Nat → Nat) (s d h y : Nat) : Bool := decide (o ((s + d * y) % 24) = h)
/-- the first of the numbers below n that p names, or 1000 -/
def fsN (p : Nat → Bool) : Nat → Nat
  | 0 => 1000
  | n + 1 => if fsN p n = 1000 ∧ p n = true then n else fsN p n
def fsI (x : Nat) : Int32 := if x = 1000 then -6 else nI x
theorem fsN_le (p : Nat → Bool) : ∀ n, n ≤ 1000 → fsN p n ≤ 1000 ∧ (fsN p n ≠ 1000 → fsN p n < n)
  | 0, _ => ⟨Nat.le_refl _, fun z => absurd rfl z⟩
  | n + 1, h => by
    have ih := fsN_le p n (by omega)
    rw [fsN]
    split
    · exact ⟨by omega, fun _ => by omega⟩
    · exact ⟨ih.1, fun z => by have := ih.2 z; omega⟩
theorem fsN_stay {p : Nat → Bool} {y : Nat} (h : fsN p y = 1000) (hp : p y = true) (hy : y < 1000) : ∀ j, fsN p (y + 1 + j) = y
  | 0 => by show fsN p (y + 1) = y; rw [fsN, if_pos ⟨h, hp⟩]
  | j + 1 => by
    have ih := fsN_stay h hp hy j
    show fsN p (y + 1 + j + 1) = y
    rw [fsN, if_neg (fun z => by omega), ih]
def spAns (o : Nat → Nat) (s d y v : Nat) : Int32 := if v = 0 then nI (o ((s + d * y) % 24)) else if 20 ≤ v then fsI (fsN (spP o s d (v % 10)) (y + 1)) else nI (cntN (spP o s d (v % 10)) (y + 1))
theorem sp_ix {s d y : Nat} (hs : s < 24) (hd : d < 24) (hy : y ≤ 999) : iR (nI s + nI d * nI y) (24 : Int32) = nI ((s + d * y) % 24) := by
  have : d * y ≤ 23 * 999 := Nat.mul_le_mul (by omega) hy
  rw [pk_mul, nI_add, lit_n 24, rem_n (by omega) (by decide) (by decide)]
theorem s_years {g s d y h : Nat} {ow : Nat → Nat} {fo : Nat → Int32} (ho : rep 504 fo ow) (vo : ∀ k, k < 504 → ow k < 6) (hg : g ≤ 20) (hs : s < 24) (hd : d < 24) (hy : y ≤ 999) (hh : h < 6) {K : Int32 → Prop} (hK : K (nI (cntN (spP (own ow g) s d h) (y + 1)))) : wp_X4_yearsOfSpring (nI g) fo (nI s) (nI d) (nI y) (nI h) K := by
  refine lpW2_for (fun k => nI (cntN (spP (own ow g) s d h) k)) (fun k => nI k) (y + 1) (fun k hk L hL => ?_) (fun L => ?_)
  · have hl : (s + d * k) % 24 < 24 := Nat.mod_lt _ (by decide)
    have v6 := vo (24 * g + (s + d * k) % 24) (by omega)
    refine pk_lt y k (fun z => by omega) (fun _ => nm_r (sp_ix hs hd (by omega)) (s_ownerOf ho hg hl ?_)) rfl rfl (by omega) (by omega)
    refine pk_ne (own ow g ((s + d * k) % 24)) h (fun a => nm_r (nI_1 k) ?_) (fun a => nm_r (nI_1 _) (nm_r (nI_1 k) ?_)) rfl rfl (by show ow _ < _; omega) (by omega)
    · rw [cntN, if_neg (by simp [spP, a])] at hL; exact hL
    · rw [cntN, if_pos (by simp [spP, a])] at hL; exact hL
  · exact pk_lt y (y + 1) (fun _ => hK) (fun z => by omega) rfl rfl (by omega) (by omega)
theorem s_first {g s d y h : Nat} {ow : Nat → Nat} {fo : Nat → Int32} (ho : rep 504 fo ow) (vo : ∀ k, k < 504 → ow k < 6) (hg : g ≤ 20) (hs : s < 24) (hd : d < 24) (hy : y ≤ 999) (hh : h < 6) {K : Int32 → Prop} (hK : K (fsI (fsN (spP (own ow g) s d h) (y + 1)))) : wp_X4_firstYearOfSpring (nI g) fo (nI s) (nI d) (nI y) (nI h) K := by
  refine lpW1_inv (fun a => ∃ k, a = nI k ∧ k ≤ y + 1 ∧ fsN (spP (own ow g) s d h) k = 1000) (fun a => 1001 - a.toInt.toNat) ?_ _ ⟨0, rfl, by omega, rfl⟩
  rintro _ ⟨k, rfl, hk, hf⟩
  refine pk_lt y k (fun z => ?_) (fun z => ?_) rfl rfl (by omega) (by omega)
  · rw [show y + 1 = k by omega, hf] at hK; exact hK
  · have hl : (s + d * k) % 24 < 24 := Nat.mod_lt _ (by decide)
    have v6 := vo (24 * g + (s + d * k) % 24) (by omega)
    refine nm_r (sp_ix hs hd (by omega)) (s_ownerOf ho hg hl ?_)
    refine pk_ne (own ow g ((s + d * k) % 24)) h (fun a => nm_r (nI_1 k) ⟨_, ?_, ⟨k + 1, rfl, by omega, ?_⟩, rfl⟩) (fun a => ?_) rfl rfl (by show ow _ < _; omega) (by omega)
    · show 1001 - (nI (k + 1)).toInt.toNat < 1001 - (nI k).toInt.toNat
      rw [nI_toInt (by omega), nI_toInt (by omega)]; omega
    · rw [fsN, if_neg (by simp [spP, a]), hf]
    · have e := fsN_stay hf (show spP (own ow g) s d h k = true by simp [spP, a]) (by omega) (y - k)
      rw [show y + 1 = k + 1 + (y - k) by omega, e, fsI, if_neg (by omega)] at hK
      exact hK
theorem fsI_0 {x : Nat} (hx : x ≤ 1000) : (0 ≤ fsI x) ↔ x ≠ 1000 := by
  unfold fsI
  by_cases e : x = 1000
  · rw [if_pos e]; exact ⟨fun z => absurd z (by decide), fun z => absurd e z⟩
  · rw [if_neg e]; exact ⟨fun _ => e, fun _ => nI_pos' (by omega)⟩
theorem s5_spring {s d y v : Nat} {o : Nat → Nat} {fo : Nat → Int32} (ho : rep 24 fo o) (vo : ∀ k, k < 24 → o k < 6) (hs : s < 24) (hd : d < 24) (hy : y ≤ 999) (hv : v < 26) {K : Int32 → Prop} (hK : K (spAns o s d y v)) : lpW3 (wb_X5_spring_72 fo (nI s) (nI d) (nI y) (nI v) K) 0 (-6) 0 := by
  have hw : iR (nI v) (10 : Int32) = nI (v % 10) := by rw [lit_n 10, rem_n (by omega) (by decide) (by decide)]
  refine lpW3_for (fun k => nI (cntN (spP o s d (v % 10)) k)) (fun k => fsI (fsN (spP o s d (v % 10)) k)) (fun k => nI k) (y + 1) (fun k hk L hL => ?_) (fun L => ?_)
  · have hl : (s + d * k) % 24 < 24 := Nat.mod_lt _ (by decide)
    have v6 := vo _ hl
    have f1 := fsN_le (spP o s d (v % 10)) k (by omega)
    refine pk_lt y k (fun z => by omega) (fun _ => ⟨_, sp_ix hs hd (by omega), hl, ?_⟩) rfl rfl (by omega) (by omega)
    rw [ho _ hl]
    refine pk_ne (o ((s + d * k) % 24)) (v % 10) (fun a => ?_) (fun a => ?_) rfl hw (by omega) (by omega)
    · have hp : spP o s d (v % 10) k = false := by simp [spP, a]
      rw [cntN, fsN, hp] at hL
      simp only [Bool.false_eq_true, and_false, if_false] at hL
      exact nm_r (nI_a0 _) (br_t rfl (nm_r (nI_1 k) hL))
    · have hp : spP o s d (v % 10) k = true := by simp [spP, a]
      rw [cntN, fsN, hp] at hL
      simp only [and_true, if_true] at hL
      refine nm_r (nI_1 _) (br_f (by decide) (br_c (fun z => nm_r (nI_1 k) ?_) (fun z => nm_r (nI_1 k) ?_)))
      · rw [if_neg ((fsI_0 f1.1).mp z)] at hL; exact hL
      · have e : fsN (spP o s d (v % 10)) k = 1000 := by
          by_cases w : fsN (spP o s d (v % 10)) k = 1000
          · exact w
          · exact absurd ((fsI_0 f1.1).mpr w) z
        rw [if_pos e, fsI, if_neg (by omega)] at hL; exact hL
  · refine pk_lt y (y + 1) (fun _ => ?_) (fun z => by omega) rfl rfl (by omega) (by omega)
    rw [spAns] at hK
    refine pk_ne v 0 (fun a => ?_) (fun a => ?_) rfl rfl (by omega) (by omega)
    · rw [if_neg a] at hK
      refine pk_le 20 v (fun z => ?_) (fun z => ?_) rfl rfl (by omega) (by omega)
      · rw [if_pos z] at hK; exact hK
      · rw [if_neg (by omega)] at hK; exact hK
    · rw [if_pos a] at hK
      have hl : (s + d * y) % 24 < 24 := Nat.mod_lt _ (by decide)
      exact ⟨_, sp_ix hs hd hy, hl, by rw [ho _ hl]; exact hK⟩
theorem p_spring {g : Nat} {x1 x2 x3 x4 : Int32} {ow : Nat → Nat} {fo mo : Nat → Int32} (ho : rep 504 fo ow) (hmo : rep 24 mo (own ow g)) (vo : ∀ k, k < 504 → ow k < 6) (hg : g ≤ 20) : wp_X4_spring (nI g) fo x1 x2 x3 x4 (fun r => wp_X5_spring mo x1 x2 x3 x4 (fun r2 => r = r2)) := by
  have vo' : ∀ s, s < 24 → own ow g s < 6 := fun s hs => vo _ (by omega)
  rcases pk_ix' x1 24 (by decide) with h | h | ⟨s, hs, rfl⟩
  · exact s4_isSector_f (Or.inl h) (bn_t rfl (s5_isSector_f (Or.inl h) (bn_t rfl rfl)))
  · exact s4_isSector_f (Or.inr h) (bn_t rfl (s5_isSector_f (Or.inr h) (bn_t rfl rfl)))
  refine s4_isSector_t hs (bn_f (by decide) ?_)
  have hout : x2 < 0 ∨ nI 24 ≤ x2 → wp_X5_spring mo (nI s) x2 x3 x4 (fun r2 => -2 = r2) := fun h => s5_isSector_t hs (bn_f (by decide) (s5_in_f 23 h (by decide) (br_t rfl rfl)))
  rcases pk_ix' x2 24 (by decide) with h | h | ⟨d, hd, rfl⟩
  · exact rg_f (n := 24) (Or.inl h) (hout (Or.inl h))
  · exact rg_f (n := 24) (Or.inr h) (hout (Or.inr h))
  refine rg_t (n := 24) hd (by decide) ?_
  have hout : x3 < 0 ∨ nI 1000 ≤ x3 → wp_X5_spring mo (nI s) (nI d) x3 x4 (fun r2 => -2 = r2) := fun h => s5_isSector_t hs (bn_f (by decide) (s5_in_t 0 23 (by omega) (by omega) (by decide) (br_f (by decide) (s5_in_f 999 h (by decide) (br_t rfl rfl)))))
  rcases pk_ix' x3 1000 (by decide) with h | h | ⟨y, hy, rfl⟩
  · exact br_t h (hout (Or.inl h))
  · have h0 : ¬ x3 < 0 := fun z => ng_nle z 1000 (by decide) h
    have h1 : ¬ x3 ≤ nI 999 := fun z => by
      rw [Int32.le_iff_toInt_le, nI_toInt (by omega)] at h z
      omega
    exact br_f h0 (br_f h1 (hout (Or.inr h)))
  refine br_f (nI_pos (by omega)) (br_t (nI_le (b := 999) (by omega) (by omega)) ?_)
  have st : ∀ K : Int32 → Prop, (((x4 = 0) → (lpW3 (wb_X5_spring_72 mo (nI s) (nI d) (nI y) x4 K) (0 : Int32) (-6 : Int32) (0 : Int32))) ∧ ((¬ x4 = 0) → (wp_X5_in x4 (10 : Int32) (15 : Int32) (fun r10 => (((¬ r10 = 0) → (lpW3 (wb_X5_spring_72 mo (nI s) (nI d) (nI y) x4 K) (0 : Int32) (-6 : Int32) (0 : Int32))) ∧ ((r10 = 0) → (wp_X5_in x4 (20 : Int32) (25 : Int32) (fun r11 => (((¬ r11 = 0) → (lpW3 (wb_X5_spring_72 mo (nI s) (nI d) (nI y) x4 K) (0 : Int32) (-6 : Int32) (0 : Int32))) ∧ ((r11 = 0) → (K (-2 : Int32)))))))))))) → wp_X5_spring mo (nI s) (nI d) (nI y) x4 K := fun K z => s5_isSector_t hs (bn_f (by decide) (s5_in_t 0 23 (by omega) (by omega) (by decide) (br_f (by decide) (s5_in_t 0 999 (by omega) (by omega) (by decide) (br_f (by decide) z)))))
  rcases pk_all x4 with h | ⟨v, hv, rfl⟩
  · refine bn_f (ng_ne h 0 (by decide)) (br_t (ng_lt h 10 (by decide)) (br_t (ng_lt h 20 (by decide)) (st _ (br_f (ng_ne h 0 (by decide)) (s5_in_x 10 15 16 (Or.inl h) (by decide) (by decide) (by decide) (bn_t rfl (s5_in_x 20 25 26 (Or.inl h) (by decide) (by decide) (by decide) (bn_t rfl rfl))))))))
  have hl : (s + d * y) % 24 < 24 := Nat.mod_lt _ (by decide)
  by_cases v0 : v = 0
  · subst v0
    refine bn_t rfl (nm_r (sp_ix hs hd (by omega)) (s_ownerOf ho hg hl (st _ (br_t rfl (s5_spring hmo vo' hs hd (by omega) (by decide) rfl)))))
  have n0 : ¬ nI v = (0 : Int32) := fun z => v0 ((nI_eq (b := 0) hv (by decide)).mp z)
  refine bn_f n0 ?_
  have bad : (v < 10 ∨ (15 < v ∧ v < 20) ∨ 25 < v) → wp_X5_spring mo (nI s) (nI d) (nI y) (nI v) (fun r2 => -2 = r2) := fun h => st _ (br_f n0 (s5_in_o 10 15 (by omega) hv (by decide) (by decide) (bn_t rfl (s5_in_o 20 25 (by omega) hv (by decide) (by decide) (bn_t rfl rfl)))))
  have b81 : (v < 10 ∨ 15 < v) → wj_X4_spring_81 (nI g) fo (nI s) (nI d) (nI y) (nI v) (fun r => wp_X5_spring mo (nI s) (nI d) (nI y) (nI v) (fun r2 => r = r2)) := fun h => by
    refine pk_lt v 20 (fun z => bad (by omega)) (fun z => pk_le 26 v (fun w => bad (by omega)) (fun w => ?_) rfl rfl (by omega) hv) rfl rfl hv (by omega)
    refine nm_r (e' := nI (v - 20)) (by rw [lit_n 20, pk_sub (by omega)]) (s_first ho vo hg hs hd (by omega) (by omega) (st _ (br_f n0 (s5_in_o 10 15 (by omega) hv (by decide) (by decide) (bn_t rfl (s5_in_t 20 25 (by omega) (by omega) (by decide) (bn_f (by decide) (s5_spring hmo vo' hs hd (by omega) (by omega) ?_))))))))
    rw [spAns, if_neg v0, if_pos (by omega), show v % 10 = v - 20 by omega]
  refine pk_lt v 10 (fun z => b81 (by omega)) (fun z => pk_le 16 v (fun w => b81 (by omega)) (fun w => ?_) rfl rfl (by omega) hv) rfl rfl hv (by omega)
  refine nm_r (e' := nI (v - 10)) (by rw [lit_n 10, pk_sub (by omega)]) (s_years ho vo hg hs hd (by omega) (by omega) (st _ (br_f n0 (s5_in_t 10 15 (by omega) (by omega) (by decide) (bn_f (by decide) (s5_spring hmo vo' hs hd (by omega) (by omega) ?_))))))
  rw [spAns, if_neg v0, if_neg (by omega), show v % 10 = v - 10 by omega]
