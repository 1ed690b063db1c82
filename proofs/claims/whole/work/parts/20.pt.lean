/-! a stone -/
/-- the sector below -/
def sb (so : Nat → Nat) (r s : Nat) : Nat := if so (24 * r + s) = 3 then (s + 1) % 24 else s
theorem sb_lt {so : Nat → Nat} {r s : Nat} (hs : s < 24) : sb so r s < 24 := by unfold sb; split <;> omega
/-- who is hit from ring r on -/
def hitV (so o : Nat → Nat) : Nat → Nat → Nat → Nat
  | 0, _, acc => acc
  | r + 1, s, acc => if so (24 * (r + 1) + s) = 1 then acc else hitV so o r (sb so (r + 1) s) (acc ||| 2 ^ o (sb so (r + 1) s))
/-- where it ends -/
def endV (so : Nat → Nat) : Nat → Nat → Int32
  | 0, s => if so (24 * 0 + s) = 1 then nI s else -6
  | r + 1, s => if so (24 * (r + 1) + s) = 1 then nI s else endV so r (sb so (r + 1) s)
theorem s_below {so : Nat → Nat} {fs : Nat → Int32} {r s : Nat} (hs : rep 120 fs so) (vs : ∀ k, k < 120 → so k < 5) (hr : r < 5) (hk : s < 24) {K : Int32 → Prop} (hK : K (nI (sb so r s))) : wp_X4_sectorBelow fs (nI r) (nI s) K := by
  have v := vs (24 * r + s) (by omega)
  refine s_sortAt hs hr hk (pk_ne (so (24 * r + s)) 3 (fun a => ?_) (fun a => ?_) rfl rfl (by omega) (by omega))
  · rw [sb, if_neg a] at hK; exact hK
  · rw [sb, if_pos a] at hK
    rw [nI_1, lit_n 24, rem_n (by omega) (by decide) (by decide)]; exact hK
theorem s_hitBy {g r s : Nat} {so ow : Nat → Nat} {fs fo : Nat → Int32} (hs : rep 120 fs so) (ho : rep 504 fo ow) (vs : ∀ k, k < 120 → so k < 5) (vo : ∀ k, k < 504 → ow k < 6) (hg : g ≤ 20) (hr : r < 5) (hk : s < 24) {K : Int32 → Prop} (hK : K (nI (hitV so (own ow g) r s 0))) : wp_X4_hitByStone (nI g) fs fo (nI r) (nI s) K := by
  refine lpW3_inv (fun a b c => ∃ r s acc, a = nI acc ∧ b = nI s ∧ c = nI r ∧ r < 5 ∧ s < 24 ∧ K (nI (hitV so (own ow g) r s acc))) (fun a b c => c.toInt.toNat) ?_ _ _ _ ⟨r, s, 0, rfl, rfl, rfl, hr, hk, hK⟩
  rintro _ _ _ ⟨r, s, acc, rfl, rfl, rfl, hr, hk, hK⟩
  cases r with
  | zero => exact br_t (by decide) hK
  | succ r =>
    refine br_f (nI_nle (by omega) (by omega)) (s_sortAt hs hr hk ?_)
    have v := vs (24 * (r + 1) + s) (by omega)
    rw [hitV] at hK
    refine pk_eq (so (24 * (r + 1) + s)) 1 (fun a => ?_) (fun a => ?_) rfl rfl (by omega) (by omega)
    · rw [if_pos a] at hK; exact hK
    · rw [if_neg a] at hK
      have hb := sb_lt (so := so) (r := r + 1) hk
      have v6 := vo (24 * g + sb so (r + 1) s) (by omega)
      refine s_below hs vs hr hk (s_ownerOf ho hg hb (nm_r (or_bitE _ (by omega)) (nm_r (pk_m1 r) ⟨_, ?_, ⟨r, _, _, rfl, rfl, rfl, by omega, hb, hK⟩, rfl⟩)))
      show (nI r).toInt.toNat < _
      rw [nI_toInt (by omega), nI_toInt (by omega)]; omega
theorem s_endOf {r s : Nat} {so : Nat → Nat} {fs : Nat → Int32} (hs : rep 120 fs so) (vs : ∀ k, k < 120 → so k < 5) (hr : r < 5) (hk : s < 24) {K : Int32 → Prop} (hK : K (endV so r s)) : wp_X4_endOfStone fs (nI r) (nI s) K := by
  refine lpW2_inv (fun a b => (∃ r s, a = nI s ∧ b = nI r ∧ r < 5 ∧ s < 24 ∧ K (endV so r s)) ∨ (b = -1 ∧ K (-6))) (fun a b => (b.toInt + 1).toNat) ?_ _ _ (Or.inl ⟨r, s, rfl, rfl, hr, hk, hK⟩)
  rintro _ _ (⟨r, s, rfl, rfl, hr, hk, hK⟩ | ⟨rfl, hK⟩)
  · refine br_f (nI_pos (by omega)) (s_sortAt hs hr hk ?_)
    have v := vs (24 * r + s) (by omega)
    refine pk_ne (so (24 * r + s)) 1 (fun a => ?_) (fun a => ?_) rfl rfl (by omega) (by omega)
    · refine s_below hs vs hr hk ?_
      have hb := sb_lt (so := so) (r := r) hk
      cases r with
      | zero =>
        rw [endV, if_neg a] at hK
        refine nm_r (e' := -1) (by decide) ⟨_, ?_, Or.inr ⟨rfl, hK⟩, rfl⟩
        show ((-1 : Int32).toInt + 1).toNat < _
        decide
      | succ r =>
        rw [endV, if_neg a] at hK
        refine nm_r (pk_m1 r) ⟨_, ?_, Or.inl ⟨r, _, rfl, rfl, by omega, hb, hK⟩, rfl⟩
        show ((nI r).toInt + 1).toNat < _
        rw [nI_toInt (by omega), nI_toInt (by omega)]; omega
    · cases r with
      | zero => rw [endV, if_pos a] at hK; exact hK
      | succ r => rw [endV, if_pos a] at hK; exact hK
  · exact br_t (by decide) hK
theorem cde_119 : ∀ q, q < 5 → (cde q = 119 ↔ q = 1) := by decide
theorem cde_114 : ∀ q, q < 5 → (cde q = 114 ↔ q = 3) := by decide
theorem cde_115 : ∀ q, q < 5 → (cde q = 115 ↔ q = 4) := by decide
theorem s5_hitBy {r s : Nat} {so o : Nat → Nat} {fs fo : Nat → Int32} {v0 : Int32} (hs : rep 120 fs (fun k => cde (so k))) (ho : rep 24 fo o) (vs : ∀ k, k < 120 → so k < 5) (vo : ∀ k, k < 24 → o k < 6) (hr : r < 5) (hk : s < 24) {K : Int32 → Int32 → Prop} (hK : K (nI (hitV so o r s 0)) (endV so r s)) : wp_X5_hitBy v0 fs fo (nI r) (nI s) K := by
  refine lpW5_inv (fun a b c d e => (∃ r s acc, a = nI acc ∧ b = nI r ∧ c = nI s ∧ d = 1 ∧ e = -6 ∧ r < 5 ∧ s < 24 ∧ K (nI (hitV so o r s acc)) (endV so r s)) ∨ (d = 0 ∧ K a e)) (fun a b c d e => if d = 0 then 0 else (b.toInt + 2).toNat) ?_ _ _ _ _ _ (Or.inl ⟨r, s, 0, rfl, rfl, rfl, rfl, rfl, hr, hk, hK⟩)
  rintro a b c d e (⟨r, s, acc, rfl, rfl, rfl, rfl, rfl, hr, hk, hK⟩ | ⟨rfl, hK⟩)
  case inr => exact br_t rfl hK
  have v := vs (24 * r + s) (by omega)
  have hcd := cde_lt (so (24 * r + s))
  have hmu : (0 : Nat) < if (1 : Int32) = 0 then 0 else ((nI r).toInt + 2).toNat := by
    rw [if_neg (by decide), nI_toInt (by omega)]; omega
  refine br_f (by decide) ⟨24 * r + s, by rw [lit_n 24, pk_mul, nI_add], by omega, nm_r (hs _ (by omega)) ?_⟩
  refine pk_ne (cde (so (24 * r + s))) 119 (fun n1 => ?_) (fun n1 => ?_) rfl rfl (by omega) (by omega)
  · have n1' : so (24 * r + s) ≠ 1 := fun z => n1 ((cde_119 _ v).mpr z)
    have go : ∀ c : Nat, c = sb so r s → (∀ n8 : Int32, n8 = nI r + (-1 : Int32) → (((n8 < 0) → (wj_X5_hitBy_88 (-6) fo (nI acc) n8 (nI c) (0 : Int32) (fun a' b' c' d' e' => ∃ k, k < (if (1 : Int32) = 0 then 0 else ((nI r).toInt + 2).toNat) ∧ (((∃ r s acc, a' = nI acc ∧ b' = nI r ∧ c' = nI s ∧ d' = 1 ∧ e' = -6 ∧ r < 5 ∧ s < 24 ∧ K (nI (hitV so o r s acc)) (endV so r s)) ∨ (d' = 0 ∧ K a' e')) ∧ (if d' = 0 then 0 else (b'.toInt + 2).toNat) = k)))) ∧ ((¬ n8 < 0) → (wj_X5_hitBy_88 (-6) fo (nI acc) n8 (nI c) (1 : Int32) (fun a' b' c' d' e' => ∃ k, k < (if (1 : Int32) = 0 then 0 else ((nI r).toInt + 2).toNat) ∧ (((∃ r s acc, a' = nI acc ∧ b' = nI r ∧ c' = nI s ∧ d' = 1 ∧ e' = -6 ∧ r < 5 ∧ s < 24 ∧ K (nI (hitV so o r s acc)) (endV so r s)) ∨ (d' = 0 ∧ K a' e')) ∧ (if d' = 0 then 0 else (b'.toInt + 2).toNat) = k)))))) := by
      rintro c rfl
      have hb := sb_lt (so := so) (r := r) hk
      cases r with
      | zero =>
        rw [endV, if_neg n1', hitV] at hK
        refine nm_r (e' := -1) (by decide) (br_t (by decide) (br_t rfl (nm_r (nI_o0 _) ⟨0, hmu, Or.inr ⟨rfl, hK⟩, rfl⟩)))
      | succ r =>
        rw [endV, if_neg n1', hitV, if_neg n1'] at hK
        have v6 := vo _ hb
        refine nm_r (pk_m1 r) (br_f (nI_pos (by omega)) (br_f (by decide) ⟨_, rfl, hb, nm_r (e' := nI (acc ||| 2 ^ o (sb so (r + 1) s))) (by rw [ho _ hb, or_bitE _ (by omega)]) ⟨_, ?_, Or.inl ⟨r, _, _, rfl, rfl, rfl, rfl, rfl, by omega, hb, hK⟩, rfl⟩⟩))
        rw [if_neg (by decide), if_neg (by decide), nI_toInt (by omega), nI_toInt (by omega)]; omega
    refine pk_ne (cde (so (24 * r + s))) 114 (fun n3 => ?_) (fun n3 => ?_) rfl rfl (by omega) (by omega)
    · exact go s (by rw [sb, if_neg (fun z => n3 ((cde_114 _ v).mpr z))])
    · exact s5_next hk (go _ (by rw [sb, if_pos ((cde_114 _ v).mp n3)]))
  · have n1' := (cde_119 _ v).mp n1
    refine ⟨0, hmu, Or.inr ⟨rfl, ?_⟩, rfl⟩
    cases r with
    | zero => rw [endV, if_pos n1', hitV] at hK; exact hK
    | succ r => rw [endV, if_pos n1', hitV, if_pos n1'] at hK; exact hK
theorem p_stone {g : Nat} {v0 x1 x2 x3 : Int32} {so ow : Nat → Nat} {fs fo ms mo : Nat → Int32} (hs : rep 120 fs so) (hms : rep 120 ms (fun k => cde (so k))) (ho : rep 504 fo ow) (hmo : rep 24 mo (own ow g)) (vs : ∀ k, k < 120 → so k < 5) (vo : ∀ k, k < 504 → ow k < 6) (hg : g ≤ 20) : wp_X4_stone (nI g) fs fo x1 x2 x3 (fun r => wp_X5_stone v0 ms mo x1 x2 x3 (fun r2 _ => r = r2)) := by
  have vo' : ∀ s, s < 24 → own ow g s < 6 := fun s hs => vo _ (by omega)
  rcases pk_ix' x1 5 (by decide) with h | h | ⟨r, hr, rfl⟩
  · exact s4_isRing_f (Or.inl h) (br_t rfl (s5_isRing_f (Or.inl h) (br_t rfl rfl)))
  · exact s4_isRing_f (Or.inr h) (br_t rfl (s5_isRing_f (Or.inr h) (br_t rfl rfl)))
  refine s4_isRing_t hr (br_f (by decide) ?_)
  rcases pk_ix' x2 24 (by decide) with h | h | ⟨s, hk, rfl⟩
  · exact s4_isSector_f (Or.inl h) (bn_t rfl (s5_isRing_t hr (br_f (by decide) (s5_isSector_f (Or.inl h) (bn_t rfl rfl)))))
  · exact s4_isSector_f (Or.inr h) (bn_t rfl (s5_isRing_t hr (br_f (by decide) (s5_isSector_f (Or.inr h) (bn_t rfl rfl)))))
  refine s4_isSector_t hk (bn_f (by decide) ?_)
  rcases pk_ix' x3 2 (by decide) with h | h | ⟨v, hv, rfl⟩
  · exact br_t h (s5_isRing_t hr (br_f (by decide) (s5_isSector_t hk (bn_f (by decide) (s5_in_f 1 (Or.inl h) (by decide) (bn_t rfl rfl))))))
  · have h0 : ¬ x3 < 0 := fun z => ng_nle z 2 (by decide) h
    have h1 : ¬ x3 ≤ nI 1 := fun z => by
      rw [Int32.le_iff_toInt_le, nI_toInt (by omega)] at h z
      omega
    exact br_f h0 (br_f h1 (s5_isRing_t hr (br_f (by decide) (s5_isSector_t hk (bn_f (by decide) (s5_in_f 1 (Or.inr h) (by decide) (bn_t rfl rfl)))))))
  refine br_f (nI_pos (by omega)) (br_t (nI_le (b := 1) (by omega) (by omega)) ?_)
  refine pk_ne v 0 (fun a => ?_) (fun a => ?_) rfl rfl (by omega) (by omega)
  · exact s_endOf hs vs hr hk (s5_isRing_t hr (br_f (by decide) (s5_isSector_t hk (bn_f (by decide) (s5_in_t 0 1 (by omega) (by omega) (by decide) (bn_f (by decide) (s5_hitBy hms hmo vs vo' hr hk (bn_f (fun z => a ((nI_eq (b := 0) (by omega) (by omega)).mp z)) rfl))))))))
  · exact s_hitBy hs ho vs vo hg hr hk (s5_isRing_t hr (br_f (by decide) (s5_isSector_t hk (bn_f (by decide) (s5_in_t 0 1 (by omega) (by omega) (by decide) (bn_f (by decide) (s5_hitBy hms hmo vs vo' hr hk (bn_t (by rw [a]; rfl) rfl))))))))
