/-! a stone -/
/-- the sector below -/
def sb (so : Nat → Nat) (r s : Nat) : Nat := if so (24 * r + s) = 3 then (s + 1) % 24 else s
theorem sb_lt {so : Nat → Nat} {r s : Nat} (hs : s < 24) : sb so r s < 24 := by unfold sb; split <;> omega
/-- who is hit from ring r on -/
def hitV (so o : Nat → Nat) : Nat → Nat → Nat → Nat
  | 0, _, acc => acc
  | r + 1, s, acc => if so (24 * (r + 1) + s) = 1 then acc else hitV so o r (sb so (r + 1) s) (acc ||| 2 ^ o (sb so (r + 1) s))
/-- where it ends -/
def endV (so : Nat → Nat) : Nat → Nat → Int32
  | 0, s => if so (24 * 0 + s) = 1 then nI s else -6
  | r + 1, s => if so (24 * (r + 1) + s) = 1 then nI s else endV so r (sb so (r + 1) s)
theorem s_below {so : Nat → Nat} {fs : Nat → Int32} {r s : Nat} (hs : rep 120 fs so) (vs : ∀ k, k < 120 → so k < 5) (hr : r < 5) (hk : s < 24) {K : Int32 → Prop} (hK : K (nI (sb so r s))) : wp_X4_sectorBelow fs (nI r) (nI s) K := by
  have v := vs (24 * r + s) (by omega)
  refine s_sortAt hs hr hk (pk_ne (so (24 * r + s)) 3 (fun a => ?_) (fun a => ?_) rfl rfl (by omega) (by omega))
  · rw [sb, if_neg a] at hK; exact hK
  · rw [sb, if_pos a] at hK
    rw [nI_1, lit_n 24, rem_n (by omega) (by decide) (by decide)]; exact hK
theorem s_hitBy {g r s : Nat} {so ow : Nat → Nat} {fs fo : Nat → Int32} (hs : rep 120 fs so) (ho : rep 504 fo ow) (vs : ∀ k, k < 120 → so k < 5) (vo : ∀ k, k < 504 → ow k < 6) (hg : g ≤ 20) (hr : r < 5) (hk : s < 24) {K : Int32 → Prop} (hK : K (nI (hitV so (own ow g) r s 0))) : wp_X4_hitByStone (nI g) fs fo (nI r) (nI s) K := by
  refine lpW3_inv (fun a b c => ∃ r s acc, a = nI acc ∧ b = nI s ∧ c = nI r ∧ r < 5 ∧ s < 24 ∧ K (nI (hitV so (own ow g) r s acc))) (fun a b c => c.toInt.toNat) ?_ _ _ _ ⟨r, s, 0, rfl, rfl, rfl, hr, hk, hK⟩
  rintro _ _ _ ⟨r, s, acc, rfl, rfl, rfl, hr, hk, hK⟩
  cases r with
  | zero => exact br_t (by decide) hK
  | succ r =>
    refine br_f (nI_nle (by omega) (by omega)) (s_sortAt hs hr hk ?_)
    have v := vs (24 * (r + 1) + s) (by omega)
    rw [hitV] at hK
    refine pk_eq (so (24 * (r + 1) + s)) 1 (fun a => ?_) (fun a => ?_) rfl rfl (by omega) (by omega)
    · rw [if_pos a] at hK; exact hK
    · rw [if_neg a] at hK
      have hb := sb_lt (so := so) (r := r + 1) hk
      have v6 := vo (24 * g + sb so (r + 1) s) (by omega)
      refine s_below hs vs hr hk (s_ownerOf ho hg hb (nm_r (or_bitE _ (by omega)) (nm_r (pk_m1 r) ⟨_, ?_, ⟨r, _, _, rfl, rfl, rfl, by omega, hb, hK⟩, rfl⟩)))
      show (nI r).toInt.toNat < _
      rw [nI_toInt (by omega), nI_toInt (by omega)]; omega
theorem s_endOf {r s : Nat} {so : Nat → Nat} {fs : Nat → Int32} (hs : rep 120 fs so) (vs : ∀ k, k < 120 → so k < 5) (hr : r < 5) (hk : s < 24) {K : Int32 → Prop} (hK : K (endV so r s)) : wp_X4_endOfStone fs (nI r) (nI s) K := by
  refine lpW2_inv (fun a b => (∃ r s, a = nI s ∧ b = nI r ∧ r < 5 ∧ s < 24 ∧ K (endV so r s)) ∨ (b = -1 ∧ K (-6))) (fun a b => (b.toInt + 1).toNat) ?_ _ _ (Or.inl ⟨r, s, rfl, rfl, hr, hk, hK⟩)
  rintro _ _ (⟨r, s, rfl, rfl, hr, hk, hK⟩ | ⟨rfl, hK⟩)
  · refine br_f (nI_pos (by omega)) (s_sortAt hs hr hk ?_)
    have v := vs (24 * r + s) (by omega)
    refine pk_ne (so (24 * r + s)) 1 (fun a => ?_) (fun a => ?_) rfl rfl (by omega) (by omega)
    · refine s_below hs vs hr hk ?_
      have hb := sb_lt (so := so) (r := r) hk
      cases r with
      | zero =>
        rw [endV, if_neg a] at hK
        refine nm_r (e' := -1) (by decide) ⟨_, ?_, Or.inr ⟨rfl, hK⟩, rfl⟩
        show ((-1 : Int32).toInt + 1).toNat < _
        decide
      | succ r =>
        rw [endV, if_neg a] at hK
        refine nm_r (pk_m1 r) ⟨_, ?_, Or.inl ⟨r, _, rfl, rfl, by omega, hb, hK⟩, rfl⟩
        show ((nI r).toInt + 1).toNat < _
        rw [nI_toInt (by omega), nI_toInt (by omega)]; omega
    · cases r with
      | zero => rw [endV, if_pos a] at hK; exact hK
      | succ r => rw [endV, if_pos a] at hK; exact hK
  · exact br_t (by decide) hK
