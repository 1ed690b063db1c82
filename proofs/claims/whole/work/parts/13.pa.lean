/-! PAIRS: the class's call, then the reference's: both answers are the same -/
theorem p_cell {so : Nat → Nat} {f fm : Nat → Int32} {x1 x2 : Int32} (hf : rep 120 f so) (hm : rep 120 fm (fun k => cde (so k))) (hv : ∀ k, k < 120 → so k < 5) (hch : ∀ (q : Nat) (K : Int32 → Prop), q < 5 → K (nI (cde q)) → wp_J0_charAt_5068e 0 (nI q) K) : wp_X4_cell f x1 x2 (fun r => wp_X5_cell fm x1 x2 (fun r2 => r = r2)) := by
  have hout : x1 < 0 ∨ nI 5 ≤ x1 → wp_X4_cell f x1 x2 (fun r => wp_X5_cell fm x1 x2 (fun r2 => r = r2)) := fun h => s4_isRing_f h (br_t rfl (s5_isRing_f h (br_t rfl rfl)))
  rcases pk_ix' x1 5 (by decide) with h | h | ⟨r, hr, rfl⟩
  · exact hout (Or.inl h)
  · exact hout (Or.inr h)
  have hout : x2 < 0 ∨ nI 24 ≤ x2 → wp_X4_cell f (nI r) x2 (fun r' => wp_X5_cell fm (nI r) x2 (fun r2 => r' = r2)) := fun h => s4_isRing_t hr (br_f (by decide) (s4_isSector_f h (bn_t rfl (s5_isRing_t hr (br_f (by decide) (s5_isSector_f h (br_t rfl rfl)))))))
  rcases pk_ix' x2 24 (by decide) with h | h | ⟨s, hs, rfl⟩
  · exact hout (Or.inl h)
  · exact hout (Or.inr h)
  have := hv (24 * r + s) (by omega)
  exact s4_isRing_t hr (br_f (by decide) (s4_isSector_t hs (bn_f (by decide) (s_sortAt hf hr hs (hch _ _ this (s5_isRing_t hr (br_f (by decide) (s5_isSector_t hs (br_f (by decide) ⟨24 * r + s, by rw [lit_n 24, pk_mul, nI_add], by omega, by rw [hm _ (by omega)]⟩)))))))))
theorem p_was {g : Nat} {ow : Nat → Nat} {f fm : Nat → Int32} {x1 x2 : Int32} (hf : rep 504 f ow) (hm : rep 504 fm ow) (hg : g ≤ 20) : wp_X4_was (nI g) f x1 x2 (fun r => wp_X5_was (nI g) fm x1 x2 (fun r2 => r = r2)) := by
  have hout : x1 < 0 ∨ nI 24 ≤ x1 → wp_X4_was (nI g) f x1 x2 (fun r => wp_X5_was (nI g) fm x1 x2 (fun r2 => r = r2)) := fun h => s4_isSector_f h (bn_t rfl (s5_isSector_f h (bn_t rfl rfl)))
  rcases pk_ix' x1 24 (by decide) with h | h | ⟨s, hs, rfl⟩
  · exact hout (Or.inl h)
  · exact hout (Or.inr h)
  rcases pk_ix' x2 (g + 1) (by omega) with h | h | ⟨q, hq, rfl⟩
  · exact s4_isSector_t hs (bn_f (by decide) (br_t h (s5_isSector_t hs (bn_f (by decide) (s5_in_f g (Or.inl h) (by omega) (br_t rfl rfl))))))
  · have h0 : ¬ x2 < 0 := fun z => by
      rw [Int32.le_iff_toInt_le, nI_toInt (by omega)] at h
      rw [Int32.lt_iff_toInt_lt, show (0 : Int32).toInt = 0 by decide] at z
      omega
    have h1 : ¬ x2 ≤ nI g := fun z => by
      rw [Int32.le_iff_toInt_le, nI_toInt (by omega)] at h z
      omega
    exact s4_isSector_t hs (bn_f (by decide) (br_f h0 (br_f h1 (s5_isSector_t hs (bn_f (by decide) (s5_in_f g (Or.inr h) (by omega) (br_t rfl rfl)))))))
  · exact s4_isSector_t hs (bn_f (by decide) (br_f (nI_pos (by omega)) (br_t (nI_le (by omega) (by omega)) (s_ownerBehind hf (by omega) hs (s5_isSector_t hs (bn_f (by decide) (s5_in_t 0 g (by omega) (by omega) (by omega) (br_f (by decide) ⟨24 * q + s, by rw [lit_n 24, pk_mul, nI_add], by omega, by rw [hm _ (by omega)]⟩))))))))
theorem p_has {g : Nat} {ow : Nat → Nat} {f fm : Nat → Int32} {x1 : Int32} (hf : rep 504 f ow) (hv : ∀ k, k < 504 → ow k < 6) (hm : rep 24 fm (own ow g)) (hg : g ≤ 20) : wp_X4_has (nI g) f x1 (fun r => wp_X5_has fm x1 (fun r2 => r = r2)) := by
  have hout : x1 < 0 ∨ nI 6 ≤ x1 → wp_X4_has (nI g) f x1 (fun r => wp_X5_has fm x1 (fun r2 => r = r2)) := fun h => s4_isHeir_f h (br_t rfl (s5_isHeir_f h (br_t rfl rfl)))
  rcases pk_ix' x1 6 (by decide) with h | h | ⟨j, hj, rfl⟩
  · exact hout (Or.inl h)
  · exact hout (Or.inr h)
  exact s4_isHeir_t hj (br_f (by decide) (s_sectorsOf hf hv hg (by omega) (s5_isHeir_t hj (br_f (by decide) (s5_sectors hm (fun s hs => hv _ (by omega)) (by omega) rfl)))))
theorem p_share {so wo : Nat → Nat} {f fm fw fwm : Nat → Int32} {x1 x2 : Int32} (hf : rep 120 f so) (hm : rep 120 fm (fun k => cde (so k))) (hv : ∀ k, k < 120 → so k < 5) (hw : rep 30 fw wo) (hwm : rep 30 fwm wo) : wp_X4_share f fw x1 x2 (fun r => wp_X5_share fm fwm x1 x2 (fun r2 => r = r2)) := by
  have hout : x1 < 0 ∨ nI 6 ≤ x1 → wp_X4_share f fw x1 x2 (fun r => wp_X5_share fm fwm x1 x2 (fun r2 => r = r2)) := fun h => s4_isHeir_f h (bn_t rfl (s5_isHeir_f h (bn_t rfl rfl)))
  rcases pk_ix' x1 6 (by decide) with h | h | ⟨j, hj, rfl⟩
  · exact hout (Or.inl h)
  · exact hout (Or.inr h)
  rcases pk_ix' x2 16777216 (by decide) with h | h | ⟨q, hq, rfl⟩
  · exact s4_isHeir_t hj (bn_f (by decide) (br_t h (s5_isHeir_t hj (bn_f (by decide) (s5_in_f 16777215 (Or.inl h) (by decide) (br_t rfl rfl))))))
  · have h0 : ¬ x2 < 0 := fun z => by
      rw [Int32.le_iff_toInt_le, nI_toInt (by omega)] at h
      rw [Int32.lt_iff_toInt_lt, show (0 : Int32).toInt = 0 by decide] at z
      omega
    have h1 : ¬ x2 ≤ nI 16777215 := fun z => by
      rw [Int32.le_iff_toInt_le, nI_toInt (by omega)] at h z
      omega
    exact s4_isHeir_t hj (bn_f (by decide) (br_f h0 (br_f h1 (s5_isHeir_t hj (bn_f (by decide) (s5_in_f 16777215 (Or.inr h) (by decide) (br_t rfl rfl)))))))
  · exact s4_isHeir_t hj (bn_f (by decide) (br_f (nI_pos (by omega)) (br_t (nI_le (b := 16777215) (by omega) (by omega)) (s_shareOf hf hw hv hj (by omega) (s5_isHeir_t hj (bn_f (by decide) (s5_in_t 0 16777215 (by omega) (by omega) (by decide) (br_f (by decide) (s5_shareOf hm hwm hv hj (by omega) rfl)))))))))
