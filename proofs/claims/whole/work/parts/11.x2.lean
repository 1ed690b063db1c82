theorem s_ownerBehind {g s : Nat} {ow : Nat → Nat} {f : Nat → Int32} (hf : rep 504 f ow) (hg : g ≤ 20) (hs : s < 24) {K : Int32 → Prop} (hK : K (nI (ow (24 * g + s)))) : wp_X2_ownerBehind f (nI g) (nI s) K := by
  refine ⟨24 * g + s, ?_, by omega, ?_⟩
  · rw [lit_n 24, pk_mul, nI_add, Nat.mul_comm]
  · rw [hf _ (by omega)]; exact hK
theorem s_ownerOf {g s : Nat} {ow : Nat → Nat} {f : Nat → Int32} (hf : rep 504 f ow) (hg : g ≤ 20) (hs : s < 24) {K : Int32 → Prop} (hK : K (nI (ow (24 * g + s)))) : wp_X2_ownerOf (nI g) f (nI s) K := s_ownerBehind hf hg hs hK
/-- whose is a sector now -/
abbrev own (ow : Nat → Nat) (g : Nat) (s : Nat) : Nat := ow (24 * g + s)
theorem s_sectorsOf {g h : Nat} {ow : Nat → Nat} {f : Nat → Int32} (hf : rep 504 f ow) (hv : ∀ k, k < 504 → ow k < 6) (hg : g ≤ 20) (hh : h < 2 ^ 31) {K : Int32 → Prop} (hK : K (nI (bitsN (fun s => decide (own ow g s = h)) 24))) : wp_X2_sectorsOf (nI g) f (nI h) K := by
  refine lpW2_for (fun k => nI (bitsN (fun s => decide (own ow g s = h)) k)) (fun k => nI k) 24 (fun k hk L hL => ?_) (fun L => ?_)
  · refine pk_le 24 k (fun z => by omega) (fun _ => ?_)
    refine s_ownerOf hf hg hk ?_
    have hb := bitsN_lt (fun s => decide (own ow g s = h)) k
    refine pk_ne (own ow g k) h (fun hne => ?_) (fun he => ?_) rfl rfl (by have := hv (24 * g + k) (by omega); show ow _ < _; omega) hh
    · refine nm_r (nI_1 k) ?_
      rw [bitsN, if_neg (by simp [hne])] at hL
      exact hL
    · refine nm_r (or_bit hb (by omega)) (nm_r (nI_1 k) ?_)
      rw [bitsN, if_pos (by simp [he])] at hL
      exact hL
  · exact pk_le 24 24 (fun _ => hK) (fun z => by omega)
