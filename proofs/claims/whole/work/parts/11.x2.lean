theorem s_ownerBehind {g s : Nat} {ow : Nat → Nat} {f : Nat → Int32} (hf : rep 504 f ow) (hg : g ≤ 20) (hs : s < 24) {K : Int32 → Prop} (hK : K (nI (ow (24 * g + s)))) : wp_X2_ownerBehind f (nI g) (nI s) K := by
  refine ⟨24 * g + s, ?_, by omega, ?_⟩
  · rw [lit_n 24, pk_mul, nI_add, Nat.mul_comm]
  · rw [hf _ (by omega)]; exact hK
theorem s_ownerOf {g s : Nat} {ow : Nat → Nat} {f : Nat → Int32} (hf : rep 504 f ow) (hg : g ≤ 20) (hs : s < 24) {K : Int32 → Prop} (hK : K (nI (ow (24 * g + s)))) : wp_X2_ownerOf (nI g) f (nI s) K := s_ownerBehind hf hg hs hK
/-- whose is a sector now -/
abbrev own (ow : Nat → Nat) (g : Nat) (s : Nat) : Nat := ow (24 * g + s)
theorem s_sectorsOf {g h : Nat} {ow : Nat → Nat} {f : Nat → Int32} (hf : rep 504 f ow) (hv : ∀ k, k < 504 → ow k < 6) (hg : g ≤ 20) (hh : h < 2 ^ 31) {K : Int32 → Prop} (hK : K (nI (bitsN (fun s => decide (own ow g s = h)) 24))) : wp_X2_sectorsOf (nI g) f (nI h) K := by
  refine lpW2_for (fun k => nI (bitsN (fun s => decide (own ow g s = h)) k)) (fun k => nI k) 24 (fun k hk L hL => ?_) (fun L => ?_)
  · refine pk_le 24 k (fun z => by omega) (fun _ => ?_)
    refine s_ownerOf hf hg hk ?_
    have hb := bitsN_lt (fun s => decide (own ow g s = h)) k
    refine pk_ne (own ow g k) h (fun hne => ?_) (fun he => ?_) rfl rfl (by have := hv (24 * g + k) (by omega); show ow _ < _; omega) hh
    · refine nm_r (nI_1 k) ?_
      rw [bitsN, if_neg (by simp [hne])] at hL
      exact hL
    · refine nm_r (or_bit hb (by omega)) (nm_r (nI_1 k) ?_)
      rw [bitsN, if_pos (by simp [he])] at hL
      exact hL
  · exact pk_le 24 24 (fun _ => hK) (fun z => by omega)
theorem s_sortAt {r s : Nat} {so : Nat → Nat} {f : Nat → Int32} (hf : rep 120 f so) (hr : r < 5) (hs : s < 24) {K : Int32 → Prop} (hK : K (nI (so (24 * r + s)))) : wp_X2_sortAt f (nI r) (nI s) K := by
  refine ⟨24 * r + s, ?_, by omega, ?_⟩
  · rw [lit_n 24, pk_mul, nI_add, Nat.mul_comm]
  · rw [hf _ (by omega)]; exact hK
theorem s_sectorsOfSort {r q : Nat} {so : Nat → Nat} {f : Nat → Int32} (hf : rep 120 f so) (hv : ∀ k, k < 120 → so k < 5) (hr : r < 5) (hq : q < 2 ^ 31) {K : Int32 → Prop} (hK : K (nI (bitsN (fun s => decide (so (24 * r + s) = q)) 24))) : wp_X2_sectorsOfSort f (nI r) (nI q) K := by
  refine lpW2_for (fun k => nI (bitsN (fun s => decide (so (24 * r + s) = q)) k)) (fun k => nI k) 24 (fun k hk L hL => ?_) (fun L => ?_)
  · refine pk_le 24 k (fun z => by omega) (fun _ => ?_)
    refine s_sortAt hf hr hk ?_
    have hb := bitsN_lt (fun s => decide (so (24 * r + s) = q)) k
    refine pk_ne (so (24 * r + k)) q (fun hne => ?_) (fun he => ?_) rfl rfl (by have := hv (24 * r + k) (by omega); omega) hq
    · refine nm_r (nI_1 k) ?_
      rw [bitsN, if_neg (by simp [hne])] at hL
      exact hL
    · refine nm_r (or_bit hb (by omega)) (nm_r (nI_1 k) ?_)
      rw [bitsN, if_pos (by simp [he])] at hL
      exact hL
  · exact pk_le 24 24 (fun _ => hK) (fun z => by omega)
/-- the heirs, as bits, of the sectors of a set, among the first n -/
def hitN (o : Nat → Nat) (set : Nat) : Nat → Nat
  | 0 => 0
  | n + 1 => if set.testBit n then hitN o set n ||| 2 ^ o n else hitN o set n
theorem or_lt {a b n : Nat} (ha : a < 2 ^ n) (hb : b < 2 ^ n) : a ||| b < 2 ^ n := Nat.or_lt_two_pow ha hb
theorem hitN_lt {o : Nat → Nat} {set : Nat} : ∀ {n : Nat}, (∀ k, k < n → o k < 6) → hitN o set n < 64
  | 0, _ => by simp [hitN]
  | n + 1, h => by
    have ih := hitN_lt (o := o) (set := set) (n := n) (fun k hk => h k (by omega))
    rw [hitN]
    split
    · exact or_lt (n := 6) ih (Nat.pow_lt_pow_right (by decide) (h n (by omega)))
    · exact ih
theorem s_ownersOf {g set : Nat} {ow : Nat → Nat} {f : Nat → Int32} (hf : rep 504 f ow) (hv : ∀ k, k < 504 → ow k < 6) (hg : g ≤ 20) (hset : set < 2 ^ 31) {K : Int32 → Prop} (hK : K (nI (hitN (own ow g) set 24))) : wp_X2_ownersOf (nI g) f (nI set) K := by
  refine lpW2_for (fun k => nI (hitN (own ow g) set k)) (fun k => nI k) 24 (fun k hk L hL => ?_) (fun L => ?_)
  · refine pk_le 24 k (fun z => by omega) (fun _ => ?_)
    rw [shr_bit hset (by omega)]
    have hlt := hv (24 * g + k) (by omega)
    by_cases hb : set.testBit k
    · rw [if_pos hb]
      refine br_f (by decide) ?_
      refine s_ownerOf hf hg hk ?_
      refine nm_r (or_bitE _ (by omega)) (nm_r (nI_1 k) ?_)
      rw [hitN, if_pos hb] at hL
      exact hL
    · rw [if_neg hb]
      refine br_t rfl (nm_r (nI_1 k) ?_)
      rw [hitN, if_neg hb] at hL
      exact hL
  · exact pk_le 24 24 (fun _ => hK) (fun z => by omega)
/-- what a sector is worth to an heir -/
def wsec (so wo : Nat → Nat) (h s : Nat) : Nat := sumN (fun r => wo (5 * h + so (24 * r + s))) 5
theorem wsec_le {so wo : Nat → Nat} {h s : Nat} (hv : ∀ k, k < 120 → so k < 5) (hw : ∀ k, k < 30 → wo k ≤ 99) (hh : h < 6) (hs : s < 24) : wsec so wo h s ≤ 495 := sumN_le (n := 5) (c := 99) (fun k hk => hw _ (by have := hv (24 * k + s) (by omega); omega))
theorem s_shareOfSector {h s : Nat} {so wo : Nat → Nat} {f fw : Nat → Int32} (hf : rep 120 f so) (hfw : rep 30 fw wo) (hv : ∀ k, k < 120 → so k < 5) (hh : h < 6) (hs : s < 24) {K : Int32 → Prop} (hK : K (nI (wsec so wo h s))) : wp_X2_shareOfSector f fw (nI h) (nI s) K := by
  refine lpW2_for (fun k => nI (sumN (fun r => wo (5 * h + so (24 * r + s))) k)) (fun k => nI k) 5 (fun k hk L hL => ?_) (fun L => ?_)
  · refine pk_le 5 k (fun z => by omega) (fun _ => ?_)
    refine s_sortAt hf hk hs ?_
    have := hv (24 * k + s) (by omega)
    refine ⟨5 * h + so (24 * k + s), by rw [lit_n 5, pk_mul, nI_add, Nat.mul_comm], by omega, ?_⟩
    rw [hfw _ (by omega)]
    refine nm_r (nI_add _ _) (nm_r (nI_1 k) ?_)
    exact hL
  · exact pk_le 5 5 (fun _ => hK) (fun z => by omega)
/-- what a set of sectors is worth to an heir -/
def shr (so wo : Nat → Nat) (h set : Nat) : Nat := sumN (fun s => if set.testBit s then wsec so wo h s else 0) 24
theorem shr_le {so wo : Nat → Nat} {h set : Nat} (hv : ∀ k, k < 120 → so k < 5) (hw : ∀ k, k < 30 → wo k ≤ 99) (hh : h < 6) : shr so wo h set ≤ 11880 := sumN_le (n := 24) (c := 495) (fun k hk => by split; exact wsec_le hv hw hh hk; omega)
theorem s_shareOf {h set : Nat} {so wo : Nat → Nat} {f fw : Nat → Int32} (hf : rep 120 f so) (hfw : rep 30 fw wo) (hv : ∀ k, k < 120 → so k < 5) (hh : h < 6) (hset : set < 2 ^ 31) {K : Int32 → Prop} (hK : K (nI (shr so wo h set))) : wp_X2_shareOf f fw (nI h) (nI set) K := by
  refine lpW2_for (fun k => nI (sumN (fun s => if set.testBit s then wsec so wo h s else 0) k)) (fun k => nI k) 24 (fun k hk L hL => ?_) (fun L => ?_)
  · refine pk_le 24 k (fun z => by omega) (fun _ => ?_)
    rw [shr_bit hset (by omega)]
    by_cases hb : set.testBit k
    · rw [if_pos hb]
      refine br_f (by decide) (s_shareOfSector hf hfw hv hh hk (nm_r (nI_add _ _) (nm_r (nI_1 k) ?_)))
      rw [sumN, if_pos hb] at hL
      exact hL
    · rw [if_neg hb]
      refine br_t rfl (nm_r (nI_1 k) ?_)
      rw [sumN, if_neg hb] at hL
      exact hL
  · exact pk_le 24 24 (fun _ => hK) (fun z => by omega)
theorem s_hasRight {h q : Nat} {ga : Nat → Nat} {f : Nat → Int32} (hf : rep 6 f ga) (hv : ∀ k, k < 6 → ga k < 64) (hh : h < 6) (hq : q < 6) {K : Int32 → Prop} (hK : K (bI ((ga q).testBit h))) : wp_X2_hasRight f (nI h) (nI q) K := by
  refine ⟨q, rfl, hq, ?_⟩
  rw [hf q hq, shr_bit (by have := hv q hq; omega) (by omega)]
  by_cases hb : (ga q).testBit h
  · rw [if_pos hb]; rw [hb] at hK; exact br_f (by decide) hK
  · rw [if_neg hb]; rw [Bool.eq_false_iff.mpr hb] at hK; exact br_t rfl hK
/-- whether an heir comes into a sector without toll -/
def freeB (ow : Nat → Nat) (g : Nat) (ga : Nat → Nat) (h s : Nat) : Bool := decide (own ow g s = h) || (ga (own ow g s)).testBit h
theorem s_isFreeFor {g h s : Nat} {ow ga : Nat → Nat} {f fg : Nat → Int32} (hf : rep 504 f ow) (hv : ∀ k, k < 504 → ow k < 6) (hfg : rep 6 fg ga) (hvg : ∀ k, k < 6 → ga k < 64) (hg : g ≤ 20) (hh : h < 6) (hs : s < 24) {K : Int32 → Prop} (hK : K (bI (freeB ow g ga h s))) : wp_X2_isFreeFor (nI g) f fg (nI h) (nI s) K := by
  have hlt := hv (24 * g + s) (by omega)
  refine s_ownerOf hf hg hs ?_
  by_cases he : own ow g s = h
  · have e : freeB ow g ga h s = true := by simp [freeB, he]
    rw [e] at hK
    refine pk_eq (own ow g s) h (fun _ => hK) (fun z => absurd he z) rfl rfl (by show ow _ < _; omega) (by omega)
  · have e : freeB ow g ga h s = (ga (own ow g s)).testBit h := by simp [freeB, he]
    rw [e] at hK
    refine pk_eq (own ow g s) h (fun z => absurd z he) (fun _ => ?_) rfl rfl (by show ow _ < _; omega) (by omega)
    refine s_hasRight hfg hvg hh hlt ?_
    by_cases hb : (ga (own ow g s)).testBit h
    · rw [hb] at hK ⊢; exact br_f (by decide) hK
    · rw [Bool.eq_false_iff.mpr hb] at hK ⊢; exact br_t rfl hK
