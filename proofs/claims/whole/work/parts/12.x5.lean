theorem bI_n (b : Bool) : narrow .boolean (.int (bI b)) = .int (bI b) := by cases b <;> rfl
theorem pk_ix' (x : Int32) (n : Nat) (hn : n < 2 ^ 31) : x < 0 ∨ nI n ≤ x ∨ ∃ j : Nat, j < n ∧ x = nI j := pk_ix x hn
theorem nI_n0 {j : Nat} (h : j < 2 ^ 31) : ¬ nI j < 0 := nI_pos h
/-- a range's test, of the class: in it, out of it -/
theorem rg_t {A B C : Prop} {j n : Nat} (hj : j < n) (hn : n < 2 ^ 31) (hC : C) : ((nI j < 0) → A) ∧ (¬ nI j < 0 → ((nI n ≤ nI j → B) ∧ (¬ nI n ≤ nI j → C))) := br_f (nI_pos (by omega)) (br_f (nI_ge hj (by omega)) hC)
theorem rg_f {A B : Prop} {x : Int32} {n : Nat} (h : x < 0 ∨ nI n ≤ x) (hA : A) : ((x < 0) → A) ∧ (¬ x < 0 → ((nI n ≤ x → A) ∧ (¬ nI n ≤ x → B))) := ⟨fun _ => hA, fun z => ⟨fun _ => hA, fun y => absurd (h.resolve_left z) y⟩⟩
theorem s4_isHeir_t {j : Nat} (hj : j < 6) {K : Int32 → Prop} (hK : K 1) : wp_X4_isHeir (nI j) K := rg_t (n := 6) hj (by decide) hK
theorem s4_isHeir_f {x : Int32} (h : x < 0 ∨ nI 6 ≤ x) {K : Int32 → Prop} (hK : K 0) : wp_X4_isHeir x K := rg_f (n := 6) h hK
theorem s4_isSector_t {j : Nat} (hj : j < 24) {K : Int32 → Prop} (hK : K 1) : wp_X4_isSector (nI j) K := rg_t (n := 24) hj (by decide) hK
theorem s4_isSector_f {x : Int32} (h : x < 0 ∨ nI 24 ≤ x) {K : Int32 → Prop} (hK : K 0) : wp_X4_isSector x K := rg_f (n := 24) h hK
theorem s4_isRing_t {j : Nat} (hj : j < 5) {K : Int32 → Prop} (hK : K 1) : wp_X4_isRing (nI j) K := rg_t (n := 5) hj (by decide) hK
theorem s4_isRing_f {x : Int32} (h : x < 0 ∨ nI 5 ≤ x) {K : Int32 → Prop} (hK : K 0) : wp_X4_isRing x K := rg_f (n := 5) h hK
theorem s4_isImage_t {j : Nat} (hj : j < 2) {K : Int32 → Prop} (hK : K 1) : wp_X4_isImage (nI j) K := rg_t (n := 2) hj (by decide) hK
theorem s4_isImage_f {x : Int32} (h : x < 0 ∨ nI 2 ≤ x) {K : Int32 → Prop} (hK : K 0) : wp_X4_isImage x K := rg_f (n := 2) h hK
theorem s5_in_t {j : Nat} (lo hi : Nat) (h1 : lo ≤ j) (h2 : j ≤ hi) (hh : hi < 2 ^ 31) {K : Int32 → Prop} (hK : K 1) : wp_X5_in (nI j) (nI lo) (nI hi) K := br_f (nI_nlt h1 (by omega)) (br_f (nI_nlt h2 hh) hK)
theorem s5_in_f {x : Int32} (hi : Nat) (h : x < 0 ∨ nI (hi + 1) ≤ x) (hh : hi + 1 < 2 ^ 31) {K : Int32 → Prop} (hK : K 0) : wp_X5_in x (nI 0) (nI hi) K := by
  refine ⟨fun _ => hK, fun z => ⟨fun _ => hK, fun y => ?_⟩⟩
  have h2 := h.resolve_left z
  obtain ⟨j, hj, rfl⟩ := nI_of z
  rw [nI_leI hh hj] at h2
  exact absurd (nI_lt (by omega) hj) y
theorem s5_in_o {j : Nat} (lo hi : Nat) (h : j < lo ∨ hi < j) (hj : j < 2 ^ 31) (hh : hi < 2 ^ 31) (hl : lo < 2 ^ 31) {K : Int32 → Prop} (hK : K 0) : wp_X5_in (nI j) (nI lo) (nI hi) K := pk_lt j lo (fun _ => hK) (fun z => pk_lt hi j (fun _ => hK) (fun y => by omega) rfl rfl hh hj) rfl rfl hj hl
theorem s5_in_x {x : Int32} (lo hi m : Nat) (h : x < 0 ∨ nI m ≤ x) (hl : lo < 2 ^ 31) (hh : hi < m) (hm : m < 2 ^ 31) {K : Int32 → Prop} (hK : K 0) : wp_X5_in x (nI lo) (nI hi) K := by
  refine ⟨fun _ => hK, fun z => ⟨fun _ => hK, fun y => ?_⟩⟩
  rcases h with h | h
  · refine absurd ?_ z
    have h0 : (0 : Int32).toInt = 0 := by decide
    rw [Int32.lt_iff_toInt_lt] at h ⊢
    rw [nI_toInt hl]; omega
  · refine absurd ?_ y
    rw [Int32.le_iff_toInt_le, nI_toInt hm] at h
    rw [Int32.lt_iff_toInt_lt, nI_toInt (by omega)]; omega
theorem s5_isHeir_t {j : Nat} (hj : j < 6) {K : Int32 → Prop} (hK : K 1) : wp_X5_isHeir (nI j) K := s5_in_t 0 5 (by omega) (by omega) (by decide) ⟨rfl, hK⟩
theorem s5_isHeir_f {x : Int32} (h : x < 0 ∨ nI 6 ≤ x) {K : Int32 → Prop} (hK : K 0) : wp_X5_isHeir x K := s5_in_f 5 h (by decide) ⟨rfl, hK⟩
theorem s5_isSector_t {j : Nat} (hj : j < 24) {K : Int32 → Prop} (hK : K 1) : wp_X5_isSector (nI j) K := s5_in_t 0 23 (by omega) (by omega) (by decide) ⟨rfl, hK⟩
theorem s5_isSector_f {x : Int32} (h : x < 0 ∨ nI 24 ≤ x) {K : Int32 → Prop} (hK : K 0) : wp_X5_isSector x K := s5_in_f 23 h (by decide) ⟨rfl, hK⟩
theorem s5_isRing_t {j : Nat} (hj : j < 5) {K : Int32 → Prop} (hK : K 1) : wp_X5_isRing (nI j) K := s5_in_t 0 4 (by omega) (by omega) (by decide) ⟨rfl, hK⟩
theorem s5_isRing_f {x : Int32} (h : x < 0 ∨ nI 5 ≤ x) {K : Int32 → Prop} (hK : K 0) : wp_X5_isRing x K := s5_in_f 4 h (by decide) ⟨rfl, hK⟩
theorem s5_next {s : Nat} (hs : s < 24) {K : Int32 → Prop} (hK : K (nI ((s + 1) % 24))) : wp_X5_next (nI s) K := by
  show K (iR (nI s + nI 1) (nI 24))
  rw [nI_add, rem_n (by omega) (by decide) (by decide)]; exact hK
theorem s5_before {s : Nat} (hs : s < 24) {K : Int32 → Prop} (hK : K (nI ((s + 23) % 24))) : wp_X5_before (nI s) K := by
  show K (iR (nI s + nI 24 - nI 1) (nI 24))
  rw [nI_add, pk_sub (by omega), rem_n (by omega) (by decide) (by decide)]; exact hK
theorem s5_hasBit {n k : Nat} (hn : n < 2 ^ 31) (hk : k < 31) {K : Int32 → Prop} (hK : K (bI (n.testBit k))) : wp_X5_hasBit (nI n) (nI k) K := by
  unfold wp_X5_hasBit
  rw [shr_bit hn hk]
  by_cases hb : n.testBit k
  · rw [hb] at hK; rw [if_pos hb]; exact bn_t rfl hK
  · rw [Bool.eq_false_iff.mpr hb] at hK; rw [if_neg hb]; exact bn_f (by decide) hK
/-- the code of a sort -/
def cde : Nat → Nat
  | 0 => 118
  | 1 => 119
  | 2 => 109
  | 3 => 114
  | _ => 115
theorem sortOf_rows {x : Int32} {v : Nat} {K : Int32 → Prop} (hx : x = nI v) (hv : v < 2 ^ 31) (h0 : v < 109 ∨ 119 < v → K (-6)) (h109 : v = 109 → K 2) (h110 : v = 110 → K (-6)) (h111 : v = 111 → K (-6)) (h112 : v = 112 → K (-6)) (h113 : v = 113 → K (-6)) (h114 : v = 114 → K 3) (h115 : v = 115 → K 4) (h116 : v = 116 → K (-6)) (h117 : v = 117 → K (-6)) (h118 : v = 118 → K 0) (h119 : v = 119 → K 1) : wp_X5_sortOf x K := by
  subst hx
  have e : ∀ c : Nat, c < 2 ^ 31 → (nI v = nI c → v = c) := fun c hc z => (nI_eq hv hc).mp z
  unfold wp_X5_sortOf
  rw [nI_toInt hv]
  exact ⟨fun z => h0 (by omega), fun z => h109 (e 109 (by decide) z), fun z => h110 (e 110 (by decide) z), fun z => h111 (e 111 (by decide) z), fun z => h112 (e 112 (by decide) z), fun z => h113 (e 113 (by decide) z), fun z => h114 (e 114 (by decide) z), fun z => h115 (e 115 (by decide) z), fun z => h116 (e 116 (by decide) z), fun z => h117 (e 117 (by decide) z), fun z => h118 (e 118 (by decide) z), fun z => h119 (e 119 (by decide) z)⟩
theorem s5_sortOf {q : Nat} (hq : q < 5) {K : Int32 → Prop} (hK : K (nI q)) : wp_X5_sortOf (nI (cde q)) K := by
  rcases (show q = 0 ∨ q = 1 ∨ q = 2 ∨ q = 3 ∨ q = 4 by omega) with rfl | rfl | rfl | rfl | rfl <;>
  exact sortOf_rows rfl (by decide) (fun z => absurd z (by decide)) (fun z => by first | exact hK | exact absurd z (by decide)) (fun z => absurd z (by decide)) (fun z => absurd z (by decide)) (fun z => absurd z (by decide)) (fun z => absurd z (by decide)) (fun z => by first | exact hK | exact absurd z (by decide)) (fun z => by first | exact hK | exact absurd z (by decide)) (fun z => absurd z (by decide)) (fun z => absurd z (by decide)) (fun z => by first | exact hK | exact absurd z (by decide)) (fun z => by first | exact hK | exact absurd z (by decide))
/-- how many of the numbers below n p names -/
def cntN (p : Nat → Bool) : Nat → Nat
  | 0 => 0
  | n + 1 => cntN p n + if p n then 1 else 0
theorem cntN_le (p : Nat → Bool) : ∀ n, cntN p n ≤ n
  | 0 => Nat.le_refl 0
  | n + 1 => by have := cntN_le p n; rw [cntN]; split <;> omega
theorem nI_a0 (n : Nat) : nI n + (0 : Int32) = nI n := by rw [lit_n 0, nI_add]; rfl
theorem nI_o0 (n : Nat) : nI n ||| (0 : Int32) = nI n := by rw [lit_n 0, nI_or, Nat.or_zero]
theorem s5_sectorsOf {h : Nat} {o : Nat → Nat} {f : Nat → Int32} (hf : rep 24 f o) (hv : ∀ s, s < 24 → o s < 6) (hh : h < 2 ^ 31) {K : Int32 → Prop} (hK : K (nI (cntN (fun s => decide (o s = h)) 24))) : wp_X5_sectorsOf f (nI h) K := by
  refine lpW2_for (fun k => nI (cntN (fun s => decide (o s = h)) k)) (fun k => nI k) 24 (fun k hk L hL => ?_) (fun L => ?_)
  · refine pk_le 24 k (fun z => by omega) (fun _ => ⟨k, rfl, hk, ?_⟩)
    rw [hf k hk]
    refine pk_ne (o k) h (fun hne => ?_) (fun he => ?_) rfl rfl (by have := hv k hk; omega) hh
    · refine nm_r (nI_a0 _) (nm_r (nI_1 k) ?_)
      rw [cntN, if_neg (by simp [hne])] at hL
      exact hL
    · refine nm_r (nI_1 _) (nm_r (nI_1 k) ?_)
      rw [cntN, if_pos (by simp [he])] at hL
      exact hL
  · exact pk_le 24 24 (fun _ => hK) (fun z => by omega)
theorem s5_sectors {h : Nat} {o : Nat → Nat} {f : Nat → Int32} (hf : rep 24 f o) (hv : ∀ s, s < 24 → o s < 6) (hh : h < 2 ^ 31) {K : Int32 → Prop} (hK : K (nI (bitsN (fun s => decide (o s = h)) 24))) : wp_X5_sectors f (nI h) K := by
  refine lpW2_for (fun k => nI (bitsN (fun s => decide (o s = h)) k)) (fun k => nI k) 24 (fun k hk L hL => ?_) (fun L => ?_)
  · refine pk_le 24 k (fun z => by omega) (fun _ => ⟨k, rfl, hk, ?_⟩)
    rw [hf k hk]
    refine pk_ne (o k) h (fun hne => ?_) (fun he => ?_) rfl rfl (by have := hv k hk; omega) hh
    · refine nm_r (nI_o0 _) (nm_r (nI_1 k) ?_)
      rw [bitsN, if_neg (by simp [hne])] at hL
      exact hL
    · refine nm_r (or_bit (bitsN_lt _ k) (by omega)) (nm_r (nI_1 k) ?_)
      rw [bitsN, if_pos (by simp [he])] at hL
      exact hL
  · exact pk_le 24 24 (fun _ => hK) (fun z => by omega)
theorem s5_sectorWorth {h s : Nat} {so wo : Nat → Nat} {f fw : Nat → Int32} (hf : rep 120 f (fun k => cde (so k))) (hfw : rep 30 fw wo) (hv : ∀ k, k < 120 → so k < 5) (hh : h < 6) (hs : s < 24) {K : Int32 → Prop} (hK : K (nI (wsec so wo h s))) : wp_X5_sectorWorth f fw (nI h) (nI s) K := by
  refine lpW2_for (fun k => nI (sumN (fun r => wo (5 * h + so (24 * r + s))) k)) (fun k => nI k) 5 (fun k hk L hL => ?_) (fun L => ?_)
  · refine pk_le 5 k (fun z => by omega) (fun _ => ⟨24 * k + s, by rw [lit_n 24, pk_mul, nI_add], by omega, nm_r (hf _ (by omega)) ?_⟩)
    have := hv (24 * k + s) (by omega)
    refine s5_sortOf this ⟨5 * h + so (24 * k + s), by rw [lit_n 5, pk_mul, nI_add], by omega, ?_⟩
    rw [hfw _ (by omega)]
    refine nm_r (nI_add _ _) (nm_r (nI_1 k) ?_)
    exact hL
  · exact pk_le 5 5 (fun _ => hK) (fun z => by omega)
theorem s5_shareOf {h set : Nat} {so wo : Nat → Nat} {f fw : Nat → Int32} (hf : rep 120 f (fun k => cde (so k))) (hfw : rep 30 fw wo) (hv : ∀ k, k < 120 → so k < 5) (hh : h < 6) (hset : set < 2 ^ 31) {K : Int32 → Prop} (hK : K (nI (shr so wo h set))) : wp_X5_shareOf f fw (nI h) (nI set) K := by
  refine lpW2_for (fun k => nI (sumN (fun s => if set.testBit s then wsec so wo h s else 0) k)) (fun k => nI k) 24 (fun k hk L hL => ?_) (fun L => ?_)
  · refine pk_le 24 k (fun z => by omega) (fun _ => s5_hasBit hset (by omega) ?_)
    by_cases hb : set.testBit k
    · rw [hb]
      refine br_f (by decide) (s5_sectorWorth hf hfw hv hh hk (nm_r (nI_add _ _) (nm_r (nI_1 k) ?_)))
      rw [sumN, if_pos hb] at hL
      exact hL
    · rw [Bool.eq_false_iff.mpr hb]
      refine br_t rfl (nm_r (nI_a0 _) (nm_r (nI_1 k) ?_))
      rw [sumN, if_neg hb] at hL
      exact hL
  · exact pk_le 24 24 (fun _ => hK) (fun z => by omega)
