/-! fences: the search for a way, told for both sides -/
theorem cntN_flip {p p' : Nat → Bool} {c : Nat} (h0 : p c = false) (h1 : p' c = true) : ∀ {n : Nat}, c < n → (∀ k, k < n → k ≠ c → p' k = p k) → cntN p' n = cntN p n + 1
  | 0, hc, _ => absurd hc (Nat.not_lt_zero c)
  | n + 1, hc, h => by
    rw [cntN, cntN]
    by_cases e : c = n
    · subst e
      rw [cntN_cong (p := p') (q := p) (fun k hk => h k (by omega) (by omega)), h0, h1, if_pos rfl, if_neg (by decide)]
    · rw [cntN_flip h0 h1 (by omega) (fun k hk hne => h k (by omega) hne), h n (by omega) (fun z => e z.symm)]
      omega
theorem cntN_lt {p : Nat → Bool} {c : Nat} (h0 : p c = false) : ∀ {n : Nat}, c < n → cntN p n < n
  | 0, hc => absurd hc (Nat.not_lt_zero c)
  | n + 1, hc => by
    rw [cntN]
    by_cases e : c = n
    · subst e
      have := cntN_le p c
      rw [h0, if_neg (by decide)]; omega
    · have := cntN_lt h0 (n := n) (by omega)
      split <;> omega
/-- what is known of the first t cells while the search goes on: how each was come into (0 to 3 a side, 4 it begins there, 5 not yet), and the row of those that were -/
def bfS (S : Nat → Prop) (R : Nat → Nat) (t n : Nat) (ca q : Nat → Nat) : Prop := n = cntN (fun c => decide (ca c ≠ 5)) t ∧ (∀ i, i < n → q i < t ∧ ca (q i) ≠ 5) ∧ (∀ c, c < t → ca c ≠ 5 → ∃ i, i < n ∧ q i = c) ∧ (∀ i, i < n → (ca (q i) = 4 ∧ S (q i)) ∨ (ca (q i) < 4 ∧ ∃ j, j < i ∧ nbC (q j) (ca (q i)) = q i ∧ 0 < R (4 * q j + ca (q i)))) ∧ (∀ c, c < t → S c → ca c ≠ 5) ∧ ∀ i j, i < j → j < n → q i ≠ q j
theorem bf_n {S : Nat → Prop} {R : Nat → Nat} {t n : Nat} {ca q : Nat → Nat} (h : bfS S R t n ca q) : n ≤ t := by rw [h.1]; exact cntN_le _ t
theorem bf_0 (S : Nat → Prop) (R : Nat → Nat) (ca q : Nat → Nat) : bfS S R 0 0 ca q := ⟨rfl, fun i h => absurd h (Nat.not_lt_zero i), fun i h => absurd h (Nat.not_lt_zero i), fun i h => absurd h (Nat.not_lt_zero i), fun i h => absurd h (Nat.not_lt_zero i), fun i j _ h => absurd h (Nat.not_lt_zero j)⟩
theorem bf_skip {S : Nat → Prop} {R : Nat → Nat} {t n : Nat} {ca q : Nat → Nat} (h : bfS S R t n ca q) (hs : ¬ S t) : bfS S R (t + 1) n (updN ca t 5) q := by
  obtain ⟨h1, h2, h3, h4, h5, h6⟩ := h
  have e : ∀ c, c ≠ t → updN ca t 5 c = ca c := fun c hc => updN_n hc
  have eq : ∀ i, i < n → updN ca t 5 (q i) = ca (q i) := fun i hi => e _ (by have := (h2 i hi).1; omega)
  refine ⟨?_, fun i hi => ?_, fun c hc hne => ?_, fun i hi => ?_, fun c hc hS => ?_, h6⟩
  · rw [cntN, updN_s, decide_eq_false (by decide), if_neg (by decide), Nat.add_zero, h1]
    exact cntN_cong (fun c hc => by rw [e c (by omega)])
  · rw [eq i hi]; exact ⟨by have := (h2 i hi).1; omega, (h2 i hi).2⟩
  · by_cases z : c = t
    · rw [z, updN_s] at hne; exact absurd rfl hne
    · rw [e c z] at hne; exact h3 c (by omega) hne
  · rw [eq i hi]; exact h4 i hi
  · have z : c ≠ t := fun z => hs (by rw [← z]; exact hS)
    rw [e c z]; exact h5 c (by omega) hS
theorem bf_add {S : Nat → Prop} {R : Nat → Nat} {t n c s : Nat} {ca q : Nat → Nat} (h : bfS S R t n ca q) (hc : c < t) (h0 : ca c = 5) (hs : (s = 4 ∧ S c) ∨ (s < 4 ∧ ∃ j, j < n ∧ nbC (q j) s = c ∧ 0 < R (4 * q j + s))) : n < t ∧ bfS S R t (n + 1) (updN ca c s) (updN q n c) := by
  obtain ⟨h1, h2, h3, h4, h5, h6⟩ := h
  have hs5 : s ≠ 5 := by omega
  have e : ∀ x, x ≠ c → updN ca c s x = ca x := fun x hx => updN_n hx
  have en : updN q n c n = c := updN_s _ _ _
  have eq : ∀ i, i < n → updN q n c i = q i := fun i hi => updN_n (by omega)
  have ne : ∀ i, i < n → q i ≠ c := fun i hi z => (h2 i hi).2 (by rw [z]; exact h0)
  refine ⟨by rw [h1]; exact cntN_lt (c := c) (decide_eq_false (fun z => z h0)) hc, ?_, fun i hi => ?_, fun x hx hne => ?_, fun i hi => ?_, fun x hx hS => ?_, fun i j hij hj => ?_⟩
  · rw [cntN_flip (p := fun c => decide (ca c ≠ 5)) (c := c) (decide_eq_false (fun z => z h0)) (decide_eq_true (by rw [updN_s]; exact hs5)) hc (fun k hk hne => by rw [e k hne]), ← h1]
  · by_cases z : i = n
    · rw [z, en, updN_s]; exact ⟨hc, hs5⟩
    · rw [eq i (by omega), e _ (ne i (by omega))]; exact h2 i (by omega)
  · by_cases z : x = c
    · exact ⟨n, by omega, by rw [en, z]⟩
    · rw [e x z] at hne
      obtain ⟨i, hi, hq⟩ := h3 x hx hne
      exact ⟨i, by omega, by rw [eq i hi, hq]⟩
  · by_cases z : i = n
    · rw [z, en, updN_s]
      rcases hs with hs | ⟨hs, j, hj, k1, k2⟩
      · exact Or.inl hs
      · exact Or.inr ⟨hs, j, hj, by rw [eq j hj]; exact k1, by rw [eq j hj]; exact k2⟩
    · rw [eq i (by omega), e _ (ne i (by omega))]
      rcases h4 i (by omega) with y | ⟨y, j, hj, k1, k2⟩
      · exact Or.inl y
      · exact Or.inr ⟨y, j, hj, by rw [eq j (by omega)]; exact k1, by rw [eq j (by omega)]; exact k2⟩
  · by_cases z : x = c
    · rw [z, updN_s]; exact hs5
    · rw [e x z]; exact h5 x hx hS
  · by_cases z : j = n
    · rw [z, en, eq i (by omega)]; exact ne i (by omega)
    · rw [eq i (by omega), eq j (by omega)]; exact h6 i j hij (by omega)
/-- a cell more, in which it begins -/
theorem bf_src {S : Nat → Prop} {R : Nat → Nat} {t n : Nat} {ca q : Nat → Nat} (h : bfS S R t n ca q) (hs : S t) : bfS S R (t + 1) (n + 1) (updN ca t 4) (updN q n t) := by
  have hn := bf_n h
  obtain ⟨h1, h2, h3, h4, h5, h6⟩ := h
  have e : ∀ x, x ≠ t → updN ca t 4 x = ca x := fun x hx => updN_n hx
  have en : updN q n t n = t := updN_s _ _ _
  have eq : ∀ i, i < n → updN q n t i = q i := fun i hi => updN_n (by omega)
  have ne : ∀ i, i < n → q i ≠ t := fun i hi z => by have := (h2 i hi).1; omega
  refine ⟨?_, fun i hi => ?_, fun x hx hne => ?_, fun i hi => ?_, fun x hx hS => ?_, fun i j hij hj => ?_⟩
  · rw [cntN, updN_s, decide_eq_true (by decide), if_pos rfl, h1]
    congr 1
    exact cntN_cong (fun c hc => by rw [e c (by omega)])
  · by_cases z : i = n
    · rw [z, en, updN_s]; exact ⟨by omega, by decide⟩
    · rw [eq i (by omega), e _ (ne i (by omega))]; exact ⟨by have := (h2 i (by omega)).1; omega, (h2 i (by omega)).2⟩
  · by_cases z : x = t
    · exact ⟨n, by omega, by rw [en, z]⟩
    · rw [e x z] at hne
      obtain ⟨i, hi, hq⟩ := h3 x (by omega) hne
      exact ⟨i, by omega, by rw [eq i hi, hq]⟩
  · by_cases z : i = n
    · rw [z, en, updN_s]; exact Or.inl ⟨rfl, hs⟩
    · rw [eq i (by omega), e _ (ne i (by omega))]
      rcases h4 i (by omega) with y | ⟨y, j, hj, k1, k2⟩
      · exact Or.inl y
      · exact Or.inr ⟨y, j, hj, by rw [eq j (by omega)]; exact k1, by rw [eq j (by omega)]; exact k2⟩
  · by_cases z : x = t
    · rw [z, updN_s]; decide
    · rw [e x z]; exact h5 x (by omega) hS
  · by_cases z : j = n
    · rw [z, en, eq i (by omega)]; exact ne i (by omega)
    · rw [eq i (by omega), eq j (by omega)]; exact h6 i j hij (by omega)
/-- the first d sides of a cell have been tried -/
def bfD (R ca : Nat → Nat) (c d : Nat) : Prop := ∀ d', d' < d → 0 < R (4 * c + d') → ca (nbC c d') ≠ 5
def bfP (T : Nat → Prop) (R ca q : Nat → Nat) (i : Nat) : Prop := ∀ i', i' < i → ¬ T (q i') ∧ bfD R ca (q i') 4
theorem bfD_add {R ca : Nat → Nat} {c d x s : Nat} (hs : s ≠ 5) (h : bfD R ca c d) : bfD R (updN ca x s) c d := fun d' hd h0 => by
  have := h d' hd h0
  by_cases e : nbC c d' = x
  · rw [e, updN_s]; exact hs
  · rw [updN_n e]; exact this
theorem bfD_suc {R ca : Nat → Nat} {c d : Nat} (h : bfD R ca c d) (h2 : 0 < R (4 * c + d) → ca (nbC c d) ≠ 5) : bfD R ca c (d + 1) := fun d' hd h0 => by
  by_cases e : d' = d
  · rw [e] at h0 ⊢; exact h2 h0
  · exact h d' (by omega) h0
theorem bfP_add {T : Nat → Prop} {R ca q : Nat → Nat} {i n x s : Nat} (hs : s ≠ 5) (hi : i ≤ n) (h : bfP T R ca q i) : bfP T R (updN ca x s) (updN q n x) i := fun i' hi' => by
  rw [updN_n (by omega)]
  exact ⟨(h i' hi').1, bfD_add hs (h i' hi').2⟩
/-- nothing is left to be tried: no way leads out of what was reached -/
theorem bf_end {S T : Nat → Prop} {R : Nat → Nat} {n : Nat} {ca q : Nat → Nat} (h : bfS S R 120 n ca q) (hp : bfP T R ca q n) (hR : wfR R) : ∃ σ, mxS S T R σ := by
  obtain ⟨h1, h2, h3, h4, h5, h6⟩ := h
  refine ⟨fun c => if ca c = 5 then 0 else 1, ⟨fun c _ => ?_, fun c hc hS => if_neg (h5 c hc hS), fun c hc hT => ?_⟩, fun c hc d hd z h0 => ?_⟩
  · by_cases e : ca c = 5
    · exact Or.inl (if_pos e)
    · exact Or.inr (if_neg e)
  · by_cases e : ca c = 5
    · exact if_pos e
    · obtain ⟨i, hi, hq⟩ := h3 c hc e
      exact absurd (by rw [hq]; exact hT) (hp i hi).1
  · have e : ca c ≠ 5 := fun e => by
      have : (if ca c = 5 then (0 : Int) else 1) = 0 := if_pos e
      rw [show (if ca c = 5 then (0 : Int) else 1) = 1 from z] at this
      exact absurd this (by decide)
    obtain ⟨i, hi, hq⟩ := h3 c hc e
    have := (hp i hi).2 d hd (by rw [hq]; exact h0)
    rw [hq] at this
    exact if_neg this
/-- from the i-th of the row a way with room for m leads back, in fewer than f steps -/
def wyB (R ca q : Nat → Nat) (m : Nat) : Nat → Nat → Prop
  | 0, _ => False
  | f + 1, i => ca (q i) = 4 ∨ (ca (q i) < 4 ∧ ∃ j, j < i ∧ nbC (q j) (ca (q i)) = q i ∧ m ≤ R (4 * q j + ca (q i)) ∧ wyB R ca q m f j)
theorem wyB_1 {S : Nat → Prop} {R : Nat → Nat} {t n : Nat} {ca q : Nat → Nat} (h : bfS S R t n ca q) : ∀ N i, i < N → i < n → wyB R ca q 1 N i
  | 0, i, hi, _ => absurd hi (Nat.not_lt_zero i)
  | N + 1, i, hi, hn => by
    rcases h.2.2.2.1 i hn with y | ⟨y, j, hj, k1, k2⟩
    · exact Or.inl y.1
    · exact Or.inr ⟨y, j, hj, k1, k2, wyB_1 h N j (by omega) (by omega)⟩
theorem wyB_cong {R R' ca q : Nat → Nat} {m : Nat} : ∀ {f i : Nat}, (∀ j, j < i → ∀ d, d < 4 → R (4 * q j + d) = R' (4 * q j + d)) → wyB R ca q m f i → wyB R' ca q m f i
  | 0, _, _, h => h
  | f + 1, i, e, h => by
    rcases h with y | ⟨y, j, hj, k1, k2, k3⟩
    · exact Or.inl y
    · exact Or.inr ⟨y, j, hj, k1, by rw [← e j hj _ y]; exact k2, wyB_cong (fun j' hj' => e j' (by omega)) k3⟩
theorem wyB_le {R ca q : Nat → Nat} {m m' : Nat} (hm : m' ≤ m) : ∀ {f i : Nat}, wyB R ca q m f i → wyB R ca q m' f i
  | 0, _, h => h
  | f + 1, i, h => by
    rcases h with y | ⟨y, j, hj, k1, k2, k3⟩
    · exact Or.inl y
    · exact Or.inr ⟨y, j, hj, k1, by omega, wyB_le hm k3⟩
/-- a step of the flow back along the way: rooms of cells reached before stay -/
theorem push_far {R q : Nat → Nat} {n i j k d d' m : Nat} (h6 : ∀ i j, i < j → j < n → q i ≠ q j) (hi : i < n) (hji : j < i) (hkj : k < j) (hd : d < 4) (hd' : d' < 4) (hq : nbC (q j) d = q i) : push R (q j) d m (4 * q k + d') = R (4 * q k + d') := by
  have a := h6 k j hkj (by omega)
  have b := h6 k i (by omega) hi
  have o : opD d < 4 := by unfold opD; split; omega; split; omega; split <;> omega
  exact push_n (by omega) (by rw [hq]; omega)
