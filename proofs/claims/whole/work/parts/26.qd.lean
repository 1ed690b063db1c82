/-! bounds -/
theorem cntN_front (p : Nat → Bool) : ∀ n, cntN p (n + 1) = (if p 0 then 1 else 0) + cntN (fun k => p (k + 1)) n
  | 0 => by simp [cntN]
  | n + 1 => by rw [cntN, cntN_front p n, cntN, Nat.add_assoc]
/-- a count round the hill may begin anywhere -/
theorem cntN_rot (p : Nat → Bool) : cntN (fun s => p ((s + 1) % 24)) 24 = cntN p 24 := by
  rw [cntN_front p 23]
  show cntN (fun s => p ((s + 1) % 24)) 23 + (if p ((23 + 1) % 24) then 1 else 0) = _
  rw [cntN_cong (p := fun s => p ((s + 1) % 24)) (q := fun k => p (k + 1)) (fun k hk => by show p ((k + 1) % 24) = p (k + 1); rw [Nat.mod_eq_of_lt (by omega)]), Nat.add_comm]
/-- two heirs as one -/
def asO (a b x : Nat) : Nat := if x = b then a else x
theorem asO_lt {a b x : Nat} (ha : a < 6) (hx : x < 6) : asO a b x < 6 := by unfold asO; split <;> assumption
/-- whether a bound lies ahead of a sector -/
def bdP (o : Nat → Nat) (a b s : Nat) : Bool := decide (asO a b (o s) ≠ asO a b (o ((s + 23) % 24)))
def bdQ (o : Nat → Nat) (a b s : Nat) : Bool := decide (asO a b (o s) ≠ asO a b (o ((s + 1) % 24)))
def bdN (o : Nat → Nat) (a b : Nat) : Nat := cntN (bdP o a b) 24
theorem bdN_le (o : Nat → Nat) (a b : Nat) : bdN o a b ≤ 24 := cntN_le _ 24
theorem bdQ_N (o : Nat → Nat) (a b : Nat) : cntN (bdQ o a b) 24 = bdN o a b := by
  rw [bdN, ← cntN_rot (bdP o a b)]
  refine cntN_cong (fun s hs => ?_)
  show decide _ = decide _
  rw [show ((s + 1) % 24 + 23) % 24 = s by omega]
  exact decide_eq_decide.mpr ⟨fun z e => z e.symm, fun z e => z e.symm⟩
theorem s_asOne {x a b : Nat} (hx : x < 6) (hb : b < 6) {K : Int32 → Prop} (hK : K (nI (asO a b x))) : wp_X4_asOne (nI x) (nI a) (nI b) K := by
  rw [asO] at hK
  refine pk_ne x b (fun z => ?_) (fun z => ?_) rfl rfl (by omega) (by omega)
  · rw [if_neg z] at hK; exact hK
  · rw [if_pos z] at hK; exact hK
theorem s_bounds1 {g a b : Nat} {ow : Nat → Nat} {fo : Nat → Int32} (ho : rep 504 fo ow) (vo : ∀ k, k < 504 → ow k < 6) (hg : g ≤ 20) (ha : a < 6) (hb : b < 6) {K : Int32 → Prop} (hK : K (nI (bdN (own ow g) a b))) : wp_X4_boundsAsOne (nI g) fo (nI a) (nI b) K := by
  have v6 : ∀ s, s < 24 → own ow g s < 6 := fun s hs => vo _ (by omega)
  refine s_ownerOf (s := 23) ho hg (by decide) (s_asOne (v6 23 (by decide)) hb ?_)
  refine lpW3_for (fun k => nI (cntN (bdP (own ow g) a b) k)) (fun k => nI (asO a b (own ow g ((k + 23) % 24)))) (fun k => nI k) 24 (fun k hk L hL => ?_) (fun L => ?_)
  · have l1 := asO_lt (b := b) ha (v6 k hk)
    have l2 := asO_lt (b := b) ha (v6 ((k + 23) % 24) (Nat.mod_lt _ (by decide)))
    rw [show (k + 1 + 23) % 24 = k by omega] at hL
    refine pk_le 24 k (fun z => by omega) (fun _ => s_ownerOf ho hg hk (s_asOne (v6 k hk) hb ?_))
    refine pk_eq (asO a b (own ow g k)) (asO a b (own ow g ((k + 23) % 24))) (fun z => nm_r (nI_1 k) ?_) (fun z => nm_r (nI_1 _) (nm_r (nI_1 k) ?_)) rfl rfl (by omega) (by omega)
    · rw [cntN, if_neg (by simp [bdP, z])] at hL; exact hL
    · rw [cntN, if_pos (by simp [bdP, z])] at hL; exact hL
  · exact pk_le 24 24 (fun _ => hK) (fun z => by omega)
theorem s5_bounds1 {a b : Nat} {o : Nat → Nat} {fo : Nat → Int32} (ho : rep 24 fo o) (vo : ∀ k, k < 24 → o k < 6) (ha : a < 6) (hb : b < 6) {K : Int32 → Prop} (hK : K (nI (bdN o a b))) : wp_X5_boundsBy fo (nI a) (nI b) K := by
  rw [← bdQ_N] at hK
  refine lpW2_for (fun k => nI (cntN (bdQ o a b) k)) (fun k => nI k) 24 (fun k hk L hL => ?_) (fun L => ?_)
  · have hn : (k + 1) % 24 < 24 := Nat.mod_lt _ (by decide)
    have l1 := asO_lt (b := b) ha (vo k hk)
    have l2 := asO_lt (b := b) ha (vo _ hn)
    have v1 := vo k hk
    have v2 := vo _ hn
    have st2 : wj_X5_boundsBy_64 (nI (cntN (bdQ o a b) k)) (nI k) (nI (asO a b (o k))) (nI (asO a b (o ((k + 1) % 24)))) L := by
      refine pk_ne (asO a b (o k)) (asO a b (o ((k + 1) % 24))) (fun z => nm_r (nI_1 _) (nm_r (nI_1 k) ?_)) (fun z => nm_r (nI_a0 _) (nm_r (nI_1 k) ?_)) rfl rfl (by omega) (by omega)
      · rw [cntN, if_pos (by simp [bdQ, z])] at hL; exact hL
      · rw [cntN, if_neg (by simp [bdQ, z])] at hL; exact hL
    have st1 : wj_X5_boundsBy_34 fo (nI a) (nI b) (nI (cntN (bdQ o a b) k)) (nI k) (nI (asO a b (o k))) L := by
      refine s5_next hk ⟨_, rfl, hn, ?_⟩
      rw [ho _ hn]
      refine pk_ne (o ((k + 1) % 24)) b (fun z => s5_next hk ⟨_, rfl, hn, ?_⟩) (fun z => ?_) rfl rfl (by omega) (by omega)
      · rw [ho _ hn]
        rw [show asO a b (o ((k + 1) % 24)) = o ((k + 1) % 24) by rw [asO, if_neg z]] at st2; exact st2
      · rw [show asO a b (o ((k + 1) % 24)) = a by rw [asO, if_pos z]] at st2; exact st2
    refine pk_le 24 k (fun z => by omega) (fun _ => ⟨k, rfl, hk, ?_⟩)
    rw [ho k hk]
    refine pk_ne (o k) b (fun z => ⟨k, rfl, hk, ?_⟩) (fun z => ?_) rfl rfl (by omega) (by omega)
    · rw [ho k hk]
      rw [show asO a b (o k) = o k by rw [asO, if_neg z]] at st1; exact st1
    · rw [show asO a b (o k) = a by rw [asO, if_pos z]] at st1; exact st1
  · exact pk_le 24 24 (fun _ => hK) (fun z => by omega)
/-! the best wedding -/
theorem bits_cnt (p : Nat → Bool) : ∀ n, bitsN p n = 0 ↔ cntN p n = 0
  | 0 => by simp [bitsN, cntN]
  | n + 1 => by
    have ih := bits_cnt p n
    have := Nat.two_pow_pos n
    rw [bitsN, cntN]
    split <;> omega
/-- how many sectors an heir has -/
def hasN (o : Nat → Nat) (a : Nat) : Nat := cntN (fun s => decide (o s = a)) 24
def bwF (o : Nat → Nat) (a b : Nat) : Nat := if hasN o a = 0 ∨ hasN o b = 0 ∨ b ≤ a then 25 else bdN o a b
theorem bwF_le (o : Nat → Nat) (a b : Nat) : bwF o a b ≤ 25 := by
  have := bdN_le o a b
  unfold bwF; split <;> omega
/-- the fewest bounds among the first i pairs, and their weddings -/
def bwS (o : Nat → Nat) : Nat → Nat × Nat
  | 0 => (25, 0)
  | i + 1 => if bwF o (i / 6) (i % 6) < (bwS o i).1 then (bwF o (i / 6) (i % 6), 10 * (i / 6) + i % 6) else bwS o i
theorem bwS_le (o : Nat → Nat) : ∀ i, (bwS o i).1 ≤ 25
  | 0 => Nat.le_refl _
  | i + 1 => by
    have := bwF_le o (i / 6) (i % 6)
    rw [bwS]; split
    · exact this
    · exact bwS_le o i
theorem bwS_2 (o : Nat → Nat) : ∀ i, i ≤ 36 → (bwS o i).2 ≤ 55
  | 0, _ => by show 0 ≤ 55; omega
  | i + 1, h => by
    rw [bwS]; split
    · show 10 * (i / 6) + i % 6 ≤ 55; omega
    · exact bwS_2 o i (by omega)
theorem bwS_skip (o : Nat → Nat) (a : Nat) (ha : a < 6) : ∀ j, j ≤ a + 1 → j ≤ 6 → bwS o (6 * a + j) = bwS o (6 * a)
  | 0, _, _ => rfl
  | j + 1, h, h6 => by
    have ih := bwS_skip o a ha j (by omega) (by omega)
    have := bwS_le o (6 * a + j)
    show bwS o (6 * a + j + 1) = _
    rw [bwS, if_neg, ih]
    rw [show (6 * a + j) / 6 = a by omega, show (6 * a + j) % 6 = j by omega, bwF, if_pos (by omega)]
    omega
def bwI (z : Nat × Nat) : Int32 := if z.1 = 25 then -6 else nI z.2
def bwL (z : Nat × Nat) : Int32 := if z.1 = 25 then 0 else nI z.1
theorem s_wed {g : Nat} {ow : Nat → Nat} {fo : Nat → Int32} (ho : rep 504 fo ow) (vo : ∀ k, k < 504 → ow k < 6) (hg : g ≤ 20) {K : Int32 → Prop} (hK : K (bwI (bwS (own ow g) 36))) : wp_X4_bestWedding (nI g) fo K := by
  refine lpW3_for (fun a => nI (bwS (own ow g) (6 * a)).1) (fun a => bwI (bwS (own ow g) (6 * a))) (fun a => nI a) 6 (fun a ha L hL => ?_) (fun L => ?_)
  · refine pk_le 6 a (fun z => by omega) (fun _ => nm_r (nI_1 a) ?_)
    rw [← bwS_skip (own ow g) a ha (a + 1) (by omega) (by omega)]
    refine lpW3_for (fun i => nI (bwS (own ow g) (6 * a + (a + 1) + i)).1) (fun i => bwI (bwS (own ow g) (6 * a + (a + 1) + i))) (fun i => nI (a + 1 + i)) (5 - a) (fun i hi L2 hL2 => ?_) (fun L2 => ?_)
    · obtain ⟨b, hb⟩ : ∃ b, b = a + 1 + i := ⟨_, rfl⟩
      have e1 : 6 * a + (a + 1) + i = 6 * a + b := by omega
      have e2 : 6 * a + (a + 1) + (i + 1) = 6 * a + b + 1 := by omega
      have e3 : a + 1 + (i + 1) = b + 1 := by omega
      have b1 := bwS_le (own ow g) (6 * a + b)
      have b2 := bdN_le (own ow g) a b
      rw [e2, e3, bwS, show (6 * a + b) / 6 = a by omega, show (6 * a + b) % 6 = b by omega] at hL2
      have big : bwF (own ow g) a b = 25 → L2 (nI (bwS (own ow g) (6 * a + b)).1) (bwI (bwS (own ow g) (6 * a + b))) (nI (b + 1)) := fun z => by
        rw [z, if_neg (by omega)] at hL2; exact hL2
      have c1 := bits_cnt (fun s => decide (own ow g s = a)) 24
      have c2 := bits_cnt (fun s => decide (own ow g s = b)) 24
      have t1 := bitsN_lt (fun s => decide (own ow g s = a)) 24
      have t2 := bitsN_lt (fun s => decide (own ow g s = b)) 24
      show wb_X4_bestWedding_19 _ _ _ _ _ (nI (bwS (own ow g) (6 * a + (a + 1) + i)).1) (bwI (bwS (own ow g) (6 * a + (a + 1) + i))) (nI (a + 1 + i))
      rw [e1, ← hb]
      refine pk_le 6 b (fun z => by omega) (fun _ => s_sectorsOf ho vo hg (by omega) ?_)
      refine pk_eq (bitsN (fun s => decide (own ow g s = a)) 24) 0 (fun z => nm_r (nI_1 b) (big ?_)) (fun z => s_sectorsOf ho vo hg (by omega) ?_) rfl rfl (by omega) (by omega)
      · rw [bwF, if_pos (Or.inl (show hasN (own ow g) a = 0 from c1.mp z))]
      refine pk_eq (bitsN (fun s => decide (own ow g s = b)) 24) 0 (fun y => nm_r (nI_1 b) (big ?_)) (fun y => s_bounds1 ho vo hg ha (by omega) ?_) rfl rfl (by omega) (by omega)
      · rw [bwF, if_pos (Or.inr (Or.inl (show hasN (own ow g) b = 0 from c2.mp y)))]
      have ef : bwF (own ow g) a b = bdN (own ow g) a b := by
        rw [bwF, if_neg]
        rintro (w | w | w)
        · exact z (c1.mpr w)
        · exact y (c2.mpr w)
        · omega
      rw [ef] at hL2
      refine pk_le (bwS (own ow g) (6 * a + b)).1 (bdN (own ow g) a b) (fun w => nm_r (nI_1 b) ?_) (fun w => nm_r (e' := nI (10 * a + b)) (by rw [lit_n 10, pk_mul, nI_add]) (nm_r (nI_1 b) ?_)) rfl rfl (by omega) (by omega)
      · rw [if_neg (by omega)] at hL2; exact hL2
      · rw [if_pos (by omega)] at hL2
        rw [bwI, if_neg (by show ¬ bdN (own ow g) a b = 25; omega)] at hL2; exact hL2
    · show wb_X4_bestWedding_19 _ _ _ _ _ (nI (bwS (own ow g) (6 * a + (a + 1) + (5 - a))).1) (bwI (bwS (own ow g) (6 * a + (a + 1) + (5 - a)))) (nI (a + 1 + (5 - a)))
      rw [show 6 * a + (a + 1) + (5 - a) = 6 * (a + 1) by omega, show a + 1 + (5 - a) = 6 by omega]
      exact pk_le 6 6 (fun _ => nm_r (nI_1 a) hL) (fun z => by omega)
  · exact pk_le 6 6 (fun _ => hK) (fun z => by omega)
theorem le0_n {c : Nat} (hc : c < 2 ^ 31) {A B : Prop} (f : c = 0 → A) (g : c ≠ 0 → B) : (nI c ≤ 0 → A) ∧ (¬ nI c ≤ 0 → B) := pk_le c 0 (fun z => f (by omega)) (fun z => g (by omega)) rfl rfl hc (by omega)
theorem s5_wed {o : Nat → Nat} {fo : Nat → Int32} (ho : rep 24 fo o) (vo : ∀ k, k < 24 → o k < 6) {K : Int32 → Prop} (hK : K (bwI (bwS o 36))) : wp_X5_bestWedding fo K := by
  refine lpW3_for (fun a => bwI (bwS o (6 * a))) (fun a => bwL (bwS o (6 * a))) (fun a => nI a) 6 (fun a ha L hL => ?_) (fun L => ?_)
  · refine pk_le 6 a (fun z => by omega) (fun _ => nm_r (nI_1 a) ?_)
    rw [← bwS_skip o a ha (a + 1) (by omega) (by omega)]
    refine lpW3_for (fun i => bwI (bwS o (6 * a + (a + 1) + i))) (fun i => bwL (bwS o (6 * a + (a + 1) + i))) (fun i => nI (a + 1 + i)) (5 - a) (fun i hi L2 hL2 => ?_) (fun L2 => ?_)
    · obtain ⟨b, hb⟩ : ∃ b, b = a + 1 + i := ⟨_, rfl⟩
      have e1 : 6 * a + (a + 1) + i = 6 * a + b := by omega
      have e2 : 6 * a + (a + 1) + (i + 1) = 6 * a + b + 1 := by omega
      have e3 : a + 1 + (i + 1) = b + 1 := by omega
      have b1 := bwS_le o (6 * a + b)
      have b2 := bdN_le o a b
      have b3 := bwS_2 o (6 * a + b) (by omega)
      rw [e2, e3, bwS, show (6 * a + b) / 6 = a by omega, show (6 * a + b) % 6 = b by omega] at hL2
      have big : bwF o a b = 25 → L2 (bwI (bwS o (6 * a + b))) (bwL (bwS o (6 * a + b))) (nI (b + 1)) := fun z => by
        rw [z, if_neg (by omega)] at hL2; exact hL2
      have t1 : hasN o a ≤ 24 := cntN_le _ 24
      have t2 : hasN o b ≤ 24 := cntN_le _ 24
      show wb_X5_bestWedding_18 _ _ _ _ (bwI (bwS o (6 * a + (a + 1) + i))) (bwL (bwS o (6 * a + (a + 1) + i))) (nI (a + 1 + i))
      rw [e1, ← hb]
      refine pk_le 6 b (fun z => by omega) (fun _ => s5_sectorsOf ho vo (by omega) ?_)
      refine le0_n (c := hasN o a) (by omega) (fun z => nm_r (nI_1 b) (big (by rw [bwF, if_pos (Or.inl z)]))) (fun z => s5_sectorsOf ho vo (by omega) ?_)
      refine le0_n (c := hasN o b) (by omega) (fun y => nm_r (nI_1 b) (big (by rw [bwF, if_pos (Or.inr (Or.inl y))]))) (fun y => ?_)
      have ef : bwF o a b = bdN o a b := by
        rw [bwF, if_neg]
        rintro (w | w | w)
        · exact z w
        · exact y w
        · omega
      rw [ef] at hL2
      have take : bdN o a b < (bwS o (6 * a + b)).1 → wj_X5_bestWedding_57 fo (nI a) (nI b) L2 := fun w => by
        rw [if_pos w] at hL2
        rw [bwI, bwL, if_neg (by show ¬ bdN o a b = 25; omega), if_neg (by show ¬ bdN o a b = 25; omega)] at hL2
        exact nm_r (e' := nI (10 * a + b)) (by rw [lit_n 10, pk_mul, nI_add]) (s5_bounds1 ho vo ha (by omega) (nm_r (nI_1 b) hL2))
      by_cases w : (bwS o (6 * a + b)).1 = 25
      · refine br_t (by rw [bwI, if_pos w]; decide) (take (by omega))
      · have e4 : bwI (bwS o (6 * a + b)) = nI (bwS o (6 * a + b)).2 := by rw [bwI, if_neg w]
        have e5 : bwL (bwS o (6 * a + b)) = nI (bwS o (6 * a + b)).1 := by rw [bwL, if_neg w]
        refine br_f (by rw [e4]; exact nI_pos (by omega)) (s5_bounds1 ho vo ha (by omega) ?_)
        refine pk_le (bwS o (6 * a + b)).1 (bdN o a b) (fun v => nm_r (nI_1 b) ?_) (fun v => take v) e5 rfl (by omega) (by omega)
        rw [if_neg (by omega)] at hL2; exact hL2
    · show wb_X5_bestWedding_18 _ _ _ _ (bwI (bwS o (6 * a + (a + 1) + (5 - a)))) (bwL (bwS o (6 * a + (a + 1) + (5 - a)))) (nI (a + 1 + (5 - a)))
      rw [show 6 * a + (a + 1) + (5 - a) = 6 * (a + 1) by omega, show a + 1 + (5 - a) = 6 by omega]
      exact pk_le 6 6 (fun _ => nm_r (nI_1 a) hL) (fun z => by omega)
  · exact pk_le 6 6 (fun _ => hK) (fun z => by omega)
/-! the narrowest piece -/
theorem least_ex {p : Nat → Bool} : ∀ n, p n = true → ∃ m, m ≤ n ∧ p m = true ∧ ∀ j, j < m → p j = false
  | 0, h => ⟨0, Nat.le_refl _, h, fun j hj => absurd hj (Nat.not_lt_zero _)⟩
  | n + 1, h => by
    by_cases e : ∃ j, j < n + 1 ∧ p j = true
    · obtain ⟨j, hj, hp⟩ := e
      obtain ⟨m, h1, h2, h3⟩ := least_ex j hp
      exact ⟨m, by omega, h2, h3⟩
    · refine ⟨n + 1, Nat.le_refl _, h, fun j hj => ?_⟩
      cases hp : p j
      · rfl
      · exact absurd ⟨j, hj, hp⟩ e
  termination_by n => n
theorem run_ex (o : Nat → Nat) (s : Nat) (hs : s < 24) (h : o s ≠ o ((s + 23) % 24)) : ∃ n, 1 ≤ n ∧ n ≤ 23 ∧ o ((s + n) % 24) ≠ o s ∧ ∀ j, 1 ≤ j → j < n → o ((s + j) % 24) = o s := by
  obtain ⟨m, h1, h2, h3⟩ := least_ex (p := fun n => decide (o ((s + n) % 24) ≠ o s)) 23 (decide_eq_true (fun e => h e.symm))
  refine ⟨m, ?_, h1, of_decide_eq_true h2, fun j _ hj => ?_⟩
  · rcases Nat.eq_zero_or_pos m with e | e
    · subst e
      exact absurd (by show o ((s + 0) % 24) = o s; congr 1; omega) (of_decide_eq_true h2)
    · exact e
  · have := of_decide_eq_false (h3 j hj)
    exact Decidable.of_not_not this
/-- how many sectors the piece has that begins at s (24 where none begins) -/
noncomputable def lenR (o : Nat → Nat) (s : Nat) : Nat := if h : s < 24 ∧ o s ≠ o ((s + 23) % 24) then (run_ex o s h.1 h.2).choose else 24
theorem lenR_s {o : Nat → Nat} {s : Nat} (hs : s < 24) (h : o s ≠ o ((s + 23) % 24)) : 1 ≤ lenR o s ∧ lenR o s ≤ 23 ∧ o ((s + lenR o s) % 24) ≠ o s ∧ ∀ j, 1 ≤ j → j < lenR o s → o ((s + j) % 24) = o s := by
  have e : lenR o s = (run_ex o s hs h).choose := by unfold lenR; rw [dif_pos ⟨hs, h⟩]
  rw [e]; exact (run_ex o s hs h).choose_spec
theorem lenR_n {o : Nat → Nat} {s : Nat} (h : ¬ o s ≠ o ((s + 23) % 24)) : lenR o s = 24 := by unfold lenR; rw [dif_neg (fun z => h z.2)]
def minN (f : Nat → Nat) : Nat → Nat
  | 0 => 24
  | n + 1 => min (minN f n) (f n)
theorem minN_le (f : Nat → Nat) : ∀ n, minN f n ≤ 24
  | 0 => Nat.le_refl _
  | n + 1 => by rw [minN]; exact Nat.le_trans (Nat.min_le_left _ _) (minN_le f n)
theorem minN_front (f : Nat → Nat) : ∀ n, minN f (n + 1) = min (f 0) (minN (fun k => f (k + 1)) n)
  | 0 => by show min 24 (f 0) = min (f 0) 24; exact Nat.min_comm _ _
  | n + 1 => by rw [minN, minN_front f n, minN, Nat.min_assoc]
theorem minN_cong {f g : Nat → Nat} : ∀ {n : Nat}, (∀ k, k < n → f k = g k) → minN f n = minN g n
  | 0, _ => rfl
  | n + 1, h => by rw [minN, minN, minN_cong (fun k hk => h k (by omega)), h n (by omega)]
theorem minN_rot (f : Nat → Nat) : minN (fun s => f ((s + 1) % 24)) 24 = minN f 24 := by
  rw [minN_front f 23]
  show min (minN (fun s => f ((s + 1) % 24)) 23) (f ((23 + 1) % 24)) = _
  rw [minN_cong (f := fun s => f ((s + 1) % 24)) (g := fun k => f (k + 1)) (fun k hk => by show f ((k + 1) % 24) = f (k + 1); rw [Nat.mod_eq_of_lt (by omega)]), Nat.min_comm]
theorem s_piece {g s : Nat} {ow : Nat → Nat} {fo : Nat → Int32} (ho : rep 504 fo ow) (vo : ∀ k, k < 504 → ow k < 6) (hg : g ≤ 20) (hs : s < 24) (h : own ow g ((s + 1) % 24) ≠ own ow g s) {K : Int32 → Prop} (hK : K (nI (lenR (own ow g) ((s + 1) % 24)))) : wp_X4_pieceBehind (nI g) fo (nI s) K := by
  have hl : (s + 1) % 24 < 24 := Nat.mod_lt _ (by decide)
  have v6 : ∀ s, s < 24 → own ow g s < 6 := fun s hs => vo _ (by omega)
  obtain ⟨l1, l2, l3, l4⟩ := lenR_s (o := own ow g) hl (by rw [show ((s + 1) % 24 + 23) % 24 = s by omega]; exact h)
  obtain ⟨n, hn⟩ : ∃ n, n = lenR (own ow g) ((s + 1) % 24) := ⟨_, rfl⟩
  rw [← hn] at l1 l2 l3 l4 hK
  refine nm_r (e' := nI ((s + 1) % 24)) (by rw [nI_1, lit_n 24, rem_n (by omega) (by decide) (by decide)]) (s_ownerOf ho hg hl ?_)
  have ix : ∀ j, j < 24 → iR ((nI s + (1 : Int32)) + nI j) (24 : Int32) = nI (((s + 1) % 24 + j) % 24) := fun j hj => by
    rw [nI_1, nI_add, lit_n 24, rem_n (by omega) (by decide) (by decide)]; congr 1; omega
  refine lpW1_for (fun j => nI (1 + j)) (n - 1) (fun j hj L hL => ?_) (fun L => ?_)
  · have hm : ((s + 1) % 24 + (1 + j)) % 24 < 24 := Nat.mod_lt _ (by decide)
    refine pk_le 24 (1 + j) (fun z => by omega) (fun _ => nm_r (ix (1 + j) (by omega)) (s_ownerOf ho hg hm ?_)) rfl rfl (by omega) (by omega)
    exact bn_t (by rw [show ow (24 * g + ((s + 1) % 24 + (1 + j)) % 24) = ow (24 * g + (s + 1) % 24) from l4 (1 + j) (by omega) (by omega)]) (nm_r (nI_1 _) hL)
  · show wb_X4_pieceBehind_16 _ _ _ _ _ _ (nI (1 + (n - 1)))
    rw [show 1 + (n - 1) = n by omega]
    have hm : ((s + 1) % 24 + n) % 24 < 24 := Nat.mod_lt _ (by decide)
    have w1 := v6 _ hm
    have w2 := v6 _ hl
    refine pk_le 24 n (fun z => by omega) (fun _ => nm_r (ix n (by omega)) (s_ownerOf ho hg hm ?_)) rfl rfl (by omega) (by omega)
    exact pk_ne _ _ (fun _ => hK) (fun z => absurd z l3) rfl rfl (by omega) (by omega)
theorem s_narrow {g : Nat} {ow : Nat → Nat} {fo : Nat → Int32} (ho : rep 504 fo ow) (vo : ∀ k, k < 504 → ow k < 6) (hg : g ≤ 20) {K : Int32 → Prop} (hK : K (nI (minN (lenR (own ow g)) 24))) : wp_X4_narrowestPiece (nI g) fo K := by
  have v6 : ∀ s, s < 24 → own ow g s < 6 := fun s hs => vo _ (by omega)
  rw [← minN_rot] at hK
  refine lpW2_for (fun k => nI (minN (fun s => lenR (own ow g) ((s + 1) % 24)) k)) (fun k => nI k) 24 (fun k hk L hL => ?_) (fun L => ?_)
  · have hl : (k + 1) % 24 < 24 := Nat.mod_lt _ (by decide)
    have m1 := minN_le (fun s => lenR (own ow g) ((s + 1) % 24)) k
    have w1 := v6 _ hl
    have w2 := v6 _ hk
    refine pk_le 24 k (fun z => by omega) (fun _ => s_ownerOf ho hg hk (nm_r (e' := nI ((k + 1) % 24)) (by rw [nI_1, lit_n 24, rem_n (by omega) (by decide) (by decide)]) (s_ownerOf ho hg hl ?_)))
    refine pk_eq (own ow g k) (own ow g ((k + 1) % 24)) (fun z => nm_r (nI_1 k) ?_) (fun z => s_piece ho vo hg hk (fun y => z y.symm) ?_) rfl rfl (by omega) (by omega)
    · rw [minN, lenR_n (by rw [show ((k + 1) % 24 + 23) % 24 = k by omega]; exact fun y => y z.symm), Nat.min_eq_left m1] at hL; exact hL
    · obtain ⟨l1, l2, l3, l4⟩ := lenR_s (o := own ow g) hl (by rw [show ((k + 1) % 24 + 23) % 24 = k by omega]; exact fun y => z y.symm)
      exact nm_r (iMi_n (by omega) (by omega)) (nm_r (nI_1 k) hL)
  · exact pk_le 24 24 (fun _ => hK) (fun z => by omega)
theorem s5_narrow {o : Nat → Nat} {fo : Nat → Int32} (ho : rep 24 fo o) (vo : ∀ k, k < 24 → o k < 6) {K : Int32 → Prop} (hK : K (nI (minN (lenR o) 24))) : wp_X5_narrowest fo K := by
  refine lpW2_for (fun k => nI (minN (lenR o) k)) (fun k => nI k) 24 (fun k hk L hL => ?_) (fun L => ?_)
  · have hl : (k + 23) % 24 < 24 := Nat.mod_lt _ (by decide)
    have m1 := minN_le (lenR o) k
    have w1 := vo _ hl
    have w2 := vo _ hk
    refine pk_le 24 k (fun z => by omega) (fun _ => ⟨k, rfl, hk, s5_before hk ⟨_, rfl, hl, ?_⟩⟩)
    rw [ho _ hk, ho _ hl]
    refine pk_eq (o k) (o ((k + 23) % 24)) (fun z => nm_r (nI_1 k) ?_) (fun z => ?_) rfl rfl (by omega) (by omega)
    · rw [minN, lenR_n (fun y => y z), Nat.min_eq_left m1] at hL; exact hL
    · obtain ⟨l1, l2, l3, l4⟩ := lenR_s (o := o) hk z
      rw [minN] at hL
      obtain ⟨n, hn⟩ : ∃ n, n = lenR o k := ⟨_, rfl⟩
      rw [← hn] at l1 l2 l3 l4 hL
      have ix : ∀ j, j < 24 → iR (nI k + nI j) (24 : Int32) = nI ((k + j) % 24) := fun j hj => by
        rw [nI_add, lit_n 24, rem_n (by omega) (by decide) (by decide)]
      refine lpW1_for (fun j => nI (1 + j)) (n - 1) (fun j hj L2 hL2 => ?_) (fun L2 => ?_)
      · have hm : (k + (1 + j)) % 24 < 24 := Nat.mod_lt _ (by decide)
        refine ⟨_, ix (1 + j) (by omega), hm, k, rfl, hk, ?_⟩
        rw [ho _ hm, ho _ hk, l4 (1 + j) (by omega) (by omega)]
        exact bn_t rfl (nm_r (nI_1 _) hL2)
      · show wb_X5_narrowest_31 _ _ _ _ _ (nI (1 + (n - 1)))
        rw [show 1 + (n - 1) = n by omega]
        have hm : (k + n) % 24 < 24 := Nat.mod_lt _ (by decide)
        have w3 := vo _ hm
        refine ⟨_, ix n (by omega), hm, k, rfl, hk, ?_⟩
        rw [ho _ hm, ho _ hk]
        refine pk_ne (o ((k + n) % 24)) (o k) (fun _ => pk_le (minN (lenR o) k) n (fun a => nm_r (nI_1 k) ?_) (fun a => nm_r (nI_1 k) ?_) rfl rfl (by omega) (by omega)) (fun y => absurd y l3) rfl rfl (by omega) (by omega)
        · rw [Nat.min_eq_left a] at hL; exact hL
        · rw [Nat.min_eq_right (by omega)] at hL; exact hL
  · exact pk_le 24 24 (fun _ => hK) (fun z => by omega)
theorem p_bounds {g : Nat} {x1 : Int32} {ow : Nat → Nat} {fo mo : Nat → Int32} (ho : rep 504 fo ow) (hmo : rep 24 mo (own ow g)) (vo : ∀ k, k < 504 → ow k < 6) (hg : g ≤ 20) : wp_X4_bounds (nI g) fo x1 (fun r => wp_X5_bounds mo x1 (fun r2 => r = r2)) := by
  have vo' : ∀ s, s < 24 → own ow g s < 6 := fun s hs => vo _ (by omega)
  refine ⟨fun z => ?_, fun z => ?_, fun z => ?_, fun z => ?_⟩
  · have n0 : ¬ x1 = (0 : Int32) := fun e => by rw [e] at z; exact absurd z (by decide)
    have n1 : ¬ x1 = (1 : Int32) := fun e => by rw [e] at z; exact absurd z (by decide)
    have n2 : ¬ x1 = (2 : Int32) := fun e => by rw [e] at z; exact absurd z (by decide)
    exact bn_f n0 (bn_f n1 (bn_f n2 rfl))
  · exact s_bounds1 (a := 0) (b := 0) ho vo hg (by decide) (by decide) (bn_t z (s5_bounds1 (a := 0) (b := 0) hmo vo' (by decide) (by decide) rfl))
  · exact s_wed ho vo hg (bn_f (by rw [z]; decide) (bn_t z (s5_wed hmo vo' rfl)))
  · exact s_narrow ho vo hg (bn_f (by rw [z]; decide) (bn_f (by rw [z]; decide) (bn_t z (s5_narrow hmo vo' rfl))))
