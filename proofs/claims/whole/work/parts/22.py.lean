/-! ways -/
/-- what k steps cost on ring r, the i-th of them into the sector q i -/
def wcN (ow : Nat → Nat) (g : Nat) (ga : Nat → Nat) (t h r : Nat) (q : Nat → Nat) (k : Nat) : Nat := 4 * r + sumN (fun i => 6 - r + if freeB ow g ga h (q i) then 0 else t) k
theorem wcN_le {ow ga : Nat → Nat} {g t h r k : Nat} {q : Nat → Nat} (ht : t ≤ 99) (hr : r < 5) (hk : k ≤ 23) : wcN ow g ga t h r q k ≤ 2500 := by
  have := sumN_le (f := fun i => 6 - r + if freeB ow g ga h (q i) then 0 else t) (c := 105) (n := k) (fun i _ => by show 6 - r + (if freeB ow g ga h (q i) then 0 else t) ≤ 105; split <;> omega)
  have : k * 105 ≤ 23 * 105 := Nat.mul_le_mul_right _ hk
  unfold wcN; omega
theorem sumN_add (f g : Nat → Nat) : ∀ n, sumN (fun i => f i + g i) n = sumN f n + sumN g n
  | 0 => rfl
  | n + 1 => by rw [sumN, sumN, sumN, sumN_add f g n]; omega
theorem sumN_const (c : Nat) : ∀ n, sumN (fun _ => c) n = n * c
  | 0 => by simp [sumN]
  | n + 1 => by rw [sumN, sumN_const c n, Nat.succ_mul]
theorem s_round {g t h r a k : Nat} {ow ga : Nat → Nat} {fo fg : Nat → Int32} (ho : rep 504 fo ow) (vo : ∀ k, k < 504 → ow k < 6) (hga : rep 6 fg ga) (vg : ∀ k, k < 6 → ga k < 64) (hg : g ≤ 20) (ht : t ≤ 99) (hh : h < 6) (hr : r < 5) (ha : a ≤ 24) (hk : k ≤ 23) {K : Int32 → Prop} (hK : K (nI (sumN (fun i => 6 - r + if freeB ow g ga h ((a + i) % 24) then 0 else t) k))) : wp_X4_costOfRound (nI g) (nI t) fo fg (nI h) (nI a) (nI k) (nI r) K := by
  rw [sumN_add, sumN_const] at hK
  refine nm_r (e' := nI (k * (6 - r))) (by rw [lit_n 6, pk_sub (by omega), pk_mul]) ?_
  have hb : k * (6 - r) ≤ 23 * 6 := Nat.mul_le_mul hk (by omega)
  refine lpW2_for (fun i => nI (k * (6 - r) + sumN (fun i => if freeB ow g ga h ((a + i) % 24) then 0 else t) i)) (fun i => nI i) k (fun i hi L hL => ?_) (fun L => ?_)
  · refine pk_le k i (fun z => by omega) (fun z => ?_) rfl rfl (by omega) (by omega)
    refine nm_r (e' := nI ((a + i) % 24)) (by rw [nI_add, lit_n 24, rem_n (by omega) (by decide) (by decide)]) (s_isFreeFor ho vo hga vg hg hh (Nat.mod_lt _ (by decide)) ?_)
    by_cases b : freeB ow g ga h ((a + i) % 24) = true
    · rw [b]
      refine bn_f (by decide) (nm_r (nI_1 i) ?_)
      rw [sumN, if_pos b] at hL; exact hL
    · rw [Bool.eq_false_iff.mpr b]
      refine bn_t rfl (nm_r (nI_add _ _) (nm_r (nI_1 i) ?_))
      rw [sumN, if_neg b, ← Nat.add_assoc] at hL; exact hL
  · exact pk_le k k (fun _ => hK) (fun z => by omega) rfl rfl (by omega) (by omega)
theorem sub_24 {a b : Nat} (h : a ≤ b + 24) : nI b - nI a + (24 : Int32) = nI (b + 24 - a) := by
  have e : nI b - nI a + nI 24 = nI b + nI 24 - nI a := by grind
  rw [lit_n 24, e, nI_add, pk_sub h]
theorem s_wayF {g t h r a b : Nat} {ow ga : Nat → Nat} {fo fg : Nat → Int32} (ho : rep 504 fo ow) (vo : ∀ k, k < 504 → ow k < 6) (hga : rep 6 fg ga) (vg : ∀ k, k < 6 → ga k < 64) (hg : g ≤ 20) (ht : t ≤ 99) (hh : h < 6) (hr : r < 5) (ha : a < 24) (hb : b < 24) {K : Int32 → Prop} (hK : K (nI (wcN ow g ga t h r (fun i => (a + 1 + i) % 24) ((b + 24 - a) % 24)))) : wp_X4_costOfWay (nI g) (nI t) fo fg (nI h) (nI a) (nI b) (nI r) K := by
  refine nm_r (e' := nI ((b + 24 - a) % 24)) (by rw [sub_24 (by omega), lit_n 24, rem_n (by omega) (by decide) (by decide)]) (nm_r (nI_1 a) (s_round ho vo hga vg hg ht hh hr (by omega) (by omega) ?_))
  show K (nI 4 * nI r + _)
  rw [pk_mul, nI_add]; exact hK
theorem s_wayB {g t h r a b : Nat} {ow ga : Nat → Nat} {fo fg : Nat → Int32} (ho : rep 504 fo ow) (vo : ∀ k, k < 504 → ow k < 6) (hga : rep 6 fg ga) (vg : ∀ k, k < 6 → ga k < 64) (hg : g ≤ 20) (ht : t ≤ 99) (hh : h < 6) (hr : r < 5) (ha : a < 24) (hb : b < 24) {K : Int32 → Prop} (hK : K (nI (wcN ow g ga t h r (fun i => (b + i) % 24) ((a + 24 - b) % 24)))) : wp_X4_costOfWayBack (nI g) (nI t) fo fg (nI h) (nI a) (nI b) (nI r) K := by
  refine nm_r (e' := nI ((a + 24 - b) % 24)) (by rw [sub_24 (by omega), lit_n 24, rem_n (by omega) (by decide) (by decide)]) (s_round ho vo hga vg hg ht hh hr (by omega) (by omega) ?_)
  show K (nI 4 * nI r + _)
  rw [pk_mul, nI_add]; exact hK
theorem s5_free {g h s : Nat} {ow ga : Nat → Nat} {fo fg : Nat → Int32} {vt x4 x6 : Int32} {L : Int32 → Int32 → Prop} (ho : rep 24 fo (own ow g)) (vo : ∀ k, k < 504 → ow k < 6) (hga : rep 6 fg ga) (vg : ∀ k, k < 6 → ga k < 64) (hg : g ≤ 20) (hh : h < 6) (hs : s < 24) (hK : wj_X5_wayCost_70 vt x4 x6 (nI s) (bI (freeB ow g ga h s)) L) : wj_X5_wayCost_33 vt fo fg (nI h) x4 x6 (nI s) L := by
  have v6 := vo (24 * g + s) (by omega)
  refine ⟨s, rfl, hs, ?_⟩
  rw [ho s hs]
  refine pk_eq (own ow g s) h (fun e => ?_) (fun ne => ?_) rfl rfl (by show ow _ < _; omega) (by omega)
  · have e1 : freeB ow g ga h s = true := by simp [freeB, e]
    rw [e1] at hK; exact hK
  · have e1 : freeB ow g ga h s = (ga (own ow g s)).testBit h := by simp [freeB, ne]
    have v64 := vg _ v6
    refine ⟨s, rfl, hs, own ow g s, ho s hs, v6, nm_r (hga _ v6) (s5_hasBit (by show ga (ow _) < _; omega) (by omega) ?_)⟩
    rw [e1] at hK
    cases hb : (ga (own ow g s)).testBit h
    · rw [hb] at hK; exact br_t rfl hK
    · rw [hb] at hK; exact br_f (by decide) hK
theorem s5_wayCost {g t h r a b k d : Nat} {ow ga : Nat → Nat} {fo fg : Nat → Int32} {pos : Nat → Nat} (ho : rep 24 fo (own ow g)) (vo : ∀ k, k < 504 → ow k < 6) (hga : rep 6 fg ga) (vg : ∀ k, k < 6 → ga k < 64) (hg : g ≤ 20) (ht : t ≤ 99) (hh : h < 6) (hr : r < 5) (hb : b < 24) (p0 : pos 0 = a) (pl : ∀ i, pos i < 24) (pk : pos k = b) (pn : ∀ i, i < k → pos i ≠ b) (hd : d < 2) (pd : ∀ i, i < k → pos (i + 1) = if d = 0 then (pos i + 23) % 24 else (pos i + 1) % 24) {K : Int32 → Prop} (hK : K (nI (wcN ow g ga t h r (fun i => pos (i + 1)) k))) : wp_X5_wayCost (nI t) fo fg (nI h) (nI a) (nI b) (nI r) (nI d) K := by
  refine nm_r (e' := nI (4 * r)) (by rw [lit_n 4, pk_mul]) ?_
  subst p0
  refine lpW2_for (fun i => nI (wcN ow g ga t h r (fun i => pos (i + 1)) i)) (fun i => nI (pos i)) k (fun i hi L hL => ?_) (fun L => ?_)
  · have p1 := pl i
    have p2 := pl (i + 1)
    refine pk_eq (pos i) b (fun e => absurd e (pn i hi)) (fun _ => ?_) rfl rfl (by omega) (by omega)
    have st : wj_X5_wayCost_33 (nI t) fo fg (nI h) (nI r) (nI (wcN ow g ga t h r (fun i => pos (i + 1)) i)) (nI (pos (i + 1))) L := by
      refine s5_free ho vo hga vg hg hh p2 ?_
      cases hf : freeB ow g ga h (pos (i + 1))
      · refine br_t rfl (nm_r (e' := nI (wcN ow g ga t h r (fun i => pos (i + 1)) (i + 1))) ?_ hL)
        rw [lit_n 6, pk_sub (by omega), nI_add, nI_add, wcN, wcN, sumN, hf, Nat.add_assoc]; rfl
      · refine br_f (by decide) (nm_r (e' := nI (wcN ow g ga t h r (fun i => pos (i + 1)) (i + 1))) ?_ hL)
        rw [lit_n 6, pk_sub (by omega), lit_n 0, nI_add, nI_add, wcN, wcN, sumN, hf, Nat.add_assoc]; rfl
    have pd' := pd i hi
    refine pk_eq d 0 (fun e => ?_) (fun e => ?_) rfl rfl (by omega) (by omega)
    · rw [if_pos e] at pd'; rw [pd'] at st; exact s5_before p1 st
    · rw [if_neg e] at pd'; rw [pd'] at st; exact s5_next p1 st
  · exact pk_eq (pos k) b (fun _ => hK) (fun z => absurd pk z) rfl rfl (by have := pl k; omega) (by omega)
theorem sumN_front (f : Nat → Nat) : ∀ n, sumN f (n + 1) = f 0 + sumN (fun i => f (i + 1)) n
  | 0 => by simp [sumN]
  | n + 1 => by rw [sumN, sumN_front f n, sumN]; omega
theorem sumN_rev : ∀ (n : Nat) (f : Nat → Nat), sumN f n = sumN (fun i => f (n - 1 - i)) n
  | 0, _ => rfl
  | n + 1, f => by
    rw [sumN_front (fun i => f (n + 1 - 1 - i)), sumN, sumN_rev n f]
    have : sumN (fun i => f (n - 1 - i)) n = sumN (fun i => f (n + 1 - 1 - (i + 1))) n := sumN_cong (fun k hk => by congr 1; omega)
    rw [this]
    simp only [Nat.add_sub_cancel, Nat.sub_zero]
    omega
/-- what a way costs: 0 with the sectors' numbers, 1 against them -/
def wcD (ow : Nat → Nat) (g : Nat) (ga : Nat → Nat) (t h a b r d : Nat) : Nat := if d = 0 then wcN ow g ga t h r (fun i => (a + 1 + i) % 24) ((b + 24 - a) % 24) else wcN ow g ga t h r (fun i => (b + i) % 24) ((a + 24 - b) % 24)
theorem s5_wayF {g t h r a b : Nat} {ow ga : Nat → Nat} {fo fg : Nat → Int32} (ho : rep 24 fo (own ow g)) (vo : ∀ k, k < 504 → ow k < 6) (hga : rep 6 fg ga) (vg : ∀ k, k < 6 → ga k < 64) (hg : g ≤ 20) (ht : t ≤ 99) (hh : h < 6) (hr : r < 5) (ha : a < 24) (hb : b < 24) {K : Int32 → Prop} (hK : K (nI (wcD ow g ga t h a b r 0))) : wp_X5_wayCost (nI t) fo fg (nI h) (nI a) (nI b) (nI r) 1 K := by
  refine s5_wayCost (d := 1) (pos := fun i => (a + i) % 24) (k := (b + 24 - a) % 24) ho vo hga vg hg ht hh hr hb (by show (a + 0) % 24 = a; omega) (fun i => Nat.mod_lt _ (by decide)) (by show (a + (b + 24 - a) % 24) % 24 = b; omega) (fun i hi => by show (a + i) % 24 ≠ b; omega) (by decide) (fun i hi => by rw [if_neg (by decide)]; show (a + (i + 1)) % 24 = ((a + i) % 24 + 1) % 24; omega) ?_
  rw [wcD, if_pos rfl] at hK
  have e : (fun i => (a + 1 + i) % 24) = fun i => (a + (i + 1)) % 24 := funext fun i => by congr 1; omega
  rw [e] at hK; exact hK
theorem s5_wayB {g t h r a b : Nat} {ow ga : Nat → Nat} {fo fg : Nat → Int32} (ho : rep 24 fo (own ow g)) (vo : ∀ k, k < 504 → ow k < 6) (hga : rep 6 fg ga) (vg : ∀ k, k < 6 → ga k < 64) (hg : g ≤ 20) (ht : t ≤ 99) (hh : h < 6) (hr : r < 5) (ha : a < 24) (hb : b < 24) {K : Int32 → Prop} (hK : K (nI (wcD ow g ga t h a b r 1))) : wp_X5_wayCost (nI t) fo fg (nI h) (nI a) (nI b) (nI r) 0 K := by
  refine s5_wayCost (d := 0) (pos := fun i => (a + 23 * i) % 24) (k := (a + 24 - b) % 24) ho vo hga vg hg ht hh hr hb (by show (a + 23 * 0) % 24 = a; omega) (fun i => Nat.mod_lt _ (by decide)) (by show (a + 23 * ((a + 24 - b) % 24)) % 24 = b; omega) (fun i hi => by show (a + 23 * i) % 24 ≠ b; omega) (by decide) (fun i hi => by rw [if_pos rfl]; show (a + 23 * (i + 1)) % 24 = ((a + 23 * i) % 24 + 23) % 24; omega) ?_
  rw [wcD, if_neg (by decide), wcN, sumN_rev] at hK
  have e : sumN (fun i => 6 - r + if freeB ow g ga h ((b + ((a + 24 - b) % 24 - 1 - i)) % 24) then 0 else t) ((a + 24 - b) % 24) = sumN (fun i => 6 - r + if freeB ow g ga h ((a + 23 * (i + 1)) % 24) then 0 else t) ((a + 24 - b) % 24) := sumN_cong (fun i hi => by rw [show (b + ((a + 24 - b) % 24 - 1 - i)) % 24 = (a + 23 * (i + 1)) % 24 by omega])
  rw [e] at hK; exact hK
theorem iMi_n {x y : Nat} (hx : x < 2 ^ 31) (hy : y < 2 ^ 31) : iMi (nI x) (nI y) = nI (min x y) := by
  unfold iMi
  by_cases h : y < x
  · rw [if_pos (nI_lt h hx), Nat.min_eq_right (by omega)]
  · rw [if_neg (nI_nlt (by omega) hy), Nat.min_eq_left (by omega)]
/-- the least of the ways, with its number -/
def wMin (C : Nat → Nat) : Nat → Nat
  | 0 => 1073741824
  | n + 1 => min (wMin C n) (10 * C n + n)
theorem wMin_b {C : Nat → Nat} (hC : ∀ n, n < 10 → C n ≤ 2500) : ∀ n, n ≤ 10 → wMin C n ≤ 1073741824 ∧ (0 < n → wMin C n ≤ 25010 ∧ wMin C n % 10 < n)
  | 0, _ => ⟨Nat.le_refl _, fun z => absurd z (Nat.lt_irrefl 0)⟩
  | n + 1, h => by
    have ih := wMin_b hC n (by omega)
    have := hC n (by omega)
    rw [wMin]
    refine ⟨by omega, fun _ => ?_⟩
    by_cases e : wMin C n ≤ 10 * C n + n
    · rw [Nat.min_eq_left e]
      by_cases z : n = 0
      · subst z; rw [wMin] at e; omega
      · have := ih.2 (by omega); omega
    · rw [Nat.min_eq_right (by omega)]; omega
theorem wcD_le {ow ga : Nat → Nat} {g t h a b r d : Nat} (ht : t ≤ 99) (hr : r < 5) : wcD ow g ga t h a b r d ≤ 2500 := by
  unfold wcD
  split
  · exact wcN_le ht hr (by omega)
  · exact wcN_le ht hr (by omega)
/-- the answer of a way -/
def wAns (m w : Nat) : Int32 := if w = 0 then nI (m / 10) else if w = 1 then nI (m % 10 / 2) else 1 - nI (m % 2)
theorem s_bestWay {g t h a b w : Nat} {ow ga : Nat → Nat} {fo fg : Nat → Int32} (ho : rep 504 fo ow) (vo : ∀ k, k < 504 → ow k < 6) (hga : rep 6 fg ga) (vg : ∀ k, k < 6 → ga k < 64) (hg : g ≤ 20) (ht : t ≤ 99) (hh : h < 6) (ha : a < 24) (hb : b < 24) (hw : w < 3) {K : Int32 → Prop} (hK : K (wAns (wMin (fun n => wcD ow g ga t h a b (n / 2) (n % 2)) 10) w)) : wp_X4_bestWay (nI g) (nI t) fo fg (nI h) (nI a) (nI b) (nI w) K := by
  have hC : ∀ n, n < 10 → (fun n => wcD ow g ga t h a b (n / 2) (n % 2)) n ≤ 2500 := fun n hn => wcD_le ht (by omega)
  generalize hCe : (fun n => wcD ow g ga t h a b (n / 2) (n % 2)) = C at *
  refine lpW2_for (fun k => nI (wMin C (2 * k))) (fun k => nI k) 5 (fun k hk L hL => ?_) (fun L => ?_)
  · have b1 := wMin_b hC (2 * k) (by omega)
    have c1 := hC (2 * k) (by omega)
    have c2 := hC (2 * k + 1) (by omega)
    have e1 : C (2 * k) = wcN ow g ga t h k (fun i => (a + 1 + i) % 24) ((b + 24 - a) % 24) := by
      rw [← hCe]; show wcD _ _ _ _ _ _ _ _ _ = _; rw [wcD, if_pos (by omega), show 2 * k / 2 = k by omega]
    have e2 : C (2 * k + 1) = wcN ow g ga t h k (fun i => (b + i) % 24) ((a + 24 - b) % 24) := by
      rw [← hCe]; show wcD _ _ _ _ _ _ _ _ _ = _; rw [wcD, if_neg (by omega), show (2 * k + 1) / 2 = k by omega]
    refine pk_le 5 k (fun z => by omega) (fun _ => s_wayF ho vo hga vg hg ht hh hk ha hb (s_wayB ho vo hga vg hg ht hh hk ha hb ?_))
    rw [← e1, ← e2]
    refine nm_r (e' := nI (min (wMin C (2 * k)) (10 * C (2 * k) + 2 * k))) ?_ (nm_r (e' := nI (wMin C (2 * (k + 1)))) ?_ (nm_r (nI_1 k) hL))
    · rw [lit_n 5, lit_n 2, pk_mul, nI_add, pk_mul, iMi_n (by omega) (by omega)]
      congr 2; omega
    · rw [lit_n 5, lit_n 2, pk_mul, nI_add, pk_mul, nI_1, iMi_n (by omega) (by omega)]
      show _ = nI (min (min (wMin C (2 * k)) (10 * C (2 * k) + 2 * k)) (10 * C (2 * k + 1) + (2 * k + 1)))
      congr 2; omega
  · have b1 := wMin_b hC 10 (by omega)
    have e10 : wMin C (2 * 5) = wMin C 10 := rfl
    refine pk_le 5 5 (fun _ => ?_) (fun z => by omega)
    show (¬ nI w = 0 → _) ∧ _
    rw [wAns] at hK
    refine pk_ne w 0 (fun n0 => pk_ne w 1 (fun n1 => ?_) (fun e => ?_) rfl rfl (by omega) (by omega)) (fun e => ?_) rfl rfl (by omega) (by omega)
    · rw [if_neg n0, if_neg n1] at hK
      rw [lit_n 2, rem_n (by omega) (by decide) (by decide)]; exact hK
    · rw [if_neg (by omega), if_pos e] at hK
      rw [lit_n 2, lit_n 5, pk_div (by omega) (by decide) (by decide), rem_n (by omega) (by decide) (by decide), show wMin C (2 * 5) / 2 % 5 = wMin C 10 % 10 / 2 by omega]; exact hK
    · rw [if_pos e] at hK
      rw [lit_n 10, pk_div (by omega) (by decide) (by decide)]; exact hK
