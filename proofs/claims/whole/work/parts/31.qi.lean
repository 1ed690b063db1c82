/-! cuts: the reference's small steps -/
def rAh (A : Nat → Nat → Nat) (f : Nat → Int32) : Prop := ∀ h, h < 4 → ∀ s, s ≤ 24 → f (25 * h + s) = nI (A h s)
theorem s5_layAhead {so wo : Nat → Nat} {f fs fw : Nat → Int32} (hs : rep 120 fs (fun k => cde (so k))) (hw : rep 30 fw wo) (vs : ∀ k, k < 120 → so k < 5) {K : (Nat → Int32) → Prop} (hK : ∀ f', rAh (cutA so wo) f' → K f') : wp_X5_layAhead fs fw f K := by
  refine lpW2_inv (fun x f => ∃ h, x = nI h ∧ h ≤ 4 ∧ ∀ h', h' < h → ∀ s, s ≤ 24 → f (25 * h' + s) = nI (cutA so wo h' s)) (fun x _ => 4 - x.toInt.toNat) ?_ _ _ ⟨0, rfl, by omega, fun h' z => absurd z (Nat.not_lt_zero _)⟩
  rintro _ f ⟨h, rfl, hh, hf⟩
  refine pk_le 4 h (fun z => hK f (fun h' hh' => hf h' (by omega))) (fun z => ⟨25 * h, by rw [lit_n 25, pk_mul], by omega, ?_⟩) rfl rfl (by omega) (by omega)
  refine lpW2_inv (fun y f => ∃ s, y = nI s ∧ s ≤ 24 ∧ (∀ h', h' < h → ∀ s, s ≤ 24 → f (25 * h' + s) = nI (cutA so wo h' s)) ∧ ∀ s', s' ≤ s → f (25 * h + s') = nI (cutA so wo h s')) (fun y _ => 24 - y.toInt.toNat) ?_ _ _ ⟨0, rfl, by omega, fun h' hh' s' hs' => ?_, fun s' hs' => ?_⟩
  · rintro _ f ⟨s, rfl, hs24, h1, h2⟩
    refine pk_le 24 s (fun y => nm_r (nI_1 h) ⟨_, ?_, ⟨h + 1, rfl, z, fun h' hh' s' hs' => ?_⟩, rfl⟩) (fun y => ⟨25 * h + s, by rw [lit_n 25, pk_mul, nI_add], by omega, s5_sectorWorth hs hw vs (by omega) y ?_⟩) rfl rfl (by omega) (by omega)
    · show 4 - (nI (h + 1)).toInt.toNat < 4 - (nI h).toInt.toNat
      rw [nI_toInt (by omega), nI_toInt (by omega)]; omega
    · by_cases e : h' = h
      · rw [e]; exact h2 s' (by omega)
      · exact h1 h' (by omega) s' hs'
    · refine nm_r (e' := nI (cutA so wo h (s + 1))) ?_ ⟨25 * h + s + 1, by rw [lit_n 25, pk_mul, nI_add, nI_1], by omega, nm_r (nI_1 s) ⟨_, ?_, ⟨s + 1, rfl, y, fun h' hh' s' hs' => ?_, fun s' hs' => ?_⟩, rfl⟩⟩
      · rw [h2 s (Nat.le_refl _), nI_add]
        show _ = nI (cutA so wo h s + wsec so wo h (s % 24))
        rw [Nat.mod_eq_of_lt y]
      · show 24 - (nI (s + 1)).toInt.toNat < 24 - (nI s).toInt.toNat
        rw [nI_toInt (by omega), nI_toInt (by omega)]; omega
      · show upd f (25 * h + s + 1) _ _ = _
        unfold upd; rw [if_neg (by omega)]; exact h1 h' hh' s' hs'
      · show upd f (25 * h + s + 1) _ _ = _
        unfold upd
        by_cases e : s' = s + 1
        · rw [e, if_pos (by omega)]
        · rw [if_neg (by omega)]; exact h2 s' (by omega)
  · show upd f (25 * h) _ _ = _
    unfold upd; rw [if_neg (by omega)]; exact hf h' hh' s' hs'
  · show upd f (25 * h) _ _ = _
    have e : s' = 0 := by omega
    unfold upd; rw [e, if_pos (by omega)]; rfl
theorem s5_arc {A : Nat → Nat → Nat} {n h k : Nat} {b : Nat → Nat} {fa fb : Nat → Int32} (hA : cA A) (hn2 : 2 ≤ n) (hn : n ≤ 4) (hb : cVb n b) (hfa : rAh A fa) (hfb : rep n fb b) (hh : h < n) (hk : k < n) {K : Int32 → Prop} (hK : K (nI (arV A n b h k))) : wp_X5_arcWorth fa fb (nI h) (nI k) (nI n) K := by
  have hk24 := cVb_24 hb hk
  have h024 := cVb_24 hb (show 0 < n by omega)
  obtain ⟨t, ht⟩ : ∃ t, t = (k + 1) % n := ⟨_, rfl⟩
  have htn : t < n := by rw [ht]; exact Nat.mod_lt _ (by omega)
  have ht24 := cVb_24 hb htn
  refine ⟨k, rfl, by omega, nm_r (hfb k hk) ⟨fun z => ?_, t, by rw [nI_1, rem_n (by omega) (by omega) (by omega), ht], by omega, nm_r (hfb t htn) ⟨25 * h + b t, by rw [lit_n 25, pk_mul, nI_add], by omega, 25 * h + b k, by rw [lit_n 25, pk_mul, nI_add], by omega, ?_⟩⟩⟩
  · have := (nI_eq (b := 0) (by omega) (by decide)).mp z
    omega
  rw [hfa h (by omega) (b t) (by omega), hfa h (by omega) (b k) (by omega)]
  refine nm_r rfl ?_
  have en : nI n - (1 : Int32) = nI (n - 1) := by rw [lit_n 1, pk_sub (by omega)]
  refine pk_ne k (n - 1) (fun z => ?_) (fun z => ⟨25 * h + 24, by rw [lit_n 25, lit_n 24, pk_mul, nI_add], by omega, ?_⟩) rfl en (by omega) (by omega)
  · have e1 : k + 1 < n := by omega
    have et : t = k + 1 := by rw [ht]; exact Nat.mod_eq_of_lt e1
    rw [et, pk_sub (hA.1 h (b k) (b (k + 1)) (Nat.le_of_lt (hb.1 k e1)))]
    unfold arV at hK; rw [if_pos e1] at hK; exact hK
  · have et : t = 0 := by rw [ht, show k + 1 = n by omega]; exact Nat.mod_self n
    have m1 := hA.1 h (b k) (b 0 + 24) (by omega)
    have m2 := hA.2.1 h (b 0) (by omega)
    rw [et, hfa h (by omega) 24 (by omega)]
    have e : nI (A h (b 0)) - nI (A h (b k)) + nI (A h 24) = nI (A h (b 0)) + nI (A h 24) - nI (A h (b k)) := by grind
    rw [e, nI_add, ← m2, pk_sub m1]
    unfold arV at hK; rw [if_neg (by omega)] at hK; exact hK
theorem s5_isFair {A : Nat → Nat → Nat} {n : Nat} {b o : Nat → Nat} {fa fb fo : Nat → Int32} (hA : cA A) (hn2 : 2 ≤ n) (hn : n ≤ 4) (hb : cVb n b) (hfa : rAh A fa) (hfb : rep n fb b) (hfo : rep n fo o) (ho : ∀ k, k < n → o k < n) {K : Int32 → Prop} (hK : ∀ c : Bool, (c = true ↔ frP A n b o) → K (bI c)) : wp_X5_isFair fa fb fo (nI n) K := by
  refine lpW2_inv (fun x y => ∃ (c : Bool) (a : Nat), x = bI c ∧ y = nI a ∧ a ≤ n ∧ (c = true ↔ ∀ a', a' < a → ∀ d, d < n → arV A n b (o a') d ≤ arV A n b (o a') a')) (fun _ y => 5 - y.toInt.toNat) ?_ _ _ ⟨true, 0, rfl, rfl, Nat.zero_le _, fun _ a' z => absurd z (Nat.not_lt_zero _), fun _ => rfl⟩
  rintro _ _ ⟨c, a, rfl, rfl, ha, hc⟩
  refine pk_le n a (fun z => ⟨bI_n c, hK c ?_⟩) (fun z => ?_) rfl rfl (by omega) (by omega)
  · rw [show a = n by omega] at hc; exact hc
  cases c
  · refine br_t rfl ⟨rfl, hK false ⟨(fun y => nomatch y), fun y => ?_⟩⟩
    exact hc.mpr (fun a' ha' => y a' (by omega))
  have hc1 := hc.mp rfl
  have v5 := arV_le hA hb z (show o a < 6 by have := ho a z; omega)
  refine br_f (by decide) ?_
  refine lpW2_inv (fun x y => ∃ (c : Bool) (d : Nat), x = bI c ∧ y = nI d ∧ d ≤ n ∧ (c = true ↔ ∀ d', d' < d → arV A n b (o a) d' ≤ arV A n b (o a) a)) (fun _ y => 5 - y.toInt.toNat) ?_ _ _ ⟨true, 0, rfl, rfl, Nat.zero_le _, fun _ a' z => absurd z (Nat.not_lt_zero _), fun _ => rfl⟩
  rintro _ _ ⟨c, d, rfl, rfl, hd, hcd⟩
  refine pk_le n d (fun y => nm_r (nI_1 a) ⟨_, ?_, ⟨c, a + 1, rfl, rfl, z, ?_⟩, rfl⟩) (fun y => ?_) rfl rfl (by omega) (by omega)
  · show 5 - (nI (a + 1)).toInt.toNat < 5 - (nI a).toInt.toNat
    rw [nI_toInt (by omega), nI_toInt (by omega)]; omega
  · rw [hcd]
    constructor
    · intro w a' ha' d' hd'
      by_cases e : a' = a
      · rw [e]; exact w d' (by omega)
      · exact hc1 a' (by omega) d' hd'
    · intro w d' hd'
      exact w a (by omega) d' (by omega)
  have hmu : 5 - (nI (d + 1)).toInt.toNat < 5 - (nI d).toInt.toNat := by rw [nI_toInt (by omega), nI_toInt (by omega)]; omega
  cases c
  · refine br_t rfl (nm_r (nI_1 d) ⟨_, hmu, ⟨false, d + 1, rfl, rfl, y, (fun w => nomatch w), fun w => ?_⟩, rfl⟩)
    exact hcd.mpr (fun d' hd' => w d' (by omega))
  have hcd1 := hcd.mp rfl
  have v6 := arV_le hA hb y (show o a < 6 by have := ho a z; omega)
  refine br_f (by decide) ⟨a, rfl, by omega, nm_r (hfo a z) (s5_arc hA hn2 hn hb hfa hfb (ho a z) y ⟨a, rfl, by omega, nm_r (hfo a z) (s5_arc hA hn2 hn hb hfa hfb (ho a z) z ?_)⟩)⟩
  refine pk_lt (arV A n b (o a) a) (arV A n b (o a) d) (fun w => nm_r (nI_1 d) ⟨_, hmu, ⟨false, d + 1, rfl, rfl, y, (fun v => nomatch v), fun v => ?_⟩, rfl⟩) (fun w => nm_r (nI_1 d) ⟨_, hmu, ⟨true, d + 1, rfl, rfl, y, fun _ d' hd' => ?_, fun _ => rfl⟩, rfl⟩) rfl rfl (by omega) (by omega)
  · have := v d (by omega)
    omega
  · by_cases e : d' = d
    · rw [e]; exact w
    · exact hcd1 d' (by omega)
theorem s5_least {A : Nat → Nat → Nat} {n : Nat} {b o : Nat → Nat} {fa fb fo : Nat → Int32} (hA : cA A) (hn2 : 2 ≤ n) (hn : n ≤ 4) (hb : cVb n b) (hfa : rAh A fa) (hfb : rep n fb b) (hfo : rep n fo o) (ho : ∀ k, k < n → o k < n) {K : Int32 → Prop} (hK : K (nI (lsN A n b o n))) : wp_X5_leastShare fa fb fo (nI n) K := by
  refine nm_r (hfo 0 (by omega)) (s5_arc (k := 0) hA hn2 hn hb hfa hfb (ho 0 (by omega)) (by omega) ?_)
  have v0 := arV_le hA hb (show 0 < n by omega) (show o 0 < 6 by have := ho 0 (by omega); omega)
  have e0 : arV A n b (o 0) 0 = lsN A n b o (0 + 1) := by
    show arV A n b (o 0) 0 = min 1073741824 (arV A n b (o 0) 0)
    omega
  rw [e0]
  refine lpW2_for (fun k => nI (lsN A n b o (k + 1))) (fun k => nI (k + 1)) (n - 1) (fun k hk L hL => ?_) (fun L => ?_)
  · have v1 := arV_le hA hb (show k + 1 < n by omega) (show o (k + 1) < 6 by have := ho (k + 1) (by omega); omega)
    refine pk_le n (k + 1) (fun z => by omega) (fun z => ⟨k + 1, rfl, by omega, nm_r (hfo (k + 1) z) (s5_arc hA hn2 hn hb hfa hfb (ho (k + 1) z) z ?_)⟩) rfl rfl (by omega) (by omega)
    rw [lsN] at hL
    refine pk_le (lsN A n b o (k + 1)) (arV A n b (o (k + 1)) (k + 1)) (fun w => nm_r (nI_1 _) ?_) (fun w => nm_r (nI_1 _) ?_) rfl rfl lsN_31 (by omega)
    · rw [Nat.min_eq_left w] at hL; exact hL
    · rw [Nat.min_eq_right (by omega)] at hL; exact hL
  · show wb_X5_leastShare_15 _ _ _ _ _ _ (nI (lsN A n b o (n - 1 + 1))) (nI (n - 1 + 1))
    rw [show n - 1 + 1 = n by omega]
    exact pk_le n n (fun _ => hK) (fun z => by omega) rfl rfl (by omega) (by omega)
theorem s5_step {n : Nat} {b : Nat → Nat} {fb : Nat → Int32} (hn2 : 2 ≤ n) (hn : n ≤ 4) (hb : cVb n b) (hfb : rep n fb b) {K : Int32 → (Nat → Int32) → Prop} (h1 : ∀ l f', l ≤ n - 1 → b l + n < 24 + l → (∀ k, l < k → k ≤ n - 1 → 24 + k ≤ b k + n) → rep n f' (nxB b l) → K 1 f') (h0 : (∀ k, k ≤ n - 1 → 24 + k ≤ b k + n) → K 0 fb) : wp_X5_nextBounds fb (nI n) K := by
  have body : ∀ l, l ≤ n - 1 → b l + n < 24 + l → (∀ k, l < k → k ≤ n - 1 → 24 + k ≤ b k + n) → wj_X5_nextBounds_29 fb (nI n) (nI l) K := fun l hl hx hmax => by
    refine br_t (nI_pos' (by omega)) ⟨l, rfl, by omega, nm_r (e' := nI (b l + 1)) (by rw [hfb l (by omega), nI_1]) ⟨l, rfl, by omega, nm_r (nI_1 l) ?_⟩⟩
    refine lpW2_inv (fun x f => ∃ k, x = nI k ∧ l < k ∧ k ≤ n ∧ ∀ j, j < k → f j = nI (nxB b l j)) (fun x _ => 5 - x.toInt.toNat) ?_ _ _ ⟨l + 1, rfl, by omega, by omega, fun j hj => ?_⟩
    · rintro _ f ⟨k, rfl, hk1, hk2, hf⟩
      refine pk_le n k (fun z => ?_) (fun z => ?_) rfl rfl (by omega) (by omega)
      · have e : k = n := by omega
        subst e; exact h1 l f hl hx hmax hf
      · refine ⟨k - 1, by rw [lit_n 1, pk_sub (by omega)], by omega, nm_r (e' := nI (nxB b l k)) ?_ ⟨k, rfl, by omega, nm_r (nI_1 k) ⟨_, ?_, ⟨k + 1, rfl, by omega, z, fun j hj => ?_⟩, rfl⟩⟩⟩
        · rw [hf (k - 1) (by omega), nI_1]
          congr 1
          unfold nxB
          rw [if_neg (by omega), if_neg (by omega)]; omega
        · show 5 - (nI (k + 1)).toInt.toNat < 5 - (nI k).toInt.toNat
          rw [nI_toInt (by omega), nI_toInt (by omega)]; omega
        · unfold upd
          by_cases e : j = k
          · rw [if_pos e, e]
          · rw [if_neg e]; exact hf j (by omega)
    · unfold upd
      by_cases e : j = l
      · rw [if_pos e, e]
        congr 1
        unfold nxB
        rw [if_neg (by omega)]; omega
      · rw [if_neg e, hfb j (by omega)]
        congr 1
        unfold nxB
        rw [if_pos (by omega)]
  refine nm_r (e' := nI n - 1) rfl ?_
  refine lpW1_inv (fun x => ∃ j, x = nI j - 1 ∧ j ≤ n ∧ ∀ k, j ≤ k → k ≤ n - 1 → 24 + k ≤ b k + n) (fun x => (x.toInt + 1).toNat) ?_ _ ⟨n, rfl, Nat.le_refl _, fun k h1 h2 => by omega⟩
  rintro _ ⟨j, rfl, hj, hmax⟩
  cases j with
  | zero =>
    rw [m1_0]
    exact br_t (by decide) (br_f (by decide) (h0 (fun k hk => hmax k (Nat.zero_le _) hk)))
  | succ l =>
    have hl24 := cVb_le hb (show l < n by omega)
    rw [m1_n]
    refine br_f (nI_pos (by omega)) ⟨l, rfl, by omega, ?_⟩
    rw [hfb l (by omega)]
    refine pk_ne (b l) (24 - n + l) (fun z => body l (by omega) (by omega) (fun k h1 h2 => hmax k h1 h2)) (fun z => nm_r m1_a ⟨_, ?_, ⟨l, rfl, by omega, fun k h1 h2 => ?_⟩, rfl⟩) rfl (by rw [lit_n 24, pk_sub (by omega), nI_add]) (by omega) (by omega)
    · show ((nI l - 1).toInt + 1).toNat < ((nI l).toInt + 1).toNat
      rw [m1_t (by omega), nI_toInt (by omega)]; omega
    · by_cases e : k = l
      · rw [e]; omega
      · exact hmax k (by omega) h2
/-- the heirs that a code stands for -/
def ogN (n c k : Nat) : Nat := c / n ^ (n - 1 - k) % n
/-- which of them are there, as bits, by the last k -/
def seN (n c : Nat) : Nat → Nat
  | 0 => 0
  | k + 1 => seN n c k ||| 2 ^ (c / n ^ k % n)
def dsB (n c : Nat) : Bool := (List.range n).all fun k => (List.range k).all fun j => decide (ogN n c j ≠ ogN n c k)
def ogC (n c : Nat) : Bool := (decide (seN n c n = 2 ^ n - 1) == dsB n c) && decide (dK n (ogN n c) n = c)
theorem ogC_2 : (List.range (2 ^ 2)).all (ogC 2) = true := by decide +kernel
theorem ogC_3 : (List.range (3 ^ 3)).all (ogC 3) = true := by decide +kernel
theorem ogC_4 : (List.range (4 ^ 4)).all (ogC 4) = true := by decide +kernel
theorem dsB_s {n c : Nat} : dsB n c = true ↔ ∀ k, k < n → ∀ j, j < k → ogN n c j ≠ ogN n c k := by
  unfold dsB
  simp only [List.all_eq_true, List.mem_range, decide_eq_true_eq]
theorem og_ok (n : Nat) (hn : n < 5) (hn2 : 2 ≤ n) (c : Nat) (hc : c < n ^ n) : (seN n c n = 2 ^ n - 1 ↔ ∀ k, k < n → ∀ j, j < k → ogN n c j ≠ ogN n c k) ∧ dK n (ogN n c) n = c := by
  have h : ogC n c = true := by
    rcases (show n = 2 ∨ n = 3 ∨ n = 4 by omega) with rfl | rfl | rfl
    · exact List.all_eq_true.mp ogC_2 c (List.mem_range.mpr hc)
    · exact List.all_eq_true.mp ogC_3 c (List.mem_range.mpr hc)
    · exact List.all_eq_true.mp ogC_4 c (List.mem_range.mpr hc)
  unfold ogC at h
  rw [Bool.and_eq_true, beq_iff_eq] at h
  refine ⟨?_, of_decide_eq_true h.2⟩
  rw [← dsB_s, ← h.1, decide_eq_true_eq]
theorem ogN_lt {n c k : Nat} (hn : 0 < n) : ogN n c k < n := Nat.mod_lt _ hn
theorem og_v {n c : Nat} (hn2 : 2 ≤ n) (hn : n ≤ 4) (hc : c < n ^ n) : seN n c n = 2 ^ n - 1 ↔ cVo n (ogN n c) := by
  rw [(og_ok n (by omega) hn2 c hc).1]
  exact ⟨fun h => ⟨fun k _ => ogN_lt (by omega), fun j k hj hk => h k hk j hj⟩, fun h k hk j hj => h.2 j k hj hk⟩
theorem pow_l {n : Nat} (hn2 : 2 ≤ n) (hn : n ≤ 4) : n ^ n ≤ 256 := by
  rcases (show n = 2 ∨ n = 3 ∨ n = 4 by omega) with rfl | rfl | rfl <;> decide
theorem seN_lt {n c : Nat} (hn0 : 0 < n) (hn : n ≤ 4) : ∀ k, seN n c k < 16
  | 0 => by show 0 < 16; omega
  | k + 1 => or_lt (n := 4) (seN_lt hn0 hn k) (Nat.pow_lt_pow_right (by decide) (by have : c / n ^ k % n < n := Nat.mod_lt _ hn0; omega))
theorem s5_layOwners {n c : Nat} {fo : Nat → Int32} (hn2 : 2 ≤ n) (hn : n ≤ 4) (hc : c < n ^ n) {K : Int32 → (Nat → Int32) → Prop} (hK : ∀ (v : Bool) f', (v = true ↔ cVo n (ogN n c)) → rep n f' (ogN n c) → K (bI v) f') : wp_X5_layOwners fo (nI c) (nI n) K := by
  have c256 := pow_l hn2 hn
  refine nm_r (e' := nI (n - 0) - 1) rfl ?_
  refine lpW4_inv (fun x y z f => ∃ k, x = nI (c / n ^ k) ∧ y = nI (seN n c k) ∧ z = nI (n - k) - 1 ∧ k ≤ n ∧ ∀ j, n - k ≤ j → j < n → f j = nI (ogN n c j)) (fun _ _ z _ => (z.toInt + 1).toNat) ?_ _ _ _ _ ⟨0, by rw [Nat.pow_zero, Nat.div_one], rfl, rfl, Nat.zero_le _, fun j h1 h2 => by omega⟩
  rintro _ _ _ f ⟨k, rfl, rfl, rfl, hk, hf⟩
  by_cases e : k = n
  · subst e
    rw [Nat.sub_self, m1_0]
    have es : ((1 : Int32) <<< (nI k &&& 31)) - (1 : Int32) = nI (2 ^ k - 1) := by rw [shl1 (by omega), lit_n 1, pk_sub (Nat.two_pow_pos k)]
    have lt1 := seN_lt (c := c) (show 0 < k by omega) hn k
    have lt2 : 2 ^ k ≤ 2 ^ 4 := Nat.pow_le_pow_right (by decide) hn
    refine br_t (by decide) (pk_ne (seN k c k) (2 ^ k - 1) (fun z => hK false f ⟨(fun y => nomatch y), fun y => absurd ((og_v hn2 hn hc).mpr y) z⟩ (fun j hj => hf j (by omega) hj)) (fun z => hK true f ⟨fun _ => (og_v hn2 hn hc).mp z, fun _ => rfl⟩ (fun j hj => hf j (by omega) hj)) rfl es (by omega) (by omega))
  · obtain ⟨l, hl⟩ : ∃ l, n - k = l + 1 := ⟨n - k - 1, by omega⟩
    have hcl : c / n ^ k ≤ c := Nat.div_le_self _ _
    have eo : c / n ^ k % n = ogN n c l := by unfold ogN; rw [show n - 1 - l = k by omega]
    have ol := ogN_lt (n := n) (c := c) (k := l) (by omega)
    have ne0 : ¬ nI n = (0 : Int32) := fun z => by
      have := (nI_eq (b := 0) (by omega) (by decide)).mp z
      omega
    rw [hl, m1_n]
    refine br_f (nI_pos (by omega)) ⟨ne0, nm_r (e' := nI (ogN n c l)) (by rw [rem_n (by omega) (by omega) (by omega), eo]) ⟨l, rfl, by omega, ne0, nm_r (e' := nI (c / n ^ (k + 1))) (by rw [pk_div (by omega) (by omega) (by omega), Nat.pow_succ, Nat.div_div_eq_div_mul]) ⟨l, rfl, by omega, nm_r (e' := nI (seN n c (k + 1))) ?_ (nm_r m1_a ⟨_, ?_, ⟨k + 1, rfl, rfl, by rw [show n - (k + 1) = l by omega], by omega, fun j h1 h2 => ?_⟩, rfl⟩)⟩⟩⟩
    · unfold upd
      rw [if_pos rfl, or_bitE _ (by omega), seN, eo]
    · show ((nI l - 1).toInt + 1).toNat < ((nI l).toInt + 1).toNat
      rw [m1_t (by omega), nI_toInt (by omega)]; omega
    · show upd f l _ j = _
      unfold upd
      by_cases ej : j = l
      · rw [if_pos ej, ej]
      · rw [if_neg ej]; exact hf j (by omega) h2
theorem s5_keepCut {n : Nat} {b o : Nat → Nat} {fb fo gb go : Nat → Int32} (hn : n ≤ 4) (hfb : rep n fb b) (hfo : rep n fo o) {K : (Nat → Int32) → (Nat → Int32) → Prop} (hK : ∀ gb' go', rep n gb' b → rep n go' o → K gb' go') : wp_X5_keepCut fb fo gb go (nI n) K := by
  refine lpW3_inv (fun x g g2 => ∃ k, x = nI k ∧ k ≤ n ∧ (∀ j, j < k → g j = nI (b j)) ∧ ∀ j, j < k → g2 j = nI (o j)) (fun x _ _ => 5 - x.toInt.toNat) ?_ _ _ _ ⟨0, rfl, Nat.zero_le _, fun h' z => absurd z (Nat.not_lt_zero _), fun h' z => absurd z (Nat.not_lt_zero _)⟩
  rintro _ g g2 ⟨k, rfl, hk, h1, h2⟩
  refine pk_le n k (fun z => hK g g2 (fun j hj => h1 j (by omega)) (fun j hj => h2 j (by omega))) (fun z => ⟨k, rfl, by omega, nm_r (hfb k z) ⟨k, rfl, by omega, k, rfl, by omega, nm_r (hfo k z) ⟨k, rfl, by omega, nm_r (nI_1 k) ⟨_, ?_, ⟨k + 1, rfl, z, fun j hj => ?_, fun j hj => ?_⟩, rfl⟩⟩⟩⟩) rfl rfl (by omega) (by omega)
  · show 5 - (nI (k + 1)).toInt.toNat < 5 - (nI k).toInt.toNat
    rw [nI_toInt (by omega), nI_toInt (by omega)]; omega
  · show upd g k _ j = _
    unfold upd
    by_cases e : j = k
    · rw [if_pos e, e]
    · rw [if_neg e]; exact h1 j (by omega)
  · show upd g2 k _ j = _
    unfold upd
    by_cases e : j = k
    · rw [if_pos e, e]
    · rw [if_neg e]; exact h2 j (by omega)
