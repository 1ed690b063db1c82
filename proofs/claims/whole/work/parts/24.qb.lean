/-! avalanches -/
theorem nI_shl (n k : Nat) (hk : k < 32) : nI n <<< (nI k &&& 31) = nI (n * 2 ^ k) := by
  apply Int32.toBitVec_inj.mp
  apply BitVec.eq_of_toNat_eq
  rw [pk_shl _ _ k (s31 k hk)]
  show (BitVec.ofNat 32 n).toNat * 2 ^ k % 2 ^ 32 = (BitVec.ofNat 32 (n * 2 ^ k)).toNat
  rw [BitVec.toNat_ofNat, BitVec.toNat_ofNat, Nat.mul_mod, Nat.mod_mod, ← Nat.mul_mod]
/-- a set and the sectors beside it -/
def wtb (m : Nat) : Nat := bitsN (fun k => m.testBit k || (m.testBit ((k + 1) % 24) || m.testBit ((k + 23) % 24))) 24
theorem wtb_e {m : Nat} (hm : m < 2 ^ 24) : (m ||| (m * 2 ^ 1 ||| m / 2 ^ 23) ||| (m / 2 ^ 1 ||| m * 2 ^ 23)) &&& 16777215 = wtb m := by
  apply Nat.eq_of_testBit_eq
  intro k
  have h24 : ∀ j, 24 ≤ j → m.testBit j = false := fun j hj => Nat.testBit_lt_two_pow (Nat.lt_of_lt_of_le hm (Nat.pow_le_pow_right (by decide) hj))
  rw [wtb, bitsN_test, show 16777215 = 2 ^ 24 - 1 by rfl, Nat.testBit_and, Nat.testBit_two_pow_sub_one]
  by_cases hk : k < 24
  · rw [Nat.testBit_or, Nat.testBit_or, Nat.testBit_or, Nat.testBit_or, ← Nat.shiftLeft_eq, ← Nat.shiftLeft_eq, Nat.testBit_shiftLeft, Nat.testBit_shiftLeft, Nat.testBit_div_two_pow, Nat.testBit_div_two_pow, decide_eq_true hk, Bool.and_true, Bool.true_and]
    rcases (show k = 0 ∨ k = 23 ∨ (0 < k ∧ k < 23) by omega) with rfl | rfl | ⟨h1, h2⟩
    · simp [h24, -Nat.testBit_zero]
      cases m.testBit 0 <;> cases m.testBit 1 <;> cases m.testBit 23 <;> rfl
    · simp [h24, -Nat.testBit_zero]
      cases m.testBit 0 <;> cases m.testBit 22 <;> cases m.testBit 23 <;> rfl
    · rw [show (k + 1) % 24 = k + 1 by omega, show (k + 23) % 24 = k - 1 by omega, h24 (k + 23) (by omega), decide_eq_true (show k ≥ 1 by omega), decide_eq_false (show ¬ k ≥ 23 by omega)]
      cases m.testBit k <;> cases m.testBit (k - 1) <;> cases m.testBit (k + 1) <;> rfl
  · rw [decide_eq_false hk, Bool.and_false, Bool.false_and]
theorem s_beside {m : Nat} (hm : m < 2 ^ 24) {K : Int32 → Prop} (hK : K (nI (wtb m))) : wp_X4_withThoseBeside (nI m) K := by
  refine nm_r (e' := nI (m * 2 ^ 1 ||| m / 2 ^ 23)) ?_ (nm_r (e' := nI (m / 2 ^ 1 ||| m * 2 ^ 23)) ?_ ?_)
  · show nI m <<< (nI 1 &&& 31) ||| nI m >>> (nI 23 &&& 31) = _
    rw [nI_shl m 1 (by decide), pk_shrN (by omega) (nI 23 &&& 31) 23 (s31 23 (by decide)), nI_or]
  · show nI m >>> (nI 1 &&& 31) ||| nI m <<< (nI 23 &&& 31) = _
    rw [nI_shl m 23 (by decide), pk_shrN (by omega) (nI 1 &&& 31) 1 (s31 1 (by decide)), nI_or]
  · show K ((nI m ||| nI _ ||| nI _) &&& nI 16777215)
    rw [nI_or, nI_or, nI_and, wtb_e hm]; exact hK
theorem and_not {a b : Nat} (ha : a < 2 ^ 24) : nI a &&& (nI b ^^^ (-1 : Int32)) = nI (bitsN (fun k => a.testBit k && !b.testBit k) 24) := by
  apply Int32.toBitVec_inj.1
  show BitVec.ofNat 32 a &&& (BitVec.ofNat 32 b ^^^ BitVec.allOnes 32) = BitVec.ofNat 32 _
  apply BitVec.eq_of_getLsbD_eq
  intro i hi
  rw [BitVec.getLsbD_and, BitVec.getLsbD_xor, BitVec.getLsbD_ofNat, BitVec.getLsbD_ofNat, BitVec.getLsbD_allOnes, BitVec.getLsbD_ofNat, bitsN_test]
  by_cases h : i < 24
  · simp [hi, h]
  · rw [Nat.testBit_lt_two_pow (Nat.lt_of_lt_of_le ha (Nat.pow_le_pow_right (by decide) (by omega : 24 ≤ i)))]
    simp
/-- whether an avalanche comes into a cell of ring r out of the set above -/
def avP (so : Nat → Nat) (r set k : Nat) : Bool := (set.testBit k || (set.testBit ((k + 1) % 24) || set.testBit ((k + 23) % 24))) && !decide (so (24 * r + k) = 1)
def avN (so : Nat → Nat) (r s : Nat) : Nat → Nat
  | 0 => 2 ^ s
  | i + 1 => bitsN (avP so (r - 1 - i) (avN so r s i)) 24
def avH (so o : Nat → Nat) (r s : Nat) : Nat → Nat
  | 0 => 0
  | i + 1 => avH so o r s i ||| hitN o (avN so r s (i + 1)) 24
def avC (so : Nat → Nat) (r s : Nat) : Nat → Nat
  | 0 => 1
  | i + 1 => avC so r s i + cntN (fun k => (avN so r s (i + 1)).testBit k) 24
theorem avN_lt {so : Nat → Nat} {r s : Nat} (hs : s < 24) : ∀ i, avN so r s i < 2 ^ 24
  | 0 => Nat.pow_lt_pow_right (by decide) hs
  | i + 1 => bitsN_lt _ 24
def avA (so o : Nat → Nat) (r s w : Nat) : Int32 := if w = 0 then nI (avH so o r s r) else nI (avC so r s r)
theorem sub_i1 {r i : Nat} (h : i < r) : nI (r - i) - (1 : Int32) = nI (r - 1 - i) := by
  rw [lit_n 1, pk_sub (by omega)]; congr 1; omega
theorem sub_m1 {r i : Nat} (h : i < r) : nI (r - 1 - i) + (-1 : Int32) = nI (r - (i + 1)) - (1 : Int32) := by
  rw [show r - 1 - i = r - (i + 1) by omega, Int32.sub_eq_add_neg]
theorem s_runA {g r s w : Nat} {so ow : Nat → Nat} {fs fo : Nat → Int32} (hf : rep 120 fs so) (ho : rep 504 fo ow) (vs : ∀ k, k < 120 → so k < 5) (vo : ∀ k, k < 504 → ow k < 6) (hg : g ≤ 20) (hr : r < 5) (hs : s < 24) (hw : w < 2) {K : Int32 → Prop} (hK : K (avA so (own ow g) r s w)) : wp_X4_runOfAvalanche (nI g) fs fo (nI r) (nI s) (nI w) K := by
  refine nm_r (shl1 (by omega)) (nm_r (e' := nI (r - 0) - 1) rfl ?_)
  refine lpW4_for (fun i => nI (avH so (own ow g) r s i)) (fun i => nI (avC so r s i)) (fun i => nI (avN so r s i)) (fun i => nI (r - i) - 1) r (fun i hi L hL => ?_) (fun L => ?_)
  · have hn := avN_lt (so := so) (r := r) hs i
    have hn1 := avN_lt (so := so) (r := r) hs (i + 1)
    show wb_X4_runOfAvalanche_16 _ _ _ _ _ _ _ _ (nI (avN so r s i)) (nI (r - i) - 1)
    rw [sub_i1 hi]
    refine br_f (nI_pos (by omega)) (s_beside hn (s_sectorsOfSort (q := 1) hf vs (by omega) (by decide) (nm_r (e' := nI (avN so r s (i + 1))) ?_ (s_bits hn1 (nm_r (nI_add _ _) (s_ownersOf ho vo hg (by omega) (nm_r (nI_or _ _) (nm_r (sub_m1 hi) hL))))))))
    rw [and_not (show wtb (avN so r s i) < 2 ^ 24 from bitsN_lt _ 24)]
    show _ = nI (bitsN (avP so (r - 1 - i) (avN so r s i)) 24)
    congr 1
    exact bitsN_cong (fun k hk => by rw [wtb, bitsN_test, bitsN_test, decide_eq_true hk, Bool.true_and, Bool.true_and]; rfl)
  · show wb_X4_runOfAvalanche_16 _ _ _ _ _ _ _ _ _ (nI (r - r) - 1)
    rw [show nI (r - r) - 1 = (-1 : Int32) by rw [Nat.sub_self]; decide]
    rw [avA] at hK
    refine br_t (by decide) (pk_ne w 0 (fun a => ?_) (fun a => ?_) rfl rfl (by omega) (by omega))
    · rw [if_neg a] at hK; exact hK
    · rw [if_pos a] at hK; exact hK
theorem cde_wood : ∀ q, q < 5 → (nI (cde q) = (119 : Int32) ↔ q = 1) := by decide +kernel
theorem cde_snow : ∀ q, q < 5 → (nI (cde q) = (115 : Int32) ↔ q = 4) := by decide +kernel
theorem s5_runA {r s w : Nat} {so o : Nat → Nat} {fs fo : Nat → Int32} (hf : rep 120 fs (fun k => cde (so k))) (ho : rep 24 fo o) (vs : ∀ k, k < 120 → so k < 5) (vo : ∀ k, k < 24 → o k < 6) (hr : r < 5) (hs : s < 24) (hw : w < 2) {K : Int32 → Prop} (hK : K (avA so o r s w)) : lpW4 (wb_X5_avalanche_63 fs fo (nI w) K) (nI (2 ^ s)) 0 1 (nI r - 1) := by
  refine lpW4_for (fun i => nI (avN so r s i)) (fun i => nI (avH so o r s i)) (fun i => nI (avC so r s i)) (fun i => nI (r - i) - 1) r (fun i hi L hL => ?_) (fun L => ?_)
  · have hn := avN_lt (so := so) (r := r) hs i
    show wb_X5_avalanche_63 _ _ _ _ _ (nI (avN so r s i)) (nI (avH so o r s i)) (nI (avC so r s i)) (nI (r - i) - 1)
    rw [sub_i1 hi]
    refine br_f (nI_pos (by omega)) ?_
    have ht : ∀ k, k < 24 → (avN so r s (i + 1)).testBit k = avP so (r - 1 - i) (avN so r s i) k := fun k hk => by
      show (bitsN (avP so (r - 1 - i) (avN so r s i)) 24).testBit k = _
      rw [bitsN_test, decide_eq_true hk, Bool.true_and]
    show lpW4 _ (nI (avH so o r s i)) (nI (avC so r s i)) 0 0
    rw [show nI (avH so o r s i) = nI (avH so o r s i ||| hitN o (avN so r s (i + 1)) 0) by rw [hitN, Nat.or_zero]]
    refine lpW4_for (fun k => nI (avH so o r s i ||| hitN o (avN so r s (i + 1)) k)) (fun k => nI (avC so r s i + cntN (fun k => (avN so r s (i + 1)).testBit k) k)) (fun k => nI (bitsN (avP so (r - 1 - i) (avN so r s i)) k)) (fun k => nI k) 24 (fun k hk L2 hL2 => ?_) (fun L2 => ?_)
    · have hts := ht k hk
      have st : ∀ d : Nat, d < 2 → ((d = 1) ↔ ((avN so r s i).testBit k || ((avN so r s i).testBit ((k + 1) % 24) || (avN so r s i).testBit ((k + 23) % 24))) = true) → wj_X5_avalanche_122 fs fo (nI (avH so o r s i ||| hitN o (avN so r s (i + 1)) k)) (nI (avC so r s i + cntN (fun k => (avN so r s (i + 1)).testBit k) k)) (nI (r - 1 - i)) (nI (bitsN (avP so (r - 1 - i) (avN so r s i)) k)) (nI k) (nI d) L2 := by
        intro d hd hc
        have stay : avP so (r - 1 - i) (avN so r s i) k = false → L2 (nI (avH so o r s i ||| hitN o (avN so r s (i + 1)) k)) (nI (avC so r s i + cntN (fun k => (avN so r s (i + 1)).testBit k) k)) (nI (bitsN (avP so (r - 1 - i) (avN so r s i)) k)) (nI (k + 1)) := fun hp => by
          rw [hp] at hts
          simp only [hitN, cntN, bitsN, hts, hp, Bool.false_eq_true, if_false, Nat.add_zero] at hL2
          exact hL2
        refine pk_eq d 0 (fun e => nm_r (nI_1 k) (stay ?_)) (fun e => ⟨24 * (r - 1 - i) + k, by rw [lit_n 24, pk_mul, nI_add], by omega, ?_⟩) rfl rfl (by omega) (by omega)
        · have : ¬ ((avN so r s i).testBit k || ((avN so r s i).testBit ((k + 1) % 24) || (avN so r s i).testBit ((k + 23) % 24))) = true := fun y => by have := hc.mpr y; omega
          rw [avP, Bool.eq_false_iff.mpr this, Bool.false_and]
        · have v5 := vs (24 * (r - 1 - i) + k) (by omega)
          have hc1 := hc.mp (by omega)
          rw [hf _ (by omega)]
          refine br_c (fun a => nm_r (nI_1 k) (stay ?_)) (fun a => ?_)
          · rw [avP, (cde_wood _ v5).mp a]; simp
          · have a2 : ¬ so (24 * (r - 1 - i) + k) = 1 := fun z => a ((cde_wood _ v5).mpr z)
            have hp : avP so (r - 1 - i) (avN so r s i) k = true := by rw [avP, hc1]; simp [a2]
            rw [hp] at hts
            refine nm_r (or_bit (bitsN_lt _ k) (by omega)) ⟨k, rfl, hk, ?_⟩
            rw [ho k hk]
            have v6 := vo k hk
            refine nm_r (or_bitE _ (by omega)) (nm_r (nI_1 _) (nm_r (nI_1 k) ?_))
            simp only [hitN, cntN, bitsN, hts, hp, if_true] at hL2
            rw [← Nat.or_assoc, ← Nat.add_assoc] at hL2
            exact hL2
      refine pk_le 24 k (fun z => by omega) (fun _ => s5_hasBit (by omega) (by omega) ?_)
      cases c1 : (avN so r s i).testBit k
      · refine bn_t rfl (s5_next hk (s5_hasBit (by omega) (by omega) ?_))
        cases c2 : (avN so r s i).testBit ((k + 1) % 24)
        · refine bn_t rfl (s5_before hk (s5_hasBit (by omega) (by omega) ?_))
          cases c3 : (avN so r s i).testBit ((k + 23) % 24)
          · exact br_t rfl (st 0 (by decide) (by simp [c1, c2, c3]))
          · exact br_f (by decide) (st 1 (by decide) (by simp [c1, c2, c3]))
        · exact bn_f (by decide) (st 1 (by decide) (by simp [c1, c2]))
      · exact bn_f (by decide) (st 1 (by decide) (by simp [c1]))
    · refine pk_le 24 24 (fun _ => nm_r (sub_m1 hi) hL) (fun z => by omega)
  · show wb_X5_avalanche_63 _ _ _ _ _ _ _ _ (nI (r - r) - 1)
    rw [show nI (r - r) - 1 = (-1 : Int32) by rw [Nat.sub_self]; decide]
    rw [avA] at hK
    refine br_t (by decide) (pk_ne w 0 (fun a => ?_) (fun a => ?_) rfl rfl (by omega) (by omega))
    · rw [if_neg a] at hK; exact hK
    · rw [if_pos a] at hK; exact hK
theorem p_avalanche {g : Nat} {x1 x2 x3 : Int32} {so ow : Nat → Nat} {fs fo ms mo : Nat → Int32} (hs : rep 120 fs so) (hms : rep 120 ms (fun k => cde (so k))) (ho : rep 504 fo ow) (hmo : rep 24 mo (own ow g)) (vs : ∀ k, k < 120 → so k < 5) (vo : ∀ k, k < 504 → ow k < 6) (hg : g ≤ 20) : wp_X4_avalanche (nI g) fs fo x1 x2 x3 (fun r => wp_X5_avalanche ms mo x1 x2 x3 (fun r2 => r = r2)) := by
  have vo' : ∀ s, s < 24 → own ow g s < 6 := fun s hs => vo _ (by omega)
  rcases pk_ix' x1 5 (by decide) with h | h | ⟨r, hr, rfl⟩
  · exact s4_isRing_f (Or.inl h) (br_t rfl (s5_isRing_f (Or.inl h) (br_t rfl rfl)))
  · exact s4_isRing_f (Or.inr h) (br_t rfl (s5_isRing_f (Or.inr h) (br_t rfl rfl)))
  refine s4_isRing_t hr (br_f (by decide) ?_)
  rcases pk_ix' x2 24 (by decide) with h | h | ⟨s, hk, rfl⟩
  · exact s4_isSector_f (Or.inl h) (bn_t rfl (s5_isRing_t hr (br_f (by decide) (s5_isSector_f (Or.inl h) (bn_t rfl rfl)))))
  · exact s4_isSector_f (Or.inr h) (bn_t rfl (s5_isRing_t hr (br_f (by decide) (s5_isSector_f (Or.inr h) (bn_t rfl rfl)))))
  refine s4_isSector_t hk (bn_f (by decide) ?_)
  rcases pk_ix' x3 2 (by decide) with h | h | ⟨w, hw, rfl⟩
  · exact br_t h (s5_isRing_t hr (br_f (by decide) (s5_isSector_t hk (bn_f (by decide) (s5_in_f 1 (Or.inl h) (by decide) (bn_t rfl rfl))))))
  · have h0 : ¬ x3 < 0 := fun z => ng_nle z 2 (by decide) h
    have h1 : ¬ x3 ≤ nI 1 := fun z => by
      rw [Int32.le_iff_toInt_le, nI_toInt (by omega)] at h z
      omega
    exact br_f h0 (br_f h1 (s5_isRing_t hr (br_f (by decide) (s5_isSector_t hk (bn_f (by decide) (s5_in_f 1 (Or.inr h) (by decide) (bn_t rfl rfl)))))))
  have v5 := vs (24 * r + s) (by omega)
  have ix : (24 : Int32) * nI r + nI s = nI (24 * r + s) := by rw [lit_n 24, pk_mul, nI_add]
  refine br_f (nI_pos (by omega)) (br_t (nI_le (b := 1) (by omega) (by omega)) (s_sortAt hs hr hk ?_))
  refine pk_eq (so (24 * r + s)) 4 (fun a => ?_) (fun a => ?_) rfl rfl (by omega) (by omega)
  · refine s_runA hs ho vs vo hg hr hk hw (s5_isRing_t hr (br_f (by decide) (s5_isSector_t hk (bn_f (by decide) (s5_in_t 0 1 (by omega) (by omega) (by decide) (bn_f (by decide) ⟨24 * r + s, ix, by omega, ?_⟩))))))
    rw [hms _ (by omega)]
    exact br_t ((cde_snow _ v5).mpr a) (nm_r (shl1 (by omega)) (nm_r rfl (s5_runA hms hmo vs vo' hr hk hw rfl)))
  · refine s5_isRing_t hr (br_f (by decide) (s5_isSector_t hk (bn_f (by decide) (s5_in_t 0 1 (by omega) (by omega) (by decide) (bn_f (by decide) ⟨24 * r + s, ix, by omega, ?_⟩)))))
    rw [hms _ (by omega)]
    exact br_f (fun z => a ((cde_snow _ v5).mp z)) rfl
