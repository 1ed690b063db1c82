/-! the rows of the JDK: where a sign stands in a text, how many bits a number has -/
theorem t8 : ∀ c : Nat, c < 128 → (nI c).toInt8.toInt32 = nI c := by decide +kernel
theorem c16 : ∀ c : Nat, c < 128 → iC (nI c) = nI c := by decide +kernel
theorem s_idx {i c n : Nat} (hi : i < 2) (hc : c < 128) (hn : n ≤ gLen.getD i 0) (h1 : ∀ k, k < n → (gByt.getD i []).getD k 0 ≠ nI c) (h2 : n < gLen.getD i 0 → (gByt.getD i []).getD n 0 = nI c) {K : Int32 → Prop} (hK : K (if n < gLen.getD i 0 then nI n else -1)) : wp_J0_indexOf_0f7a4 i (nI c) K := by
  have hl : (nI (gLen.getD i 0)) >>> ((0 : Int32) &&& 31) = nI (gLen.getD i 0) := by
    rcases (show i = 0 ∨ i = 1 by omega) with rfl | rfl <;> decide
  have hm : iMi ((nI (gLen.getD i 0)) >>> ((0 : Int32) &&& 31)) (nI (gLen.getD i 0)) = nI (gLen.getD i 0) := by
    rw [hl]; rcases (show i = 0 ∨ i = 1 by omega) with rfl | rfl <;> decide
  have hp : 0 < gLen.getD i 0 := by rcases (show i = 0 ∨ i = 1 by omega) with rfl | rfl <;> decide
  have hq := gLen_lt i
  refine br_f (c := (1 : Int32) = 0) (by decide) ?_
  refine br_f (nI_pos (by omega)) (br_f (nI_nlt (a := 255) (b := c) (by omega) (by omega)) (bn_f (by decide) (nm_r (e' := nI 0) (by decide) (nm_r hm ?_))))
  refine br_t (nI_lt hp (by omega)) (nm_r (t8 c hc) ?_)
  refine lpW1_for (fun k => nI k) n (fun k hk L hL => ?_) (fun L => ?_)
  · exact pk_le _ k (fun z => by omega) (fun _ => ⟨k, rfl, by omega, bn_f (h1 k hk) (nm_r (nI_1 k) hL)⟩) rfl rfl (by omega) (by omega)
  · by_cases hf : n < gLen.getD i 0
    · rw [if_pos hf] at hK
      exact pk_le _ n (fun z => by omega) (fun _ => ⟨n, rfl, hf, bn_t (h2 hf) hK⟩) rfl rfl (by omega) (by omega)
    · rw [if_neg hf] at hK
      exact pk_le _ n (fun _ => hK) (fun z => by omega) rfl rfl (by omega) (by omega)
/-- the place of a sign in the text of the sorts, or 5 -/
def uncde (c : Nat) : Nat := if c = 118 then 0 else if c = 119 then 1 else if c = 109 then 2 else if c = 114 then 3 else if c = 115 then 4 else 5
theorem uncde_cde : ∀ q, q < 5 → uncde (cde q) = q := by decide
theorem cde_lt : ∀ q, cde q < 128 := fun q => by
  match q with
  | 0 => exact (by decide : 118 < 128)
  | 1 => exact (by decide : 119 < 128)
  | 2 => exact (by decide : 109 < 128)
  | 3 => exact (by decide : 114 < 128)
  | _ + 4 => exact (by decide : 115 < 128)
theorem uncde_le (c : Nat) : uncde c ≤ 5 := by unfold uncde; split; omega; split; omega; split; omega; split; omega; split <;> omega
theorem cde_uncde {c : Nat} (h : uncde c < 5) : cde (uncde c) = c := by
  unfold uncde at h ⊢
  repeat' split
  all_goals first | (subst_vars; rfl) | (exfalso; simp_all)
theorem idx0 : ∀ c : Nat, c < 128 → (∀ k, k < uncde c → (gByt.getD 0 []).getD k 0 ≠ nI c) ∧ (uncde c < 5 → (gByt.getD 0 []).getD (uncde c) 0 = nI c) := by decide +kernel
theorem s_idxS {c : Nat} (hc : c < 128) {K : Int32 → Prop} (hK : K (if uncde c < 5 then nI (uncde c) else -1)) : wp_J0_indexOf_0f7a4 0 (nI c) K := s_idx (by decide) hc (uncde_le c) (idx0 c hc).1 (idx0 c hc).2 hK
/-- the number of an heir's letter, or 6 -/
def unltr (c : Nat) : Nat := if 97 ≤ c ∧ c < 103 then c - 97 else 6
theorem idx1 : ∀ c : Nat, c < 128 → (∀ k, k < unltr c → (gByt.getD 1 []).getD k 0 ≠ nI c) ∧ (unltr c < 6 → (gByt.getD 1 []).getD (unltr c) 0 = nI c) := by decide +kernel
theorem unltr_le (c : Nat) : unltr c ≤ 6 := by unfold unltr; split <;> omega
theorem s_idxL {c : Nat} (hc : c < 128) {K : Int32 → Prop} (hK : K (if unltr c < 6 then nI (unltr c) else -1)) : wp_J0_indexOf_0f7a4 1 (nI c) K := s_idx (by decide) hc (unltr_le c) (idx1 c hc).1 (idx1 c hc).2 hK
theorem chn : ∀ q : Nat, q < 5 → (narrow .char (.int (iC (((gByt.getD 0 []).getD q 0) &&& (255 : Int32)))) = .int (iC (((gByt.getD 0 []).getD q 0) &&& (255 : Int32)))) ∧ iC (((gByt.getD 0 []).getD q 0) &&& (255 : Int32)) = nI (cde q) := by
  intro q hq
  rcases (show q = 0 ∨ q = 1 ∨ q = 2 ∨ q = 3 ∨ q = 4 by omega) with rfl | rfl | rfl | rfl | rfl <;> exact ⟨rfl, by decide⟩
theorem s_chr {q : Nat} (hq : q < 5) {K : Int32 → Prop} (hK : K (nI (cde q))) : wp_J0_charAt_5068e 0 (nI q) K := by
  obtain ⟨h1, h2⟩ := chn q hq
  refine br_f (c := (1 : Int32) = 0) (by decide) (nm_r rfl ?_)
  refine br_f (nI_pos (by omega)) (br_t (nI_lt (b := 5) hq (by decide)) ⟨q, rfl, hq, h1, h1, ?_⟩)
  rw [h2]; exact hK
/-- how many bits: by bytes -/
theorem and_by (a b : Nat) : a &&& b = 256 * ((a / 256) &&& (b / 256)) + ((a % 256) &&& (b % 256)) := by
  have h1 : (a &&& b) / 2 ^ 8 = a / 2 ^ 8 &&& b / 2 ^ 8 := Nat.and_div_two_pow
  have h2 : (a &&& b) % 2 ^ 8 = a % 2 ^ 8 &&& b % 2 ^ 8 := Nat.and_mod_two_pow
  have h3 := Nat.div_add_mod (a &&& b) 256
  simp only [Nat.reducePow] at h1 h2
  rw [← h1, ← h2]; exact h3.symm
theorem and_by3 {a b c m : Nat} (ha : a < 256) (hb : b < 256) (hc : c < 256) (hm : m < 256) : (a + 256 * b + 65536 * c) &&& (m + 256 * m + 65536 * m + 16777216 * m) = (a &&& m) + 256 * (b &&& m) + 65536 * (c &&& m) := by
  rw [and_by, show (a + 256 * b + 65536 * c) / 256 = b + 256 * c by omega, show (a + 256 * b + 65536 * c) % 256 = a by omega, show (m + 256 * m + 65536 * m + 16777216 * m) / 256 = m + 256 * m + 65536 * m by omega, show (m + 256 * m + 65536 * m + 16777216 * m) % 256 = m by omega]
  rw [and_by, show (b + 256 * c) / 256 = c by omega, show (b + 256 * c) % 256 = b by omega, show (m + 256 * m + 65536 * m) / 256 = m + 256 * m by omega, show (m + 256 * m + 65536 * m) % 256 = m by omega]
  rw [and_by, show c / 256 = 0 by omega, show c % 256 = c by omega, show (m + 256 * m) % 256 = m by omega, Nat.zero_and]
  omega
theorem q1 : ∀ a, a < 256 → ∀ x, x < 2 → (a / 2 + 128 * x) &&& 85 = (a / 2) &&& 85 ∧ ((a / 2) &&& 85) ≤ a ∧ a < 256 := by decide +kernel
theorem q2 : ∀ a, a < 256 → ∀ x, x < 4 → (a / 4 + 64 * x) &&& 51 = (a / 4) &&& 51 := by decide +kernel
theorem q3 : ∀ a, a < 69 → ∀ x, x < 5 → (a + a / 16 + 16 * x) &&& 15 = (a % 16 + a / 16) % 16 := by decide +kernel
def bf1 (a : Nat) : Nat := a - ((a / 2) &&& 85)
def bf2 (a : Nat) : Nat := (bf1 a &&& 51) + ((bf1 a / 4) &&& 51)
def bf3 (a : Nat) : Nat := (bf2 a % 16 + bf2 a / 16) % 16
theorem q4 : ∀ a, a < 256 → bf1 a < 256 ∧ bf2 a % 16 < 5 ∧ bf2 a < 69 ∧ bf3 a = cntN (fun k => a.testBit k) 8 := by decide +kernel
theorem cntN_add (p : Nat → Bool) (n : Nat) : ∀ k, cntN p (n + k) = cntN p n + cntN (fun j => p (n + j)) k
  | 0 => rfl
  | k + 1 => by rw [← Nat.add_assoc, cntN, cntN_add p n k, cntN, Nat.add_assoc]
theorem cntN_cong {p q : Nat → Bool} : ∀ {n : Nat}, (∀ k, k < n → p k = q k) → cntN p n = cntN q n
  | 0, _ => rfl
  | n + 1, h => by rw [cntN, cntN, cntN_cong (fun k hk => h k (by omega)), h n (by omega)]
theorem cnt_by (m : Nat) : cntN (fun k => m.testBit k) 24 = cntN (fun k => (m % 256).testBit k) 8 + cntN (fun k => (m / 256 % 256).testBit k) 8 + cntN (fun k => (m / 65536 % 256).testBit k) 8 := by
  rw [cntN_add _ 16 8, cntN_add _ 8 8]
  have e (k : Nat) (hk : k < 8) (x : Nat) : (x % 256).testBit k = x.testBit k := by rw [show 256 = 2 ^ 8 from rfl, Nat.testBit_mod_two_pow]; simp [hk]
  rw [cntN_cong (fun k hk => e k hk m), cntN_cong (fun k hk => e k hk (m / 256)), cntN_cong (fun k hk => e k hk (m / 65536))]
  rw [cntN_cong (p := fun k => (m / 256).testBit k) (q := fun k => m.testBit (8 + k)) (fun k hk => by rw [Nat.add_comm]; exact Nat.testBit_div_two_pow (n := 8) m k), cntN_cong (p := fun k => (m / 65536).testBit k) (q := fun k => m.testBit (16 + k)) (fun k hk => by rw [Nat.add_comm]; exact Nat.testBit_div_two_pow (n := 16) m k)]
theorem s_bits {m : Nat} (hm : m < 16777216) {K : Int32 → Prop} (hK : K (nI (cntN (fun k => m.testBit k) 24))) : wp_J6_bitCount_0f7a4 (nI m) K := by
  obtain ⟨a, b, c, ha, hb, hc, rfl⟩ : ∃ a b c, a < 256 ∧ b < 256 ∧ c < 256 ∧ m = a + 256 * b + 65536 * c := ⟨m % 256, m / 256 % 256, m / 65536, by omega, by omega, by omega, by omega⟩
  rw [cnt_by, show (a + 256 * b + 65536 * c) % 256 = a by omega, show (a + 256 * b + 65536 * c) / 256 % 256 = b by omega, show (a + 256 * b + 65536 * c) / 65536 % 256 = c by omega] at hK
  obtain ⟨a1, a2, a3, a4⟩ := q4 a ha
  obtain ⟨b1, b2, b3, b4⟩ := q4 b hb
  obtain ⟨c1, c2, c3, c4⟩ := q4 c hc
  rw [← a4, ← b4, ← c4] at hK
  have a5 := (q1 a ha (b % 2) (by omega))
  have b5 := (q1 b hb (c % 2) (by omega))
  have c5 := (q1 c hc 0 (by omega))
  refine nm_r (e' := nI (bf1 a + 256 * bf1 b + 65536 * bf1 c)) ?_ ?_
  · show nI _ - (iUs (nI _) 1 &&& nI 1431655765) = _
    rw [show iUs (nI (a + 256 * b + 65536 * c)) 1 = nI ((a + 256 * b + 65536 * c) / 2 ^ 1) from pk_ushrN (by omega) 1 1 (by decide)]
    rw [nI_and, show (a + 256 * b + 65536 * c) / 2 ^ 1 = (a / 2 + 128 * (b % 2)) + 256 * (b / 2 + 128 * (c % 2)) + 65536 * (c / 2 + 128 * 0) by omega, show 1431655765 = 85 + 256 * 85 + 65536 * 85 + 16777216 * 85 by rfl, and_by3 (by omega) (by omega) (by omega) (by omega), a5.1, b5.1, c5.1, pk_sub (by omega)]
    unfold bf1
    congr 1; omega
  have a6 := q2 (bf1 a) a1 (bf1 b % 4) (by omega)
  have b6 := q2 (bf1 b) b1 (bf1 c % 4) (by omega)
  have c6 := q2 (bf1 c) c1 0 (by omega)
  refine nm_r (e' := nI (bf2 a + 256 * bf2 b + 65536 * bf2 c)) ?_ ?_
  · show (nI _ &&& nI 858993459) + (iUs (nI _) 2 &&& nI 858993459) = _
    rw [show iUs (nI (bf1 a + 256 * bf1 b + 65536 * bf1 c)) 2 = nI ((bf1 a + 256 * bf1 b + 65536 * bf1 c) / 2 ^ 2) from pk_ushrN (by omega) 2 2 (by decide)]
    rw [nI_and, nI_and, show (bf1 a + 256 * bf1 b + 65536 * bf1 c) / 2 ^ 2 = (bf1 a / 4 + 64 * (bf1 b % 4)) + 256 * (bf1 b / 4 + 64 * (bf1 c % 4)) + 65536 * (bf1 c / 4 + 64 * 0) by omega, show 858993459 = 51 + 256 * 51 + 65536 * 51 + 16777216 * 51 by rfl, and_by3 (by omega) (by omega) (by omega) (by omega), and_by3 (by omega) (by omega) (by omega) (by omega), a6, b6, c6, nI_add]
    unfold bf2
    congr 1; omega
  have a7 := q3 (bf2 a) a3 (bf2 b % 16) (by omega)
  have b7 := q3 (bf2 b) b3 (bf2 c % 16) (by omega)
  have c7 := q3 (bf2 c) c3 0 (by omega)
  refine nm_r (e' := nI (bf3 a + 256 * bf3 b + 65536 * bf3 c)) ?_ ?_
  · show (nI _ + iUs (nI _) 4) &&& nI 252645135 = _
    rw [show iUs (nI (bf2 a + 256 * bf2 b + 65536 * bf2 c)) 4 = nI ((bf2 a + 256 * bf2 b + 65536 * bf2 c) / 2 ^ 4) from pk_ushrN (by omega) 4 4 (by decide)]
    rw [nI_add, nI_and, show bf2 a + 256 * bf2 b + 65536 * bf2 c + (bf2 a + 256 * bf2 b + 65536 * bf2 c) / 2 ^ 4 = (bf2 a + bf2 a / 16 + 16 * (bf2 b % 16)) + 256 * (bf2 b + bf2 b / 16 + 16 * (bf2 c % 16)) + 65536 * (bf2 c + bf2 c / 16 + 16 * 0) by omega, show 252645135 = 15 + 256 * 15 + 65536 * 15 + 16777216 * 15 by rfl, and_by3 (by omega) (by omega) (by omega) (by omega), a7, b7, c7]
    rfl
  have l3 (x : Nat) (h1 : bf2 x % 16 < 5) (h2 : bf2 x < 69) : bf3 x ≤ 8 := by unfold bf3; rw [Nat.mod_eq_of_lt (by omega)]; omega
  have al := l3 a a2 a3
  have bl := l3 b b2 b3
  have cl := l3 c c2 c3
  refine nm_r (e' := nI (bf3 a + bf3 b + 256 * (bf3 b + bf3 c) + 65536 * bf3 c)) ?_ ?_
  · show nI _ + iUs (nI _) 8 = _
    rw [show iUs (nI (bf3 a + 256 * bf3 b + 65536 * bf3 c)) 8 = nI ((bf3 a + 256 * bf3 b + 65536 * bf3 c) / 2 ^ 8) from pk_ushrN (by omega) 8 8 (by decide), nI_add]
    congr 1; omega
  refine nm_r (e' := nI (bf3 a + bf3 b + bf3 c + 256 * (bf3 b + bf3 c) + 65536 * bf3 c)) ?_ ?_
  · show nI _ + iUs (nI _) 16 = _
    rw [show iUs (nI (bf3 a + bf3 b + 256 * (bf3 b + bf3 c) + 65536 * bf3 c)) 16 = nI ((bf3 a + bf3 b + 256 * (bf3 b + bf3 c) + 65536 * bf3 c) / 2 ^ 16) from pk_ushrN (by omega) 16 16 (by decide), nI_add]
    congr 1; omega
  rw [pk_andN (by omega) 6 (by decide), show (bf3 a + bf3 b + bf3 c + 256 * (bf3 b + bf3 c) + 65536 * bf3 c) % 2 ^ 6 = bf3 a + bf3 b + bf3 c by omega]
  exact hK
