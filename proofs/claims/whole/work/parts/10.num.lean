/-! NUMBERS: plain facts, and the words for the state -/
theorem pk_ne {x y : Int32} {A B : Prop} (a b : Nat) (f : a ≠ b → A) (g : a = b → B) (hx : x = nI a := by rfl) (hy : y = nI b := by rfl) (ha : a < 2 ^ 31 := by omega) (hb : b < 2 ^ 31 := by omega) : (¬ x = y → A) ∧ (x = y → B) := by
  subst hx hy
  rw [nI_eq ha hb]
  exact ⟨f, g⟩
theorem bn_c {c A B : Prop} (a : ¬ c → A) (b : c → B) : (¬ c → A) ∧ (c → B) := ⟨a, b⟩
theorem bn_t {c A B : Prop} (h : c) (b : B) : (¬ c → A) ∧ (c → B) := ⟨fun z => absurd h z, fun _ => b⟩
theorem bn_f {c A B : Prop} (h : ¬ c) (a : A) : (¬ c → A) ∧ (c → B) := ⟨fun _ => a, fun z => absurd z h⟩
theorem lit_n (n : Nat) : (OfNat.ofNat n : Int32) = nI n := rfl
theorem s31 : ∀ n, n < 32 → ((nI n &&& 31).toBitVec.smod 32).toNat = n := by decide +kernel
theorem shl1 {k : Nat} (hk : k < 31) : (1 : Int32) <<< (nI k &&& 31) = nI (2 ^ k) := by
  have h : 2 ^ k < 2 ^ 32 := Nat.pow_lt_pow_right (by decide) (by omega)
  have h2 := pk_shlN (n := 1) (nI k &&& 31) k (s31 k (by omega)) (by omega)
  rw [Nat.one_mul] at h2
  exact h2
theorem nI_or (a b : Nat) : nI a ||| nI b = nI (a ||| b) := by
  apply Int32.toBitVec_inj.1
  show BitVec.ofNat 32 a ||| BitVec.ofNat 32 b = BitVec.ofNat 32 (a ||| b)
  apply BitVec.eq_of_getLsbD_eq
  intro i hi
  simp [hi]
theorem nI_and (a b : Nat) : nI a &&& nI b = nI (a &&& b) := by
  apply Int32.toBitVec_inj.1
  show BitVec.ofNat 32 a &&& BitVec.ofNat 32 b = BitVec.ofNat 32 (a &&& b)
  apply BitVec.eq_of_getLsbD_eq
  intro i hi
  simp [hi]
theorem or_bit {a k : Nat} (h : a < 2 ^ k) (hk : k < 31) : nI a ||| ((1 : Int32) <<< (nI k &&& 31)) = nI (a + 2 ^ k) := by
  rw [shl1 hk, nI_or]
  have h2 := Nat.two_pow_add_eq_or_of_lt h 1
  rw [Nat.mul_one] at h2
  rw [Nat.or_comm, ← h2, Nat.add_comm]
theorem or_bitE (a : Nat) {k : Nat} (hk : k < 31) : nI a ||| ((1 : Int32) <<< (nI k &&& 31)) = nI (a ||| 2 ^ k) := by rw [shl1 hk, nI_or]
theorem shr_bit {n k : Nat} (hn : n < 2 ^ 31) (hk : k < 31) : (nI n >>> (nI k &&& 31)) &&& (1 : Int32) = nI (if n.testBit k then 1 else 0) := by
  rw [pk_shrN hn (nI k &&& 31) k (s31 k (by omega)), lit_n 1, nI_and, Nat.and_one_is_mod, Nat.testBit_eq_decide_div_mod_eq]
  have : n / 2 ^ k % 2 = 0 ∨ n / 2 ^ k % 2 = 1 := by omega
  rcases this with e | e <;> simp [e]
theorem rem_n {a d : Nat} (ha : a < 2 ^ 31) (h0 : 0 < d) (hd : d < 2 ^ 31) : iR (nI a) (nI d) = nI (a % d) := pk_rem ha h0 hd
/-- the set of the numbers below n that p names, as bits -/
def bitsN (p : Nat → Bool) : Nat → Nat
  | 0 => 0
  | n + 1 => bitsN p n + if p n then 2 ^ n else 0
theorem bitsN_lt (p : Nat → Bool) : ∀ n, bitsN p n < 2 ^ n
  | 0 => by simp [bitsN]
  | n + 1 => by
    have := bitsN_lt p n
    rw [bitsN, Nat.pow_succ]
    split <;> omega
theorem bitsN_test (p : Nat → Bool) : ∀ (n k : Nat), (bitsN p n).testBit k = (decide (k < n) && p k)
  | 0, k => by simp [bitsN]
  | n + 1, k => by
    have h := bitsN_lt p n
    have ih := bitsN_test p n k
    by_cases hp : p n
    · have e : bitsN p (n + 1) = 2 ^ n * 1 ||| bitsN p n := by rw [← Nat.two_pow_add_eq_or_of_lt h 1, bitsN, if_pos hp]; omega
      rw [e, Nat.testBit_or, ih, Nat.mul_one, Nat.testBit_two_pow]
      by_cases hk : n = k
      · subst hk; simp [hp]
      · have : (k < n + 1) = (k < n) := by apply propext; omega
        simp [hk, this]
    · have e : bitsN p (n + 1) = bitsN p n := by rw [bitsN, if_neg hp]; omega
      rw [e, ih]
      by_cases hk : n = k
      · subst hk; simp [hp]
      · have : (k < n + 1) = (k < n) := by apply propext; omega
        simp [this]
theorem bitsN_cong {p q : Nat → Bool} : ∀ {n : Nat}, (∀ k, k < n → p k = q k) → bitsN p n = bitsN q n
  | 0, _ => rfl
  | n + 1, h => by rw [bitsN, bitsN, bitsN_cong (fun k hk => h k (by omega)), h n (by omega)]
def sumN (f : Nat → Nat) : Nat → Nat
  | 0 => 0
  | n + 1 => sumN f n + f n
theorem sumN_le {f : Nat → Nat} {c : Nat} : ∀ {n : Nat}, (∀ k, k < n → f k ≤ c) → sumN f n ≤ n * c
  | 0, _ => by simp [sumN]
  | n + 1, h => by
    have := sumN_le (n := n) (fun k hk => h k (by omega))
    have := h n (by omega)
    rw [sumN, Nat.succ_mul]; omega
theorem sumN_cong {f g : Nat → Nat} : ∀ {n : Nat}, (∀ k, k < n → f k = g k) → sumN f n = sumN g n
  | 0, _ => rfl
  | n + 1, h => by rw [sumN, sumN, sumN_cong (fun k hk => h k (by omega)), h n (by omega)]
/-- a row of n ints holds the numbers a -/
def rep (n : Nat) (f : Nat → Int32) (a : Nat → Nat) : Prop := ∀ k, k < n → f k = nI (a k)
/-- the answers of a test -/
def bI (b : Bool) : Int32 := if b then 1 else 0
