/-! cuts: keys, validity, steps, values; the first of the greatest -/
theorem dg_lt {x y d e β : Nat} (hd : d < β) (he : e < β) : x * β + d < y * β + e ↔ x < y ∨ (x = y ∧ d < e) := by
  rcases Nat.lt_trichotomy x y with h | h | h
  · have := Nat.mul_le_mul_right β (show x + 1 ≤ y from h)
    rw [Nat.succ_mul] at this
    exact ⟨fun _ => Or.inl h, fun _ => by omega⟩
  · subst h
    exact ⟨fun z => Or.inr ⟨rfl, by omega⟩, fun z => by omega⟩
  · have := Nat.mul_le_mul_right β (show y + 1 ≤ x from h)
    rw [Nat.succ_mul] at this
    exact ⟨fun z => by omega, fun z => by omega⟩
theorem dg_eq {x y d e β : Nat} (hd : d < β) (he : e < β) (h : x * β + d = y * β + e) : x = y ∧ d = e := by
  have a := dg_lt (x := x) (y := y) hd he
  have b := dg_lt (x := y) (y := x) he hd
  constructor
  · rcases Nat.lt_trichotomy x y with z | z | z
    · have := a.mpr (Or.inl z); omega
    · exact z
    · have := b.mpr (Or.inl z); omega
  · rcases Nat.lt_trichotomy x y with z | z | z
    · have := a.mpr (Or.inl z); omega
    · subst z; omega
    · have := b.mpr (Or.inl z); omega
/-- the number that the first k digits are -/
def dK (β : Nat) (f : Nat → Nat) : Nat → Nat
  | 0 => 0
  | k + 1 => dK β f k * β + f k
theorem dK_cong {β : Nat} {f g : Nat → Nat} : ∀ {n : Nat}, (∀ k, k < n → f k = g k) → dK β f n = dK β g n
  | 0, _ => rfl
  | n + 1, h => by rw [dK, dK, dK_cong (fun k hk => h k (by omega)), h n (by omega)]
theorem dK_eq {β : Nat} {f g : Nat → Nat} : ∀ {n : Nat}, (∀ k, k < n → f k < β) → (∀ k, k < n → g k < β) → dK β f n = dK β g n → ∀ k, k < n → f k = g k
  | 0, _, _, _, k, hk => absurd hk (Nat.not_lt_zero k)
  | n + 1, hf, hg, h, k, hk => by
    rw [dK, dK] at h
    obtain ⟨a, b⟩ := dg_eq (hf n (by omega)) (hg n (by omega)) h
    by_cases e : k = n
    · rw [e]; exact b
    · exact dK_eq (fun j hj => hf j (by omega)) (fun j hj => hg j (by omega)) a k (by omega)
theorem dK_lt {β : Nat} {f g : Nat → Nat} : ∀ {n : Nat}, (∀ k, k < n → f k < β) → (∀ k, k < n → g k < β) → (dK β f n < dK β g n ↔ ∃ d, d < n ∧ (∀ k, k < d → f k = g k) ∧ f d < g d)
  | 0, _, _ => ⟨fun z => absurd z (Nat.lt_irrefl 0), fun ⟨d, h, _⟩ => absurd h (Nat.not_lt_zero d)⟩
  | n + 1, hf, hg => by
    have hf' : ∀ k, k < n → f k < β := fun j hj => hf j (by omega)
    have hg' : ∀ k, k < n → g k < β := fun j hj => hg j (by omega)
    rw [dK, dK, dg_lt (hf n (by omega)) (hg n (by omega)), dK_lt hf' hg']
    constructor
    · rintro (⟨d, h1, h2, h3⟩ | ⟨h1, h2⟩)
      · exact ⟨d, by omega, h2, h3⟩
      · exact ⟨n, by omega, dK_eq hf' hg' h1, h2⟩
    · rintro ⟨d, h1, h2, h3⟩
      by_cases e : d = n
      · subst e; exact Or.inr ⟨dK_cong h2, h3⟩
      · exact Or.inl ⟨d, by omega, h2, h3⟩
theorem dK_pre {β a : Nat} {f : Nat → Nat} : ∀ j, (∀ k, k < a + j → f k < β) → dK β f a * β ^ j ≤ dK β f (a + j) ∧ dK β f (a + j) < (dK β f a + 1) * β ^ j
  | 0, _ => by rw [Nat.pow_zero, Nat.mul_one, Nat.mul_one]; exact ⟨Nat.le_refl _, Nat.lt_succ_self _⟩
  | j + 1, h => by
    obtain ⟨i1, i2⟩ := dK_pre (a := a) j (fun k hk => h k (by omega))
    have hf := h (a + j) (by omega)
    have j1 := Nat.mul_le_mul_right β i1
    have j2 := Nat.mul_le_mul_right β (show dK β f (a + j) + 1 ≤ _ from i2)
    rw [Nat.succ_mul] at j2
    rw [Nat.pow_succ, ← Nat.mul_assoc, ← Nat.mul_assoc]
    show _ ≤ dK β f (a + j) * β + f (a + j) ∧ dK β f (a + j) * β + f (a + j) < _
    exact ⟨by omega, by omega⟩
theorem dK_in {β a j P : Nat} {f : Nat → Nat} (h : ∀ k, k < a + j → f k < β) (h1 : P * β ^ j ≤ dK β f (a + j)) (h2 : dK β f (a + j) < (P + 1) * β ^ j) : dK β f a = P := by
  obtain ⟨i1, i2⟩ := dK_pre (a := a) j h
  have a1 : dK β f a < P + 1 := Nat.lt_of_mul_lt_mul_right (Nat.lt_of_le_of_lt i1 h2)
  have a2 : P < dK β f a + 1 := Nat.lt_of_mul_lt_mul_right (Nat.lt_of_le_of_lt h1 i2)
  omega
/-- bounds as they should be; heirs of arcs as they should be -/
def cVb (n : Nat) (b : Nat → Nat) : Prop := (∀ k, k + 1 < n → b k < b (k + 1)) ∧ b (n - 1) < 24
def cVo (n : Nat) (o : Nat → Nat) : Prop := (∀ k, k < n → o k < n) ∧ ∀ j k, j < k → k < n → o j ≠ o k
theorem cVb_up {n : Nat} {b : Nat → Nat} (h : cVb n b) (k : Nat) : ∀ j, k + j < n → b k + j ≤ b (k + j)
  | 0, _ => Nat.le_refl _
  | j + 1, hj => by
    have := cVb_up h k j (by omega)
    have := h.1 (k + j) (by omega)
    show b k + (j + 1) ≤ b (k + j + 1)
    omega
theorem cVb_le {n k : Nat} {b : Nat → Nat} (h : cVb n b) (hk : k < n) : b k + n ≤ 24 + k := by
  have h1 := cVb_up h k (n - 1 - k) (by omega)
  rw [show k + (n - 1 - k) = n - 1 by omega] at h1
  have := h.2
  omega
theorem cVb_24 {n k : Nat} {b : Nat → Nat} (h : cVb n b) (hk : k < n) : b k < 24 := by have := cVb_le h hk; omega
/-- the next bounds of which that of arc l is the first other one -/
def nxB (b : Nat → Nat) (l : Nat) : Nat → Nat := fun k => if k < l then b k else b l + 1 + (k - l)
theorem nxB_v {n l : Nat} {b : Nat → Nat} (h : cVb n b) (hl : l < n) (hx : b l + n < 24 + l) : cVb n (nxB b l) := by
  refine ⟨fun k hk => ?_, ?_⟩
  · have h1 := h.1 k hk
    unfold nxB
    by_cases c1 : k + 1 < l
    · rw [if_pos (by omega), if_pos c1]; exact h1
    · by_cases c2 : k < l
      · have e : k + 1 = l := by omega
        rw [if_pos c2, if_neg c1, ← e]; omega
      · rw [if_neg c2, if_neg c1]; omega
  · unfold nxB; rw [if_neg (by omega)]; omega
theorem agree {n l m : Nat} {b c : Nat → Nat} (hb : cVb n b) (hc : cVb n c) (hge : ¬ dK 24 c n < dK 24 b n) (hmax : ∀ k, l ≤ k → k ≤ m → 24 + k ≤ b k + n) (hl : ∀ k, k < l → c k = b k) (hm : m < n) : ∀ N k, k < N → k ≤ m → c k = b k
  | 0, k, h, _ => absurd h (Nat.not_lt_zero k)
  | N + 1, k, h, hk => by
    by_cases c1 : k < l
    · exact hl k c1
    have h1 := hmax k (by omega) hk
    have h2 := cVb_le hc (show k < n by omega)
    by_cases c2 : c k < b k
    · refine absurd ((dK_lt (fun j hj => cVb_24 hc hj) (fun j hj => cVb_24 hb hj)).mpr ⟨k, by omega, fun j hj => ?_, c2⟩) hge
      exact agree hb hc hge hmax hl hm N j (by omega) (by omega)
    · omega
theorem skip {n l m : Nat} {b c : Nat → Nat} (hb : cVb n b) (hc : cVb n c) (hlm : l ≤ m) (hm : m < n) (hmax : ∀ k, l < k → k ≤ m → 24 + k ≤ b k + n) (hx : b l + n < 24 + l) (hge : ¬ dK 24 c n < dK 24 b n) (hlt : dK 24 c n < dK 24 (nxB b l) n) : ∀ k, k ≤ m → c k = b k := by
  have hd := nxB_v hb (by omega) hx
  have dc : ∀ k, k < n → c k < 24 := fun j hj => cVb_24 hc hj
  have db : ∀ k, k < n → b k < 24 := fun j hj => cVb_24 hb hj
  obtain ⟨d, h1, h2, h3⟩ := (dK_lt dc (fun j hj => cVb_24 hd hj)).mp hlt
  have hdl : d ≤ l := by
    rcases Nat.lt_or_ge l d with z | z
    · have e1 := h2 (d - 1) (by omega)
      have e2 := hc.1 (d - 1) (by omega)
      rw [show d - 1 + 1 = d by omega] at e2
      unfold nxB at e1 h3
      rw [if_neg (by omega)] at e1 h3
      omega
    · exact z
  have h2' : ∀ k, k < d → c k = b k := fun k hk => by
    have := h2 k hk
    unfold nxB at this
    rw [if_pos (by omega)] at this; exact this
  have he : ∀ k, k ≤ l → c k = b k := by
    rcases Nat.lt_or_ge d l with z | z
    · unfold nxB at h3
      rw [if_pos z] at h3
      exact absurd ((dK_lt dc db).mpr ⟨d, h1, h2', h3⟩) hge
    · have e : d = l := by omega
      subst e
      unfold nxB at h3
      rw [if_neg (Nat.lt_irrefl d), Nat.sub_self] at h3
      intro k hk
      by_cases c1 : k = d
      · subst c1
        rcases Nat.lt_or_ge (c k) (b k) with y | y
        · exact absurd ((dK_lt dc db).mpr ⟨k, h1, h2', y⟩) hge
        · omega
      · exact h2' k (by omega)
  intro k hk
  exact agree (l := l + 1) hb hc hge (fun j hj => hmax j (by omega)) (fun j hj => he j (by omega)) hm (k + 1) k (by omega) hk
/-- how many choices of m there are out of y -/
def chs : Nat → Nat → Nat
  | _, 0 => 1
  | 0, _ + 1 => 0
  | y + 1, m + 1 => chs y m + chs y (m + 1)
theorem chs_0 (y : Nat) : chs y 0 = 1 := by cases y <;> rfl
theorem chs_t : ∀ m y : Nat, m ≤ y + 1 → sumN (fun i => chs (y - i) (m - i)) m + 1 ≤ chs (y + 1) m
  | 0, y, _ => by rw [chs_0]; exact Nat.le_refl _
  | m + 1, y, h => by
    rw [sumN_front, chs]
    show chs y (m + 1) + _ + 1 ≤ _
    cases m with
    | zero => rw [chs_0]; show chs y (0 + 1) + 0 + 1 ≤ _; omega
    | succ m =>
      obtain ⟨z, rfl⟩ : ∃ z, y = z + 1 := ⟨y - 1, by omega⟩
      have ih := chs_t (m + 1) z (by omega)
      have e : sumN (fun i => chs (z + 1 - (i + 1)) (m + 1 + 1 - (i + 1))) (m + 1) = sumN (fun i => chs (z - i) (m + 1 - i)) (m + 1) := sumN_cong (fun k hk => by rw [show z + 1 - (k + 1) = z - k by omega, show m + 1 + 1 - (k + 1) = m + 1 - k by omega])
      rw [e]; omega
theorem sumN_split (f : Nat → Nat) (a : Nat) : ∀ m, sumN f (a + m) = sumN f a + sumN (fun i => f (a + i)) m
  | 0 => rfl
  | m + 1 => by rw [← Nat.add_assoc, sumN, sumN_split f a m, sumN, Nat.add_assoc]
/-- how many bounds come behind these -/
def rkB (n : Nat) (b : Nat → Nat) : Nat := sumN (fun k => chs (23 - b k) (n - k)) n
theorem rk_step {n l : Nat} {b : Nat → Nat} (hl : l < n) (hx : b l + n < 24 + l) : rkB n (nxB b l) + 1 ≤ rkB n b := by
  obtain ⟨m, rfl⟩ : ∃ m, n = l + (m + 1) := ⟨n - l - 1, by omega⟩
  unfold rkB
  rw [sumN_split _ l (m + 1), sumN_split _ l (m + 1)]
  have e1 : sumN (fun k => chs (23 - nxB b l k) (l + (m + 1) - k)) l = sumN (fun k => chs (23 - b k) (l + (m + 1) - k)) l := sumN_cong (fun k hk => by show chs (23 - nxB b l k) _ = _; rw [show nxB b l k = b k from if_pos hk])
  have e2 : sumN (fun i => chs (23 - nxB b l (l + i)) (l + (m + 1) - (l + i))) (m + 1) = sumN (fun i => chs (22 - b l - i) (m + 1 - i)) (m + 1) := sumN_cong (fun k hk => by
    show chs (23 - nxB b l (l + k)) _ = _
    rw [show nxB b l (l + k) = b l + 1 + (l + k - l) from if_neg (by omega), show 23 - (b l + 1 + (l + k - l)) = 22 - b l - k by omega, show l + (m + 1) - (l + k) = m + 1 - k by omega])
  have e3 := chs_t (m + 1) (22 - b l) (by omega)
  rw [show 22 - b l + 1 = 23 - b l by omega] at e3
  have e4 : chs (23 - b l) (m + 1) ≤ sumN (fun i => chs (23 - b (l + i)) (l + (m + 1) - (l + i))) (m + 1) := by
    rw [sumN_front]
    show _ ≤ chs (23 - b (l + 0)) (l + (m + 1) - (l + 0)) + _
    rw [show l + 0 = l from rfl, show l + (m + 1) - l = m + 1 by omega]
    exact Nat.le_add_right _ _
  rw [e1, e2]; omega
theorem rk_0 : ∀ n, n < 5 → rkB n (fun k => k) ≤ 10625 := by decide +kernel
/-- what an arc is worth to an heir, by the shares A of the sectors ahead -/
def arV (A : Nat → Nat → Nat) (n : Nat) (b : Nat → Nat) (h k : Nat) : Nat := A h (if k + 1 < n then b (k + 1) else b 0 + 24) - A h (b k)
/-- the least of the first k shares -/
def lsN (A : Nat → Nat → Nat) (n : Nat) (b o : Nat → Nat) : Nat → Nat
  | 0 => 1073741824
  | k + 1 => min (lsN A n b o k) (arV A n b (o k) k)
def frP (A : Nat → Nat → Nat) (n : Nat) (b o : Nat → Nat) : Prop := ∀ a, a < n → ∀ c, c < n → arV A n b (o a) c ≤ arV A n b (o a) a
/-- how good a cut is: above 0 if it can be taken -/
noncomputable def cG (A : Nat → Nat → Nat) (fair : Bool) (n : Nat) (b o : Nat → Nat) : Nat := if fair = true then @ite _ (frP A n b o) (Classical.propDecidable _) 1 0 else lsN A n b o n + 1
def cA (A : Nat → Nat → Nat) : Prop := (∀ h s t, s ≤ t → A h s ≤ A h t) ∧ (∀ h s, s ≤ 24 → A h (s + 24) = A h s + A h 24) ∧ (∀ h s, h < 6 → s ≤ 48 → A h s ≤ 24000)
theorem cG_f1 {A : Nat → Nat → Nat} {n : Nat} {b o : Nat → Nat} (h : frP A n b o) : cG A true n b o = 1 := by
  unfold cG; rw [if_pos rfl, if_pos h]
theorem cG_f0 {A : Nat → Nat → Nat} {n : Nat} {b o : Nat → Nat} (h : ¬ frP A n b o) : cG A true n b o = 0 := by
  unfold cG; rw [if_pos rfl, if_neg h]
theorem cG_b {A : Nat → Nat → Nat} {n : Nat} {b o : Nat → Nat} : cG A false n b o = lsN A n b o n + 1 := by
  unfold cG; rw [if_neg (by decide)]
theorem cG_le1 {A : Nat → Nat → Nat} {n : Nat} {b o : Nat → Nat} : cG A true n b o ≤ 1 := by
  by_cases h : frP A n b o
  · rw [cG_f1 h]; exact Nat.le_refl _
  · rw [cG_f0 h]; exact Nat.zero_le _
theorem arV_cong {A : Nat → Nat → Nat} {n h k : Nat} {b c : Nat → Nat} (e : ∀ k, k < n → b k = c k) (hk : k < n) : arV A n b h k = arV A n c h k := by
  unfold arV
  by_cases z : k + 1 < n
  · rw [if_pos z, if_pos z, e k hk, e (k + 1) z]
  · rw [if_neg z, if_neg z, e k hk, e 0 (by omega)]
theorem lsN_cong {A : Nat → Nat → Nat} {n : Nat} {b c o p : Nat → Nat} (e : ∀ k, k < n → b k = c k) : ∀ {m : Nat}, m ≤ n → (∀ k, k < m → o k = p k) → lsN A n b o m = lsN A n c p m
  | 0, _, _ => rfl
  | m + 1, hm, h => by rw [lsN, lsN, lsN_cong e (by omega) (fun k hk => h k (by omega)), h m (by omega), arV_cong e (by omega)]
theorem frP_cong {A : Nat → Nat → Nat} {n : Nat} {b c o p : Nat → Nat} (e : ∀ k, k < n → b k = c k) (h : ∀ k, k < n → o k = p k) (hf : frP A n b o) : frP A n c p := fun a ha d hd => by
  have := hf a ha d hd
  rw [h a ha, arV_cong e ha, arV_cong e hd] at this; exact this
theorem cG_cong {A : Nat → Nat → Nat} {fair : Bool} {n : Nat} {b c o p : Nat → Nat} (e : ∀ k, k < n → b k = c k) (h : ∀ k, k < n → o k = p k) : cG A fair n b o = cG A fair n c p := by
  cases fair
  · rw [cG_b, cG_b, lsN_cong e (Nat.le_refl _) h]
  · by_cases hf : frP A n b o
    · rw [cG_f1 hf, cG_f1 (frP_cong e h hf)]
    · rw [cG_f0 hf, cG_f0 (fun z => hf (frP_cong (fun k hk => (e k hk).symm) (fun k hk => (h k hk).symm) z))]
theorem arV_sum {A : Nat → Nat → Nat} {n h : Nat} {b : Nat → Nat} (hA : cA A) (hb : cVb n b) (hn : 0 < n) : sumN (arV A n b h) n = A h 24 := by
  have key : ∀ m, m < n → sumN (arV A n b h) m + A h (b 0) = A h (b m) := by
    intro m
    induction m with
    | zero => intro _; exact Nat.zero_add _
    | succ m ih =>
      intro hm
      have i1 := ih (by omega)
      have i2 := hA.1 h (b m) (b (m + 1)) (Nat.le_of_lt (hb.1 m hm))
      rw [sumN]
      have e : arV A n b h m = A h (b (m + 1)) - A h (b m) := by unfold arV; rw [if_pos hm]
      rw [e]; omega
  obtain ⟨m, rfl⟩ : ∃ m, n = m + 1 := ⟨n - 1, by omega⟩
  have k1 := key m (by omega)
  have b0 := cVb_24 hb (show 0 < m + 1 by omega)
  have bm := cVb_24 hb (show m < m + 1 by omega)
  have k2 := hA.1 h (b m) (b 0 + 24) (by omega)
  have k3 := hA.2.1 h (b 0) (by omega)
  rw [sumN]
  have e : arV A (m + 1) b h m = A h (b 0 + 24) - A h (b m) := by unfold arV; rw [if_neg (by omega)]
  rw [e]; omega
/-- whether a share may be enough, where cur is the best so far -/
def enB (A : Nat → Nat → Nat) (fair : Bool) (n cur h share : Nat) : Bool := if fair = true then decide (A h 24 ≤ share * n) else decide (cur ≤ share)
theorem lsN_le {A : Nat → Nat → Nat} {n : Nat} {b o : Nat → Nat} : ∀ {m k : Nat}, k < m → lsN A n b o m ≤ arV A n b (o k) k
  | 0, k, h => absurd h (Nat.not_lt_zero k)
  | m + 1, k, h => by
    rw [lsN]
    by_cases e : k = m
    · subst e; exact Nat.min_le_right _ _
    · exact Nat.le_trans (Nat.min_le_left _ _) (lsN_le (by omega))
theorem lsN_mono {A : Nat → Nat → Nat} {n : Nat} {b o : Nat → Nat} : ∀ {m k : Nat}, k ≤ m → lsN A n b o m ≤ lsN A n b o k
  | 0, k, h => by rw [show k = 0 by omega]; exact Nat.le_refl _
  | m + 1, k, h => by
    by_cases e : k = m + 1
    · rw [e]; exact Nat.le_refl _
    · rw [lsN]; exact Nat.le_trans (Nat.min_le_left _ _) (lsN_mono (by omega))
theorem lsN_30 {A : Nat → Nat → Nat} {n m : Nat} {b o : Nat → Nat} : lsN A n b o m ≤ 1073741824 := lsN_mono (m := m) (Nat.zero_le m)
theorem G_useless {A : Nat → Nat → Nat} {fair : Bool} {n u cur : Nat} {b o : Nat → Nat} (hA : cA A) (hb : cVb n b) (hu : u < n) (h : enB A fair n cur (o u) (arV A n b (o u) u) = false) : cG A fair n b o ≤ cur := by
  cases fair
  · rw [cG_b]
    have h1 := lsN_le (A := A) (n := n) (b := b) (o := o) hu
    have h2 : ¬ cur ≤ arV A n b (o u) u := of_decide_eq_false (by rw [enB, if_neg (by decide)] at h; exact h)
    omega
  · rw [cG_f0]
    · exact Nat.zero_le _
    · intro hf
      have h2 : ¬ A (o u) 24 ≤ arV A n b (o u) u * n := of_decide_eq_false (by rw [enB, if_pos rfl] at h; exact h)
      have h3 := sumN_le (f := arV A n b (o u)) (c := arV A n b (o u) u) (n := n) (fun k hk => hf u hu k hk)
      rw [arV_sum hA hb (by omega), Nat.mul_comm] at h3
      exact h2 h3
/-- what is known when the search stands at bounds of key B and heirs of key Q: cur is the best value of all ahead of it, and bs, os the first cut with it -/
def cV (n : Nat) (b o : Nat → Nat) : Prop := cVb n b ∧ cVo n o
def cD (n B Q : Nat) (b o : Nat → Nat) : Prop := dK 24 b n < B ∨ (dK 24 b n = B ∧ dK n o n < Q)
def cS (A : Nat → Nat → Nat) (fair : Bool) (n cur : Nat) (bs os : Nat → Nat) : Prop := 0 < cur → cV n bs os ∧ cG A fair n bs os = cur ∧ ∀ b o, cV n b o → cD n (dK 24 bs n) (dK n os n) b o → cG A fair n b o < cur
def cI (A : Nat → Nat → Nat) (fair : Bool) (n B Q cur : Nat) (bs os : Nat → Nat) : Prop := (∀ b o, cV n b o → cD n B Q b o → cG A fair n b o ≤ cur) ∧ cS A fair n cur bs os
def cF (A : Nat → Nat → Nat) (fair : Bool) (n cur : Nat) (bs os : Nat → Nat) : Prop := (∀ b o, cV n b o → cG A fair n b o ≤ cur) ∧ cS A fair n cur bs os
theorem cI_adv {A : Nat → Nat → Nat} {fair : Bool} {n B Q B' Q' cur : Nat} {bs os : Nat → Nat} (h : cI A fair n B Q cur bs os) (hg : ∀ b o, cV n b o → ¬ cD n B Q b o → cD n B' Q' b o → cG A fair n b o ≤ cur) : cI A fair n B' Q' cur bs os := by
  refine ⟨fun b o hv hd => ?_, h.2⟩
  by_cases e : cD n B Q b o
  · exact h.1 b o hv e
  · exact hg b o hv e hd
theorem cF_of {A : Nat → Nat → Nat} {fair : Bool} {n B Q cur : Nat} {bs os : Nat → Nat} (h : cI A fair n B Q cur bs os) (hg : ∀ b o, cV n b o → ¬ cD n B Q b o → cG A fair n b o ≤ cur) : cF A fair n cur bs os := by
  refine ⟨fun b o hv => ?_, h.2⟩
  by_cases e : cD n B Q b o
  · exact h.1 b o hv e
  · exact hg b o hv e
theorem cI_new {A : Nat → Nat → Nat} {fair : Bool} {n Q cur : Nat} {bs os b o : Nat → Nat} (h : cI A fair n (dK 24 b n) Q cur bs os) (hv : cV n b o) (hq : dK n o n = Q) (hg : cur < cG A fair n b o) : cI A fair n (dK 24 b n) (Q + 1) (cG A fair n b o) b o := by
  refine ⟨fun b' o' hv' hd => ?_, fun _ => ⟨hv, rfl, fun b' o' hv' hd => ?_⟩⟩
  · by_cases e : cD n (dK 24 b n) Q b' o'
    · exact Nat.le_of_lt (Nat.lt_of_le_of_lt (h.1 b' o' hv' e) hg)
    · have hd2 : dK 24 b' n = dK 24 b n ∧ dK n o' n = Q := by
        rcases hd with z | ⟨z1, z2⟩
        · exact absurd (Or.inl z) e
        · refine ⟨z1, ?_⟩
          rcases Nat.lt_or_ge (dK n o' n) Q with y | y
          · exact absurd (Or.inr ⟨z1, y⟩) e
          · omega
      have e1 := dK_eq (fun k hk => cVb_24 hv'.1 hk) (fun k hk => cVb_24 hv.1 hk) hd2.1
      have e2 := dK_eq hv'.2.1 hv.2.1 (hd2.2.trans hq.symm)
      rw [cG_cong e1 e2]; exact Nat.le_refl _
  · rw [hq] at hd
    exact Nat.lt_of_le_of_lt (h.1 b' o' hv' hd) hg
theorem cF_one {A : Nat → Nat → Nat} {fair : Bool} {n cur cur' : Nat} {bs os bs' os' : Nat → Nat} (h : cF A fair n cur bs os) (h' : cF A fair n cur' bs' os') : cur = cur' ∧ (0 < cur → (∀ k, k < n → bs k = bs' k) ∧ ∀ k, k < n → os k = os' k) := by
  have e : cur = cur' := by
    rcases Nat.lt_trichotomy cur cur' with z | z | z
    · obtain ⟨v, g, _⟩ := h'.2 (by omega)
      have := h.1 _ _ v; omega
    · exact z
    · obtain ⟨v, g, _⟩ := h.2 (by omega)
      have := h'.1 _ _ v; omega
  refine ⟨e, fun h0 => ?_⟩
  obtain ⟨v, g, l⟩ := h.2 h0
  obtain ⟨v', g', l'⟩ := h'.2 (by omega)
  have n1 : ¬ cD n (dK 24 bs n) (dK n os n) bs' os' := fun z => by have := l _ _ v' z; omega
  have n2 : ¬ cD n (dK 24 bs' n) (dK n os' n) bs os := fun z => by have := l' _ _ v z; omega
  unfold cD at n1 n2
  have k1 : dK 24 bs n = dK 24 bs' n := by omega
  have k2 : dK n os n = dK n os' n := by omega
  exact ⟨dK_eq (fun k hk => cVb_24 v.1 hk) (fun k hk => cVb_24 v'.1 hk) k1, dK_eq v.2.1 v'.2.1 k2⟩
