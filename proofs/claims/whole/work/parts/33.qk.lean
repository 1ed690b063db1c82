/-! fences: flows round the hill -/
/-- the cell beside a cell, by side: rising, falling, up, down -/
def nbC (c d : Nat) : Nat := if d = 0 then 24 * (c / 24) + (c % 24 + 1) % 24 else if d = 1 then 24 * (c / 24) + (c % 24 + 23) % 24 else if d = 2 then c + 24 else c - 24
def opD (d : Nat) : Nat := if d = 0 then 1 else if d = 1 then 0 else if d = 2 then 3 else 2
theorem nbC_0 (c : Nat) : nbC c 0 = 24 * (c / 24) + (c % 24 + 1) % 24 := rfl
theorem nbC_1 (c : Nat) : nbC c 1 = 24 * (c / 24) + (c % 24 + 23) % 24 := rfl
theorem nbC_2 (c : Nat) : nbC c 2 = c + 24 := rfl
theorem nbC_3 (c : Nat) : nbC c 3 = c - 24 := rfl
theorem nb_10 {c : Nat} : nbC (nbC c 0) 1 = c := by rw [nbC_1, nbC_0]; omega
theorem nb_01 {c : Nat} : nbC (nbC c 1) 0 = c := by rw [nbC_0, nbC_1]; omega
theorem nb0_lt {c : Nat} (h : c < 120) : nbC c 0 < 120 := by rw [nbC_0]; omega
theorem nb1_lt {c : Nat} (h : c < 120) : nbC c 1 < 120 := by rw [nbC_1]; omega
theorem nb0_inj {c p : Nat} (h : nbC c 0 = nbC p 0) : c = p := by
  have := congrArg (fun x => nbC x 1) h
  simp only [nb_10] at this; exact this
/-- rooms as they should be: by cell and side, how much may still go there -/
def wfR (R : Nat → Nat) : Prop := (∀ c, c < 120 → R (4 * c) + R (4 * nbC c 0 + 1) = 4) ∧ (∀ c, c < 96 → R (4 * c + 2) + R (4 * (c + 24) + 3) = 2 * (5 - c / 24)) ∧ (∀ c, 96 ≤ c → c < 120 → R (4 * c + 2) = 0) ∧ (∀ c, c < 24 → R (4 * c + 3) = 0)
theorem wf_4 {R : Nat → Nat} (h : wfR R) {c : Nat} (hc : c < 120) : R (4 * c) ≤ 4 ∧ R (4 * c + 1) ≤ 4 ∧ R (4 * c + 2) ≤ 10 ∧ R (4 * c + 3) ≤ 10 := by
  have h1 := h.1 c hc
  have h2 := h.1 (nbC c 1) (nb1_lt hc)
  rw [nb_01] at h2
  refine ⟨by omega, by omega, ?_, ?_⟩
  · by_cases e : c < 96
    · have := h.2.1 c e; omega
    · have := h.2.2.1 c (by omega) hc; omega
  · by_cases e : c < 24
    · have := h.2.2.2 c e; omega
    · have := h.2.1 (c - 24) (by omega)
      rw [show c - 24 + 24 = c by omega] at this; omega
theorem wf_10 {R : Nat → Nat} (h : wfR R) {c d : Nat} (hc : c < 120) (hd : d < 4) : R (4 * c + d) ≤ 10 := by
  obtain ⟨a, b, e, f⟩ := wf_4 h hc
  rcases (show d = 0 ∨ d = 1 ∨ d = 2 ∨ d = 3 by omega) with rfl | rfl | rfl | rfl
  · show R (4 * c) ≤ 10; omega
  · omega
  · exact e
  · exact f
/-- where there is room there is a cell -/
theorem wf_ok {R : Nat → Nat} (h : wfR R) {c d : Nat} (hc : c < 120) (hd : d < 4) (h0 : 0 < R (4 * c + d)) : nbC c d < 120 ∧ (d = 2 → c < 96) ∧ (d = 3 → 24 ≤ c) := by
  rcases (show d = 0 ∨ d = 1 ∨ d = 2 ∨ d = 3 by omega) with rfl | rfl | rfl | rfl
  · exact ⟨nb0_lt hc, fun z => by omega, fun z => by omega⟩
  · exact ⟨nb1_lt hc, fun z => by omega, fun z => by omega⟩
  · have : c < 96 := by
      rcases Nat.lt_or_ge c 96 with z | z
      · exact z
      · have := h.2.2.1 c z hc; omega
    exact ⟨by rw [nbC_2]; omega, fun _ => this, fun z => by omega⟩
  · have : 24 ≤ c := by
      rcases Nat.lt_or_ge c 24 with z | z
      · have := h.2.2.2 c z; omega
      · exact z
    exact ⟨by rw [nbC_3]; omega, fun z => by omega, fun _ => this⟩
theorem nb_op {c d : Nat} (hd : d < 4) (h3 : d = 3 → 24 ≤ c) : nbC (nbC c d) (opD d) = c := by
  rcases (show d = 0 ∨ d = 1 ∨ d = 2 ∨ d = 3 by omega) with rfl | rfl | rfl | rfl
  · exact nb_10
  · exact nb_01
  · show nbC (nbC c 2) 3 = c; rw [nbC_3, nbC_2]; omega
  · show nbC (nbC c 3) 2 = c; rw [nbC_2, nbC_3]; have := h3 rfl; omega
def iS (f : Nat → Int) : Nat → Int
  | 0 => 0
  | n + 1 => iS f n + f n
theorem iS_cong {f g : Nat → Int} : ∀ {n : Nat}, (∀ k, k < n → f k = g k) → iS f n = iS g n
  | 0, _ => rfl
  | n + 1, h => by rw [iS, iS, iS_cong (fun k hk => h k (by omega)), h n (by omega)]
theorem iS_le {f g : Nat → Int} : ∀ {n : Nat}, (∀ k, k < n → f k ≤ g k) → iS f n ≤ iS g n
  | 0, _ => Int.le_refl _
  | n + 1, h => by
    have h1 := iS_le (n := n) (fun k hk => h k (by omega))
    have h2 := h n (by omega)
    rw [iS, iS]; omega
theorem iS_c (a : Int) : ∀ n : Nat, iS (fun _ => a) n = n * a
  | 0 => by rw [iS]; simp
  | n + 1 => by rw [iS, iS_c a n, Int.natCast_add, Int.add_mul]; simp
theorem iS_upd {f g : Nat → Int} {p : Nat} {δ : Int} (h1 : g p = f p + δ) : ∀ {n : Nat}, p < n → (∀ k, k < n → k ≠ p → g k = f k) → iS g n = iS f n + δ
  | 0, hp, _ => absurd hp (Nat.not_lt_zero p)
  | n + 1, hp, h => by
    rw [iS, iS]
    by_cases e : p = n
    · subst e
      rw [iS_cong (f := g) (g := f) (fun k hk => h k (by omega) (by omega)), h1, Int.add_assoc]
    · rw [iS_upd h1 (by omega) (fun k hk hne => h k (by omega) hne), h n (by omega) (by omega)]
      omega
def hT (R : Nat → Nat) (σ : Nat → Int) (c : Nat) : Int := (2 - (R (4 * c) : Int)) * (σ c - σ (nbC c 0))
def uT (R : Nat → Nat) (σ : Nat → Int) (c : Nat) : Int := (((5 - c / 24 : Nat) : Int) - (R (4 * c + 2) : Int)) * (σ c - σ (c + 24))
/-- what flows out of a set of cells -/
def net (R : Nat → Nat) (σ : Nat → Int) : Int := iS (hT R σ) 120 + iS (uT R σ) 96
/-- m more from a cell by a side -/
def push (R : Nat → Nat) (p d m : Nat) : Nat → Nat := fun i => if i = 4 * p + d then R i - m else if i = 4 * nbC p d + opD d then R i + m else R i
theorem push_a {R : Nat → Nat} {p d m : Nat} : push R p d m (4 * p + d) = R (4 * p + d) - m := if_pos rfl
theorem push_b {R : Nat → Nat} {p d m : Nat} (h : 4 * nbC p d + opD d ≠ 4 * p + d) : push R p d m (4 * nbC p d + opD d) = R (4 * nbC p d + opD d) + m := by unfold push; rw [if_neg h, if_pos rfl]
theorem push_n {R : Nat → Nat} {p d m i : Nat} (h1 : i ≠ 4 * p + d) (h2 : i ≠ 4 * nbC p d + opD d) : push R p d m i = R i := by unfold push; rw [if_neg h1, if_neg h2]
theorem push_0 {R : Nat → Nat} {p m : Nat} (hR : wfR R) (hp : p < 120) (hm : m ≤ R (4 * p)) : wfR (push R p 0 m) ∧ ∀ σ, net (push R p 0 m) σ = net R σ + m * (σ p - σ (nbC p 0)) := by
  have ea : push R p 0 m (4 * p) = R (4 * p) - m := push_a
  have eb : push R p 0 m (4 * nbC p 0 + 1) = R (4 * nbC p 0 + 1) + m := push_b (d := 0) (show 4 * nbC p 0 + 1 ≠ 4 * p + 0 by omega)
  have en : ∀ i, i ≠ 4 * p → i ≠ 4 * nbC p 0 + 1 → push R p 0 m i = R i := fun i h1 h2 => push_n h1 h2
  refine ⟨⟨fun c hc => ?_, fun c hc => ?_, fun c h1 h2 => ?_, fun c h1 => ?_⟩, fun σ => ?_⟩
  · by_cases e : c = p
    · subst e
      have := hR.1 c hc
      rw [ea, eb]; omega
    · have e2 : nbC c 0 ≠ nbC p 0 := fun z => e (nb0_inj z)
      rw [en _ (by omega) (by omega), en _ (by omega) (by omega)]; exact hR.1 c hc
  · rw [en _ (by omega) (by omega), en _ (by omega) (by omega)]; exact hR.2.1 c hc
  · rw [en _ (by omega) (by omega)]; exact hR.2.2.1 c h1 h2
  · rw [en _ (by omega) (by omega)]; exact hR.2.2.2 c h1
  · unfold net
    rw [iS_upd (f := hT R σ) (g := hT (push R p 0 m) σ) (p := p) (δ := m * (σ p - σ (nbC p 0))) ?_ hp (fun k hk hne => ?_), iS_cong (f := uT (push R p 0 m) σ) (g := uT R σ) (fun k hk => ?_)]
    · omega
    · unfold uT; rw [en _ (by omega) (by omega)]
    · unfold hT
      rw [ea, show (2 - ((R (4 * p) - m : Nat) : Int)) = (2 - (R (4 * p) : Int)) + m by omega, Int.add_mul]
    · unfold hT; rw [en _ (by omega) (by omega)]
theorem neg_flip (m : Int) (a b : Int) : -m * (a - b) = m * (b - a) := by rw [Int.neg_mul, ← Int.mul_neg, Int.neg_sub]
theorem push_1 {R : Nat → Nat} {p m : Nat} (hR : wfR R) (hp : p < 120) (hm : m ≤ R (4 * p + 1)) : wfR (push R p 1 m) ∧ ∀ σ, net (push R p 1 m) σ = net R σ + m * (σ p - σ (nbC p 1)) := by
  have hq := nb1_lt hp
  have ea : push R p 1 m (4 * p + 1) = R (4 * p + 1) - m := push_a
  have eb : push R p 1 m (4 * nbC p 1) = R (4 * nbC p 1) + m := push_b (d := 1) (show 4 * nbC p 1 + 0 ≠ 4 * p + 1 by omega)
  have en : ∀ i, i ≠ 4 * p + 1 → i ≠ 4 * nbC p 1 → push R p 1 m i = R i := fun i h1 h2 => push_n h1 h2
  refine ⟨⟨fun c hc => ?_, fun c hc => ?_, fun c h1 h2 => ?_, fun c h1 => ?_⟩, fun σ => ?_⟩
  · by_cases e : c = nbC p 1
    · have := hR.1 (nbC p 1) hq
      rw [nb_01] at this
      rw [e, nb_01, ea, eb]; omega
    · have e2 : nbC c 0 ≠ p := fun z => e (by rw [← z, nb_10])
      rw [en _ (by omega) (by omega), en _ (by omega) (by omega)]; exact hR.1 c hc
  · rw [en _ (by omega) (by omega), en _ (by omega) (by omega)]; exact hR.2.1 c hc
  · rw [en _ (by omega) (by omega)]; exact hR.2.2.1 c h1 h2
  · rw [en _ (by omega) (by omega)]; exact hR.2.2.2 c h1
  · unfold net
    rw [← neg_flip, iS_upd (f := hT R σ) (g := hT (push R p 1 m) σ) (p := nbC p 1) (δ := -m * (σ (nbC p 1) - σ p)) ?_ hq (fun k hk hne => ?_), iS_cong (f := uT (push R p 1 m) σ) (g := uT R σ) (fun k hk => ?_)]
    · omega
    · unfold uT; rw [en _ (by omega) (by omega)]
    · unfold hT
      rw [nb_01, eb, show (2 - ((R (4 * nbC p 1) + m : Nat) : Int)) = (2 - (R (4 * nbC p 1) : Int)) + -m by omega, Int.add_mul]
    · unfold hT; rw [en _ (by omega) (by omega)]
theorem push_2 {R : Nat → Nat} {p m : Nat} (hR : wfR R) (hp : p < 96) (hm : m ≤ R (4 * p + 2)) : wfR (push R p 2 m) ∧ ∀ σ, net (push R p 2 m) σ = net R σ + m * (σ p - σ (nbC p 2)) := by
  have ea : push R p 2 m (4 * p + 2) = R (4 * p + 2) - m := push_a
  have eb : push R p 2 m (4 * (p + 24) + 3) = R (4 * (p + 24) + 3) + m := push_b (d := 2) (show 4 * (p + 24) + 3 ≠ 4 * p + 2 by omega)
  have en : ∀ i, i ≠ 4 * p + 2 → i ≠ 4 * (p + 24) + 3 → push R p 2 m i = R i := fun i h1 h2 => push_n h1 h2
  refine ⟨⟨fun c hc => ?_, fun c hc => ?_, fun c h1 h2 => ?_, fun c h1 => ?_⟩, fun σ => ?_⟩
  · rw [en _ (by omega) (by omega), en _ (by omega) (by omega)]; exact hR.1 c hc
  · by_cases e : c = p
    · subst e
      have := hR.2.1 c hc
      rw [ea, eb]; omega
    · rw [en _ (by omega) (by omega), en _ (by omega) (by omega)]; exact hR.2.1 c hc
  · rw [en _ (by omega) (by omega)]; exact hR.2.2.1 c h1 h2
  · rw [en _ (by omega) (by omega)]; exact hR.2.2.2 c h1
  · unfold net
    rw [nbC_2, iS_upd (f := uT R σ) (g := uT (push R p 2 m) σ) (p := p) (δ := m * (σ p - σ (p + 24))) ?_ hp (fun k hk hne => ?_), iS_cong (f := hT (push R p 2 m) σ) (g := hT R σ) (fun k hk => ?_)]
    · omega
    · unfold hT; rw [en _ (by omega) (by omega)]
    · unfold uT
      rw [ea, show (((5 - p / 24 : Nat) : Int) - ((R (4 * p + 2) - m : Nat) : Int)) = (((5 - p / 24 : Nat) : Int) - (R (4 * p + 2) : Int)) + m by omega, Int.add_mul]
    · unfold uT; rw [en _ (by omega) (by omega)]
theorem push_3 {R : Nat → Nat} {p m : Nat} (hR : wfR R) (hp : p < 120) (hp24 : 24 ≤ p) (hm : m ≤ R (4 * p + 3)) : wfR (push R p 3 m) ∧ ∀ σ, net (push R p 3 m) σ = net R σ + m * (σ p - σ (nbC p 3)) := by
  have ea : push R p 3 m (4 * p + 3) = R (4 * p + 3) - m := push_a
  have eb : push R p 3 m (4 * (p - 24) + 2) = R (4 * (p - 24) + 2) + m := push_b (d := 3) (show 4 * (p - 24) + 2 ≠ 4 * p + 3 by omega)
  have en : ∀ i, i ≠ 4 * p + 3 → i ≠ 4 * (p - 24) + 2 → push R p 3 m i = R i := fun i h1 h2 => push_n h1 h2
  refine ⟨⟨fun c hc => ?_, fun c hc => ?_, fun c h1 h2 => ?_, fun c h1 => ?_⟩, fun σ => ?_⟩
  · rw [en _ (by omega) (by omega), en _ (by omega) (by omega)]; exact hR.1 c hc
  · by_cases e : c = p - 24
    · have := hR.2.1 (p - 24) (by omega)
      rw [show p - 24 + 24 = p by omega] at this
      rw [e, show p - 24 + 24 = p by omega, ea, eb]; omega
    · rw [en _ (by omega) (by omega), en _ (by omega) (by omega)]; exact hR.2.1 c hc
  · rw [en _ (by omega) (by omega)]; exact hR.2.2.1 c h1 h2
  · rw [en _ (by omega) (by omega)]; exact hR.2.2.2 c h1
  · unfold net
    rw [nbC_3, ← neg_flip, iS_upd (f := uT R σ) (g := uT (push R p 3 m) σ) (p := p - 24) (δ := -m * (σ (p - 24) - σ p)) ?_ (by omega) (fun k hk hne => ?_), iS_cong (f := hT (push R p 3 m) σ) (g := hT R σ) (fun k hk => ?_)]
    · omega
    · unfold hT; rw [en _ (by omega) (by omega)]
    · unfold uT
      rw [eb, show p - 24 + 24 = p by omega, show (((5 - (p - 24) / 24 : Nat) : Int) - ((R (4 * (p - 24) + 2) + m : Nat) : Int)) = (((5 - (p - 24) / 24 : Nat) : Int) - (R (4 * (p - 24) + 2) : Int)) + -m by omega, Int.add_mul]
    · unfold uT; rw [en _ (by omega) (by omega)]
theorem push_ok {R : Nat → Nat} {p d m : Nat} (hR : wfR R) (hp : p < 120) (hd : d < 4) (h0 : 0 < m) (hm : m ≤ R (4 * p + d)) : wfR (push R p d m) ∧ ∀ σ, net (push R p d m) σ = net R σ + m * (σ p - σ (nbC p d)) := by
  obtain ⟨_, h2, h3⟩ := wf_ok hR hp hd (by omega)
  rcases (show d = 0 ∨ d = 1 ∨ d = 2 ∨ d = 3 by omega) with rfl | rfl | rfl | rfl
  · exact push_0 hR hp hm
  · exact push_1 hR hp hm
  · exact push_2 hR (h2 rfl) hm
  · exact push_3 hR hp (h3 rfl) hm
/-- sets with all that begins in and none of what ends -/
def adm (S T : Nat → Prop) (σ : Nat → Int) : Prop := (∀ c, c < 120 → σ c = 0 ∨ σ c = 1) ∧ (∀ c, c < 120 → S c → σ c = 1) ∧ ∀ c, c < 120 → T c → σ c = 0
/-- rooms that a flow of v leaves -/
def flw (S T : Nat → Prop) (R : Nat → Nat) (v : Nat) : Prop := wfR R ∧ ∀ σ, adm S T σ → net R σ = v
/-- a set that nothing more can leave -/
def mxS (S T : Nat → Prop) (R : Nat → Nat) (σ : Nat → Int) : Prop := adm S T σ ∧ ∀ c, c < 120 → ∀ d, d < 4 → σ c = 1 → 0 < R (4 * c + d) → σ (nbC c d) = 1
theorem fl_le {S T : Nat → Prop} {R R' : Nat → Nat} {v v' : Nat} {σ : Nat → Int} (h : flw S T R v) (hm : mxS S T R σ) (h' : flw S T R' v') : v' ≤ v := by
  have e1 := h.2 σ hm.1
  have e2 := h'.2 σ hm.1
  have l1 : iS (hT R' σ) 120 ≤ iS (hT R σ) 120 := iS_le (fun c hc => by
    have w := wf_4 h'.1 hc
    have wc := h.1.1 c hc
    have n1 := nb0_lt hc
    unfold hT
    rcases hm.1.1 c hc with z | z <;> rcases hm.1.1 (nbC c 0) n1 with y | y <;> rw [z, y]
    · omega
    · have r0 : R (4 * nbC c 0 + 1) = 0 := by
        rcases Nat.eq_zero_or_pos (R (4 * nbC c 0 + 1)) with q | q
        · exact q
        · have := hm.2 (nbC c 0) n1 1 (by decide) y q
          rw [nb_10, z] at this
          exact absurd this (by decide)
      omega
    · have r0 : R (4 * c) = 0 := by
        rcases Nat.eq_zero_or_pos (R (4 * c)) with q | q
        · exact q
        · have := hm.2 c hc 0 (by decide) z q
          rw [y] at this
          exact absurd this (by decide)
      omega
    · omega)
  have l2 : iS (uT R' σ) 96 ≤ iS (uT R σ) 96 := iS_le (fun c hc => by
    have w := h'.1.2.1 c hc
    have wc := h.1.2.1 c hc
    unfold uT
    rcases hm.1.1 c (by omega) with z | z <;> rcases hm.1.1 (c + 24) (by omega) with y | y <;> rw [z, y]
    · omega
    · have r0 : R (4 * (c + 24) + 3) = 0 := by
        rcases Nat.eq_zero_or_pos (R (4 * (c + 24) + 3)) with q | q
        · exact q
        · have := hm.2 (c + 24) (by omega) 3 (by decide) y q
          rw [nbC_3, show c + 24 - 24 = c by omega, z] at this
          exact absurd this (by decide)
      omega
    · have r0 : R (4 * c + 2) = 0 := by
        rcases Nat.eq_zero_or_pos (R (4 * c + 2)) with q | q
        · exact q
        · have := hm.2 c (by omega) 2 (by decide) z q
          rw [nbC_2, y] at this
          exact absurd this (by decide)
      omega
    · omega)
  unfold net at e1 e2
  omega
theorem fl_720 {S T : Nat → Prop} {R : Nat → Nat} {v : Nat} (h : flw S T R v) (hd : ∀ c, c < 120 → S c → ¬ T c) : v ≤ 720 := by
  obtain ⟨σ, hσ⟩ : ∃ σ : Nat → Int, ∀ c, (S c → σ c = 1) ∧ (¬ S c → σ c = 0) := ⟨fun c => @ite _ (S c) (Classical.propDecidable _) 1 0, fun c => ⟨fun z => if_pos z, fun z => if_neg z⟩⟩
  have ha : adm S T σ := ⟨fun c _ => by
    by_cases z : S c
    · exact Or.inr ((hσ c).1 z)
    · exact Or.inl ((hσ c).2 z), fun c _ z => (hσ c).1 z, fun c hc z => (hσ c).2 (fun y => hd c hc y z)⟩
  have e1 := h.2 σ ha
  have l1 : iS (hT R σ) 120 ≤ iS (fun _ => 2) 120 := iS_le (fun c hc => by
    have w := wf_4 h.1 hc
    unfold hT
    rcases ha.1 c hc with z | z <;> rcases ha.1 (nbC c 0) (nb0_lt hc) with y | y <;> rw [z, y] <;> omega)
  have l2 : iS (uT R σ) 96 ≤ iS (fun _ => 5) 96 := iS_le (fun c hc => by
    have w := h.1.2.1 c hc
    unfold uT
    rcases ha.1 c (by omega) with z | z <;> rcases ha.1 (c + 24) (by omega) with y | y <;> rw [z, y] <;> omega)
  rw [iS_c] at l1 l2
  unfold net at e1
  omega
/-- the rooms at first -/
def rmZ (i : Nat) : Nat := if i % 4 < 2 then 2 else if i % 4 = 2 then (if i / 4 < 96 then 5 - i / 4 / 24 else 0) else if 24 ≤ i / 4 then 6 - i / 4 / 24 else 0
theorem rmZ_wf : wfR rmZ := by
  refine ⟨fun c hc => ?_, fun c hc => ?_, fun c h1 h2 => ?_, fun c h1 => ?_⟩
  · unfold rmZ; rw [if_pos (by omega), if_pos (by omega)]
  · unfold rmZ
    rw [if_neg (by omega), if_pos (by omega), if_pos (by omega), if_neg (by omega), if_neg (by omega), if_pos (by omega)]; omega
  · unfold rmZ
    rw [if_neg (by omega), if_pos (by omega), if_neg (by omega)]
  · unfold rmZ
    rw [if_neg (by omega), if_neg (by omega), if_neg (by omega)]
theorem fl_0 (S T : Nat → Prop) : flw S T rmZ 0 := by
  refine ⟨rmZ_wf, fun σ _ => ?_⟩
  unfold net
  rw [iS_cong (f := hT rmZ σ) (g := fun _ => 0) (fun c hc => ?_), iS_cong (f := uT rmZ σ) (g := fun _ => 0) (fun c hc => ?_), iS_c, iS_c]
  · simp
  · unfold uT rmZ
    rw [if_neg (by omega), if_pos (by omega), if_pos (by omega), show (4 * c + 2) / 4 = c by omega, Int.sub_self, Int.zero_mul]
  · unfold hT rmZ
    rw [if_pos (by omega)]
    show ((2 : Int) - 2) * _ = 0
    rw [Int.sub_self, Int.zero_mul]
