/-! runs read from the pad -/
theorem lpW3_for' {A1 A2 A3 : Type} {body : (A1 → A2 → A3 → Prop) → A1 → A2 → A3 → Prop} (s1 : Nat → A1) (s2 : Nat → A2) (s3 : Nat → A3) (n : Nat) {a1 : A1} {a2 : A2} {a3 : A3} (e1 : a1 = s1 0) (e2 : a2 = s2 0) (e3 : a3 = s3 0) (hs : ∀ (k : Nat), k < n → ∀ K : A1 → A2 → A3 → Prop, K (s1 (k + 1)) (s2 (k + 1)) (s3 (k + 1)) → body K (s1 k) (s2 k) (s3 k)) (he : ∀ K : A1 → A2 → A3 → Prop, body K (s1 n) (s2 n) (s3 n)) : lpW3 body a1 a2 a3 := by
  subst e1 e2 e3
  exact lpW3_for s1 s2 s3 n hs he
theorem nI_n6 {k : Nat} (h : k < 2 ^ 31) : ¬ nI k = -6 := fun e => by
  have := congrArg Int32.toInt e
  rw [nI_toInt h] at this
  have h2 : (-6 : Int32).toInt = -6 := by decide
  omega
theorem flt_ok {n t f r i : Nat} {si : Nat → Nat} (hn : n < 2 ^ 30) (h : flt n si t (f + 1) r i = -6) : (n ≤ i ∧ r = 0) ∨ (i < n ∧ i + 1 < n ∧ 0 < r ∧ ltB t (si i) = true ∧ 0 < dgv n si (i + 1) ∧ dgv n si (i + 1) ≤ r ∧ dgv n si (i + 1) = si (i + 1) - 48 ∧ 48 ≤ si (i + 1) ∧ flt n si t f (r - dgv n si (i + 1)) (i + 2) = -6) := by
  rw [flt] at h
  by_cases a : n ≤ i
  · rw [if_pos a] at h
    by_cases b : r = 0
    · exact Or.inl ⟨a, b⟩
    · rw [if_neg b] at h; exact absurd h (nI_n6 (by omega))
  rw [if_neg a] at h
  by_cases b : r = 0
  · rw [if_pos b] at h; exact absurd h (nI_n6 (by omega))
  rw [if_neg b] at h
  by_cases c : ltB t (si i) = true
  · rw [if_pos c] at h
    by_cases d : dgv n si (i + 1) = 0
    · rw [if_pos d] at h; exact absurd h (nI_n6 (by omega))
    rw [if_neg d] at h
    by_cases e : dgv n si (i + 1) ≤ r
    · rw [if_pos e] at h
      have hd : dgv n si (i + 1) = si (i + 1) - 48 ∧ i + 1 < n ∧ 48 ≤ si (i + 1) := by
        unfold dgv at d ⊢
        split at d
        · rename_i q; rw [if_pos q]; exact ⟨rfl, q.1, by omega⟩
        · omega
      exact Or.inr ⟨by omega, hd.2.1, by omega, c, by omega, e, hd.1, hd.2.2, h⟩
    · rw [if_neg e] at h; exact absurd h (nI_n6 (by omega))
  · rw [if_neg c] at h; exact absurd h (nI_n6 (by omega))
/-- what the runs say of the place j -/
def rv (n : Nat) (si : Nat → Nat) (t : Nat) : Nat → Nat → Nat → Nat
  | 0, _, _ => 0
  | f + 1, i, j => if j < dgv n si (i + 1) then ltv t (si i) else rv n si t f (i + 2) (j - dgv n si (i + 1))
theorem ltv_le (t c : Nat) : ltv t c ≤ 6 := by unfold ltv; split; have := uncde_le c; omega; exact unltr_le _
theorem ltv_lt {t c : Nat} (h : ltB t c = true) : ltv t c < (if t = 0 then 5 else 6) := by
  unfold ltB at h; unfold ltv
  split at h <;> simp_all
theorem s_readRuns {n t i0 c fu : Nat} {f fm row : Nat → Int32} {si : Nat → Nat} (hp : padR n f fm si) (ht : t < 2) (hi : i0 ≤ n) (hf : n < i0 + 2 * fu) (hc : c ≤ 24) (hok : flt n si t fu c i0 = -6) {K : (Nat → Int32) → Prop} (hK : ∀ row', (∀ j, j < c → row' j = nI (rv n si t fu i0 j)) → K row') : wp_X3_readRuns (nI n) f row t (nI i0) K := by
  have hn := hp.1
  refine lpW3_inv (fun a b r' => ∃ p i f, a = nI p ∧ b = nI i ∧ p ≤ c ∧ i ≤ n ∧ n < i + 2 * f ∧ flt n si t f (c - p) i = -6 ∧ (∀ j, j < p → r' j = nI (rv n si t fu i0 j)) ∧ ∀ j, p ≤ j → rv n si t fu i0 j = rv n si t f i (j - p)) (fun a b r' => 61 - b.toInt.toNat) ?_ _ _ _ ⟨0, i0, fu, rfl, rfl, by omega, hi, hf, hok, fun j hj => absurd hj (Nat.not_lt_zero j), fun j _ => rfl⟩
  rintro _ _ r' ⟨p, i, f, rfl, rfl, hpc, hi, hf, hok, hrow, hval⟩
  obtain ⟨f, rfl⟩ : ∃ m, f = m + 1 := ⟨f - 1, by omega⟩
  refine pk_le n i (fun z => ?_) (fun z => ?_) rfl rfl (by omega) (by omega)
  · rcases flt_ok (by omega) hok with h | h
    · exact hK r' (fun j hj => hrow j (by omega))
    · omega
  rcases flt_ok (by omega) hok with h | ⟨h1, h2, h3, h4, h5, h6, h7, h8, h9⟩
  · omega
  refine s_letter hp ht z ?_
  rw [if_pos h4]
  refine nm_r (nI_1 i) (s_digit hp (by omega) ?_)
  generalize hd : dgv n si (i + 1) = d at *
  refine lpW3_for' (fun k => nI (p + k)) (fun k => nI (d - k)) (fun k j => if p ≤ j ∧ j < p + k then nI (ltv t (si i)) else r' j) d rfl rfl (funext fun j => by rw [if_neg (by omega)]) (fun k hk L hL => ?_) (fun L => ?_)
  · refine pk_le (d - k) 0 (fun y => by omega) (fun y => ?_) rfl rfl (by omega) (by omega)
    refine pk_le 24 (p + k) (fun x => by omega) (fun x => ⟨p + k, rfl, x, nm_r (nI_1 _) (nm_r (e' := nI (d - (k + 1))) ?_ ?_)⟩) rfl rfl (by omega) (by omega)
    · show nI (d - k) + (-1) = _
      rw [show d - k = (d - (k + 1)) + 1 by omega, pk_m1]
    · refine cast (congrArg (L _ _) (funext fun j => ?_)) hL
      by_cases e : j = p + k
      · subst e; rw [pk_us, if_pos (by omega)]
      · rw [pk_un e]
        by_cases e2 : p ≤ j ∧ j < p + k
        · rw [if_pos e2, if_pos (by omega)]
        · rw [if_neg e2, if_neg (by omega)]
  · refine pk_le (d - d) 0 (fun y => ?_) (fun y => by omega) rfl rfl (by omega) (by omega)
    refine nm_r (e' := nI (i + 2)) (by rw [lit_n 2, nI_add]) ⟨_, ?_, ⟨p + d, i + 2, f, rfl, rfl, by omega, by omega, by omega, by rw [show c - (p + d) = c - p - d by omega]; exact h9, fun j hj => ?_, fun j hj => ?_⟩, rfl⟩
    · show 61 - (nI (i + 2)).toInt.toNat < _
      rw [nI_toInt (by omega), nI_toInt (by omega)]; omega
    · show (if p ≤ j ∧ j < p + d then nI (ltv t (si i)) else r' j) = _
      by_cases e : p ≤ j
      · rw [if_pos ⟨e, hj⟩, hval j e, rv, hd, if_pos (by omega)]
      · rw [if_neg (by omega)]; exact hrow j (by omega)
    · rw [hval j (by omega), rv, hd, if_neg (by omega)]
      congr 1; omega
/-- a row laid into numbers -/
def rowN (a : Nat → Nat) (b : Nat) (len : Nat) (r : Nat → Nat) : Nat → Nat := fun k => if b ≤ k ∧ k < b + len then r (k - b) else a k
theorem rowN_in {a r : Nat → Nat} {b len k : Nat} (h : b ≤ k ∧ k < b + len) : rowN a b len r k = r (k - b) := if_pos h
theorem rowN_out {a r : Nat → Nat} {b len k : Nat} (h : ¬ (b ≤ k ∧ k < b + len)) : rowN a b len r k = a k := if_neg h
theorem rep_cpy {N sp dp n : Nat} {f g : Nat → Int32} {a r : Nat → Nat} (hg : rep N g a) (hf : ∀ j, j < n → f (sp + j) = nI (r j)) : rep N (va_cpy f g sp dp n) (rowN a dp n r) := fun j hj => by
  by_cases e : dp ≤ j ∧ j < dp + n
  · rw [pk_cpy_in e.1 e.2, rowN, if_pos e, hf _ (by omega)]
  · rw [pk_cpy_out (by omega), rowN, if_neg e, hg j hj]
theorem rowN_all {P : Nat → Prop} {N b len : Nat} {a r : Nat → Nat} (ha : ∀ k, k < N → P (a k)) (hr : ∀ k, k < len → P (r k)) : ∀ k, k < N → P (rowN a b len r k) := fun k hk => by
  unfold rowN
  split
  · exact hr _ (by omega)
  · exact ha k hk
theorem cde_ltv {c : Nat} (h : ltB 0 c = true) : cde (ltv 0 c) = c := by
  have h2 : uncde c < 5 := of_decide_eq_true h
  exact cde_uncde h2
theorem ltr_ltv {c : Nat} (h : ltB 1 c = true) : 97 ≤ c ∧ c - 97 = ltv 1 c ∧ c < 103 := by
  have h2 : unltr c < 6 := of_decide_eq_true h
  have h3 : ltv 1 c = unltr c := rfl
  rw [h3]
  unfold unltr at h2 ⊢
  split at h2
  · rename_i q; rw [if_pos q]; exact ⟨q.1, rfl, q.2⟩
  · omega
theorem rv_lt {n t fu i c : Nat} {si : Nat → Nat} (hn : n < 2 ^ 30) (hok : flt n si t fu c i = -6) (hf : n < i + 2 * fu) (hi : i ≤ n) : ∀ j, j < c → rv n si t fu i j < (if t = 0 then 5 else 6) := by
  induction fu generalizing i c with
  | zero => omega
  | succ f ih =>
    intro j hj
    rcases flt_ok hn hok with h | ⟨h1, h2, h3, h4, h5, h6, h7, h8, h9⟩
    · omega
    rw [rv]
    split
    · exact ltv_lt h4
    · exact ih h9 (by omega) (by omega) _ (by omega)
/-- the model lays a ring -/
theorem s5_ringL {n r0 fu : Nat} {f fm fs : Nat → Int32} {si so : Nat → Nat} (hp : padR n f fm si) (hr : r0 < 5) (hf : n < 2 * fu) (hs : rep 120 fs (fun k => cde (so k))) (hok : flt n si 0 fu 24 0 = -6) {K : Int32 → Int32 → (Nat → Int32) → Prop} (hK : ∀ fs', rep 120 fs' (fun k => cde (rowN so (24 * r0) 24 (rv n si 0 fu 0) k)) → K (nI (n / 2)) 0 fs') : lpW3 (wb_X5_ring_24 (nI n) fm (nI r0) K) (0 : Int32) (0 : Int32) fs := by
  have hn := hp.1
  refine lpW3_inv (fun a b s' => ∃ p i f, a = nI p ∧ b = nI i ∧ p ≤ 24 ∧ i ≤ n ∧ n < i + 2 * f ∧ flt n si 0 f (24 - p) i = -6 ∧ rep 120 s' (fun k => cde (rowN so (24 * r0) p (rv n si 0 fu 0) k)) ∧ ∀ j, p ≤ j → rv n si 0 fu 0 j = rv n si 0 f i (j - p)) (fun a b s' => 61 - b.toInt.toNat) ?_ _ _ _ ⟨0, 0, fu, rfl, rfl, by omega, by omega, by omega, hok, fun k hk => (hs k hk).trans (congrArg (fun z => nI (cde z)) (rowN_out (by omega)).symm), fun j _ => rfl⟩
  rintro _ _ s' ⟨p, i, f, rfl, rfl, hpc, hi, hf, hok, hrow, hval⟩
  obtain ⟨f, rfl⟩ : ∃ m, f = m + 1 := ⟨f - 1, by omega⟩
  refine pk_le n i (fun z => ?_) (fun z => ?_) rfl rfl (by omega) (by omega)
  · rcases flt_ok (by omega) hok with h | h
    · refine nm_r (pk_div (d := 2) (by omega) (by omega) (by omega)) (hK s' ?_)
      rw [show p = 24 by omega] at hrow
      exact hrow
    · omega
  rcases flt_ok (by omega) hok with h | ⟨h1, h2, h3, h4, h5, h6, h7, h8, h9⟩
  · omega
  have g0 := hp.2 i h1
  have g1 := hp.2 (i + 1) h2
  generalize hd : dgv n si (i + 1) = d at *
  refine lpW3_inv (fun a b s2 => ∃ e, e ≤ d ∧ a = nI (p + e) ∧ b = nI e ∧ rep 120 s2 (fun k => cde (rowN so (24 * r0) (p + e) (rv n si 0 fu 0) k))) (fun a b s2 => 61 - b.toInt.toNat) ?_ _ _ _ ⟨0, by omega, rfl, rfl, hrow⟩
  rintro _ _ s2 ⟨e, he, rfl, rfl, hr2⟩
  refine ⟨i + 1, nI_1 i, by omega, ?_⟩
  rw [g1.2.1, lit_n 48, pk_sub h8, ← h7]
  refine pk_le d e (fun y => ?_) (fun y => ?_) rfl rfl (by omega) (by omega)
  · have e1 : e = d := by omega
    subst e1
    refine nm_r (e' := nI (i + 2)) (by rw [lit_n 2, nI_add]) ⟨_, ?_, ⟨p + e, i + 2, f, rfl, rfl, by omega, by omega, by omega, by rw [show 24 - (p + e) = 24 - p - e by omega]; exact h9, hr2, fun j hj => ?_⟩, rfl⟩
    · show 61 - (nI (i + 2)).toInt.toNat < _
      rw [nI_toInt (by omega), nI_toInt (by omega)]; omega
    · rw [hval j (by omega), rv, hd, if_neg (by omega)]
      congr 1; omega
  · refine ⟨i, rfl, by omega, nm_r g0.2.1 ⟨24 * r0 + (p + e), by rw [lit_n 24, pk_mul, nI_add], by omega, nm_r (nI_1 _) (nm_r (nI_1 _) ⟨_, ?_, ⟨e + 1, y, rfl, rfl, fun k hk => ?_⟩, rfl⟩)⟩⟩
    · show 61 - (nI (e + 1)).toInt.toNat < _
      rw [nI_toInt (by omega), nI_toInt (by omega)]; omega
    · by_cases q : k = 24 * r0 + (p + e)
      · subst q
        show upd s2 _ _ _ = nI (cde (rowN _ _ _ _ _))
        rw [pk_us, rowN_in (by omega), show 24 * r0 + (p + e) - 24 * r0 = p + e by omega, hval _ (by omega), rv, hd, if_pos (by omega), cde_ltv h4]
      · rw [pk_un q, hr2 k hk]
        show nI (cde (rowN _ _ _ _ _)) = nI (cde (rowN _ _ _ _ _))
        by_cases w : 24 * r0 ≤ k ∧ k < 24 * r0 + (p + e)
        · rw [rowN_in w, rowN_in (by omega)]
        · rw [rowN_out w, rowN_out (by omega)]
theorem pad0 {n : Nat} {f fm : Nat → Int32} {si : Nat → Nat} (hp : padR n f fm si) : padR 0 f fm si := ⟨Nat.zero_le _, fun k hk => absurd hk (Nat.not_lt_zero k)⟩
theorem fltA_v (n : Nat) (si ow : Nat → Nat) (g x : Nat) (hn : n ≤ 60) : fltA n si ow g x = -6 ∨ ∃ k, k < 2 ^ 31 ∧ fltA n si ow g x = nI k := by
  have key : ∀ t f r i, i ≤ n → (n < i + 2 * f ∨ f = 0) → flt n si t f r i = -6 ∨ ∃ k, k < 2 ^ 31 ∧ flt n si t f r i = nI k := by
    intro t f
    induction f with
    | zero => intro r i _ _; exact Or.inr ⟨0, by decide, rfl⟩
    | succ f ih =>
      intro r i hi hf
      rw [flt]
      split
      · split
        · exact Or.inl rfl
        · exact Or.inr ⟨n, by omega, rfl⟩
      split
      · exact Or.inr ⟨i, by omega, rfl⟩
      split
      · split
        · exact Or.inr ⟨i + 1, by omega, rfl⟩
        split
        · rename_i a b c d e
          have : i + 1 < n := by unfold dgv at d; split at d; omega; omega
          exact ih _ _ (by omega) (by omega)
        · exact Or.inr ⟨i + 1, by omega, rfl⟩
      · exact Or.inr ⟨i, by omega, rfl⟩
  unfold fltA
  split
  · exact key _ _ _ _ (by omega) (by omega)
  split
  · exact key _ _ _ _ (by omega) (by omega)
  split
  · exact Or.inr ⟨0, by decide, rfl⟩
  split
  · split
    · exact Or.inr ⟨1, by decide, rfl⟩
    split
    · exact key _ _ _ _ (by omega) (by omega)
    · exact Or.inr ⟨1, by decide, rfl⟩
  · exact Or.inr ⟨0, by decide, rfl⟩
theorem p_ring {n g : Nat} {x1 n1 n2 : Int32} {f fm row fs ms fo mo : Nat → Int32} {si so ow : Nat → Nat} (hp : padR n f fm si) (ho : rep 504 fo ow) (hmo : rep 24 mo (own ow g)) (vo : ∀ k, k < 504 → ow k < 6) (hg : g ≤ 20) (hs : rep 120 fs so) (hms : rep 120 ms (fun k => cde (so k))) (vs : ∀ k, k < 120 → so k < 5) : wp_X4_ring (nI n) f row (nI g) fs fo n1 n2 x1 (fun r c row' fs' a b => wp_X5_ring (nI n) fm ms mo x1 (fun r2 c2 ms' => r = r2 ∧ ∃ n' so', c = nI n' ∧ c2 = nI n' ∧ padR n' f fm si ∧ rep 120 fs' so' ∧ rep 120 ms' (fun k => cde (so' k)) ∧ (∀ k, k < 120 → so' k < 5) ∧ ((so' = so ∧ a = n1 ∧ b = n2) ∨ (a = 0 ∧ b = 0)))) := by
  have hn := hp.1
  have fin : ∀ c : Int32, c = c ∧ ∃ n' so', nI n = nI n' ∧ nI n = nI n' ∧ padR n' f fm si ∧ rep 120 fs so' ∧ rep 120 ms (fun k => cde (so' k)) ∧ (∀ k, k < 120 → so' k < 5) ∧ ((so' = so ∧ n1 = n1 ∧ n2 = n2) ∨ (n1 = 0 ∧ n2 = 0)) := fun c => ⟨rfl, n, so, rfl, rfl, hp, hs, hms, vs, Or.inl ⟨rfl, rfl, rfl⟩⟩
  rcases pk_ix' x1 5 (by decide) with h | h | ⟨r0, hr, rfl⟩
  · exact s4_isRing_f (Or.inl h) (bn_t rfl (s5_isRing_f (Or.inl h) (bn_t rfl (fin _))))
  · exact s4_isRing_f (Or.inr h) (bn_t rfl (s5_isRing_f (Or.inr h) (bn_t rfl (fin _))))
  refine s4_isRing_t hr (bn_f (by decide) (s4_faultAs (x := 0) hp ho vo hg (by decide) ?_))
  rcases fltA_v n si ow g 0 hn with e | ⟨k, hk, e⟩
  · rw [e]
    have hok : flt n si 0 31 24 0 = -6 := e
    refine br_t rfl (s_readRuns (t := 0) (i0 := 0) (c := 24) (fu := 31) hp (by decide) (by omega) (by omega) (by omega) hok (fun row' hrow => ?_))
    refine ⟨0, 24 * r0, 24, rfl, by rw [lit_n 24, pk_mul, Nat.mul_comm], rfl, by omega, by omega, ?_⟩
    show wp_X5_ring (nI n) fm ms mo (nI r0) _
    refine s5_isRing_t hr (bn_f (by decide) (s5_faultOf (x := 0) hp hmo vo hg (by decide) ?_))
    rw [e]
    refine br_t (by decide) (s5_ringL (fu := 31) hp hr (by omega) hms hok (fun fs' hfs' => ⟨pk_div (d := 2) (by omega) (by omega) (by omega), 0, rowN so (24 * r0) 24 (rv n si 0 31 0), rfl, rfl, pad0 hp, rep_cpy hs (fun j hj => by rw [Nat.zero_add]; exact hrow j hj), hfs', rowN_all (P := (· < 5)) vs (fun j hj => rv_lt (t := 0) (by omega) hok (by omega) (by omega) j hj), Or.inr ⟨rfl, rfl⟩⟩))
  · rw [e]
    refine br_f (nI_n6 hk) (s5_isRing_t hr (bn_f (by decide) (s5_faultOf (x := 0) hp hmo vo hg (by decide) ?_)))
    rw [e]
    exact br_f (nI_pos hk) (fin _)
