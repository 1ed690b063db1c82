/-! fences: the reference, and the pair -/
def rBe (f : Nat → Int32) (R : Nat → Nat) : Prop := ∀ c, c < 120 → f c = nI 2 - nI (R (4 * c))
def rUp (f : Nat → Int32) (R : Nat → Nat) : Prop := ∀ c, c < 96 → f c = nI (5 - c / 24) - nI (R (4 * c + 2))
def fnF (x c : Nat) : Int32 := if x = 5 then -6 else if x = 4 then 1000 else nI (4 * nbC c (opD x) + x)
def rFr (t : Nat) (f : Nat → Int32) (ca : Nat → Nat) : Prop := ∀ c, c < t → f c = fnF (ca c) c
theorem cde_md : ∀ q, q < 5 → (nI (cde q) = (109 : Int32) ↔ q = 2) := by decide +kernel
theorem cde_vi : ∀ q, q < 5 → (nI (cde q) = (118 : Int32) ↔ q = 0) := by decide +kernel
theorem s5_begins {h c : Nat} {so o : Nat → Nat} {fs fo : Nat → Int32} (hs : rep 120 fs (fun k => cde (so k))) (ho : rep 24 fo o) (vs : ∀ k, k < 120 → so k < 5) (vo : ∀ k, k < 24 → o k < 6) (hh : h < 6) (hc : c < 120) {K : Int32 → Prop} (h1 : mdw so o h c → K 1) (h0 : ¬ mdw so o h c → K 0) : wp_X5_begins fs fo (nI h) (nI c) K := by
  have hl : c % 24 < 24 := Nat.mod_lt _ (by decide)
  have v6 := vo _ hl
  refine ⟨c % 24, by rw [lit_n 24, rem_n (by omega) (by decide) (by decide)], hl, ?_⟩
  rw [ho _ hl]
  refine pk_ne (o (c % 24)) h (fun z => h0 (fun y => z y.1)) (fun z => ⟨c, rfl, hc, ?_⟩) rfl rfl (by omega) (by omega)
  rw [hs c hc]
  exact bn_c (fun y => h0 (fun x => y ((cde_md _ (vs c hc)).mpr x.2))) (fun y => h1 ⟨z, (cde_md _ (vs c hc)).mp y⟩)
theorem s5_ends {h c : Nat} {so o : Nat → Nat} {fs fo : Nat → Int32} (hs : rep 120 fs (fun k => cde (so k))) (ho : rep 24 fo o) (vs : ∀ k, k < 120 → so k < 5) (vo : ∀ k, k < 24 → o k < 6) (hh : h < 6) (hc : c < 120) {K : Int32 → Prop} (h1 : vin so o h c → K 1) (h0 : ¬ vin so o h c → K 0) : wp_X5_ends fs fo (nI h) (nI c) K := by
  have hl : c % 24 < 24 := Nat.mod_lt _ (by decide)
  have v6 := vo _ hl
  refine ⟨c % 24, by rw [lit_n 24, rem_n (by omega) (by decide) (by decide)], hl, ?_⟩
  rw [ho _ hl]
  refine pk_eq (o (c % 24)) h (fun z => h0 (fun y => y.1 z)) (fun z => ⟨c, rfl, hc, ?_⟩) rfl rfl (by omega) (by omega)
  rw [hs c hc]
  exact bn_c (fun y => h0 (fun x => y ((cde_vi _ (vs c hc)).mpr x.2))) (fun y => h1 ⟨z, (cde_vi _ (vs c hc)).mp y⟩)
theorem go_0 : ∀ a, a < 5 → ((2 : Int32) ≤ nI 2 - nI a ↔ a = 0) := by decide +kernel
theorem go_1 : ∀ a, a < 5 → (nI 2 - nI (4 - a) ≤ (-2 : Int32) ↔ a = 0) := by decide +kernel
theorem go_2 : ∀ r, r < 4 → ∀ a, a < 11 → a ≤ 2 * (5 - r) → ((5 : Int32) - nI r ≤ nI (5 - r) - nI a ↔ a = 0) := by decide +kernel
theorem go_3 : ∀ r, r < 5 → 0 < r → ∀ a, a < 11 → a ≤ 2 * (6 - r) → (nI (6 - r) - nI (2 * (6 - r) - a) ≤ nI r - (6 : Int32) ↔ a = 0) := by decide +kernel
theorem if_iff {c d A B : Prop} (h : c ↔ d) (f : d → A) (g : ¬ d → B) : (c → A) ∧ (¬ c → B) := ⟨fun z => f (h.mp z), fun z => g (fun y => z (h.mpr y))⟩
theorem s5_goes {R : Nat → Nat} {fb fu : Nat → Int32} {c d : Nat} (hR : wfR R) (hb : rBe fb R) (hu : rUp fu R) (hc : c < 120) (hd : d < 4) {K : Int32 → Prop} (h0 : R (4 * c + d) = 0 → K (-6)) (h1 : 0 < R (4 * c + d) → nbC c d < 120 → K (nI (nbC c d))) : wp_X5_goes fb fu (nI c) (nI d) K := by
  have hl : c % 24 < 24 := Nat.mod_lt _ (by decide)
  have n1 : nI c / (24 : Int32) = nI (c / 24) := by rw [lit_n 24, pk_div (by omega) (by decide) (by decide)]
  have n2 : iR (nI c) (24 : Int32) = nI (c % 24) := by rw [lit_n 24, rem_n (by omega) (by decide) (by decide)]
  have w4 := wf_4 hR hc
  refine nm_r n1 (nm_r n2 (s5_next hl (nm_r (e' := nI (nbC c 0)) (by rw [lit_n 24, pk_mul, nI_add, nbC_0]) (s5_before hl (nm_r (e' := nI (nbC c 1)) (by rw [lit_n 24, pk_mul, nI_add, nbC_1]) ⟨fun z => ?_, fun z => ?_, fun z => ?_, fun z => ?_⟩)))))
  · rw [nI_toInt (by omega)] at z
    have e : d = 3 := by omega
    subst e
    refine pk_le (c / 24) 0 (fun y => h0 (hR.2.2.2 c (by omega))) (fun y => ?_) rfl rfl (by omega) (by omega)
    have ec : c - 24 + 24 = c := by omega
    have wr := hR.2.1 (c - 24) (by omega)
    rw [ec] at wr
    have ix : nI c - (24 : Int32) = nI (c - 24) := by rw [lit_n 24, pk_sub (by omega)]
    refine ⟨c - 24, ix, by omega, ?_⟩
    rw [hu (c - 24) (by omega), show 5 - (c - 24) / 24 = 6 - c / 24 by omega, show R (4 * (c - 24) + 2) = 2 * (6 - c / 24) - R (4 * c + 3) by omega, ix]
    exact if_iff (go_3 (c / 24) (by omega) y (R (4 * c + 3)) (by omega) (by omega)) (fun x => h0 x) (fun x => h1 (by omega) (by rw [nbC_3]; omega))
  · have e : d = 0 := (nI_eq (b := 0) (by omega) (by decide)).mp z
    subst e
    refine ⟨c, rfl, hc, ?_⟩
    rw [hb c hc]
    exact if_iff (go_0 (R (4 * c)) (by omega)) (fun x => h0 x) (fun x => h1 (by show 0 < R (4 * c); omega) (nb0_lt hc))
  · have e : d = 1 := (nI_eq (b := 1) (by omega) (by decide)).mp z
    subst e
    have wr := hR.1 (nbC c 1) (nb1_lt hc)
    rw [nb_01] at wr
    refine ⟨nbC c 1, rfl, nb1_lt hc, ?_⟩
    rw [hb _ (nb1_lt hc), show R (4 * nbC c 1) = 4 - R (4 * c + 1) by omega]
    exact if_iff (go_1 (R (4 * c + 1)) (by omega)) (fun x => h0 x) (fun x => h1 (by omega) (nb1_lt hc))
  · have e : d = 2 := (nI_eq (b := 2) (by omega) (by decide)).mp z
    subst e
    refine pk_le 4 (c / 24) (fun y => h0 (hR.2.2.1 c (by omega) hc)) (fun y => ⟨c, rfl, hc, ?_⟩) rfl rfl (by omega) (by omega)
    have wr := hR.2.1 c (by omega)
    have ix : nI c + (24 : Int32) = nI (c + 24) := by rw [lit_n 24, nI_add]
    rw [hu c (by omega), ix]
    exact if_iff (go_2 (c / 24) y (R (4 * c + 2)) (by omega) (by omega)) (fun x => h0 x) (fun x => h1 (by omega) (by rw [nbC_2]; omega))
theorem up_1 {x : Int32} {b : Nat} (h : 0 < b) : x - nI b + 1 = x - nI (b - 1) := by
  obtain ⟨k, rfl⟩ : ∃ k, b = k + 1 := ⟨b - 1, by omega⟩
  rw [← nI_1, Nat.add_sub_cancel]; grind
theorem dn_1 {x : Int32} {b : Nat} : x - nI b - 1 = x - nI (b + 1) := by
  rw [← nI_1]; grind
theorem s5_go {R : Nat → Nat} {fb fu : Nat → Int32} {p c d : Nat} (hR : wfR R) (hb : rBe fb R) (hu : rUp fu R) (hp : p < 120) (hd : d < 4) (h0 : 0 < R (4 * p + d)) (e : nbC p d = c) {K : (Nat → Int32) → (Nat → Int32) → Prop} (hK : ∀ fb' fu', rBe fb' (push R p d 1) → rUp fu' (push R p d 1) → K fb' fu') : wp_X5_go fb fu (nI p) (nI c) (nI d) K := by
  obtain ⟨k1, k2, k3⟩ := wf_ok hR hp hd h0
  rw [e] at k1
  have w4 := wf_4 hR hp
  refine ⟨fun z => ?_, fun z => ?_, fun z => ?_, fun z => ?_⟩
  · rw [nI_toInt (by omega)] at z
    have e3 : d = 3 := by omega
    subst e3
    have ec : c = p - 24 := by rw [← e, nbC_3]
    have p24 := k3 rfl
    refine ⟨c, rfl, k1, nm_r (e' := nI (5 - c / 24) - nI (R (4 * c + 2) + 1)) (by rw [hu c (by omega)]; exact dn_1) ⟨c, rfl, k1, hK _ _ (fun x hx => ?_) (fun x hx => ?_)⟩⟩
    · rw [push_n (by omega) (by rw [e]; show _ ≠ 4 * c + 2; omega)]; exact hb x hx
    · unfold upd
      by_cases y : x = c
      · have pb := push_b (R := R) (p := p) (d := 3) (m := 1) (by rw [e]; show 4 * c + 2 ≠ _; omega)
        rw [e] at pb
        rw [if_pos y, y, show 4 * c + 2 = 4 * c + opD 3 from rfl, pb]
      · rw [if_neg y, push_n (by omega) (by rw [e]; show _ ≠ 4 * c + 2; omega)]; exact hu x hx
  · have e0 : d = 0 := (nI_eq (b := 0) (by omega) (by decide)).mp z
    subst e0
    have h0' : 0 < R (4 * p) := h0
    refine ⟨p, rfl, hp, nm_r (e' := nI 2 - nI (R (4 * p) - 1)) (by rw [hb p hp]; exact up_1 h0') ⟨p, rfl, hp, hK _ _ (fun x hx => ?_) (fun x hx => ?_)⟩⟩
    · unfold upd
      by_cases y : x = p
      · rw [if_pos y, y, show 4 * p = 4 * p + 0 from rfl, push_a]
      · rw [if_neg y, push_n (by omega) (by rw [e]; show _ ≠ 4 * c + 1; omega)]; exact hb x hx
    · rw [push_n (by omega) (by rw [e]; show _ ≠ 4 * c + 1; omega)]; exact hu x hx
  · have e1 : d = 1 := (nI_eq (b := 1) (by omega) (by decide)).mp z
    subst e1
    refine ⟨c, rfl, k1, nm_r (e' := nI 2 - nI (R (4 * c) + 1)) (by rw [hb c k1]; exact dn_1) ⟨c, rfl, k1, hK _ _ (fun x hx => ?_) (fun x hx => ?_)⟩⟩
    · unfold upd
      by_cases y : x = c
      · have pb := push_b (R := R) (p := p) (d := 1) (m := 1) (by rw [e]; show 4 * c + 0 ≠ _; omega)
        rw [e] at pb
        rw [if_pos y, y, show 4 * c = 4 * c + opD 1 from rfl, pb]
      · rw [if_neg y, push_n (by omega) (by rw [e]; show _ ≠ 4 * c + 0; omega)]; exact hb x hx
    · rw [push_n (by omega) (by rw [e]; show _ ≠ 4 * c + 0; omega)]; exact hu x hx
  · have e2 : d = 2 := (nI_eq (b := 2) (by omega) (by decide)).mp z
    subst e2
    have hp96 := k2 rfl
    refine ⟨p, rfl, hp, nm_r (e' := nI (5 - p / 24) - nI (R (4 * p + 2) - 1)) (by rw [hu p hp96]; exact up_1 h0) ⟨p, rfl, hp, hK _ _ (fun x hx => ?_) (fun x hx => ?_)⟩⟩
    · rw [push_n (by omega) (by rw [e]; show _ ≠ 4 * c + 3; omega)]; exact hb x hx
    · unfold upd
      by_cases y : x = p
      · rw [if_pos y, y, push_a]
      · rw [if_neg y, push_n (by omega) (by rw [e]; show _ ≠ 4 * c + 3; omega)]; exact hu x hx
theorem fnF_0 {x c : Nat} (hx : x ≤ 5) (h : x < 4 → nbC c (opD x) < 120) : 0 ≤ fnF x c ↔ x ≠ 5 := by
  unfold fnF
  by_cases e : x = 5
  · rw [if_pos e]; exact ⟨fun z => absurd z (by decide), fun z => absurd e z⟩
  · rw [if_neg e]
    by_cases e4 : x = 4
    · rw [if_pos e4]; exact ⟨fun _ => e, fun _ => by decide⟩
    · rw [if_neg e4]
      have := h (by omega)
      exact ⟨fun _ => e, fun _ => nI_pos' (by omega)⟩
/-- how a cell was come into, told backwards -/
theorem bf_back {S : Nat → Prop} {R : Nat → Nat} {n c : Nat} {ca q : Nat → Nat} (hR : wfR R) (h : bfS S R 120 n ca q) (hc : c < 120) (h4 : ca c < 4) : nbC c (opD (ca c)) < 120 := by
  obtain ⟨i, hi, hq⟩ := h.2.2.1 c hc (by omega)
  have := h.2.2.2.1 i hi
  rw [hq] at this
  rcases this with y | ⟨_, j, hj, k1, k2⟩
  · omega
  · have hqj := (h.2.1 j (by omega)).1
    rw [(back_ok hR hqj h4 k2 k1).1]; exact hqj
theorem s5_trace {S T : Nat → Prop} {R ca q : Nat → Nat} {n g v : Nat} {fb fu ff fq : Nat → Int32} (hB : bfS S R 120 n ca q) (hg : g < n) (hff : rFr 120 ff ca) (hb : rBe fb R) (hu : rUp fu R) (hfl : flw S T R v) (hT : T (q g)) {K : Int32 → (Nat → Int32) → (Nat → Int32) → (Nat → Int32) → (Nat → Int32) → Prop} (hK : ∀ R' fb' fu', flw S T R' (v + 1) → rBe fb' R' → rUp fu' R' → K 1 fb' fu' ff fq) : lpW3 (wb_X5_goOne_179 ff fq K) (nI (q g)) fb fu := by
  have hq : ∀ i, i < n → q i < 120 := fun i hi => (hB.2.1 i hi).1
  refine ⟨fun F x fb fu => ∃ j R', x = nI (q j) ∧ j < n ∧ rBe fb R' ∧ rUp fu R' ∧ wfR R' ∧ (∀ σ, net R' σ = net R σ + 1 * (σ (q j) - σ (q g))) ∧ wyB R' ca q 1 F j, g + 1, ⟨g, R, rfl, hg, hb, hu, hfl.1, fun σ => by rw [Int.sub_self, Int.mul_zero, Int.add_zero], wyB_1 hB (g + 1) g (by omega) hg⟩, ?_⟩
  rintro F _ fb fu ⟨j, R', rfl, hj, hb, hu, hR', hnet, hw⟩
  have hqj := hq j hj
  have ca5 := bf_le hB hqj
  refine ⟨q j, rfl, hqj, ?_⟩
  rw [hff _ hqj]
  cases F with
  | zero => exact absurd hw (fun y => y)
  | succ F =>
    rcases hw with y | ⟨hd, i, hij, k1, k2, k3⟩
    · refine br_t (by rw [y]; rfl) (hK R' fb fu ⟨hR', fun σ hσ => ?_⟩ hb hu)
      have eS : S (q j) := by
        rcases hB.2.2.2.1 j hj with w | w
        · exact w.2
        · omega
      rw [hnet σ, hfl.2 σ hσ, hσ.2.1 _ hqj eS, hσ.2.2 _ (hq g hg) hT]
      omega
    · obtain ⟨d, hde⟩ : ∃ d, d = ca (q j) := ⟨_, rfl⟩
      rw [← hde] at hd k1 k2
      have hqi := hq i (by omega)
      obtain ⟨b1, b2, b3⟩ := back_ok hR' hqi hd (by omega) k1
      obtain ⟨p1, p2⟩ := push_ok hR' hqi hd (by decide) k2
      have ef : fnF d (q j) = nI (4 * q i + d) := by unfold fnF; rw [if_neg (by omega), if_neg (by omega), b1]
      rw [← hde, ef]
      have hne : ¬ nI (4 * q i + d) = (1000 : Int32) := fun w => by
        have := (nI_eq (b := 1000) (by omega) (by decide)).mp w
        omega
      refine br_f hne ⟨q j, rfl, hqj, nm_r (e' := nI (q i)) (by rw [hff _ hqj, ← hde, ef, lit_n 4, pk_div (by omega) (by decide) (by decide)]; congr 1; omega) ⟨q j, rfl, hqj, nm_r (e' := nI d) (by rw [hff _ hqj, ← hde, ef, lit_n 4, rem_n (by omega) (by decide) (by decide)]; congr 1; omega) (s5_go hR' hb hu hqi hd (by omega) k1 (fun fb' fu' hb' hu' => ⟨F, by omega, i, push R' (q i) d 1, rfl, by omega, hb', hu', p1, fun σ => ?_, ?_⟩))⟩⟩
      · rw [p2 σ, k1, hnet σ, Int.add_assoc]
        congr 1
        omega
      · exact wyB_cong (fun k hk d' hd' => (push_far hB.2.2.2.2.2 hj hij hk hd hd' k1).symm) k3
