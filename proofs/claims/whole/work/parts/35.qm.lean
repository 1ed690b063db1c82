/-! fences: the class -/
def fnW (x : Nat) : Int32 := if x = 5 then -1 else nI x
def rCa (t : Nat) (f : Nat → Int32) (ca : Nat → Nat) : Prop := ∀ c, c < t → f c = fnW (ca c)
theorem cw_5 : fnW 5 = -1 := if_pos rfl
theorem cw_n {x : Nat} (h : x ≠ 5) : fnW x = nI x := if_neg h
theorem s1_beside {c d : Nat} (hc : c < 120) (hd : d < 4) (h3 : d = 3 → 24 ≤ c) {K : Int32 → Prop} (hK : K (nI (nbC c d))) : wp_X1_beside (nI c) (nI d) K := by
  refine nm_r (e' := nI (c / 24)) (by rw [lit_n 24, pk_div (by omega) (by decide) (by decide)]) (nm_r (e' := nI (c % 24)) (by rw [lit_n 24, rem_n (by omega) (by decide) (by decide)]) ⟨fun z => ?_, fun z => ?_, fun z => ?_, fun z => ?_⟩)
  · rw [nI_toInt (by omega)] at z
    have e : d = 3 := by omega
    have := h3 e
    rw [e, nbC_3] at hK
    rw [lit_n 24, pk_sub this]; exact hK
  · have e : d = 0 := (nI_eq (b := 0) (by omega) (by decide)).mp z
    rw [e, nbC_0, Nat.mul_comm] at hK
    rw [lit_n 24, nI_1, rem_n (by omega) (by decide) (by decide), pk_mul, nI_add]; exact hK
  · have e : d = 1 := (nI_eq (b := 1) (by omega) (by decide)).mp z
    rw [e, nbC_1, Nat.mul_comm] at hK
    rw [lit_n 24, lit_n 1, nI_add, pk_sub (by omega), rem_n (by omega) (by decide) (by decide), pk_mul, nI_add, show c % 24 + 24 - 1 = c % 24 + 23 by omega]; exact hK
  · have e : d = 2 := (nI_eq (b := 2) (by omega) (by decide)).mp z
    rw [e, nbC_2] at hK
    rw [lit_n 24, nI_add]; exact hK
theorem opI : ∀ d, d < 4 → nI d ^^^ (1 : Int32) = nI (opD d) := by decide +kernel
theorem opD_lt {d : Nat} : opD d < 4 := by unfold opD; split; omega; split; omega; split <;> omega
theorem s1_opp {d : Nat} (hd : d < 4) {K : Int32 → Prop} (hK : K (nI (opD d))) : wp_X1_opposite (nI d) K := by
  show K (nI d ^^^ 1)
  rw [opI d hd]; exact hK
theorem s1_reach {n c s : Nat} {ca q : Nat → Nat} {fc fq : Nat → Int32} (hs : s < 5) (hc : c < 120) (hfc : rCa 120 fc ca) (hfq : rep n fq q) (hv : ca c ≤ 5) (hn : ca c = 5 → n < 120) {K : Int32 → (Nat → Int32) → (Nat → Int32) → Prop} (h1 : ca c ≠ 5 → K (nI n) fc fq) (h2 : ca c = 5 → ∀ fc' fq', rCa 120 fc' (updN ca c s) → rep (n + 1) fq' (updN q n c) → K (nI (n + 1)) fc' fq') : wp_X1_reach (nI n) fc fq (nI c) (nI s) K := by
  refine ⟨c, rfl, hc, ?_⟩
  rw [hfc c hc]
  by_cases e : ca c = 5
  · have hn' := hn e
    rw [e]
    refine bn_t cw_5 (br_f (nI_ge (b := 120) hn' (by decide)) ⟨c, rfl, hc, n, rfl, hn', nm_r (nI_1 n) (h2 e _ _ (fun x hx => ?_) (fun i hi => ?_))⟩)
    · unfold upd updN
      by_cases z : x = c
      · rw [if_pos z, if_pos z, cw_n (by omega)]
      · rw [if_neg z, if_neg z]; exact hfc x hx
    · unfold upd updN
      by_cases z : i = n
      · rw [if_pos z, if_pos z]
      · rw [if_neg z, if_neg z]; exact hfq i (by omega)
  · rw [cw_n e]
    refine bn_f (fun z => ?_) (h1 e)
    have y := congrArg Int32.toInt z
    rw [nI_toInt (by omega), show (-1 : Int32).toInt = -1 by decide] at y
    omega
theorem bf_le {S : Nat → Prop} {R : Nat → Nat} {t n c : Nat} {ca q : Nat → Nat} (h : bfS S R t n ca q) (hc : c < t) : ca c ≤ 5 := by
  by_cases e : ca c = 5
  · omega
  · obtain ⟨i, hi, hq⟩ := h.2.2.1 c hc e
    have := h.2.2.2.1 i hi
    rw [hq] at this
    omega
/-- cells in which beasts of an heir are, and others' vines -/
def mdw (so o : Nat → Nat) (h c : Nat) : Prop := o (c % 24) = h ∧ so c = 2
def vin (so o : Nat → Nat) (h c : Nat) : Prop := o (c % 24) ≠ h ∧ so c = 0
theorem s1_seek {g h : Nat} {so ow R : Nat → Nat} {vq : Int32} {fs fo fr fc fq fg : Nat → Int32} (hs : rep 120 fs so) (ho : rep 504 fo ow) (vs : ∀ k, k < 120 → so k < 5) (vo : ∀ k, k < 504 → ow k < 6) (hg : g ≤ 20) (hh : h < 6) (hR : wfR R) (hfr : rep 480 fr R) (hfg : ∀ c, c < 120 → (vin so (own ow g) h c → fg c = 1) ∧ (¬ vin so (own ow g) h c → fg c = 0)) {K : Int32 → Int32 → (Nat → Int32) → (Nat → Int32) → Prop} (hK0 : ∀ σ n fc fq, mxS (mdw so (own ow g) h) (vin so (own ow g) h) R σ → K (-6) n fc fq) (hK1 : ∀ i n ca q n' fc fq, bfS (mdw so (own ow g) h) R 120 n ca q → i < n → vin so (own ow g) h (q i) → rCa 120 fc ca → K (nI (q i)) n' fc fq) : wp_X1_seekGoal vq fr fc fq fg (nI g) fs fo (nI h) K := by
  generalize hS : mdw so (own ow g) h = S at *
  generalize hT : vin so (own ow g) h = T at *
  refine lpW4_inv (fun x n' fc fq => ∃ t n ca q, x = nI t ∧ n' = nI n ∧ t ≤ 120 ∧ bfS S R t n ca q ∧ rCa t fc ca ∧ rep n fq q) (fun x _ _ _ => 120 - x.toInt.toNat) ?_ _ _ _ _ ⟨0, 0, fun _ => 5, fun _ => 0, rfl, rfl, by omega, bf_0 S R _ _, fun c hc => absurd hc (Nat.not_lt_zero c), fun c hc => absurd hc (Nat.not_lt_zero c)⟩
  clear fc fq
  rintro _ _ fc fq ⟨t, n, ca, q, rfl, rfl, ht, hB, hfc, hfq⟩
  have hnt := bf_n hB
  refine pk_le 120 t (fun z => ?_) (fun z => ?_) rfl rfl (by omega) (by omega)
  · have et : t = 120 := by omega
    subst et
    refine lpW4_inv (fun x n' fc fq => ∃ i n ca q, x = nI i ∧ n' = nI n ∧ i ≤ n ∧ bfS S R 120 n ca q ∧ rCa 120 fc ca ∧ rep n fq q ∧ bfP T R ca q i) (fun x _ _ _ => 121 - x.toInt.toNat) ?_ _ _ _ _ ⟨0, n, ca, q, rfl, rfl, Nat.zero_le _, hB, hfc, hfq, fun i hi => absurd hi (Nat.not_lt_zero i)⟩
    clear hB hfc hfq hnt fc fq ca q n
    rintro _ _ fc fq ⟨i, n, ca, q, rfl, rfl, hin, hB, hfc, hfq, hP⟩
    have hn120 := bf_n hB
    refine pk_le n i (fun y => ?_) (fun y => br_f (nI_ge (b := 120) (by omega) (by decide)) ?_) rfl rfl (by omega) (by omega)
    · have e : i = n := by omega
      subst e
      obtain ⟨σ, hσ⟩ := bf_end hB hP hR
      exact hK0 σ _ _ _ hσ
    obtain ⟨c0, hc0⟩ : ∃ c0, c0 = q i := ⟨_, rfl⟩
    have hc120 : c0 < 120 := by rw [hc0]; exact (hB.2.1 i y).1
    refine ⟨i, rfl, by omega, nm_r (e' := nI c0) (by rw [hfq i y, hc0]) ⟨c0, rfl, hc120, ?_⟩⟩
    by_cases hTc : T c0
    · rw [(hfg c0 hc120).1 hTc]
      refine br_f (by decide) ?_
      rw [hc0] at hTc ⊢
      exact hK1 i n ca q _ _ _ hB y hTc hfc
    rw [(hfg c0 hc120).2 hTc]
    refine br_t rfl ?_
    refine lpW4_inv (fun x n' fc fq => ∃ d n ca q, x = nI d ∧ d ≤ 4 ∧ n' = nI n ∧ i < n ∧ bfS S R 120 n ca q ∧ rCa 120 fc ca ∧ rep n fq q ∧ bfP T R ca q i ∧ q i = c0 ∧ bfD R ca c0 d) (fun x _ _ _ => 4 - x.toInt.toNat) ?_ _ _ _ _ ⟨0, n, ca, q, rfl, by omega, rfl, y, hB, hfc, hfq, hP, hc0.symm, fun d hd => absurd hd (Nat.not_lt_zero d)⟩
    have hmu : 121 - (nI (i + 1)).toInt.toNat < 121 - (nI i).toInt.toNat := by rw [nI_toInt (by omega), nI_toInt (by omega)]; omega
    clear hB hfc hfq hP hc0 hin hn120 y fc fq ca q n
    rintro _ _ fc fq ⟨d, n, ca, q, rfl, hd, rfl, hin, hB, hfc, hfq, hP, hc0, hD⟩
    refine pk_le 4 d (fun y => nm_r (nI_1 i) ⟨_, hmu, ⟨i + 1, n, ca, q, rfl, rfl, by omega, hB, hfc, hfq, fun i' hi' => ?_⟩, rfl⟩) (fun y => ?_) rfl rfl (by omega) (by omega)
    · by_cases e : i' = i
      · rw [e, hc0]
        rw [show d = 4 by omega] at hD
        exact ⟨hTc, hD⟩
      · exact hP i' (by omega)
    have hmu2 : 4 - (nI (d + 1)).toInt.toNat < 4 - (nI d).toInt.toNat := by rw [nI_toInt (by omega), nI_toInt (by omega)]; omega
    have hr10 := wf_10 hR hc120 y
    refine ⟨4 * c0 + d, by rw [lit_n 4, pk_mul, nI_add, Nat.mul_comm], by omega, ?_⟩
    rw [hfr (4 * c0 + d) (by omega)]
    refine le0_n (by omega) (fun w => nm_r (nI_1 d) ⟨_, hmu2, ⟨d + 1, n, ca, q, rfl, y, rfl, hin, hB, hfc, hfq, hP, hc0, bfD_suc hD (fun w2 => by omega)⟩, rfl⟩) (fun w => ?_)
    obtain ⟨k1, _, k3⟩ := wf_ok hR hc120 y (by omega)
    refine s1_beside hc120 y k3 (s1_reach (by omega) k1 hfc hfq (bf_le hB k1) (fun e => (bf_add hB k1 e (Or.inr ⟨y, i, hin, by rw [hc0], by rw [hc0]; omega⟩)).1) (fun e => nm_r (nI_1 d) ⟨_, hmu2, ⟨d + 1, n, ca, q, rfl, y, rfl, hin, hB, hfc, hfq, hP, hc0, bfD_suc hD (fun _ => e)⟩, rfl⟩) (fun e fc' fq' hfc' hfq' => nm_r (nI_1 d) ⟨_, hmu2, ⟨d + 1, n + 1, updN ca (nbC c0 d) d, updN q n (nbC c0 d), rfl, y, rfl, by omega, (bf_add hB k1 e (Or.inr ⟨y, i, hin, by rw [hc0], by rw [hc0]; omega⟩)).2, hfc', hfq', bfP_add (by omega) (by omega) hP, by rw [updN_n (by omega)]; exact hc0, bfD_suc (bfD_add (by omega) hD) (fun _ => by rw [updN_s]; omega)⟩, rfl⟩))
  · have hmu : 120 - (nI (t + 1)).toInt.toNat < 120 - (nI t).toInt.toNat := by rw [nI_toInt (by omega), nI_toInt (by omega)]; omega
    have et : 24 * (t / 24) + t % 24 = t := by omega
    have v5 := vs t z
    have v6 := vo (24 * g + t % 24) (by omega)
    have rs : rCa (t + 1) (upd fc t (-1)) (updN ca t 5) := fun c hc => by
      unfold upd updN
      by_cases e : c = t
      · rw [if_pos e, if_pos e]; exact cw_5.symm
      · rw [if_neg e, if_neg e]; exact hfc c (by omega)
    refine ⟨t, rfl, z, nm_r (e' := nI (t % 24)) (by rw [lit_n 24, rem_n (by omega) (by decide) (by decide)]) (nm_r (e' := nI (t / 24)) (by rw [lit_n 24, pk_div (by omega) (by decide) (by decide)]) (s_sortAt hs (by omega) (by omega) ?_))⟩
    rw [et]
    refine pk_ne (so t) 2 (fun a => nm_r (nI_1 t) ⟨_, hmu, ⟨t + 1, n, updN ca t 5, q, rfl, rfl, z, bf_skip hB (fun b => ?_), rs, hfq⟩, rfl⟩) (fun a => s_ownerOf ho hg (by omega) ?_) rfl rfl (by omega) (by omega)
    · rw [← hS] at b; exact a b.2
    refine pk_ne (own ow g (t % 24)) h (fun b => nm_r (nI_1 t) ⟨_, hmu, ⟨t + 1, n, updN ca t 5, q, rfl, rfl, z, bf_skip hB (fun b2 => ?_), rs, hfq⟩, rfl⟩) (fun b => ⟨t, rfl, z, ?_⟩) rfl rfl (by show ow _ < _; omega) (by omega)
    · rw [← hS] at b2; exact b b2.1
    refine bn_t (if_pos rfl) (br_f (nI_ge (b := 120) (by omega) (by decide)) ⟨t, rfl, z, n, rfl, by omega, nm_r (nI_1 n) (nm_r (nI_1 t) ⟨_, hmu, ⟨t + 1, n + 1, updN ca t 4, updN q n t, rfl, rfl, z, bf_src hB (by rw [← hS]; exact ⟨b, a⟩), fun c hc => ?_, fun i hi => ?_⟩, rfl⟩)⟩)
    · show upd (upd fc t (-1)) t _ c = _
      unfold upd updN
      by_cases e : c = t
      · rw [if_pos e, if_pos e]; rfl
      · rw [if_neg e, if_neg e, if_neg e]; exact hfc c (by omega)
    · show upd fq n _ i = _
      unfold upd updN
      by_cases e : i = n
      · rw [if_pos e, if_pos e]
      · rw [if_neg e, if_neg e]; exact hfq i (by omega)
