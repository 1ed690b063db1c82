/-! fences: the reference's search, and the pair -/
theorem s5_goOne {h v : Nat} {so o R : Nat → Nat} {fs fo fb fu ff fq : Nat → Int32} (hs : rep 120 fs (fun k => cde (so k))) (ho : rep 24 fo o) (vs : ∀ k, k < 120 → so k < 5) (vo : ∀ k, k < 24 → o k < 6) (hh : h < 6) (hb : rBe fb R) (hu : rUp fu R) (hfl : flw (mdw so o h) (vin so o h) R v) {K : Int32 → (Nat → Int32) → (Nat → Int32) → (Nat → Int32) → (Nat → Int32) → Prop} (hK0 : ∀ σ ff fq, mxS (mdw so o h) (vin so o h) R σ → K 0 fb fu ff fq) (hK1 : ∀ R' fb' fu' ff fq, flw (mdw so o h) (vin so o h) R' (v + 1) → rBe fb' R' → rUp fu' R' → K 1 fb' fu' ff fq) : wp_X5_goOne fs fo fb fu ff fq (nI h) K := by
  have hR := hfl.1
  obtain ⟨S, hS⟩ : ∃ S, S = mdw so o h := ⟨_, rfl⟩
  obtain ⟨T, hT⟩ : ∃ T, T = vin so o h := ⟨_, rfl⟩
  have hdis : ∀ c, S c → ¬ T c := fun c a b => by rw [hS] at a; rw [hT] at b; exact b.1 a.1
  have sB : ∀ (c : Nat), c < 120 → ∀ K : Int32 → Prop, (S c → K 1) → (¬ S c → K 0) → wp_X5_begins fs fo (nI h) (nI c) K := fun c hc K => by rw [hS]; exact s5_begins hs ho vs vo hh hc
  have sE : ∀ (c : Nat), c < 120 → ∀ K : Int32 → Prop, (T c → K 1) → (¬ T c → K 0) → wp_X5_ends fs fo (nI h) (nI c) K := fun c hc K => by rw [hT]; exact s5_ends hs ho vs vo hh hc
  rw [← hS, ← hT] at hK0 hK1 hfl
  refine lpW4_inv (fun n' x ff fq => ∃ t n ca q, x = nI t ∧ n' = nI n ∧ t ≤ 120 ∧ bfS S R t n ca q ∧ rFr t ff ca ∧ rep n fq q ∧ ∀ i, i < n → S (q i)) (fun _ x _ _ => 120 - x.toInt.toNat) ?_ _ _ _ _ ⟨0, 0, fun _ => 5, fun _ => 0, rfl, rfl, by omega, bf_0 S R _ _, fun c hc => absurd hc (Nat.not_lt_zero c), fun c hc => absurd hc (Nat.not_lt_zero c), fun c hc => absurd hc (Nat.not_lt_zero c)⟩
  clear ff fq
  rintro _ _ ff fq ⟨t, n, ca, q, rfl, rfl, ht, hB, hff, hfq, hSq⟩
  have hnt := bf_n hB
  refine pk_le 120 t (fun z => ?_) (fun z => ⟨t, rfl, z, sB t z _ (fun a => ?_) (fun a => ?_)⟩) rfl rfl (by omega) (by omega)
  · have et : t = 120 := by omega
    subst et
    refine lpW5_inv (fun n' x3 x4 ff fq => ∃ i n ca q, x4 = nI i ∧ n' = nI n ∧ bfS S R 120 n ca q ∧ rFr 120 ff ca ∧ rep n fq q ∧ ((x3 = -6 ∧ i ≤ n ∧ bfP T R ca q i ∧ ∀ i', i' < n → ¬ T (q i')) ∨ (∃ g, g < n ∧ x3 = nI (q g) ∧ T (q g)))) (fun _ _ x4 _ _ => 121 - x4.toInt.toNat) ?_ _ _ _ _ _ ⟨0, n, ca, q, rfl, rfl, hB, hff, hfq, Or.inl ⟨rfl, Nat.zero_le _, fun i hi => absurd hi (Nat.not_lt_zero i), fun i hi => hdis _ (hSq i hi)⟩⟩
    clear hB hff hfq hnt ff fq ca q n hSq
    rintro _ x3 _ ff fq ⟨i, n, ca, q, rfl, rfl, hB, hff, hfq, hx⟩
    have hn120 := bf_n hB
    rcases hx with ⟨rfl, hin, hP, hnT⟩ | ⟨g, hg, rfl, hTg⟩
    · have n6 : ¬ (0 : Int32) ≤ -6 := by decide
      refine pk_le n i (fun y => br_f n6 ?_) (fun y => br_f n6 ?_) rfl rfl (by omega) (by omega)
      · have e : i = n := by omega
        subst e
        obtain ⟨σ, hσ⟩ := bf_end hB hP hR
        exact hK0 σ _ _ hσ
      obtain ⟨c0, hc0⟩ : ∃ c0, c0 = q i := ⟨_, rfl⟩
      have hc120 : c0 < 120 := by rw [hc0]; exact (hB.2.1 i y).1
      refine ⟨i, rfl, by omega, nm_r (e' := nI c0) (by rw [hfq i y, hc0]) ?_⟩
      refine lpW5_inv (fun n' x3 x6 ff fq => ∃ d n ca q, x6 = nI d ∧ d ≤ 4 ∧ n' = nI n ∧ i < n ∧ bfS S R 120 n ca q ∧ rFr 120 ff ca ∧ rep n fq q ∧ q i = c0 ∧ ((x3 = -6 ∧ bfP T R ca q i ∧ (∀ i', i' < n → ¬ T (q i')) ∧ bfD R ca c0 d) ∨ (∃ g, g < n ∧ x3 = nI (q g) ∧ T (q g)))) (fun _ _ x6 _ _ => 4 - x6.toInt.toNat) ?_ _ _ _ _ _ ⟨0, n, ca, q, rfl, by omega, rfl, y, hB, hff, hfq, hc0.symm, Or.inl ⟨rfl, hP, hnT, fun d hd => absurd hd (Nat.not_lt_zero d)⟩⟩
      have hmu : 121 - (nI (i + 1)).toInt.toNat < 121 - (nI i).toInt.toNat := by rw [nI_toInt (by omega), nI_toInt (by omega)]; omega
      clear hB hff hfq hP hc0 hin hn120 y ff fq ca q n hnT
      rintro _ x3 _ ff fq ⟨d, n, ca, q, rfl, hd, rfl, hin, hB, hff, hfq, hc0, hx⟩
      have hn120 := bf_n hB
      rcases hx with ⟨rfl, hP, hnT, hD⟩ | hfound
      · refine pk_le 4 d (fun y => nm_r (nI_1 i) ⟨_, hmu, ⟨i + 1, n, ca, q, rfl, rfl, hB, hff, hfq, Or.inl ⟨rfl, by omega, fun i' hi' => ?_, hnT⟩⟩, rfl⟩) (fun y => br_f n6 ?_) rfl rfl (by omega) (by omega)
        · by_cases e : i' = i
          · rw [e, hc0]
            rw [show d = 4 by omega] at hD
            exact ⟨by rw [← hc0]; exact hnT i hin, hD⟩
          · exact hP i' (by omega)
        have hmu2 : 4 - (nI (d + 1)).toInt.toNat < 4 - (nI d).toInt.toNat := by rw [nI_toInt (by omega), nI_toInt (by omega)]; omega
        refine s5_goes hR hb hu hc120 y (fun w => br_t (by decide) (nm_r (nI_1 d) ⟨_, hmu2, ⟨d + 1, n, ca, q, rfl, y, rfl, hin, hB, hff, hfq, hc0, Or.inl ⟨rfl, hP, hnT, bfD_suc hD (fun w2 => by omega)⟩⟩, rfl⟩)) (fun w k1 => br_f (nI_pos (by omega)) ⟨nbC c0 d, rfl, k1, ?_⟩)
        rw [hff _ k1]
        refine if_iff (fnF_0 (bf_le hB k1) (fun h4 => bf_back hR hB k1 h4)) (fun e => nm_r (nI_1 d) ⟨_, hmu2, ⟨d + 1, n, ca, q, rfl, y, rfl, hin, hB, hff, hfq, hc0, Or.inl ⟨rfl, hP, hnT, bfD_suc hD (fun _ => e)⟩⟩, rfl⟩) (fun e' => ?_)
        have e : ca (nbC c0 d) = 5 := Decidable.of_not_not e'
        obtain ⟨_, k2, k3⟩ := wf_ok hR hc120 y w
        obtain ⟨hn', hB'⟩ := bf_add hB k1 e (Or.inr ⟨y, i, hin, by rw [hc0], by rw [hc0]; exact w⟩)
        have ef : (4 : Int32) * nI c0 + nI d = fnF d (nbC c0 d) := by
          unfold fnF
          rw [if_neg (by omega), if_neg (by omega), nb_op y k3, lit_n 4, pk_mul, nI_add]
        have r1 : rFr 120 (upd ff (nbC c0 d) (fnF d (nbC c0 d))) (updN ca (nbC c0 d) d) := fun x hx => by
          unfold upd updN
          by_cases z : x = nbC c0 d
          · rw [if_pos z, if_pos z, z]
          · rw [if_neg z, if_neg z]; exact hff x hx
        have r2 : rep (n + 1) (upd fq n (nI (nbC c0 d))) (updN q n (nbC c0 d)) := fun x hx => by
          unfold upd updN
          by_cases z : x = n
          · rw [if_pos z, if_pos z]
          · rw [if_neg z, if_neg z]; exact hfq x (by omega)
        have r3 : updN q n (nbC c0 d) i = c0 := by rw [updN_n (by omega)]; exact hc0
        refine nm_r ef ⟨nbC c0 d, rfl, k1, n, rfl, hn', nm_r (nI_1 n) (sE _ k1 _ (fun a => br_f (by decide) (nm_r (nI_1 d) ⟨_, hmu2, ⟨d + 1, n + 1, updN ca (nbC c0 d) d, updN q n (nbC c0 d), rfl, y, rfl, by omega, hB', r1, r2, r3, Or.inr ⟨n, by omega, by rw [updN_s], by rw [updN_s]; exact a⟩⟩, rfl⟩)) (fun a => br_t rfl (nm_r (nI_1 d) ⟨_, hmu2, ⟨d + 1, n + 1, updN ca (nbC c0 d) d, updN q n (nbC c0 d), rfl, y, rfl, by omega, hB', r1, r2, r3, Or.inl ⟨rfl, bfP_add (by omega) (by omega) hP, fun i' hi' => ?_, bfD_suc (bfD_add (by omega) hD) (fun _ => by rw [updN_s]; omega)⟩⟩, rfl⟩)))⟩
        by_cases z : i' = n
        · rw [z, updN_s]; exact a
        · rw [updN_n z]; exact hnT i' (by omega)
      · have go : ∀ n10 : Int32, n10 = nI i + (1 : Int32) → _ := nm_r (P := fun n10 => ∃ k, k < 121 - (nI i).toInt.toNat ∧ ((∃ i n' ca q, n10 = nI i ∧ nI n = nI n' ∧ bfS S R 120 n' ca q ∧ rFr 120 ff ca ∧ rep n' fq q ∧ ((x3 = -6 ∧ i ≤ n' ∧ bfP T R ca q i ∧ ∀ i', i' < n' → ¬ T (q i')) ∨ (∃ g, g < n' ∧ x3 = nI (q g) ∧ T (q g)))) ∧ 121 - n10.toInt.toNat = k)) (nI_1 i) ⟨_, hmu, ⟨i + 1, n, ca, q, rfl, rfl, hB, hff, hfq, Or.inr hfound⟩, rfl⟩
        obtain ⟨g, hg, rfl, hTg⟩ := hfound
        have hqg := (hB.2.1 g hg).1
        exact br_c (fun _ => go) (fun _ => br_t (nI_pos' (by omega)) go)
    · have hqg := (hB.2.1 g hg).1
      have tr := s5_trace hB hg hff hb hu hfl hTg (fun R' fb' fu' h1 h2 h3 => hK1 R' fb' fu' ff fq h1 h2 h3)
      have p0 : (0 : Int32) ≤ nI (q g) := nI_pos' (by omega)
      exact br_c (fun _ => br_t p0 tr) (fun _ => br_t p0 (br_t p0 tr))
  · have hmu : 120 - (nI (t + 1)).toInt.toNat < 120 - (nI t).toInt.toNat := by rw [nI_toInt (by omega), nI_toInt (by omega)]; omega
    refine br_f (by decide) ⟨t, rfl, z, n, rfl, by omega, nm_r (nI_1 n) (nm_r (nI_1 t) ⟨_, hmu, ⟨t + 1, n + 1, updN ca t 4, updN q n t, rfl, rfl, z, bf_src hB a, fun c hc => ?_, fun i hi => ?_, fun i hi => ?_⟩, rfl⟩)⟩
    · show upd (upd ff t (-6)) t _ c = _
      unfold upd updN
      by_cases e : c = t
      · rw [if_pos e, if_pos e]; rfl
      · rw [if_neg e, if_neg e, if_neg e]; exact hff c (by omega)
    · show upd fq n _ i = _
      unfold upd updN
      by_cases e : i = n
      · rw [if_pos e, if_pos e]
      · rw [if_neg e, if_neg e]; exact hfq i (by omega)
    · by_cases e : i = n
      · rw [e, updN_s]; exact a
      · rw [updN_n e]; exact hSq i (by omega)
  · have hmu : 120 - (nI (t + 1)).toInt.toNat < 120 - (nI t).toInt.toNat := by rw [nI_toInt (by omega), nI_toInt (by omega)]; omega
    refine br_t rfl (nm_r (nI_1 t) ⟨_, hmu, ⟨t + 1, n, updN ca t 5, q, rfl, rfl, z, bf_skip hB a, fun c hc => ?_, hfq, hSq⟩, rfl⟩)
    show upd ff t (-6) c = _
    unfold upd updN
    by_cases e : c = t
    · rw [if_pos e, if_pos e]; rfl
    · rw [if_neg e, if_neg e]; exact hff c (by omega)
theorem s5_fence {h : Nat} {so o : Nat → Nat} {fs fo fb fu ff fq : Nat → Int32} (hs : rep 120 fs (fun k => cde (so k))) (ho : rep 24 fo o) (vs : ∀ k, k < 120 → so k < 5) (vo : ∀ k, k < 24 → o k < 6) (hh : h < 6) {K : Int32 → (Nat → Int32) → (Nat → Int32) → (Nat → Int32) → (Nat → Int32) → Prop} (hK : ∀ v R σ fb' fu' ff' fq', flw (mdw so o h) (vin so o h) R v → mxS (mdw so o h) (vin so o h) R σ → K (nI v) fb' fu' ff' fq') : wp_X5_fence fs fo fb fu ff fq (nI h) K := by
  have hdis : ∀ c, c < 120 → mdw so o h c → ¬ vin so o h c := fun c _ a b => b.1 a.1
  refine s5_isHeir_t hh (bn_f (by decide) ?_)
  refine lpW3_inv (fun x fb fu => ∃ t, x = nI t ∧ t ≤ 120 ∧ (∀ c, c < t → fb c = 0) ∧ ∀ c, c < t → fu c = 0) (fun x _ _ => 120 - x.toInt.toNat) ?_ _ _ _ ⟨0, rfl, by omega, fun c hc => absurd hc (Nat.not_lt_zero c), fun c hc => absurd hc (Nat.not_lt_zero c)⟩
  clear fb fu
  rintro _ fb fu ⟨t, rfl, ht, hb, hu⟩
  refine pk_le 120 t (fun z => ?_) (fun z => ⟨t, rfl, z, t, rfl, z, nm_r (nI_1 t) ⟨_, ?_, ⟨t + 1, rfl, z, fun c hc => ?_, fun c hc => ?_⟩, rfl⟩⟩) rfl rfl (by omega) (by omega)
  · refine lpW5_inv (fun x fb fu _ _ => ∃ v R, x = nI v ∧ flw (mdw so o h) (vin so o h) R v ∧ rBe fb R ∧ rUp fu R) (fun x _ _ _ _ => 721 - x.toInt.toNat) ?_ _ _ _ _ _ ⟨0, rmZ, rfl, fl_0 _ _, fun c hc => ?_, fun c hc => ?_⟩
    · clear hb hu fb fu ff fq
      rintro _ fb fu ff fq ⟨v, R, rfl, hfl, hb, hu⟩
      refine s5_goOne hs ho vs vo hh hb hu hfl (fun σ ff' fq' hσ => br_t rfl (hK v R σ _ _ _ _ hfl hσ)) (fun R' fb' fu' ff' fq' hfl' hb' hu' => br_f (by decide) (nm_r (nI_1 v) ⟨_, ?_, ⟨v + 1, R', rfl, hfl', hb', hu'⟩, rfl⟩))
      have h720 := fl_720 hfl' hdis
      show 721 - (nI (v + 1)).toInt.toNat < 721 - (nI v).toInt.toNat
      rw [nI_toInt (by omega), nI_toInt (by omega)]; omega
    · rw [hb c (by omega)]
      unfold rmZ
      rw [if_pos (by omega)]; decide
    · rw [hu c (by omega)]
      unfold rmZ
      rw [if_neg (by omega), if_pos (by omega), if_pos (by omega), show (4 * c + 2) / 4 = c by omega]
      exact (Int32.sub_self _).symm
  · show 120 - (nI (t + 1)).toInt.toNat < 120 - (nI t).toInt.toNat
    rw [nI_toInt (by omega), nI_toInt (by omega)]; omega
  · show upd fb t 0 c = 0
    unfold upd
    by_cases e : c = t
    · rw [if_pos e]
    · rw [if_neg e]; exact hb c (by omega)
  · show upd fu t 0 c = 0
    unfold upd
    by_cases e : c = t
    · rw [if_pos e]
    · rw [if_neg e]; exact hu c (by omega)
theorem p_fence {g : Nat} {x1 vq : Int32} {so ow : Nat → Nat} {fs fo fr fc fq fg ms mo mb mu mf mq : Nat → Int32} (hs : rep 120 fs so) (hms : rep 120 ms (fun k => cde (so k))) (ho : rep 504 fo ow) (hmo : rep 24 mo (own ow g)) (vs : ∀ k, k < 120 → so k < 5) (vo : ∀ k, k < 504 → ow k < 6) (hg : g ≤ 20) : wp_X4_fence (nI g) fs fo vq fr fc fq fg x1 (fun r _ _ _ _ _ => wp_X5_fence ms mo mb mu mf mq x1 (fun r2 _ _ _ _ => r = r2)) := by
  have vo' : ∀ s, s < 24 → own ow g s < 6 := fun s hs => vo _ (by omega)
  rcases pk_ix' x1 6 (by decide) with h | h | ⟨j, hj, rfl⟩
  · exact s4_isHeir_f (Or.inl h) (br_t rfl (s5_isHeir_f (Or.inl h) (bn_t rfl rfl)))
  · exact s4_isHeir_f (Or.inr h) (br_t rfl (s5_isHeir_f (Or.inr h) (bn_t rfl rfl)))
  refine s4_isHeir_t hj (br_f (by decide) (s1_len hs ho vs vo hg hj (fun v R σ q' fr' fc' fq' fg' hfl hσ => s5_fence hms hmo vs vo' hj (fun v' R' σ' fb' fu' ff' fq'' hfl' hσ' => ?_))))
  have l1 := fl_le hfl hσ hfl'
  have l2 := fl_le hfl' hσ' hfl
  rw [show v = v' by omega]
