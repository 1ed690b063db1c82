/-! fences: the class streams, and its length -/
theorem pushI {R : Nat → Nat} {fr : Nat → Int32} {p d m : Nat} (hf : rep 480 fr R) (hp : p < 120) (hd : d < 4) (hq : nbC p d < 120) (hm : m ≤ R (4 * p + d)) : rep 480 (upd (upd fr (4 * nbC p d + opD d) (nI (R (4 * nbC p d + opD d) + m))) (4 * p + d) (nI (R (4 * p + d) - m))) (push R p d m) := fun i hi => by
  unfold upd push
  by_cases e : i = 4 * p + d
  · rw [if_pos e, if_pos e, e]
  · rw [if_neg e, if_neg e]
    by_cases e2 : i = 4 * nbC p d + opD d
    · rw [if_pos e2, if_pos e2, e2]
    · rw [if_neg e2, if_neg e2]; exact hf i hi
theorem back_ok {R : Nat → Nat} {p c d : Nat} (hR : wfR R) (hp : p < 120) (hd : d < 4) (h0 : 0 < R (4 * p + d)) (e : nbC p d = c) : nbC c (opD d) = p ∧ (opD d = 3 → 24 ≤ c) ∧ 4 * c + opD d ≠ 4 * p + d := by
  obtain ⟨k1, k2, k3⟩ := wf_ok hR hp hd h0
  refine ⟨by rw [← e]; exact nb_op hd k3, fun z => ?_, ?_⟩
  · rcases (show d = 0 ∨ d = 1 ∨ d = 2 ∨ d = 3 by omega) with rfl | rfl | rfl | rfl
    · exact absurd z (by decide)
    · exact absurd z (by decide)
    · rw [nbC_2] at e; omega
    · exact absurd z (by decide)
  · rcases (show d = 0 ∨ d = 1 ∨ d = 2 ∨ d = 3 by omega) with rfl | rfl | rfl | rfl
    · show 4 * c + 1 ≠ 4 * p + 0; omega
    · show 4 * c + 0 ≠ 4 * p + 1; omega
    · show 4 * c + 3 ≠ 4 * p + 2; omega
    · show 4 * c + 2 ≠ 4 * p + 3; omega
theorem came_4 {x : Nat} (h : x ≤ 5) : fnW x = (4 : Int32) ↔ x = 4 := by
  rcases (show x = 0 ∨ x = 1 ∨ x = 2 ∨ x = 3 ∨ x = 4 ∨ x = 5 by omega) with rfl | rfl | rfl | rfl | rfl | rfl <;> decide
theorem s1_stream {S T : Nat → Prop} {R ca q : Nat → Nat} {n g v : Nat} {fr fc : Nat → Int32} (hB : bfS S R 120 n ca q) (hg : g < n) (hfc : rCa 120 fc ca) (hfr : rep 480 fr R) (hfl : flw S T R v) (hT : T (q g)) {K : Int32 → (Nat → Int32) → Prop} (hK : ∀ m R' fr', 0 < m → m ≤ 1000 → rep 480 fr' R' → flw S T R' (v + m) → K (nI m) fr') : wp_X1_streamTo fr fc (nI (q g)) K := by
  have hR := hfl.1
  have hn := bf_n hB
  have hq : ∀ i, i < n → q i < 120 := fun i hi => (hB.2.1 i hi).1
  /- the second loop -/
  have lp2 : ∀ m F, 0 < m → m ≤ 1000 → F ≤ 120 → wyB R ca q m F g → lpW3 (wb_X1_streamTo_71 fc (nI m) K) (nI (q g)) 0 fr := fun m F hm0 hm1 hF hw => by
    refine lpW3_inv (fun x y f' => ∃ j s F R', x = nI (q j) ∧ y = nI s ∧ j < n ∧ s + F ≤ 120 ∧ rep 480 f' R' ∧ wfR R' ∧ (∀ σ, net R' σ = net R σ + m * (σ (q j) - σ (q g))) ∧ wyB R' ca q m F j) (fun _ y _ => 120 - y.toInt.toNat) ?_ _ _ _ ⟨g, 0, F, R, rfl, rfl, hg, by omega, hfr, hR, fun σ => by rw [Int.sub_self, Int.mul_zero, Int.add_zero], hw⟩
    rintro _ _ f' ⟨j, s, F, R', rfl, rfl, hj, hsF, hf', hR', hnet, hw'⟩
    have hqj := hq j hj
    have ca5 := bf_le hB hqj
    refine ⟨q j, rfl, hqj, ?_⟩
    rw [hfc _ hqj]
    refine br_c (fun z => ?_) (fun z => ?_)
    · have e4 := (came_4 ca5).mp z
      refine hK m R' f' hm0 hm1 hf' ⟨hR', fun σ hσ => ?_⟩
      have eS : S (q j) := by
        rcases hB.2.2.2.1 j hj with y | y
        · exact y.2
        · omega
      rw [hnet σ, hfl.2 σ hσ, hσ.2.1 _ hqj eS, hσ.2.2 _ (hq g hg) hT]
      omega
    cases F with
    | zero => exact absurd hw' (fun y => y)
    | succ F =>
      rcases hw' with y | ⟨hd, i, hij, k1, k2, k3⟩
      · exact absurd ((came_4 ca5).mpr y) z
      obtain ⟨d, hde⟩ : ∃ d, d = ca (q j) := ⟨_, rfl⟩
      rw [← hde] at hd k1 k2
      have hF0 : 0 < F := by
        rcases Nat.eq_zero_or_pos F with w | w
        · subst w; exact absurd k3 (fun y => y)
        · exact w
      have hqi := hq i (by omega)
      obtain ⟨b1, b2, b3⟩ := back_ok hR' hqi hd (by omega) k1
      have hw10 := wf_10 hR' hqi hd
      obtain ⟨p1, p2⟩ := push_ok hR' hqi hd hm0 k2
      have ho := @opD_lt d
      have ecw : fnW d = nI d := cw_n (by omega)
      refine br_f (nI_ge (b := 120) (by omega) (by decide)) ⟨q j, rfl, hqj, nm_r (e' := nI d) (by rw [hfc _ hqj, ← hde, ecw]) (s1_opp hd ⟨4 * q j + opD d, by rw [lit_n 4, pk_mul, nI_add, Nat.mul_comm], by omega, nm_r (e' := nI (R' (4 * q j + opD d) + m)) (by rw [hf' _ (by omega), nI_add]) ⟨4 * q j + opD d, by rw [lit_n 4, pk_mul, nI_add, Nat.mul_comm], by omega, s1_opp hd (s1_beside hqj ho b2 ?_)⟩⟩)⟩
      rw [b1]
      refine ⟨4 * q i + d, by rw [lit_n 4, pk_mul, nI_add, Nat.mul_comm], by omega, nm_r (e' := nI (R' (4 * q i + d) - m)) ?_ ⟨4 * q i + d, by rw [lit_n 4, pk_mul, nI_add, Nat.mul_comm], by omega, nm_r (nI_1 s) ⟨_, ?_, ⟨i, s + 1, F, push R' (q i) d m, rfl, rfl, by omega, by omega, ?_, p1, fun σ => ?_, ?_⟩, rfl⟩⟩⟩
      · unfold upd
        rw [if_neg (fun w => b3 w.symm), hf' _ (by omega), pk_sub k2]
      · show 120 - (nI (s + 1)).toInt.toNat < 120 - (nI s).toInt.toNat
        rw [nI_toInt (by omega), nI_toInt (by omega)]; omega
      · have := pushI hf' hqi hd (by rw [k1]; exact hqj) k2
        rw [k1] at this; exact this
      · rw [p2 σ, k1, hnet σ, Int.add_assoc, ← Int.mul_add]
        congr 2
        omega
      · exact wyB_cong (fun k hk d' hd' => (push_far hB.2.2.2.2.2 hj hij hk hd hd' k1).symm) k3
  /- the first loop -/
  refine lpW3_inv (fun x y w => ∃ m j s f, x = nI m ∧ y = nI (q j) ∧ w = nI s ∧ 0 < m ∧ m ≤ 1000 ∧ j < n ∧ s + f ≤ 120 ∧ wyB R ca q 1 f j ∧ ∀ m', m' ≤ m → ∀ f', wyB R ca q m' f' j → wyB R ca q m' (s + f') g) (fun _ _ w => 120 - w.toInt.toNat) ?_ _ _ _ ⟨1000, g, 0, g + 1, rfl, rfl, rfl, by omega, by omega, hg, by omega, wyB_1 hB (g + 1) g (by omega) hg, fun m' _ f' hf' => by rw [Nat.zero_add]; exact hf'⟩
  rintro _ _ _ ⟨m, j, s, f, rfl, rfl, rfl, hm0, hm1, hj, hsf, hw, hall⟩
  have hqj := hq j hj
  have ca5 := bf_le hB hqj
  cases f with
  | zero => exact absurd hw (fun y => y)
  | succ f =>
    refine ⟨q j, rfl, hqj, ?_⟩
    rw [hfc _ hqj]
    refine br_c (fun z => ?_) (fun z => ?_)
    · have e4 := (came_4 ca5).mp z
      exact lp2 m (s + 1) hm0 hm1 (by omega) (hall m (Nat.le_refl m) 1 (Or.inl e4))
    rcases hw with y | ⟨hd, i, hij, k1, k2, k3⟩
    · exact absurd ((came_4 ca5).mpr y) z
    obtain ⟨d, hde⟩ : ∃ d, d = ca (q j) := ⟨_, rfl⟩
    have hf0 : 0 < f := by
      rcases Nat.eq_zero_or_pos f with w | w
      · subst w; exact absurd k3 (fun y => y)
      · exact w
    have hqi := hq i (by omega)
    rw [← hde] at hd k1 k2
    obtain ⟨b1, b2, b3⟩ := back_ok hR hqi hd (by omega) k1
    have hw10 := wf_10 hR hqi hd
    have ho := @opD_lt d
    have ecw : fnW d = nI d := cw_n (by omega)
    refine br_f (nI_ge (b := 120) (by omega) (by decide)) ⟨q j, rfl, hqj, nm_r (e' := nI d) (by rw [hfc _ hqj, ← hde, ecw]) (s1_opp hd (s1_beside hqj ho b2 ?_))⟩
    rw [b1]
    refine ⟨4 * q i + d, by rw [lit_n 4, pk_mul, nI_add, Nat.mul_comm], by omega, nm_r (e' := nI (min m (R (4 * q i + d)))) (by rw [hfr _ (by omega)]; exact iMi_n (by omega) (by omega)) (nm_r (nI_1 s) ⟨_, ?_, ⟨min m (R (4 * q i + d)), i, s + 1, f, rfl, rfl, rfl, by omega, by omega, by omega, by omega, k3, fun m' hm' f' hf' => ?_⟩, rfl⟩)⟩
    · show 120 - (nI (s + 1)).toInt.toNat < 120 - (nI s).toInt.toNat
      rw [nI_toInt (by omega), nI_toInt (by omega)]; omega
    · rw [show s + 1 + f' = s + (f' + 1) by omega]
      exact hall m' (by omega) (f' + 1) (Or.inr ⟨by rw [← hde]; exact hd, i, hij, by rw [← hde]; exact k1, by rw [← hde]; omega, hf'⟩)
theorem s1_open {c : Nat} {f : Nat → Int32} (hc : c < 120) {K : (Nat → Int32) → Prop} (hK : ∀ f', (∀ i, i < 4 * c → f' i = f i) → (∀ d, d < 4 → f' (4 * c + d) = nI (rmZ (4 * c + d))) → K f') : wp_X1_openSides f (nI c) (nI (c / 24)) K := by
  have ix : ∀ k : Nat, nI c * (4 : Int32) + nI k = nI (4 * c + k) := fun k => by rw [lit_n 4, pk_mul, nI_add, Nat.mul_comm]
  have fin : ∀ x2 x3 : Int32, x2 = nI (rmZ (4 * c + 2)) → x3 = nI (rmZ (4 * c + 3)) → K (upd (upd (upd (upd f (4 * c + 0) 2) (4 * c + 1) 2) (4 * c + 2) x2) (4 * c + 3) x3) := fun x2 x3 e2 e3 => by
    refine hK _ (fun i hi => ?_) (fun d hd => ?_)
    · unfold upd
      rw [if_neg (by omega), if_neg (by omega), if_neg (by omega), if_neg (by omega)]
    · rcases (show d = 0 ∨ d = 1 ∨ d = 2 ∨ d = 3 by omega) with rfl | rfl | rfl | rfl
      · unfold upd
        rw [if_neg (by omega), if_neg (by omega), if_neg (by omega), if_pos rfl]
        unfold rmZ; rw [if_pos (by omega)]; rfl
      · unfold upd
        rw [if_neg (by omega), if_neg (by omega), if_pos rfl]
        unfold rmZ; rw [if_pos (by omega)]; rfl
      · unfold upd
        rw [if_neg (by omega), if_pos rfl, e2]
      · unfold upd
        rw [if_pos rfl, e3]
  have e3 : rmZ (4 * c + 3) = if 24 ≤ c then 6 - c / 24 else 0 := by
    unfold rmZ; rw [if_neg (by omega), if_neg (by omega), show (4 * c + 3) / 4 = c by omega]
  have e2 : rmZ (4 * c + 2) = if c < 96 then 5 - c / 24 else 0 := by
    unfold rmZ; rw [if_neg (by omega), if_pos (by omega), show (4 * c + 2) / 4 = c by omega]
  have st : ∀ x2 : Int32, x2 = nI (rmZ (4 * c + 2)) → wj_X1_openSides_45 (upd (upd f (4 * c + 0) 2) (4 * c + 1) 2) (nI c) (nI (c / 24)) (nI c * (4 : Int32) + (2 : Int32)) x2 K := fun x2 hx => by
    refine ⟨4 * c + 2, ix 2, by omega, pk_le (c / 24) 0 (fun z => ⟨4 * c + 3, ix 3, by omega, fin x2 0 hx ?_⟩) (fun z => nm_r (e' := nI (6 - c / 24)) ?_ ⟨4 * c + 3, ix 3, by omega, fin x2 _ hx ?_⟩) rfl rfl (by omega) (by omega)⟩
    · rw [e3, if_neg (by omega)]; rfl
    · rw [lit_n 5, lit_n 1, pk_sub (by omega), pk_sub (by omega)]; congr 1; omega
    · rw [e3, if_pos (by omega)]
  refine ⟨4 * c + 0, ix 0, by omega, 4 * c + 1, ix 1, by omega, pk_le 5 (c / 24 + 1) (fun z => st 0 ?_) (fun z => st _ ?_) rfl (nI_1 _) (by omega) (by omega)⟩
  · rw [e2, if_neg (by omega)]; rfl
  · rw [e2, if_pos (by omega), lit_n 5, pk_sub (by omega)]
theorem s1_len {g h : Nat} {so ow : Nat → Nat} {vq : Int32} {fs fo fr fc fq fg : Nat → Int32} (hs : rep 120 fs so) (ho : rep 504 fo ow) (vs : ∀ k, k < 120 → so k < 5) (vo : ∀ k, k < 504 → ow k < 6) (hg : g ≤ 20) (hh : h < 6) {K : Int32 → Int32 → (Nat → Int32) → (Nat → Int32) → (Nat → Int32) → (Nat → Int32) → Prop} (hK : ∀ v R σ q' fr' fc' fq' fg', flw (mdw so (own ow g) h) (vin so (own ow g) h) R v → mxS (mdw so (own ow g) h) (vin so (own ow g) h) R σ → K (nI v) q' fr' fc' fq' fg') : wp_X1_lengthFor vq fr fc fq fg (nI g) fs fo (nI h) K := by
  have hdis : ∀ c, c < 120 → mdw so (own ow g) h c → ¬ vin so (own ow g) h c := fun c _ a b => b.1 a.1
  /- the streams -/
  have lp : ∀ fr fg, rep 480 fr rmZ → (∀ c, c < 120 → (vin so (own ow g) h c → fg c = 1) ∧ (¬ vin so (own ow g) h c → fg c = 0)) → lpW6 (wb_X1_lengthFor_82 fg (nI g) fs fo (nI h) K) 0 0 vq fr fc fq := fun fr fg hfr hfg => by
    refine lpW6_inv (fun x y _ fr _ _ => ∃ v s R, x = nI v ∧ y = nI s ∧ s ≤ v ∧ s ≤ 1000 ∧ rep 480 fr R ∧ flw (mdw so (own ow g) h) (vin so (own ow g) h) R v) (fun _ y _ _ _ _ => 1000 - y.toInt.toNat) ?_ _ _ _ _ _ _ ⟨0, 0, rmZ, rfl, rfl, Nat.le_refl 0, by omega, hfr, fl_0 _ _⟩
    clear hfr fr fc fq vq
    rintro _ _ vq fr fc fq ⟨v, s, R, rfl, rfl, hsv, hs1, hfr, hfl⟩
    have h720 := fl_720 hfl hdis
    refine pk_le 1000 s (fun z => by omega) (fun z => s1_seek hs ho vs vo hg hh hfl.1 hfr hfg (fun σ n fc' fq' hσ => ?_) (fun i n ca q n' fc' fq' hB hi hT hfc => ?_)) rfl rfl (by omega) (by omega)
    · exact bn_t rfl (hK v R σ _ _ _ _ _ hfl hσ)
    · have hqi := (hB.2.1 i hi).1
      have hne : ¬ nI (q i) = (-6 : Int32) := fun y => by
        have := congrArg Int32.toInt y
        rw [nI_toInt (by omega), show (-6 : Int32).toInt = -6 by decide] at this
        omega
      refine bn_f hne (s1_stream hB hi hfc hfr hfl hT (fun m R' fr' hm0 hm1 hfr' hfl' => nm_r (nI_add v m) (nm_r (nI_1 s) ⟨_, ?_, ⟨v + m, s + 1, R', rfl, rfl, by omega, by omega, hfr', hfl'⟩, rfl⟩)))
      show 1000 - (nI (s + 1)).toInt.toNat < 1000 - (nI s).toInt.toNat
      rw [nI_toInt (by omega), nI_toInt (by omega)]; omega
  /- the goals and the rooms -/
  have row : ∀ (c : Nat) (fr fg : Nat → Int32) (x : Nat) (fr' : Nat → Int32) (w : Int32), (∀ i, i < 4 * c → fr i = nI (rmZ i)) → (∀ x, x < c → (vin so (own ow g) h x → fg x = 1) ∧ (¬ vin so (own ow g) h x → fg x = 0)) → (∀ i, i < 4 * c → fr' i = fr i) → (∀ d, d < 4 → fr' (4 * c + d) = nI (rmZ (4 * c + d))) → ((vin so (own ow g) h c → w = 1) ∧ (¬ vin so (own ow g) h c → w = 0)) → x < c + 1 → (∀ i, i < 4 * (c + 1) → fr' i = nI (rmZ i)) ∧ ((vin so (own ow g) h x → upd fg c w x = 1) ∧ (¬ vin so (own ow g) h x → upd fg c w x = 0)) := fun c fr fg x fr' w h1 h2 h3 h4 h5 hx => by
    refine ⟨fun i hi => ?_, ?_⟩
    · by_cases e : i < 4 * c
      · rw [h3 i e]; exact h1 i e
      · have := h4 (i - 4 * c) (by omega)
        rw [show 4 * c + (i - 4 * c) = i by omega] at this; exact this
    · unfold upd
      by_cases e : x = c
      · rw [if_pos e, e]; exact h5
      · rw [if_neg e]; exact h2 x (by omega)
  refine lpW3_inv (fun x fr fg => ∃ r, x = nI r ∧ r ≤ 5 ∧ (∀ i, i < 4 * (24 * r) → fr i = nI (rmZ i)) ∧ ∀ x, x < 24 * r → (vin so (own ow g) h x → fg x = 1) ∧ (¬ vin so (own ow g) h x → fg x = 0)) (fun x _ _ => 5 - x.toInt.toNat) ?_ _ _ _ ⟨0, rfl, by omega, fun i hi => by omega, fun i hi => by omega⟩
  clear fr fg
  rintro _ fr fg ⟨r, rfl, hr, h1, h2⟩
  refine pk_le 5 r (fun z => lp fr fg (fun i hi => h1 i (by omega)) (fun c hc => h2 c (by omega))) (fun z => ?_) rfl rfl (by omega) (by omega)
  refine lpW3_inv (fun x fr fg => ∃ s, x = nI s ∧ s ≤ 24 ∧ (∀ i, i < 4 * (24 * r + s) → fr i = nI (rmZ i)) ∧ ∀ x, x < 24 * r + s → (vin so (own ow g) h x → fg x = 1) ∧ (¬ vin so (own ow g) h x → fg x = 0)) (fun x _ _ => 24 - x.toInt.toNat) ?_ _ _ _ ⟨0, rfl, by omega, h1, h2⟩
  clear h1 h2 fr fg
  rintro _ fr fg ⟨s, rfl, hs24, h1, h2⟩
  refine pk_le 24 s (fun y => nm_r (nI_1 r) ⟨_, ?_, ⟨r + 1, rfl, z, fun i hi => h1 i (by omega), fun x hx => h2 x (by omega)⟩, rfl⟩) (fun y => ?_) rfl rfl (by omega) (by omega)
  · show 5 - (nI (r + 1)).toInt.toNat < 5 - (nI r).toInt.toNat
    rw [nI_toInt (by omega), nI_toInt (by omega)]; omega
  have hmu : 24 - (nI (s + 1)).toInt.toNat < 24 - (nI s).toInt.toNat := by rw [nI_toInt (by omega), nI_toInt (by omega)]; omega
  obtain ⟨c, hc⟩ : ∃ c, c = 24 * r + s := ⟨_, rfl⟩
  have hc120 : c < 120 := by omega
  have em : c % 24 = s := by omega
  have ed : c / 24 = r := by omega
  rw [← hc] at h1 h2
  have v5 := vs c hc120
  have v6 := vo (24 * g + s) (by omega)
  have vn : vin so (own ow g) h c ↔ own ow g s ≠ h ∧ so c = 0 := by unfold vin; rw [em]
  have go : ∀ w : Int32, ((vin so (own ow g) h c → w = 1) ∧ (¬ vin so (own ow g) h c → w = 0)) → wp_X1_openSides fr (nI c) (nI r) (fun u => ∀ n14 : Int32, n14 = nI s + 1 → ∃ k, k < 24 - (nI s).toInt.toNat ∧ ((∃ s, n14 = nI s ∧ s ≤ 24 ∧ (∀ i, i < 4 * (24 * r + s) → u i = nI (rmZ i)) ∧ ∀ x, x < 24 * r + s → (vin so (own ow g) h x → upd fg c w x = 1) ∧ (¬ vin so (own ow g) h x → upd fg c w x = 0)) ∧ 24 - n14.toInt.toNat = k)) := fun w hw => by
    rw [← ed]
    refine s1_open hc120 (fun f' q1 q2 => nm_r (nI_1 s) ⟨_, hmu, ⟨s + 1, rfl, y, ?_, fun x hx => ?_⟩, rfl⟩)
    · rw [ed, show 24 * r + (s + 1) = c + 1 by omega]
      exact (row c fr fg c f' w h1 h2 q1 q2 hw (by omega)).1
    · rw [ed] at hx
      exact (row c fr fg x f' w h1 h2 q1 q2 hw (by omega)).2
  refine nm_r (e' := nI c) (by rw [lit_n 24, pk_mul, nI_add, Nat.mul_comm, hc]) (s_sortAt hs z y ?_)
  rw [← hc]
  refine pk_ne (so c) 0 (fun a => ⟨c, rfl, hc120, go (vp_nar .boolean 0) ⟨fun b => absurd (vn.mp b).2 a, fun _ => rfl⟩⟩) (fun a => s_ownerOf ho hg y ?_) rfl rfl (by omega) (by omega)
  exact pk_eq (own ow g s) h (fun b => ⟨c, rfl, hc120, go (vp_nar .boolean 0) ⟨fun b2 => absurd b (vn.mp b2).1, fun _ => rfl⟩⟩) (fun b => ⟨c, rfl, hc120, go (vp_nar .boolean 1) ⟨fun _ => rfl, fun b2 => absurd (vn.mpr ⟨b, a⟩) b2⟩⟩) rfl rfl (by show ow _ < _; omega) (by omega)
