/-! cuts: the reference's search, and the pairs -/
theorem s5_toldC {n cur : Nat} {bs os : Nat → Nat} {i r : Int32} {ffb ffo : Nat → Int32} (hn2 : 2 ≤ n) (hn : n ≤ 4) (hr : 0 < cur → rep n ffb bs ∧ rep n ffo os) {K : Int32 → Prop} (hK : K (cAns r n cur bs os i)) : wp_X5_toldCut ffb ffo (nI n) i (bI (decide (0 < cur))) r K := by
  unfold cAns at hK
  by_cases h0 : cur = 0
  · rw [if_pos h0] at hK
    rw [decide_eq_false (by omega)]
    exact bn_t rfl hK
  rw [if_neg h0] at hK
  rw [decide_eq_true (by omega)]
  obtain ⟨r1, r2⟩ := hr (by omega)
  refine bn_f (by decide) ?_
  by_cases h1 : i = -1
  · rw [if_pos h1] at hK
    exact bn_t h1 hK
  rw [if_neg h1] at hK
  have e9 : (9 : Int32) + nI n = nI (9 + n) := by rw [lit_n 9, nI_add]
  refine bn_f h1 (nm_r (e' := nI (n - 1)) (by rw [lit_n 1, pk_sub (by omega)]) ?_)
  rcases pk_all i with h | ⟨v, hv, rfl⟩
  · rw [if_pos h] at hK
    exact s5_in_x 0 (n - 1) n (Or.inl h) (by decide) (by omega) (by omega) (br_t rfl (nm_r e9 (s5_in_x 10 (9 + n) (10 + n) (Or.inl h) (by decide) (by omega) (by omega) (br_t rfl hK))))
  rw [if_neg (nI_pos hv), nI_toInt hv, Int.toNat_natCast] at hK
  by_cases h2 : v < n
  · rw [if_pos h2] at hK
    refine s5_in_t 0 (n - 1) (by omega) (by omega) (by omega) (br_f (by decide) ⟨v, rfl, by omega, ?_⟩)
    rw [r1 v h2]; exact hK
  rw [if_neg h2] at hK
  refine s5_in_o 0 (n - 1) (by omega) hv (by omega) (by decide) (br_t rfl (nm_r e9 ?_))
  by_cases h3 : 10 ≤ v ∧ v < 10 + n
  · rw [if_pos h3] at hK
    refine s5_in_t 10 (9 + n) (by omega) (by omega) (by omega) (br_f (by decide) ⟨v - 10, by rw [lit_n 10, pk_sub h3.1], by omega, ?_⟩)
    rw [r2 (v - 10) (by omega)]; exact hK
  · rw [if_neg h3] at hK
    exact s5_in_o 10 (9 + n) (by omega) hv (by omega) (by decide) (br_t rfl hK)
/-- what the reference has found -/
def rFnd (A : Nat → Nat → Nat) (n cur : Nat) (bs os : Nat → Nat) (v : Int32) (ffb ffo : Nat → Int32) : Prop := 0 < cur → v = nI (lsN A n bs os n) ∧ rep n ffb bs ∧ rep n ffo os
theorem cVo_cong {n : Nat} {o p : Nat → Nat} (h : ∀ k, k < n → o k = p k) (ho : cVo n o) : cVo n p := by
  refine ⟨fun k hk => ?_, fun j k hj hk => ?_⟩
  · rw [← h k hk]; exact ho.1 k hk
  · rw [← h k hk, ← h j (by omega)]; exact ho.2 j k hj hk
theorem s5_try {A : Nat → Nat → Nat} {fair : Bool} {n cur c : Nat} {b bs os : Nat → Nat} {fa fb fo ffb ffo : Nat → Int32} {v : Int32} (hA : cA A) (hn2 : 2 ≤ n) (hn : n ≤ 4) (hb : cVb n b) (hfa : rAh A fa) (hfb : rep n fb b) (hc : c < n ^ n) (hf0 : fair = true → cur = 0) (hr : rFnd A n cur bs os v ffb ffo) (hI : cI A fair n (dK 24 b n) c cur bs os) {L : Int32 → Int32 → Int32 → (Nat → Int32) → (Nat → Int32) → (Nat → Int32) → Prop} (hL : ∀ cur' bs' os' v' fo' ffb' ffo', rFnd A n cur' bs' os' v' ffb' ffo' → cI A fair n (dK 24 b n) (c + 1) cur' bs' os' → L (bI (decide (0 < cur'))) (nI (c + 1)) v' fo' ffb' ffo') : wj_X5_layCut_72 v fa fb fo ffb ffo (nI n) (bI fair) (bI (decide (0 < cur))) (nI c) L := by
  have hk := (og_ok n (by omega) hn2 c hc).2
  refine s5_layOwners hn2 hn hc (fun w f' hw hf' => ?_)
  have stay : (cVo n (ogN n c) → cG A fair n b (ogN n c) ≤ cur) → L (bI (decide (0 < cur))) (nI (c + 1)) v f' ffb ffo := fun hbad => by
    refine hL cur bs os v f' ffb ffo hr (cI_adv hI (fun b' o' hv q1 q2 => ?_))
    unfold cD at q1 q2
    have e1 : dK 24 b' n = dK 24 b n := by omega
    have e2 : dK n o' n = dK n (ogN n c) n := by rw [hk]; omega
    have d2 := dK_eq hv.2.1 (fun k _ => ogN_lt (by omega)) e2
    rw [cG_cong (dK_eq (fun k hk => cVb_24 hv.1 hk) (fun k hk => cVb_24 hb hk) e1) d2]
    exact hbad (cVo_cong d2 hv.2)
  have take : cVo n (ogN n c) → cur < cG A fair n b (ogN n c) → wj_X5_layCut_118 fb f' ffb ffo (nI n) (nI c) (nI (lsN A n b (ogN n c) n)) L := fun ho hg => by
    refine s5_keepCut hn hfb hf' (fun gb' go' h1 h2 => nm_r (nI_1 c) ?_)
    have := hL (cG A fair n b (ogN n c)) b (ogN n c) (nI (lsN A n b (ogN n c) n)) f' gb' go' (fun _ => ⟨rfl, h1, h2⟩) (cI_new hI ⟨hb, ho⟩ hk hg)
    rw [decide_eq_true (by omega)] at this
    exact this
  cases w
  · exact br_t rfl (nm_r (nI_1 c) (stay (fun z => nomatch hw.mpr z)))
  have ho := hw.mp rfl
  refine br_f (by decide) (s5_least hA hn2 hn hb hfa hfb hf' ho.1 ?_)
  cases fair
  · refine br_t rfl ?_
    by_cases h0 : cur = 0
    · rw [decide_eq_false (by omega)]
      exact br_t rfl (take ho (by rw [cG_b]; omega))
    · have hs := (hI.2 (by omega)).2.1
      rw [cG_b] at hs
      obtain ⟨hv, _, _⟩ := hr (by omega)
      have e1 : bI (decide (0 < cur)) = 1 := by rw [decide_eq_true (by omega)]; rfl
      refine br_f (by rw [e1]; decide) ?_
      refine pk_le (lsN A n b (ogN n c) n) (lsN A n bs os n) (fun z => nm_r (nI_1 c) (stay (fun _ => by rw [cG_b]; omega))) (fun z => take ho (by rw [cG_b]; omega)) rfl hv lsN_31 lsN_31
  · have h0 := hf0 rfl
    refine br_f (by decide) (s5_isFair hA hn2 hn hb hfa hfb hf' ho.1 (fun q hq => ?_))
    cases q
    · refine br_t rfl (nm_r (nI_1 c) (stay (fun _ => ?_)))
      rw [cG_f0 (fun z => nomatch hq.mpr z)]; exact Nat.zero_le _
    · exact br_f (by decide) (take ho (by rw [cG_f1 (hq.mp rfl), h0]; omega))
theorem s5_layCut {fair : Bool} {n : Nat} {so wo : Nat → Nat} {vl : Int32} {fs fw fa fb fo ffb ffo : Nat → Int32} (hs : rep 120 fs (fun k => cde (so k))) (hw : rep 30 fw wo) (vs : ∀ k, k < 120 → so k < 5) (vw : ∀ k, k < 30 → wo k ≤ 99) (hn2 : 2 ≤ n) (hn : n ≤ 4) {K : Int32 → Int32 → (Nat → Int32) → (Nat → Int32) → (Nat → Int32) → (Nat → Int32) → (Nat → Int32) → Prop} (hK : ∀ cur bs os v fa' fb' fo' ffb' ffo', cF (cutA so wo) fair n cur bs os → rFnd (cutA so wo) n cur bs os v ffb' ffo' → K (bI (decide (0 < cur))) v fa' fb' fo' ffb' ffo') : wp_X5_layCut vl fs fw fa fb fo ffb ffo (nI n) (bI fair) K := by
  have hA := cutA_ok vs vw
  refine s5_layAhead hs hw vs (fun fa' hfa => ?_)
  generalize cutA so wo = A at *
  refine lpW3_inv (fun x y f => ∃ k, x = nI (n ^ k) ∧ y = nI k ∧ k ≤ n ∧ ∀ j, j < k → f j = nI j) (fun _ y _ => 5 - y.toInt.toNat) ?_ _ _ _ ⟨0, rfl, rfl, Nat.zero_le _, fun h' z => absurd z (Nat.not_lt_zero _)⟩
  clear fb
  rintro _ _ fb ⟨k, rfl, rfl, hk, hf⟩
  refine pk_le n k (fun z => ?_) (fun z => ⟨k, rfl, by omega, nm_r (e' := nI (n ^ (k + 1))) (by rw [pk_mul, Nat.pow_succ]) (nm_r (nI_1 k) ⟨_, ?_, ⟨k + 1, rfl, rfl, z, fun j hj => ?_⟩, rfl⟩)⟩) rfl rfl (by omega) (by omega)
  · have en : k = n := by omega
    subst en
    have c256 := pow_l hn2 hn
    have hid : cVb k (fun k => k) := ⟨fun k _ => Nat.lt_succ_self k, by show k - 1 < 24; omega⟩
    have hstart : cI A fair k (dK 24 (fun k => k) k) 0 0 (fun _ => 0) (fun _ => 0) := by
      refine ⟨fun b' o' hv hd => ?_, fun z => absurd z (Nat.lt_irrefl 0)⟩
      rcases hd with hd | hd
      · obtain ⟨d, d1, d2, d3⟩ := (dK_lt (fun k hk => cVb_24 hv.1 hk) (fun k hk => cVb_24 hid hk)).mp hd
        have := cVb_up hv.1 0 d (by omega)
        rw [Nat.zero_add] at this
        omega
      · exact absurd hd.2 (Nat.not_lt_zero _)
    refine ⟨fun m x4 x5 v fb fo ffb ffo => ∃ cur bs os, x4 = bI (decide (0 < cur)) ∧ rFnd A k cur bs os v ffb ffo ∧ ((x5 = 0 ∧ cF A fair k cur bs os) ∨ (x5 = 1 ∧ ∃ b, cVb k b ∧ rep k fb b ∧ m = rkB k b + 1 ∧ cI A fair k (dK 24 b k) 0 cur bs os)), rkB k (fun k => k) + 1, ⟨0, fun _ => 0, fun _ => 0, rfl, fun z => absurd z (Nat.lt_irrefl 0), Or.inr ⟨rfl, fun k => k, hid, hf, rfl, hstart⟩⟩, ?_⟩
    clear hstart hf hid fo ffb ffo vl fb z
    rintro m _ x5 v fb fo ffb ffo ⟨cur, bs, os, rfl, hr, hx⟩
    rcases hx with ⟨rfl, hF⟩ | ⟨rfl, b, hb, hfb, hrk, hI⟩
    · exact br_t rfl ⟨bI_n _, hK cur bs os v _ _ _ _ _ hF hr⟩
    refine br_f (by decide) ?_
    /- the codes, one after the other -/
    have nb : ∀ (c cur : Nat) (bs os : Nat → Nat) (v : Int32) (fo ffb ffo : Nat → Int32), rFnd A k cur bs os v ffb ffo → cI A fair k (dK 24 b k) c cur bs os → (c = k ^ k ∨ (fair = true ∧ 0 < cur)) → wp_X5_nextBounds fb (nI k) (fun r2 u3 => (fun (x4 x5 v : Int32) (fb fo ffb ffo : Nat → Int32) => ∃ m', m' < m ∧ ∃ cur bs os, x4 = bI (decide (0 < cur)) ∧ rFnd A k cur bs os v ffb ffo ∧ ((x5 = 0 ∧ cF A fair k cur bs os) ∨ (x5 = 1 ∧ ∃ b, cVb k b ∧ rep k fb b ∧ m' = rkB k b + 1 ∧ cI A fair k (dK 24 b k) 0 cur bs os))) (bI (decide (0 < cur))) r2 v u3 fo ffb ffo) := fun c cur bs os v fo ffb ffo hr hI hdone => by
      have hall : ∀ b' o', cV k b' o' → ¬ cD k (dK 24 b k) c b' o' → (∀ j, j ≤ k - 1 → b' j = b j) → cG A fair k b' o' ≤ cur := fun b' o' hv q1 q2 => by
        rcases hdone with e | ⟨e1, e2⟩
        · refine absurd (Or.inr ⟨dK_cong (fun j hj => q2 j (by omega)), ?_⟩) q1
          rw [e]; exact dK_all hv.2
        · rw [e1]; exact Nat.le_trans cG_le1 e2
      refine s5_step hn2 hn hb hfb (fun l f' hl hx hmax hf' => ⟨_, ?_, cur, bs, os, rfl, hr, Or.inr ⟨rfl, nxB b l, nxB_v hb (by omega) hx, hf', rfl, cI_adv hI (fun b' o' hv q1 q2 => hall b' o' hv q1 ?_)⟩⟩) (fun hmax => ⟨0, by omega, cur, bs, os, rfl, hr, Or.inl ⟨rfl, cF_of hI (fun b' o' hv q1 => hall b' o' hv q1 ?_)⟩⟩)
      · have := rk_step (b := b) (show l < k by omega) hx
        omega
      · unfold cD at q1 q2
        exact skip hb hv.1 hl (by omega) hmax hx (by omega) (by omega)
      · unfold cD at q1
        exact fun j hj => agree (l := 0) hb hv.1 (by omega) (fun j _ hj => hmax j hj) (fun j hj => absurd hj (Nat.not_lt_zero j)) (by omega) (j + 1) j (by omega) hj
    have inner : lpW6 (wb_X5_layCut_57 fa' fb (nI k) (bI fair) (nI (k ^ k)) (fun (x4 x5 v : Int32) (fb fo ffb ffo : Nat → Int32) => ∃ m', m' < m ∧ ∃ cur bs os, x4 = bI (decide (0 < cur)) ∧ rFnd A k cur bs os v ffb ffo ∧ ((x5 = 0 ∧ cF A fair k cur bs os) ∨ (x5 = 1 ∧ ∃ b, cVb k b ∧ rep k fb b ∧ m' = rkB k b + 1 ∧ cI A fair k (dK 24 b k) 0 cur bs os)))) (bI (decide (0 < cur))) 0 v fo ffb ffo := by
      refine lpW6_inv (fun x4 x6 v fo ffb ffo => ∃ c cur bs os, x4 = bI (decide (0 < cur)) ∧ x6 = nI c ∧ c ≤ k ^ k ∧ rFnd A k cur bs os v ffb ffo ∧ cI A fair k (dK 24 b k) c cur bs os) (fun _ x6 _ _ _ _ => 257 - x6.toInt.toNat) ?_ _ _ _ _ _ _ ⟨0, cur, bs, os, rfl, rfl, Nat.zero_le _, hr, hI⟩
      clear hr hI fo ffb ffo v bs os cur
      rintro _ _ v fo ffb ffo ⟨c, cur, bs, os, rfl, rfl, hc, hr, hI⟩
      refine pk_le (k ^ k) c (fun z => nb c cur bs os v fo ffb ffo hr hI (Or.inl (by omega))) (fun z => ?_) rfl rfl (by omega) (by omega)
      have hmu : 257 - (nI (c + 1)).toInt.toNat < 257 - (nI c).toInt.toNat := by rw [nI_toInt (by omega), nI_toInt (by omega)]; omega
      cases fair
      · refine br_t rfl (s5_try (fair := false) hA hn2 hn hb hfa hfb z (fun y => nomatch y) hr hI (fun cur' bs' os' v' fo' ffb' ffo' hr' hI' => ⟨_, hmu, ⟨c + 1, cur', bs', os', rfl, rfl, z, hr', hI'⟩, rfl⟩))
      · refine br_f (by decide) ?_
        by_cases h0 : cur = 0
        · have e0 : bI (decide (0 < cur)) = 0 := by rw [decide_eq_false (by omega)]; rfl
          exact bn_t e0 (s5_try (fair := true) hA hn2 hn hb hfa hfb z (fun _ => h0) hr hI (fun cur' bs' os' v' fo' ffb' ffo' hr' hI' => ⟨_, hmu, ⟨c + 1, cur', bs', os', rfl, rfl, z, hr', hI'⟩, rfl⟩))
        · have e1 : bI (decide (0 < cur)) = 1 := by rw [decide_eq_true (by omega)]; rfl
          exact bn_f (by rw [e1]; decide) (nb c cur bs os v fo ffb ffo hr hI (Or.inr ⟨rfl, by omega⟩))
    cases fair
    · exact br_t rfl inner
    · refine br_f (by decide) ?_
      by_cases h0 : cur = 0
      · have e0 : bI (decide (0 < cur)) = 0 := by rw [decide_eq_false (by omega)]; rfl
        exact bn_t e0 inner
      · have e1 : bI (decide (0 < cur)) = 1 := by rw [decide_eq_true (by omega)]; rfl
        refine bn_f (by rw [e1]; decide) ⟨bI_n _, hK cur bs os v _ _ _ _ _ (cF_of hI (fun b' o' _ _ => ?_)) hr⟩
        exact Nat.le_trans cG_le1 (by omega)
  · show 5 - (nI (k + 1)).toInt.toNat < 5 - (nI k).toInt.toNat
    rw [nI_toInt (by omega), nI_toInt (by omega)]; omega
  · show upd fb k _ j = _
    unfold upd
    by_cases e : j = k
    · rw [if_pos e, e]
    · rw [if_neg e]; exact hf j (by omega)
theorem cAns_cong {r : Int32} {n cur : Nat} {bs os bs' os' : Nat → Nat} {i : Int32} (h : 0 < cur → (∀ k, k < n → bs k = bs' k) ∧ ∀ k, k < n → os k = os' k) : cAns r n cur bs os i = cAns r n cur bs' os' i := by
  unfold cAns
  by_cases h0 : cur = 0
  · rw [if_pos h0, if_pos h0]
  rw [if_neg h0, if_neg h0]
  obtain ⟨h1, h2⟩ := h (by omega)
  by_cases c1 : i = -1
  · rw [if_pos c1, if_pos c1]
  rw [if_neg c1, if_neg c1]
  by_cases c2 : i < 0
  · rw [if_pos c2, if_pos c2]
  rw [if_neg c2, if_neg c2]
  by_cases c3 : i.toInt.toNat < n
  · rw [if_pos c3, if_pos c3, h1 _ c3]
  rw [if_neg c3, if_neg c3]
  by_cases c4 : 10 ≤ i.toInt.toNat ∧ i.toInt.toNat < 10 + n
  · rw [if_pos c4, if_pos c4, h2 _ (by omega)]
  rw [if_neg c4, if_neg c4]
theorem cRow_rel {A : Nat → Nat → Nat} {fair : Bool} {n cur : Nat} {bs os : Nat → Nat} {L : Int32} {ffb ffh : Nat → Int32} (hn2 : 2 ≤ n) (hn : n ≤ 4) (h : cRow A fair n cur bs os L ffb ffh) : cRel A fair (nI n) L ffb ffh := Or.inr ⟨n, cur, bs, os, hn2, hn, rfl, h⟩
theorem p_fair {vn L v x1 x2 : Int32} {so wo : Nat → Nat} {fs fw fsu fsh fb fh ffb ffh ms mw ma mb mo mfb mfo : Nat → Int32} (hs : rep 120 fs so) (hms : rep 120 ms (fun k => cde (so k))) (hw : rep 30 fw wo) (hmw : rep 30 mw wo) (vs : ∀ k, k < 120 → so k < 5) (vw : ∀ k, k < 30 → wo k ≤ 99) (hc : cRel (cutA so wo) true vn L ffb ffh) : wp_X4_fair fs fw 1 vn L fsu fsh fb fh ffb ffh x1 x2 (fun r n' L' _ _ _ _ ffb' ffh' => wp_X5_fair v ms mw ma mb mo mfb mfo x1 x2 (fun r2 _ _ _ _ _ _ => r = r2 ∧ cRel (cutA so wo) true n' L' ffb' ffh')) := by
  rcases pk_all x1 with h | ⟨n, hn31, rfl⟩
  · exact br_t (ng_lt h 2 (by decide)) (s5_in_x 2 4 5 (Or.inl h) (by decide) (by decide) (by decide) (br_t rfl ⟨rfl, hc⟩))
  refine pk_lt n 2 (fun z => s5_in_o 2 4 (by omega) hn31 (by decide) (by decide) (br_t rfl ⟨rfl, hc⟩)) (fun hn2 => pk_le n 4 (fun hn => ?_) (fun z => s5_in_o 2 4 (by omega) hn31 (by decide) (by decide) (br_t rfl ⟨rfl, hc⟩)) rfl rfl hn31 (by omega)) rfl rfl hn31 (by omega)
  refine s_search (fair := true) hs hw vs vw hn2 hn hc (fun cur bs os L' fsu' fsh' fb' fh' ffb' ffh' hrow => s_answer hn hrow ?_)
  refine s5_in_t 2 4 hn2 hn (by decide) (br_f (by decide) (s5_layCut (fair := true) hms hmw vs vw hn2 hn (fun cur' bs2 os2 v2 fa2 fb2 fo2 ffb2 ffo2 hF2 hr2 => s5_toldC hn2 hn (fun z => (hr2 z).2) ⟨?_, cRow_rel hn2 hn hrow⟩)))
  obtain ⟨e, h1⟩ := cF_one hrow.1 hF2
  subst e
  rw [if_pos rfl]
  exact cAns_cong h1
theorem p_best {vn L v x1 x2 : Int32} {so wo : Nat → Nat} {fs fw fsu fsh fb fh ffb ffh ms mw ma mb mo mfb mfo : Nat → Int32} (hs : rep 120 fs so) (hms : rep 120 ms (fun k => cde (so k))) (hw : rep 30 fw wo) (hmw : rep 30 mw wo) (vs : ∀ k, k < 120 → so k < 5) (vw : ∀ k, k < 30 → wo k ≤ 99) (hc : cRel (cutA so wo) false vn L ffb ffh) : wp_X4_best fs fw 0 vn L fsu fsh fb fh ffb ffh x1 x2 (fun r n' L' _ _ _ _ ffb' ffh' => wp_X5_best v ms mw ma mb mo mfb mfo x1 x2 (fun r2 _ _ _ _ _ _ => r = r2 ∧ cRel (cutA so wo) false n' L' ffb' ffh')) := by
  rcases pk_all x1 with h | ⟨n, hn31, rfl⟩
  · exact br_t (ng_lt h 2 (by decide)) (s5_in_x 2 4 5 (Or.inl h) (by decide) (by decide) (by decide) (bn_t rfl ⟨rfl, hc⟩))
  refine pk_lt n 2 (fun z => s5_in_o 2 4 (by omega) hn31 (by decide) (by decide) (bn_t rfl ⟨rfl, hc⟩)) (fun hn2 => pk_le n 4 (fun hn => ?_) (fun z => s5_in_o 2 4 (by omega) hn31 (by decide) (by decide) (bn_t rfl ⟨rfl, hc⟩)) rfl rfl hn31 (by omega)) rfl rfl hn31 (by omega)
  refine s_search (fair := false) hs hw vs vw hn2 hn hc (fun cur bs os L' fsu' fsh' fb' fh' ffb' ffh' hrow => s_answer hn hrow ?_)
  refine s5_in_t 2 4 hn2 hn (by decide) (bn_f (by decide) (s5_layCut (fair := false) hms hmw vs vw hn2 hn (fun cur' bs2 os2 v2 fa2 fb2 fo2 ffb2 ffo2 hF2 hr2 => s5_toldC hn2 hn (fun z => (hr2 z).2) ⟨?_, cRow_rel hn2 hn hrow⟩)))
  obtain ⟨e, h1⟩ := cF_one hrow.1 hF2
  subst e
  rw [if_neg (by decide)]
  by_cases h0 : cur = 0
  · unfold cAns; rw [if_pos h0, if_pos h0]
  · obtain ⟨d1, d2⟩ := h1 (by omega)
    rw [(hr2 (by omega)).1, lsN_cong d1 (Nat.le_refl _) d2]
    exact cAns_cong h1
