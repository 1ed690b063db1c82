/-! cuts: the class's search as a whole -/
/-- the share of the sectors ahead of one, over two rounds -/
def cutA (so wo : Nat → Nat) (h s : Nat) : Nat := sumN (fun t => wsec so wo h (t % 24)) s
theorem sumN_mono (f : Nat → Nat) {s : Nat} : ∀ {t : Nat}, s ≤ t → sumN f s ≤ sumN f t
  | 0, h => by rw [show s = 0 by omega]; exact Nat.le_refl _
  | t + 1, h => by
    by_cases e : s = t + 1
    · rw [e]; exact Nat.le_refl _
    · rw [sumN]; exact Nat.le_trans (sumN_mono f (by omega)) (Nat.le_add_right _ _)
theorem cutA_ok {so wo : Nat → Nat} (vs : ∀ k, k < 120 → so k < 5) (vw : ∀ k, k < 30 → wo k ≤ 99) : cA (cutA so wo) := by
  refine ⟨fun h s t hst => sumN_mono _ hst, fun h s hs => ?_, fun h s hh hs => ?_⟩
  · show sumN _ (s + 24) = sumN _ s + sumN _ 24
    rw [Nat.add_comm s 24, sumN_split _ 24 s, Nat.add_comm]
    congr 1
    exact sumN_cong (fun k hk => by rw [show (24 + k) % 24 = k % 24 by omega])
  · have h1 := sumN_le (f := fun t => wsec so wo h (t % 24)) (c := 495) (n := s) (fun k _ => wsec_le vs vw hh (Nat.mod_lt _ (by decide)))
    have h2 : s * 495 ≤ 48 * 495 := Nat.mul_le_mul_right _ hs
    unfold cutA; omega
theorem s_sumUp {h : Nat} {so wo : Nat → Nat} {f fs fw : Nat → Int32} (hs : rep 120 fs so) (hw : rep 30 fw wo) (vs : ∀ k, k < 120 → so k < 5) (hh : h < 4) {K : (Nat → Int32) → Prop} (hK : ∀ f', (∀ h', h' < h → ∀ s, s < 48 → f' (48 * h' + s) = f (48 * h' + s)) → (∀ s, s < 48 → f' (48 * h + s) = nI (cutA so wo h s)) → K f') : wp_X0_sumUp f fs fw (nI h) K := by
  refine lpW3_inv (fun x y f' => ∃ s, x = nI (cutA so wo h s) ∧ y = nI s ∧ s ≤ 48 ∧ (∀ h', h' < h → ∀ s, s < 48 → f' (48 * h' + s) = f (48 * h' + s)) ∧ ∀ s', s' < s → f' (48 * h + s') = nI (cutA so wo h s')) (fun _ y _ => 48 - y.toInt.toNat) ?_ _ _ _ ⟨0, rfl, rfl, by omega, fun _ _ _ _ => rfl, fun s' z => absurd z (Nat.not_lt_zero _)⟩
  rintro _ _ f' ⟨s, rfl, rfl, hs48, h1, h2⟩
  refine pk_le 48 s (fun z => ?_) (fun z => ?_) rfl rfl (by omega) (by omega)
  · exact hK f' h1 (fun s' hs' => h2 s' (by omega))
  · refine ⟨48 * h + s, by rw [lit_n 48, pk_mul, nI_add, Nat.mul_comm], by omega, nm_r (e' := nI (s % 24)) (by rw [lit_n 24, rem_n (by omega) (by decide) (by decide)]) (s_shareOfSector hs hw vs (by omega) (Nat.mod_lt _ (by decide)) (nm_r (nI_add _ _) (nm_r (nI_1 s) ⟨_, ?_, ⟨s + 1, rfl, rfl, z, fun h' hh' s' hs' => ?_, fun s' hs' => ?_⟩, rfl⟩)))⟩
    · show 48 - (nI (s + 1)).toInt.toNat < 48 - (nI s).toInt.toNat
      rw [nI_toInt (by omega), nI_toInt (by omega)]; omega
    · show upd f' (48 * h + s) _ _ = _
      unfold upd
      rw [if_neg (by omega)]; exact h1 h' hh' s' hs'
    · show upd f' (48 * h + s) _ _ = _
      unfold upd
      by_cases e : s' = s
      · rw [e, if_pos rfl]
      · rw [if_neg (by omega)]; exact h2 s' (by omega)
/-- what a cached cut is -/
def cRow (A : Nat → Nat → Nat) (fair : Bool) (n cur : Nat) (bs os : Nat → Nat) (L : Int32) (ffb ffh : Nat → Int32) : Prop := cF A fair n cur bs os ∧ L = cL A n cur bs os ∧ (0 < cur → rep n ffb bs ∧ rep n ffh os)
def cRel (A : Nat → Nat → Nat) (fair : Bool) (vn L : Int32) (ffb ffh : Nat → Int32) : Prop := vn = 0 ∨ ∃ n cur bs os, 2 ≤ n ∧ n ≤ 4 ∧ vn = nI n ∧ cRow A fair n cur bs os L ffb ffh
theorem dK_all {n : Nat} {o : Nat → Nat} (h : cVo n o) : dK n o n < n ^ n := by
  have := (dK_pre (β := n) (f := o) (a := 0) n (fun k hk => h.1 k (by omega))).2
  rw [Nat.zero_add] at this
  show dK n o n < n ^ n
  have e : (dK n o 0 + 1) * n ^ n = n ^ n := by show (0 + 1) * n ^ n = _; rw [Nat.zero_add, Nat.one_mul]
  omega
theorem s_steps {A : Nat → Nat → Nat} {fair : Bool} {n cur i Q u : Nat} {b bs os : Nat → Nat} {fb : Nat → Int32} (hn2 : 2 ≤ n) (hn : n ≤ 4) (hb : cVb n b) (hfb : rep n fb b) (hI : cI A fair n (dK 24 b n) Q cur bs os) (hu : u ≤ n) (hall : ∀ b' o', cV n b' o' → ¬ cD n (dK 24 b n) Q b' o' → (∀ k, k ≤ min (u + 1) (n - 1) → b' k = b k) → cG A fair n b' o' ≤ cur) {L' : Int32} {fsh fh ffb ffh : Nat → Int32} {L : Int32 → Int32 → Int32 → (Nat → Int32) → (Nat → Int32) → (Nat → Int32) → (Nat → Int32) → (Nat → Int32) → Prop} (h1 : ∀ b' f', cVb n b' → rep n f' b' → rkB n b' + 1 ≤ rkB n b → cI A fair n (dK 24 b' n) 0 cur bs os → L 1 (nI (i + 1)) L' fsh f' fh ffb ffh) (h0 : cF A fair n cur bs os → L 0 (nI (i + 1)) L' fsh fb fh ffb ffh) : wj_X0_searchAmong_95 (nI n) L' fsh fb fh ffb ffh (nI i) (nI u) L := by
  have hm : min (u + 1) (n - 1) < n := by omega
  refine nm_r (e' := nI (min (u + 1) (n - 1))) (by rw [nI_1, lit_n 1, pk_sub (by omega), iMi_n (by omega) (by omega)]) (s_step hn hb hfb hm (fun l f' hl hx hmax hf' => nm_r (nI_1 i) (h1 (nxB b l) f' (nxB_v hb (by omega) hx) hf' (rk_step (by omega) hx) (cI_adv hI (fun b' o' hv q1 q2 => hall b' o' hv q1 ?_)))) (fun hmax => nm_r (nI_1 i) (h0 (cF_of hI (fun b' o' hv q1 => hall b' o' hv q1 ?_)))))
  · unfold cD at q1 q2
    exact skip hb hv.1 hl hm hmax hx (by omega) (by omega)
  · unfold cD at q1
    exact fun k hk => agree (l := 0) hb hv.1 (by omega) (fun j _ hj => hmax j hj) (fun j hj => absurd hj (Nat.not_lt_zero j)) hm (k + 1) k (by omega) hk
theorem s_search {fair : Bool} {n : Nat} {so wo : Nat → Nat} {vn L : Int32} {fsu fsh fb fh ffb ffh fs fw : Nat → Int32} (hs : rep 120 fs so) (hw : rep 30 fw wo) (vs : ∀ k, k < 120 → so k < 5) (vw : ∀ k, k < 30 → wo k ≤ 99) (hn2 : 2 ≤ n) (hn : n ≤ 4) (hc : cRel (cutA so wo) fair vn L ffb ffh) {K : Int32 → Int32 → (Nat → Int32) → (Nat → Int32) → (Nat → Int32) → (Nat → Int32) → (Nat → Int32) → (Nat → Int32) → Prop} (hK : ∀ cur bs os L' fsu' fsh' fb' fh' ffb' ffh', cRow (cutA so wo) fair n cur bs os L' ffb' ffh' → K (nI n) L' fsu' fsh' fb' fh' ffb' ffh') : wp_X0_searchAmong (bI fair) vn L fsu fsh fb fh ffb ffh fs fw (nI n) K := by
  have hA := cutA_ok vs vw
  generalize hAe : cutA so wo = A at *
  refine bn_c (fun _ => ?_) (fun e => ?_)
  · refine lpW3_inv (fun x f g => ∃ h, x = nI h ∧ h ≤ n ∧ (∀ h', h' < h → ∀ s, s < 48 → f (48 * h' + s) = nI (A h' s)) ∧ ∀ k, k < h → g k = nI k) (fun x _ _ => 5 - x.toInt.toNat) ?_ _ _ _ ⟨0, rfl, Nat.zero_le _, fun h' z => absurd z (Nat.not_lt_zero _), fun h' z => absurd z (Nat.not_lt_zero _)⟩
    rintro _ f g ⟨h, rfl, hh, hf, hg⟩
    refine pk_le n h (fun z => ?_) (fun z => ⟨h, rfl, by omega, s_sumUp hs hw vs (by omega) (fun f' q1 q2 => nm_r (nI_1 h) ⟨_, ?_, ⟨h + 1, rfl, z, fun h' hh' s' hs' => ?_, fun k hk => ?_⟩, rfl⟩)⟩) rfl rfl (by omega) (by omega)
    · have en : h = n := by omega
      subst en
      have hid : cVb h (fun k => k) := ⟨fun k _ => Nat.lt_succ_self k, by show h - 1 < 24; omega⟩
      have hstart : cI A fair h (dK 24 (fun k => k) h) 0 0 (fun _ => 0) (fun _ => 0) := by
        refine ⟨fun b' o' hv hd => ?_, fun z => absurd z (Nat.lt_irrefl 0)⟩
        rcases hd with hd | hd
        · obtain ⟨d, d1, d2, d3⟩ := (dK_lt (fun k hk => cVb_24 hv.1 hk) (fun k hk => cVb_24 hid hk)).mp hd
          have := cVb_up hv.1 0 d (by omega)
          rw [Nat.zero_add] at this
          omega
        · exact absurd hd.2 (Nat.not_lt_zero _)
      refine lpW8_inv (fun x3 x4 L _ fb _ ffb ffh => ∃ i cur bs os, x4 = nI i ∧ i ≤ 10626 ∧ L = cL A h cur bs os ∧ (0 < cur → rep h ffb bs ∧ rep h ffh os) ∧ ((x3 = 0 ∧ cF A fair h cur bs os) ∨ (x3 = 1 ∧ ∃ b, cVb h b ∧ rep h fb b ∧ i + rkB h b ≤ 10625 ∧ cI A fair h (dK 24 b h) 0 cur bs os))) (fun _ x4 _ _ _ _ _ _ => 10626 - x4.toInt.toNat) ?_ _ _ _ _ _ _ _ _ ⟨0, 0, fun _ => 0, fun _ => 0, rfl, by omega, rfl, fun z => absurd z (Nat.lt_irrefl 0), Or.inr ⟨rfl, fun k => k, hid, hg, by have := rk_0 h (by omega); omega, hstart⟩⟩
      clear hstart hg hid fsh fb fh ffb ffh hc g
      rintro x3 _ _ fsh fb fh ffb ffh ⟨i, cur, bs, os, rfl, hi, rfl, hr, hx⟩
      refine pk_le 10626 i (fun z => ?_) (fun z => ?_) rfl rfl (by omega) (by omega)
      · rcases hx with ⟨_, hF⟩ | ⟨_, b, _, _, hrk, _⟩
        · exact hK cur bs os _ _ _ _ _ _ _ ⟨hF, rfl, hr⟩
        · omega
      have hmu : 10626 - (nI (i + 1)).toInt.toNat < 10626 - (nI i).toInt.toNat := by rw [nI_toInt (by omega), nI_toInt (by omega)]; omega
      rcases hx with ⟨rfl, hF⟩ | ⟨rfl, b, hb, hfb, hrk, hI⟩
      · exact br_t rfl (hK cur bs os _ _ _ _ _ _ _ ⟨hF, rfl, hr⟩)
      refine br_f (by decide) (s_settled ?_)
      by_cases hst : (fair && decide (0 < cur)) = true
      · rw [hst]
        rw [Bool.and_eq_true] at hst
        have h0 := of_decide_eq_true hst.2
        refine bn_f (by decide) (hK cur bs os _ _ _ _ _ _ _ ⟨cF_of hI (fun b' o' _ _ => ?_), rfl, hr⟩)
        rw [hst.1]
        exact Nat.le_trans cG_le1 h0
      replace hst := Bool.eq_false_iff.mpr hst
      rw [hst]
      refine bn_t rfl (s_firstArc hA hn hf hb hfb hI.2 (fun f' hf' => bn_t rfl ?_) (fun u f' hu hno => bn_f (fun e => ?_) ?_))
      · show wp_X0_chooseHeirs 4 _ _ _ _ _ _ _ _ (nI 0) (nI 0) (nI (lsN A h b (fun _ => 0) 0)) _
        refine s_choose hA hn2 hn hb hfb hf' 4 0 cur 0 bs os (fun _ => 0) fh ffb ffh _ (by omega) (by omega) (by show cI A fair h (dK 24 b h) (0 * h ^ (h - 0)) cur bs os; rw [Nat.zero_mul]; exact hI) hr (fun k hk => absurd hk (Nat.not_lt_zero k)) (fun k hk => absurd hk (Nat.not_lt_zero k)) (fun i k _ hk => absurd hk (Nat.not_lt_zero k)) (by decide) (fun h' _ => ⟨fun y => by simp at y, fun ⟨k, hk, _⟩ => absurd hk (Nat.not_lt_zero k)⟩) (fun _ k hk => absurd hk (Nat.not_lt_zero k)) (fun cur' bs' os' fh' ffb' ffh' hI' hr' _ => ?_)
        refine s_steps hn2 hn hb hfb hI' (Nat.le_refl h) (fun b' o' hv q1 q2 => absurd ?_ q1) (fun b' f' hb' hf' hrk' hI2 => ⟨_, hmu, ⟨i + 1, cur', bs', os', rfl, by omega, rfl, hr', Or.inr ⟨rfl, b', hb', hf', by omega, hI2⟩⟩, rfl⟩) (fun hF => ⟨_, hmu, ⟨i + 1, cur', bs', os', rfl, by omega, rfl, hr', Or.inl ⟨rfl, hF⟩⟩, rfl⟩)
        refine Or.inr ⟨dK_cong (fun k hk => q2 k (by omega)), ?_⟩
        show dK h o' h < (0 + 1) * h ^ (h - 0)
        rw [Nat.zero_add, Nat.one_mul, Nat.sub_zero]
        exact dK_all hv.2
      · have := (nI_eq (by omega) (by omega)).mp e
        omega
      · refine s_steps hn2 hn hb hfb hI (Nat.le_of_lt hu) (fun b' o' hv q1 q2 => G_useless hA hv.1 hu ?_) (fun b' f' hb' hf' hrk' hI2 => ⟨_, hmu, ⟨i + 1, cur, bs, os, rfl, by omega, rfl, hr, Or.inr ⟨rfl, b', hb', hf', by omega, hI2⟩⟩, rfl⟩) (fun hF => ⟨_, hmu, ⟨i + 1, cur, bs, os, rfl, by omega, rfl, hr, Or.inl ⟨rfl, hF⟩⟩, rfl⟩)
        have e : arV A h b' (o' u) u = arV A h b (o' u) u := by
          unfold arV
          by_cases y : u + 1 < h
          · rw [if_pos y, if_pos y, q2 u (by omega), q2 (u + 1) (by omega)]
          · rw [if_neg y, if_neg y, q2 u (by omega), q2 0 (by omega)]
        rw [e]
        exact hno (o' u) (hv.2.1 u hu)
    · show 5 - (nI (h + 1)).toInt.toNat < 5 - (nI h).toInt.toNat
      rw [nI_toInt (by omega), nI_toInt (by omega)]; omega
    · by_cases e : h' = h
      · rw [e, q2 s' hs', hAe]
      · rw [q1 h' (by omega) s' hs']; exact hf h' (by omega) s' hs'
    · show upd g h _ k = _
      unfold upd
      by_cases e : k = h
      · rw [if_pos e, e]
      · rw [if_neg e]; exact hg k (by omega)
  · rcases hc with h | ⟨n', cur, bs, os, h2, h4, hv, hr⟩
    · rw [h] at e
      have := (nI_eq (a := 0) (by decide) (by omega)).mp e
      omega
    · have en : n' = n := (nI_eq (by omega) (by omega)).mp (hv.symm.trans e)
      subst en
      rw [e]; exact hK cur bs os L fsu fsh fb fh ffb ffh hr
/-- what a call answers of a cut -/
def cAns (r : Int32) (n cur : Nat) (bs os : Nat → Nat) (i : Int32) : Int32 := if cur = 0 then -6 else if i = -1 then r else if i < 0 then -6 else if i.toInt.toNat < n then nI (bs i.toInt.toNat) else if 10 ≤ i.toInt.toNat ∧ i.toInt.toNat < 10 + n then nI (os (i.toInt.toNat - 10)) else -6
theorem s_answer {A : Nat → Nat → Nat} {fair : Bool} {n cur : Nat} {bs os : Nat → Nat} {i L : Int32} {ffb ffh : Nat → Int32} (hn : n ≤ 4) (hr : cRow A fair n cur bs os L ffb ffh) {K : Int32 → Prop} (hK : K (cAns (if fair = true then 1 else nI (lsN A n bs os n)) n cur bs os i)) : wp_X0_answer (bI fair) (nI n) L ffb ffh i K := by
  obtain ⟨hF, rfl, hr⟩ := hr
  refine s_isFound ?_
  unfold cAns at hK
  by_cases h0 : cur = 0
  · rw [if_pos h0] at hK
    rw [decide_eq_false (by omega)]
    exact bn_t rfl hK
  rw [if_neg h0] at hK
  rw [decide_eq_true (by omega)]
  obtain ⟨r1, r2⟩ := hr (by omega)
  refine bn_f (by decide) ?_
  by_cases h1 : i = -1
  · rw [if_pos h1] at hK
    refine bn_t h1 ?_
    cases fair
    · refine br_t rfl ?_
      unfold cL; rw [if_neg h0]; exact hK
    · exact br_f (by decide) hK
  rw [if_neg h1] at hK
  refine bn_f h1 ?_
  rcases pk_all i with h | ⟨v, hv, rfl⟩
  · rw [if_pos h] at hK
    exact br_t h (br_t (ng_lt h 10 (by decide)) hK)
  rw [if_neg (nI_pos hv), nI_toInt hv, Int.toNat_natCast] at hK
  refine br_f (nI_pos hv) ?_
  have en : (10 : Int32) + nI n = nI (10 + n) := by rw [lit_n 10, nI_add]
  by_cases h2 : v < n
  · rw [if_pos h2] at hK
    refine br_f (nI_ge h2 (by omega)) ⟨v, rfl, by omega, ?_⟩
    rw [r1 v h2]; exact hK
  rw [if_neg h2] at hK
  refine br_t (nI_le (by omega) hv) ?_
  refine pk_lt v 10 (fun z => ?_) (fun z => ?_) rfl rfl hv (by omega)
  · rw [if_neg (by omega)] at hK; exact hK
  · refine pk_le (10 + n) v (fun y => ?_) (fun y => ⟨v - 10, by rw [lit_n 10, pk_sub z], by omega, ?_⟩) en rfl (by omega) hv
    · rw [if_neg (by omega)] at hK; exact hK
    · rw [if_pos ⟨z, y⟩] at hK
      rw [r2 (v - 10) (by omega)]; exact hK
