/-! cuts: the class tries the heirs of the arcs -/
theorem frP_not {A : Nat → Nat → Nat} {n h a c : Nat} {b b' o' : Nat → Nat} (e : ∀ k, k < n → b' k = b k) (ha : a < n) (hc : c < n) (hoa : o' a = h) (hlt : arV A n b h a < arV A n b h c) : ¬ frP A n b' o' := fun z => by
  have := z a ha c hc
  rw [hoa, arV_cong e ha, arV_cong e hc] at this; omega
theorem cpy_n {n : Nat} {f g : Nat → Int32} {b : Nat → Nat} (hf : rep n f b) : rep n (va_cpy f g 0 0 n) b := fun k hk => by
  unfold va_cpy
  rw [if_pos ⟨Nat.zero_le _, by omega⟩, show 0 + (k - 0) = k by omega]; exact hf k hk
theorem s_choose {A : Nat → Nat → Nat} {fair : Bool} {n : Nat} {b : Nat → Nat} {fsh fb : Nat → Int32} (hA : cA A) (hn2 : 2 ≤ n) (hn : n ≤ 4) (hb : cVb n b) (hfb : rep n fb b) (hsh : rShr A n b n fsh) : ∀ (d a cur used : Nat) (bs os o : Nat → Nat) (fh ffb ffh : Nat → Int32) (K : Int32 → (Nat → Int32) → (Nat → Int32) → (Nat → Int32) → Prop), a < n → n ≤ a + d → cI A fair n (dK 24 b n) (dK n o a * n ^ (n - a)) cur bs os → (0 < cur → rep n ffb bs ∧ rep n ffh os) → rep a fh o → (∀ k, k < a → o k < n) → (∀ j k, j < k → k < a → o j ≠ o k) → used < 64 → (∀ h, h < n → (used.testBit h = true ↔ ∃ k, k < a ∧ o k = h)) → (fair = true → ∀ k, k < a → ∀ c, c < n → arV A n b (o k) c ≤ arV A n b (o k) k) → (∀ cur' bs' os' fh' ffb' ffh', cI A fair n (dK 24 b n) ((dK n o a + 1) * n ^ (n - a)) cur' bs' os' → (0 < cur' → rep n ffb' bs' ∧ rep n ffh' os') → rep a fh' o → K (cL A n cur' bs' os') fh' ffb' ffh') → wp_X0_chooseHeirs d (bI fair) (nI n) (cL A n cur bs os) fsh fb fh ffb ffh (nI a) (nI used) (nI (lsN A n b o a)) K
  | 0, a, _, _, _, _, _, _, _, _, _, ha, hd, _, _, _, _, _, _, _, _, _ => by omega
  | d + 1, a, cur, used, bs, os, o, fh, ffb, ffh, K, ha, hd, hI, hr, hfh, ho1, ho2, hus, hut, hfr, hK => by
    obtain ⟨j, hj⟩ : ∃ j, n - a = j + 1 := ⟨n - a - 1, by omega⟩
    have hp : ∀ x, x * n ^ (j + 1) = (x * n) * n ^ j := fun x => by rw [Nat.pow_succ, Nat.mul_comm (n ^ j) n, ← Nat.mul_assoc]
    obtain ⟨P, hP⟩ : ∃ P, P = dK n o a := ⟨_, rfl⟩
    rw [hj, hp] at hI
    rw [hj, hp, Nat.succ_mul] at hK
    rw [← hP] at hI hK
    show lpW5 (wb_X0_chooseHeirs_3 (bI fair) (nI n) fsh fb (nI a) (nI used) (nI (lsN A n b o a)) (wp_X0_chooseHeirs d) K) 0 (cL A n cur bs os) fh ffb ffh
    refine lpW5_inv (fun x L fh ffb ffh => ∃ h cur bs os, x = nI h ∧ h ≤ n ∧ L = cL A n cur bs os ∧ cI A fair n (dK 24 b n) ((P * n + h) * n ^ j) cur bs os ∧ (0 < cur → rep n ffb bs ∧ rep n ffh os) ∧ rep a fh o) (fun x _ _ _ _ => 5 - x.toInt.toNat) ?_ _ _ _ _ _ ⟨0, cur, bs, os, rfl, Nat.zero_le _, rfl, hI, hr, hfh⟩
    clear hI hr hfh cur bs os fh ffb ffh
    rintro _ _ fh ffb ffh ⟨h, cur, bs, os, rfl, hh, rfl, hI, hr, hfh⟩
    refine pk_le n h (fun z => ?_) (fun z => s_settled ?_) rfl rfl (by omega) (by omega)
    · have e : h = n := by omega
      subst e
      exact hK cur bs os fh ffb ffh hI hr hfh
    have hmu : 5 - (nI (h + 1)).toInt.toNat < 5 - (nI h).toInt.toNat := by rw [nI_toInt (by omega), nI_toInt (by omega)]; omega
    by_cases hst : (fair && decide (0 < cur)) = true
    · rw [hst]
      rw [Bool.and_eq_true] at hst
      have h0 := of_decide_eq_true hst.2
      refine bn_f (by decide) (hK cur bs os fh ffb ffh (cI_adv hI (fun b' o' _ _ _ => ?_)) hr hfh)
      rw [hst.1]
      exact Nat.le_trans cG_le1 h0
    replace hst := Bool.eq_false_iff.mpr hst
    rw [hst]
    have v1 := arV_le hA hb ha (show h < 6 by omega)
    obtain ⟨m, hm⟩ : ∃ m, m = min (lsN A n b o a) (arV A n b h a) := ⟨_, rfl⟩
    have hm30 : m < 2 ^ 31 := by omega
    refine bn_t rfl ⟨4 * a + h, by rw [lit_n 4, pk_mul, nI_add, Nat.mul_comm], by omega, nm_r (hsh a ha h z) (nm_r (e' := nI m) (by rw [hm]; exact iMi_n lsN_31 (by omega)) ?_)⟩
    obtain ⟨o2, ho⟩ : ∃ o2, o2 = updN o a h := ⟨_, rfl⟩
    have o2a : o2 a = h := by rw [ho, updN_s]
    have o2k : ∀ k, k < a → o2 k = o k := fun k hk => by rw [ho, updN_n (by omega)]
    have k2 : dK n o2 (a + 1) = P * n + h := by rw [dK, dK_cong o2k, o2a, ← hP]
    have l2 : lsN A n b o2 (a + 1) = m := by rw [lsN, lsN_cong (fun _ _ => rfl) (by omega) o2k, o2a, hm]
    /- nothing to be had with this heir here -/
    have stay : ∀ L : Int32 → Int32 → (Nat → Int32) → (Nat → Int32) → (Nat → Int32) → Prop, (∀ L' fh' ffb' ffh' x', (∃ h' cur' bs' os', x' = nI h' ∧ h' = h + 1 ∧ L' = cL A n cur' bs' os' ∧ cI A fair n (dK 24 b n) ((P * n + h') * n ^ j) cur' bs' os' ∧ (0 < cur' → rep n ffb' bs' ∧ rep n ffh' os') ∧ rep a fh' o) → L x' L' fh' ffb' ffh') → (∀ b' o', cV n b' o' → (∀ k, k < n → b' k = b k) → (∀ k, k < a → o' k = o k) → o' a = h → cG A fair n b' o' ≤ cur) → L (nI (h + 1)) (cL A n cur bs os) fh ffb ffh := fun L hL hall => by
      refine hL _ _ _ _ _ ⟨h + 1, cur, bs, os, rfl, rfl, rfl, cI_adv hI (fun b' o' hv hn1 hn2 => ?_), hr, hfh⟩
      unfold cD at hn1 hn2
      have q1 : dK 24 b' n = dK 24 b n := by omega
      have q2 : (P * n + h) * n ^ j ≤ dK n o' n := by omega
      have q3 : dK n o' n < (P * n + h + 1) * n ^ j := by
        rcases hn2 with y | y
        · omega
        · exact y.2
      have en : a + 1 + j = n := by omega
      have q4 : dK n o' (a + 1) = P * n + h := dK_in (β := n) (a := a + 1) (j := j) (fun k hk => hv.2.1 k (by omega)) (by rw [en]; exact q2) (by rw [en]; exact q3)
      rw [dK] at q4
      obtain ⟨q5, q6⟩ := dg_eq (hv.2.1 a ha) z q4
      rw [hP] at q5
      exact hall b' o' hv (dK_eq (fun k hk => cVb_24 hv.1 hk) (fun k hk => cVb_24 hb hk) q1) (dK_eq (fun k hk => hv.2.1 k (by omega)) ho1 q5) q6
    have st : ∀ (c : Bool) (L : Int32 → Int32 → (Nat → Int32) → (Nat → Int32) → (Nat → Int32) → Prop), (∀ L' fh' ffb' ffh' x', (∃ h' cur' bs' os', x' = nI h' ∧ h' = h + 1 ∧ L' = cL A n cur' bs' os' ∧ cI A fair n (dK 24 b n) ((P * n + h') * n ^ j) cur' bs' os' ∧ (0 < cur' → rep n ffb' bs' ∧ rep n ffh' os') ∧ rep a fh' o) → L x' L' fh' ffb' ffh') → (c = false → ∀ b' o', cV n b' o' → (∀ k, k < n → b' k = b k) → (∀ k, k < a → o' k = o k) → o' a = h → cG A fair n b' o' ≤ cur) → (c = true → fair = true → ∀ d, d < n → arV A n b h d ≤ arV A n b h a) → (c = true → fair = false → cur < m + 1) → wj_X0_chooseHeirs_80 (bI fair) (nI n) (cL A n cur bs os) fsh fb fh ffb ffh (nI a) (nI used) (nI h) (nI m) (bI c) (wp_X0_chooseHeirs d) L := fun c L hL hbad hgf hgb => by
      unfold wj_X0_chooseHeirs_80
      rw [shr_bit (by omega) (by omega)]
      by_cases hb1 : used.testBit h = true
      · rw [if_pos hb1]
        refine bn_f (by decide) (nm_r (nI_1 h) (stay L hL (fun b' o' hv _ e1 e2 => ?_)))
        obtain ⟨k, hk, hok⟩ := (hut h z).mp hb1
        exact absurd (by rw [e1 k hk, hok, e2]) (hv.2.2 k a hk ha)
      rw [if_neg hb1]
      refine bn_t rfl ?_
      cases c
      · exact br_t rfl (nm_r (nI_1 h) (stay L hL (hbad rfl)))
      have nu : ∀ k, k < a → o k ≠ h := fun k hk e => hb1 ((hut h z).mpr ⟨k, hk, e⟩)
      have d1 : ∀ k, k < a + 1 → o2 k < n := fun k hk => by
        by_cases e : k = a
        · rw [e, o2a]; exact z
        · rw [o2k k (by omega)]; exact ho1 k (by omega)
      have d2 : ∀ j k, j < k → k < a + 1 → o2 j ≠ o2 k := fun i k hi hk => by
        by_cases e : k = a
        · rw [e, o2a, o2k i (by omega)]; exact nu i (by omega)
        · rw [o2k i (by omega), o2k k (by omega)]; exact ho2 i k hi (by omega)
      have d3 : fair = true → ∀ k, k < a + 1 → ∀ c, c < n → arV A n b (o2 k) c ≤ arV A n b (o2 k) k := fun hf k hk c hc => by
        by_cases e : k = a
        · rw [e, o2a]; exact hgf rfl hf c hc
        · rw [o2k k (by omega)]; exact hfr hf k (by omega) c hc
      have rh : rep (a + 1) (upd fh a (nI h)) o2 := fun k hk => by
        unfold upd
        by_cases e : k = a
        · rw [if_pos e, e, o2a]
        · rw [if_neg e, o2k k (by omega)]; exact hfh k (by omega)
      refine br_f (by decide) ⟨a, rfl, by omega, nm_r (or_bitE used (by omega)) ?_⟩
      refine pk_le n (a + 1) (fun y => ?_) (fun y => ?_) rfl (nI_1 a) (by omega) (by omega)
      · have en : n = a + 1 := by omega
        have hj0 : j = 0 := by omega
        subst hj0
        rw [Nat.pow_zero, Nat.mul_one] at hI
        have hv : cV n b o2 := ⟨hb, fun k hk => d1 k (by omega), fun i k hi hk => d2 i k hi (by omega)⟩
        have hq : dK n o2 n = P * n + h := by rw [← k2, ← en]
        have ln : lsN A n b o2 n = m := by rw [← l2, ← en]
        have hg : cur < cG A fair n b o2 := by
          cases fair
          · rw [cG_b, ln]; exact hgb rfl rfl
          · rw [cG_f1 (fun k hk c hc => d3 rfl k (by omega) c hc)]
            rw [Bool.true_and] at hst
            have := of_decide_eq_false hst
            omega
        refine ⟨0, 0, n, rfl, rfl, rfl, by omega, by omega, 0, 0, n, rfl, rfl, rfl, by omega, by omega, nm_r (nI_1 h) (hL _ _ _ _ _ ⟨h + 1, cG A fair n b o2, b, o2, rfl, rfl, ?_, ?_, fun _ => ⟨cpy_n hfb, cpy_n (fun k hk => rh k (by omega))⟩, fun k hk => ?_⟩)⟩
        · unfold cL; rw [if_neg (by omega), ln]
        · rw [Nat.pow_zero, Nat.mul_one]; exact cI_new hI hv hq hg
        · rw [rh k (by omega), o2k k hk]
      · have hj1 : n - (a + 1) = j := by omega
        refine nm_r (nI_1 a) ?_
        rw [← l2]
        refine s_choose hA hn2 hn hb hfb hsh d (a + 1) cur (used ||| 2 ^ h) bs os o2 _ ffb ffh _ y (by omega) (by rw [k2, hj1]; exact hI) hr rh d1 d2 (or_lt (n := 6) hus (Nat.pow_lt_pow_right (by decide) (by omega))) (fun h' hh' => ?_) d3 (fun cur' bs' os' fh' ffb' ffh' hI' hr' hfh' => nm_r (nI_1 h) (hL _ _ _ _ _ ⟨h + 1, cur', bs', os', rfl, rfl, rfl, ?_, hr', fun k hk => ?_⟩))
        · rw [Nat.testBit_or, Bool.or_eq_true, hut h' hh', Nat.testBit_two_pow]
          constructor
          · rintro (⟨k, hk, hok⟩ | e)
            · exact ⟨k, by omega, by rw [o2k k hk]; exact hok⟩
            · exact ⟨a, by omega, by rw [o2a]; exact of_decide_eq_true e⟩
          · rintro ⟨k, hk, hok⟩
            by_cases e : k = a
            · rw [e, o2a] at hok; exact Or.inr (decide_eq_true hok)
            · exact Or.inl ⟨k, by omega, by rw [← o2k k (by omega)]; exact hok⟩
        · rw [k2, hj1] at hI'; exact hI'
        · rw [hfh' k (by omega), o2k k hk]
    have hLL : ∀ (L' : Int32) (fh' ffb' ffh' : Nat → Int32) (x' : Int32), (∃ h' cur' bs' os', x' = nI h' ∧ h' = h + 1 ∧ L' = cL A n cur' bs' os' ∧ cI A fair n (dK 24 b n) ((P * n + h') * n ^ j) cur' bs' os' ∧ (0 < cur' → rep n ffb' bs' ∧ rep n ffh' os') ∧ rep a fh' o) → (fun (c1 c2 : Int32) (c3 c4 c5 : Nat → Int32) => ∃ k, k < 5 - (nI h).toInt.toNat ∧ ((∃ h cur bs os, c1 = nI h ∧ h ≤ n ∧ c2 = cL A n cur bs os ∧ cI A fair n (dK 24 b n) ((P * n + h) * n ^ j) cur bs os ∧ (0 < cur → rep n c4 bs ∧ rep n c5 os) ∧ rep a c3 o) ∧ 5 - c1.toInt.toNat = k)) x' L' fh' ffb' ffh' := by
      rintro L' fh' ffb' ffh' _ ⟨h', cur', bs', os', rfl, rfl, rfl, hI', hr', hfh'⟩
      exact ⟨_, hmu, ⟨h + 1, cur', bs', os', rfl, z, rfl, hI', hr', hfh'⟩, rfl⟩
    cases fair
    · refine br_t rfl (cmpL hI.2 hm30 (fun w => st false _ hLL (fun _ b' o' hv e1 e2 e3 => ?_) (fun y => nomatch y) (fun y => nomatch y)) (fun w => st true _ hLL (fun y => nomatch y) (fun _ y => nomatch y) (fun _ _ => w)))
      rw [cG_b]
      have q1 := lsN_mono (A := A) (n := n) (b := b') (o := o') (show a + 1 ≤ n by omega)
      have q2 : lsN A n b' o' (a + 1) = lsN A n b o2 (a + 1) := lsN_cong e1 (by omega) (fun k hk => by
        by_cases e : k = a
        · rw [e, e3, o2a]
        · rw [e2 k (by omega), o2k k (by omega)])
      omega
    · refine br_f (by decide) (s_envious hA hn hb hsh z ha ?_)
      cases hev : anyN (fun c => decide (arV A n b h a < arV A n b h c)) n
      · refine bn_t rfl (st true _ hLL (fun y => nomatch y) (fun _ _ c hc => ?_) (fun _ y => nomatch y))
        have := of_decide_eq_false (anyN_f hev c hc)
        omega
      · obtain ⟨c, hc, hlt⟩ := anyN_t hev
        refine bn_f (by decide) (st false _ hLL (fun _ b' o' hv e1 e2 e3 => ?_) (fun y => nomatch y) (fun y => nomatch y))
        rw [cG_f0 (frP_not e1 ha hc e3 (of_decide_eq_true hlt))]
        exact Nat.zero_le _
