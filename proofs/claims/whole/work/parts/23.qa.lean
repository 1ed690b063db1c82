/-! way: the reference's least of ten, and the pair -/
def wA (C : Nat → Nat) : Nat → Int32
  | 0 => -6
  | k + 1 => nI (wMin C (k + 1) / 10)
def wB (C : Nat → Nat) : Nat → Int32
  | 0 => 0
  | k + 1 => nI (wMin C (k + 1) % 10)
theorem s5_wayStep {C : Nat → Nat} (hC : ∀ n, n < 10 → C n ≤ 2500) {k : Nat} (hk : k < 10) {L : Int32 → Int32 → Int32 → Prop} (hL : L (wA C (k + 1)) (wB C (k + 1)) (nI (k + 1))) : ((wA C k < 0) → (∀ n6 : Int32, n6 = nI k + (1 : Int32) → L (nI (C k)) (nI k) n6)) ∧ ((¬ wA C k < 0) → (((wA C k ≤ nI (C k)) → (∀ n7 : Int32, n7 = nI k + (1 : Int32) → L (wA C k) (wB C k) n7)) ∧ ((¬ wA C k ≤ nI (C k)) → (∀ n8 : Int32, n8 = nI k + (1 : Int32) → L (nI (C k)) (nI k) n8)))) := by
  have c := hC k hk
  cases k with
  | zero =>
    have e1 : wMin C (0 + 1) / 10 = C 0 := by rw [wMin, wMin]; omega
    have e2 : wMin C (0 + 1) % 10 = 0 := by rw [wMin, wMin]; omega
    rw [wA, wB, e1, e2] at hL
    exact br_t (by show (-6 : Int32) < 0; decide) (nm_r (nI_1 0) hL)
  | succ k =>
    have b := (wMin_b hC (k + 1) (by omega)).2 (by omega)
    have d : wMin C (k + 1 + 1) = min (wMin C (k + 1)) (10 * C (k + 1) + (k + 1)) := rfl
    rw [wA, wB] at hL
    show (nI (wMin C (k + 1) / 10) < 0 → _) ∧ _
    refine br_f (nI_pos (by omega)) (pk_le (wMin C (k + 1) / 10) (C (k + 1)) (fun a => nm_r (nI_1 _) ?_) (fun a => nm_r (nI_1 _) ?_) rfl rfl (by omega) (by omega))
    · rw [show wMin C (k + 1 + 1) = wMin C (k + 1) by omega] at hL; exact hL
    · rw [show wMin C (k + 1 + 1) / 10 = C (k + 1) by omega, show wMin C (k + 1 + 1) % 10 = k + 1 by omega] at hL; exact hL
theorem s5_way {g t h a b w : Nat} {ow ga C : Nat → Nat} {fo fg : Nat → Int32} (ho : rep 24 fo (own ow g)) (vo : ∀ k, k < 504 → ow k < 6) (hga : rep 6 fg ga) (vg : ∀ k, k < 6 → ga k < 64) (hg : g ≤ 20) (ht : t ≤ 99) (hh : h < 6) (ha : a < 24) (hb : b < 24) (hw : w < 3) (hCe : ∀ k, C k = wcD ow g ga t h a b (k / 2) (k % 2)) {K : Int32 → Prop} (hK : K (wAns (wMin C 10) w)) : lpW3 (wb_X5_way_46 (nI t) fo fg (nI h) (nI a) (nI b) (nI w) K) (-6) 0 0 := by
  have hC : ∀ n, n < 10 → C n ≤ 2500 := fun n hn => by rw [hCe]; exact wcD_le ht (by omega)
  refine lpW3_for (wA C) (wB C) (fun k => nI k) 10 (fun k hk L hL => ?_) (fun L => ?_)
  · refine pk_le 10 k (fun z => by omega) (fun _ => ?_)
    have st := s5_wayStep hC hk hL
    have e := hCe k
    have hd : (nI k) / (2 : Int32) = nI (k / 2) := by rw [lit_n 2, pk_div (by omega) (by decide) (by decide)]
    refine pk_ne (k % 2) 0 (fun e1 => ?_) (fun e1 => ?_) (by rw [lit_n 2, rem_n (by omega) (by decide) (by decide)]) rfl (by omega) (by omega)
    · rw [show k % 2 = 1 by omega] at e
      rw [e] at st
      unfold wj_X5_way_73
      rw [hd]
      exact s5_wayB ho vo hga vg hg ht hh (by omega) ha hb st
    · rw [e1] at e
      rw [e] at st
      unfold wj_X5_way_73
      rw [hd]
      exact s5_wayF ho vo hga vg hg ht hh (by omega) ha hb st
  · refine pk_le 10 10 (fun _ => ?_) (fun z => by omega)
    show (¬ nI w = 0 → _) ∧ _
    rw [wAns] at hK
    refine pk_ne w 0 (fun n0 => pk_ne w 1 (fun n1 => ?_) (fun e => ?_) rfl rfl (by omega) (by omega)) (fun e => ?_) rfl rfl (by omega) (by omega)
    · rw [if_neg n0, if_neg n1] at hK
      show K (1 - iR (nI (wMin C 10 % 10)) 2)
      rw [lit_n 2, rem_n (by omega) (by decide) (by decide), show wMin C 10 % 10 % 2 = wMin C 10 % 2 by omega]; exact hK
    · rw [if_neg (by omega), if_pos e] at hK
      show K (nI (wMin C 10 % 10) / 2)
      rw [lit_n 2, pk_div (by omega) (by decide) (by decide)]; exact hK
    · rw [if_pos e] at hK; exact hK
theorem p_way {g t : Nat} {x1 x2 x3 x4 : Int32} {ow ga : Nat → Nat} {fo fg mo mg : Nat → Int32} (ho : rep 504 fo ow) (hmo : rep 24 mo (own ow g)) (hga : rep 6 fg ga) (hmg : rep 6 mg ga) (vo : ∀ k, k < 504 → ow k < 6) (vg : ∀ k, k < 6 → ga k < 64) (hg : g ≤ 20) (ht : t ≤ 99) : wp_X4_way (nI g) (nI t) fo fg x1 x2 x3 x4 (fun r => wp_X5_way (nI t) mo mg x1 x2 x3 x4 (fun r2 => r = r2)) := by
  rcases pk_ix' x1 6 (by decide) with h | h | ⟨j, hj, rfl⟩
  · exact s4_isHeir_f (Or.inl h) (br_t rfl (s5_isHeir_f (Or.inl h) (br_t rfl rfl)))
  · exact s4_isHeir_f (Or.inr h) (br_t rfl (s5_isHeir_f (Or.inr h) (br_t rfl rfl)))
  refine s4_isHeir_t hj (br_f (by decide) ?_)
  rcases pk_ix' x2 24 (by decide) with h | h | ⟨a, ha, rfl⟩
  · exact s4_isSector_f (Or.inl h) (br_t rfl (s5_isHeir_t hj (br_f (by decide) (s5_isSector_f (Or.inl h) (br_t rfl rfl)))))
  · exact s4_isSector_f (Or.inr h) (br_t rfl (s5_isHeir_t hj (br_f (by decide) (s5_isSector_f (Or.inr h) (br_t rfl rfl)))))
  refine s4_isSector_t ha (br_f (by decide) ?_)
  rcases pk_ix' x3 24 (by decide) with h | h | ⟨b, hb, rfl⟩
  · exact s4_isSector_f (Or.inl h) (bn_t rfl (s5_isHeir_t hj (br_f (by decide) (s5_isSector_t ha (br_f (by decide) (s5_isSector_f (Or.inl h) (bn_t rfl rfl)))))))
  · exact s4_isSector_f (Or.inr h) (bn_t rfl (s5_isHeir_t hj (br_f (by decide) (s5_isSector_t ha (br_f (by decide) (s5_isSector_f (Or.inr h) (bn_t rfl rfl)))))))
  refine s4_isSector_t hb (bn_f (by decide) ?_)
  rcases pk_ix' x4 3 (by decide) with h | h | ⟨w, hw, rfl⟩
  · exact br_t h (s5_isHeir_t hj (br_f (by decide) (s5_isSector_t ha (br_f (by decide) (s5_isSector_t hb (bn_f (by decide) (s5_in_f 2 (Or.inl h) (by decide) (bn_t rfl rfl))))))))
  · have h0 : ¬ x4 < 0 := fun z => ng_nle z 3 (by decide) h
    have h1 : ¬ x4 ≤ nI 2 := fun z => by
      rw [Int32.le_iff_toInt_le, nI_toInt (by omega)] at h z
      omega
    exact br_f h0 (br_f h1 (s5_isHeir_t hj (br_f (by decide) (s5_isSector_t ha (br_f (by decide) (s5_isSector_t hb (bn_f (by decide) (s5_in_f 2 (Or.inr h) (by decide) (bn_t rfl rfl)))))))))
  refine br_f (nI_pos (by omega)) (br_t (nI_le (b := 2) (by omega) (by omega)) ?_)
  exact s_bestWay ho vo hga vg hg ht hj ha hb hw (s5_isHeir_t hj (br_f (by decide) (s5_isSector_t ha (br_f (by decide) (s5_isSector_t hb (bn_f (by decide) (s5_in_t 0 2 (by omega) (by omega) (by decide) (bn_f (by decide) (s5_way hmo vo hmg vg hg ht hj ha hb hw (fun _ => rfl) rfl)))))))))
