/-! rolls -/
theorem hitV_lt {so o : Nat → Nat} (vo : ∀ k, k < 24 → o k < 6) : ∀ (r s acc : Nat), s < 24 → acc < 64 → hitV so o r s acc < 64
  | 0, _, _, _, h => h
  | r + 1, s, acc, hs, h => by
    rw [hitV]
    split
    · exact h
    · exact hitV_lt vo r _ _ (sb_lt hs) (or_lt (n := 6) h (Nat.pow_lt_pow_right (by decide) (vo _ (sb_lt hs))))
/-- who is hit by the stones of an heir -/
def rolB (so o : Nat → Nat) (h b : Nat) (P : Nat → Nat → Prop) : Prop := ∃ r s, r < 5 ∧ s < 24 ∧ P r s ∧ o s = h ∧ (hitV so o r s 0).testBit b = true
theorem s_rolls {g h : Nat} {so ow : Nat → Nat} {fs fo : Nat → Int32} (hs : rep 120 fs so) (ho : rep 504 fo ow) (vs : ∀ k, k < 120 → so k < 5) (vo : ∀ k, k < 504 → ow k < 6) (hg : g ≤ 20) (hh : h < 6) {K : Int32 → Prop} (hK : ∀ R, R < 64 → (∀ b, R.testBit b = true ↔ rolB so (own ow g) h b (fun _ _ => True)) → K (nI R &&& (((1 : Int32) <<< (nI h &&& 31)) ^^^ (-1 : Int32)))) : wp_X4_rolls (nI g) fs fo (nI h) K := by
  have vo' : ∀ s, s < 24 → own ow g s < 6 := fun s hs => vo _ (by omega)
  refine s4_isHeir_t hh (bn_f (by decide) ?_)
  refine lpW2_inv (fun a b => ∃ s R, a = nI R ∧ b = nI s ∧ s ≤ 24 ∧ R < 64 ∧ ∀ b, R.testBit b = true ↔ rolB so (own ow g) h b (fun _ s' => s' < s)) (fun a b => 24 - b.toInt.toNat) ?_ _ _ ⟨0, 0, rfl, rfl, by omega, by decide, fun b => ⟨fun z => by simp at z, fun ⟨_, _, _, _, z, _⟩ => absurd z (Nat.not_lt_zero _)⟩⟩
  rintro _ _ ⟨s, R, rfl, rfl, hs24, hR, hB⟩
  refine pk_le 24 s (fun z => ?_) (fun z => ?_) rfl rfl (by omega) (by omega)
  · refine hK R hR (fun b => (hB b).trans ⟨fun ⟨r, s', a, b', _, c, d⟩ => ⟨r, s', a, b', trivial, c, d⟩, fun ⟨r, s', a, b', _, c, d⟩ => ⟨r, s', a, b', by omega, c, d⟩⟩)
  have v6 := vo (24 * g + s) (by omega)
  have hmu : 24 - (nI (s + 1)).toInt.toNat < 24 - (nI s).toInt.toNat := by rw [nI_toInt (by omega), nI_toInt (by omega)]; omega
  refine s_ownerOf ho hg z (pk_ne (own ow g s) h (fun a => ?_) (fun a => ?_) rfl rfl (by show ow _ < _; omega) (by omega))
  · refine nm_r (nI_1 s) ⟨_, hmu, ⟨s + 1, R, rfl, rfl, z, hR, fun b => (hB b).trans ⟨fun ⟨r, s', p, q, w, c, d⟩ => ⟨r, s', p, q, by omega, c, d⟩, fun ⟨r, s', p, q, w, c, d⟩ => ⟨r, s', p, q, ?_, c, d⟩⟩⟩, rfl⟩
    have : s' ≠ s := fun e => a (by rw [← e]; exact c)
    omega
  · refine lpW2_inv (fun a b => ∃ r R, a = nI R ∧ b = nI r ∧ r ≤ 5 ∧ R < 64 ∧ ∀ b, R.testBit b = true ↔ rolB so (own ow g) h b (fun r' s' => s' < s ∨ (s' = s ∧ r' < r))) (fun a b => 5 - b.toInt.toNat) ?_ _ _ ⟨0, R, rfl, rfl, by omega, hR, fun b => (hB b).trans ⟨fun ⟨r, s', p, q, w, c, d⟩ => ⟨r, s', p, q, Or.inl w, c, d⟩, fun ⟨r, s', p, q, w, c, d⟩ => ⟨r, s', p, q, by omega, c, d⟩⟩⟩
    rintro _ _ ⟨r, R, rfl, rfl, hr5, hR, hB⟩
    refine pk_le 5 r (fun y => ?_) (fun y => ?_) rfl rfl (by omega) (by omega)
    · exact nm_r (nI_1 s) ⟨_, hmu, ⟨s + 1, R, rfl, rfl, z, hR, fun b => (hB b).trans ⟨fun ⟨r, s', p, q, w, c, d⟩ => ⟨r, s', p, q, by omega, c, d⟩, fun ⟨r, s', p, q, w, c, d⟩ => ⟨r, s', p, q, by omega, c, d⟩⟩⟩, rfl⟩
    · have hl := hitV_lt (so := so) vo' r s 0 z (by decide)
      refine s_hitBy hs ho vs vo hg y z (nm_r (nI_or _ _) (nm_r (nI_1 r) ⟨_, ?_, ⟨r + 1, _, rfl, rfl, y, or_lt (n := 6) hR hl, fun b => ?_⟩, rfl⟩))
      · show 5 - (nI (r + 1)).toInt.toNat < _
        rw [nI_toInt (by omega), nI_toInt (by omega)]; omega
      · rw [Nat.testBit_or, Bool.or_eq_true, hB b]
        constructor
        · rintro (⟨r', s', p, q, w, c, d⟩ | d)
          · exact ⟨r', s', p, q, by omega, c, d⟩
          · exact ⟨r, s, y, z, by omega, a, d⟩
        · rintro ⟨r', s', p, q, w, c, d⟩
          by_cases e : s' = s ∧ r' = r
          · obtain ⟨rfl, rfl⟩ := e; exact Or.inr d
          · exact Or.inl ⟨r', s', p, q, by omega, c, d⟩
theorem s5_rolls {h : Nat} {so o : Nat → Nat} {fs fo : Nat → Int32} {v0 : Int32} (hs : rep 120 fs (fun k => cde (so k))) (ho : rep 24 fo o) (vs : ∀ k, k < 120 → so k < 5) (vo : ∀ k, k < 24 → o k < 6) (hh : h < 6) {K : Int32 → Int32 → Prop} (hK : ∀ R v, R < 64 → (∀ b, R.testBit b = true ↔ rolB so o h b (fun _ _ => True)) → K (nI R &&& (((1 : Int32) <<< (nI h &&& 31)) ^^^ (-1 : Int32))) v) : wp_X5_rolls v0 fs fo (nI h) K := by
  refine s5_isHeir_t hh (bn_f (by decide) ?_)
  refine lpW3_inv (fun a b _ => ∃ t R, a = nI R ∧ b = nI t ∧ t ≤ 120 ∧ R < 64 ∧ ∀ b, R.testBit b = true ↔ rolB so o h b (fun r' s' => 24 * r' + s' < t)) (fun a b _ => 120 - b.toInt.toNat) ?_ _ _ _ ⟨0, 0, rfl, rfl, by omega, by decide, fun b => ⟨fun z => by simp at z, fun ⟨_, _, _, _, z, _⟩ => absurd z (Nat.not_lt_zero _)⟩⟩
  rintro _ _ v ⟨t, R, rfl, rfl, ht, hR, hB⟩
  refine pk_le 120 t (fun z => ?_) (fun z => ?_) rfl rfl (by omega) (by omega)
  · exact hK R v hR (fun b => (hB b).trans ⟨fun ⟨r, s', a, b', _, c, d⟩ => ⟨r, s', a, b', trivial, c, d⟩, fun ⟨r, s', a, b', _, c, d⟩ => ⟨r, s', a, b', by omega, c, d⟩⟩)
  have hmu : 120 - (nI (t + 1)).toInt.toNat < 120 - (nI t).toInt.toNat := by rw [nI_toInt (by omega), nI_toInt (by omega)]; omega
  obtain ⟨r, s, hr, hk, rfl⟩ : ∃ r s, r < 5 ∧ s < 24 ∧ t = 24 * r + s := ⟨t / 24, t % 24, by omega, by omega, by omega⟩
  have em : (24 * r + s) % 24 = s := by omega
  have ed : (24 * r + s) / 24 = r := by omega
  refine ⟨s, by rw [lit_n 24, rem_n (by omega) (by decide) (by decide), em], hk, ?_⟩
  rw [ho s hk]
  have v6 := vo s hk
  refine pk_ne (o s) h (fun a => ?_) (fun a => ?_) rfl rfl (by omega) (by omega)
  · refine nm_r (nI_o0 _) (nm_r (nI_1 _) ⟨_, hmu, ⟨24 * r + s + 1, R, rfl, rfl, by omega, hR, fun b => (hB b).trans ⟨fun ⟨r', s', p, q, w, c, d⟩ => ⟨r', s', p, q, by omega, c, d⟩, fun ⟨r', s', p, q, w, c, d⟩ => ⟨r', s', p, q, ?_, c, d⟩⟩⟩, rfl⟩)
    have : s' ≠ s := fun e => a (by rw [← e]; exact c)
    omega
  · have hl := hitV_lt (so := so) vo r s 0 hk (by decide)
    refine nm_r (e' := nI r) (by rw [lit_n 24, pk_div (by omega) (by decide) (by decide), ed]) (nm_r (e' := nI s) (by rw [lit_n 24, rem_n (by omega) (by decide) (by decide), em]) (s5_hitBy hs ho vs vo hr hk (nm_r (nI_or _ _) (nm_r (nI_1 _) ⟨_, hmu, ⟨24 * r + s + 1, _, rfl, rfl, by omega, or_lt (n := 6) hR hl, fun b => ?_⟩, rfl⟩))))
    rw [Nat.testBit_or, Bool.or_eq_true, hB b]
    constructor
    · rintro (⟨r', s', p, q, w, c, d⟩ | d)
      · exact ⟨r', s', p, q, by omega, c, d⟩
      · exact ⟨r, s, hr, hk, by omega, a, d⟩
    · rintro ⟨r', s', p, q, w, c, d⟩
      by_cases e : s' = s ∧ r' = r
      · obtain ⟨rfl, rfl⟩ := e; exact Or.inr d
      · exact Or.inl ⟨r', s', p, q, by omega, c, d⟩
theorem p_rolls {g : Nat} {v0 x1 : Int32} {so ow : Nat → Nat} {fs fo ms mo : Nat → Int32} (hs : rep 120 fs so) (hms : rep 120 ms (fun k => cde (so k))) (ho : rep 504 fo ow) (hmo : rep 24 mo (own ow g)) (vs : ∀ k, k < 120 → so k < 5) (vo : ∀ k, k < 504 → ow k < 6) (hg : g ≤ 20) : wp_X4_rolls (nI g) fs fo x1 (fun r => wp_X5_rolls v0 ms mo x1 (fun r2 _ => r = r2)) := by
  have vo' : ∀ s, s < 24 → own ow g s < 6 := fun s hs => vo _ (by omega)
  rcases pk_ix' x1 6 (by decide) with h | h | ⟨j, hj, rfl⟩
  · exact s4_isHeir_f (Or.inl h) (bn_t rfl (s5_isHeir_f (Or.inl h) (bn_t rfl rfl)))
  · exact s4_isHeir_f (Or.inr h) (bn_t rfl (s5_isHeir_f (Or.inr h) (bn_t rfl rfl)))
  refine s_rolls hs ho vs vo hg hj (fun R _ hR => s5_rolls hms hmo vs vo' hj (fun R2 _ _ hR2 => ?_))
  have e : R = R2 := Nat.eq_of_testBit_eq (fun b => by rw [Bool.eq_iff_iff, hR b, hR2 b])
  rw [e]
