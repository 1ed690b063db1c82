/-! new objects; images -/
def so0 (k : Nat) : Nat := if k < 48 then 0 else k / 24
def wo0 (k : Nat) : Nat := if k % 5 = 0 then 10 else if k % 5 = 1 then 4 else if k % 5 = 2 then 3 else if k % 5 = 3 then 0 else 1
theorem so0_lt {k : Nat} (h : k < 120) : so0 k < 5 := by unfold so0; split <;> omega
theorem wo0_le {k : Nat} : wo0 k ≤ 99 := by unfold wo0; split; omega; split; omega; split; omega; split <;> omega
theorem fs_0 : ∀ r, r < 5 → gFS.getD r 0 = nI (if r < 2 then 0 else r) := by decide +kernel
theorem fw_0 : ∀ r, r < 5 → gFW.getD r 0 = nI (wo0 r) := by decide +kernel
/-- a row that is filled from its first place on -/
theorem fill_lp {N B : Nat} {src f0 : Nat → Int32} {NEXT : (Nat → Int32) → Prop} {body : (Int32 → (Nat → Int32) → Prop) → Int32 → (Nat → Int32) → Prop} (hN : N < 1000) (hb : ∀ (L : Int32 → (Nat → Int32) → Prop) (j : Nat) (f : Nat → Int32), j ≤ N → (j < N → L (nI (j + 1)) (upd f (B + j) (src j))) → (j = N → NEXT f) → body L (nI j) f) (hn : ∀ f, (∀ i, i < N → f (B + i) = src i) → (∀ i, (i < B ∨ B + N ≤ i) → f i = f0 i) → NEXT f) : lpW2 body 0 f0 := by
  refine lpW2_inv (fun x f => ∃ j, x = nI j ∧ j ≤ N ∧ (∀ i, i < j → f (B + i) = src i) ∧ ∀ i, (i < B ∨ B + j ≤ i) → f i = f0 i) (fun x _ => N - x.toInt.toNat) ?_ _ _ ⟨0, rfl, Nat.zero_le _, fun i hi => absurd hi (Nat.not_lt_zero i), fun _ _ => rfl⟩
  rintro _ f ⟨j, rfl, hj, h1, h2⟩
  refine hb _ j f hj (fun z => ⟨_, ?_, ⟨j + 1, rfl, z, fun i hi => ?_, fun i hi => ?_⟩, rfl⟩) (fun z => ?_)
  · show N - (nI (j + 1)).toInt.toNat < N - (nI j).toInt.toNat
    rw [nI_toInt (by omega), nI_toInt (by omega)]; omega
  · show upd f (B + j) _ (B + i) = _
    unfold upd
    by_cases e : i = j
    · rw [e, if_pos rfl]
    · rw [if_neg (by omega)]; exact h1 i (by omega)
  · show upd f (B + j) _ i = _
    unfold upd
    rw [if_neg (by omega)]; exact h2 i (by omega)
  · subst z; exact hn f h1 h2
theorem s_init2 {K : (Nat → Int32) → (Nat → Int32) → Prop} (hK : ∀ fs fw, rep 120 fs so0 → rep 30 fw wo0 → K fs fw) : wp_X2_init K := by
  refine fill_lp (B := 0) (src := fun j => nI (so0 j)) (N := 120) (NEXT := fun f => lpW2 (wb_X2_init_72 f K) 0 (fun _ => 0)) (by decide) (fun L j f hj h1 h2 => ?_) (fun f hf _ => ?_)
  · refine pk_le 120 j (fun z => h2 (by omega)) (fun z => ⟨j / 24, by rw [lit_n 24, pk_div (by omega) (by decide) (by decide)], by omega, nm_r (e' := nI (so0 j)) ?_ ⟨j, rfl, z, nm_r (nI_1 j) ?_⟩⟩) rfl rfl (by omega) (by omega)
    · rw [fs_0 _ (by omega)]
      congr 1
      unfold so0
      by_cases e : j < 48
      · rw [if_pos e, if_pos (by omega)]
      · rw [if_neg e, if_neg (by omega)]
    · have := h1 z
      rw [Nat.zero_add] at this; exact this
  · refine fill_lp (B := 0) (src := fun j => nI (wo0 j)) (N := 30) (NEXT := fun g => K f g) (by decide) (fun L j g hj h1 h2 => ?_) (fun g hg _ => hK f g (fun k hk => by have := hf k hk; rw [Nat.zero_add] at this; exact this) (fun k hk => by have := hg k hk; rw [Nat.zero_add] at this; exact this))
    refine pk_le 30 j (fun z => h2 (by omega)) (fun z => ⟨j % 5, by rw [lit_n 5, rem_n (by omega) (by decide) (by decide)], by omega, nm_r (e' := nI (wo0 j)) ?_ ⟨j, rfl, z, nm_r (nI_1 j) ?_⟩⟩) rfl rfl (by omega) (by omega)
    · rw [fw_0 _ (by omega)]
      congr 1
      unfold wo0
      rw [Nat.mod_mod]
    · have := h1 z
      rw [Nat.zero_add] at this; exact this
theorem s_init4 {K : (Nat → Int32) → (Nat → Int32) → Prop} (hK : ∀ fs fw, rep 120 fs so0 → rep 30 fw wo0 → K fs fw) : wp_X4_init K := s_init2 (fun fs fw h1 h2 => ⟨⟨rfl, rfl⟩, ⟨rfl, rfl⟩, hK fs fw h1 h2⟩)
theorem s_init5 {K : (Nat → Int32) → (Nat → Int32) → Prop} (hK : ∀ fs fw, rep 120 fs (fun k => cde (so0 k)) → rep 30 fw wo0 → K fs fw) : wp_X5_init K := by
  refine fill_lp (B := 0) (src := fun j => nI (cde (so0 j))) (N := 120) (NEXT := fun f => lpW2 (wb_X5_init_201 f K) 0 (fun _ => 0)) (by decide) (fun L j f hj h1 h2 => ?_) (fun f hf _ => ?_)
  · refine pk_le 120 j (fun z => h2 (by omega)) (fun z => nm_r (e' := nI (j / 24)) (by rw [lit_n 24, pk_div (by omega) (by decide) (by decide)]) ?_) rfl rfl (by omega) (by omega)
    have h1' := h1 z
    rw [Nat.zero_add] at h1'
    refine pk_le 2 (j / 24) (fun y => pk_ne (j / 24) 2 (fun e2 => pk_ne (j / 24) 3 (fun e3 => ⟨j, rfl, z, nm_r (nI_1 j) ?_⟩) (fun e3 => ⟨j, rfl, z, nm_r (nI_1 j) ?_⟩) rfl rfl (by omega) (by omega)) (fun e2 => ⟨j, rfl, z, nm_r (nI_1 j) ?_⟩) rfl rfl (by omega) (by omega)) (fun y => ⟨j, rfl, z, nm_r (nI_1 j) ?_⟩) rfl rfl (by omega) (by omega)
    · rw [show so0 j = 4 by unfold so0; rw [if_neg (by omega)]; omega] at h1'; exact h1'
    · rw [show so0 j = 3 by unfold so0; rw [if_neg (by omega)]; omega] at h1'; exact h1'
    · rw [show so0 j = 2 by unfold so0; rw [if_neg (by omega)]; omega] at h1'; exact h1'
    · rw [show so0 j = 0 by unfold so0; rw [if_pos (by omega)]] at h1'; exact h1'
  · refine lpW2_inv (fun x g => ∃ h, x = nI h ∧ h ≤ 6 ∧ (∀ k, k < 5 * h → g k = nI (wo0 k)) ∧ ∀ k, 5 * h ≤ k → g k = 0) (fun x _ => 6 - x.toInt.toNat) ?_ _ _ ⟨0, rfl, by omega, fun k hk => by omega, fun _ _ => rfl⟩
    rintro _ g ⟨h, rfl, hh, g1, g2⟩
    refine pk_le 6 h (fun z => hK f g (fun k hk => by have := hf k hk; rw [Nat.zero_add] at this; exact this) (fun k hk => g1 k (by omega))) (fun z => ⟨5 * h, by rw [lit_n 5, pk_mul], by omega, 5 * h + 1, by rw [lit_n 5, lit_n 1, pk_mul, nI_add], by omega, 5 * h + 2, by rw [lit_n 5, lit_n 2, pk_mul, nI_add], by omega, 5 * h + 4, by rw [lit_n 5, lit_n 4, pk_mul, nI_add], by omega, nm_r (nI_1 h) ⟨_, ?_, ⟨h + 1, rfl, z, fun k hk => ?_, fun k hk => ?_⟩, rfl⟩⟩) rfl rfl (by omega) (by omega)
    · show 6 - (nI (h + 1)).toInt.toNat < 6 - (nI h).toInt.toNat
      rw [nI_toInt (by omega), nI_toInt (by omega)]; omega
    · show upd (upd (upd (upd g (5 * h) 10) (5 * h + 1) 4) (5 * h + 2) 3) (5 * h + 4) 1 k = _
      unfold upd wo0
      by_cases e4 : k = 5 * h + 4
      · rw [if_pos e4, if_neg (by omega), if_neg (by omega), if_neg (by omega), if_neg (by omega)]; rfl
      · rw [if_neg e4]
        by_cases e2 : k = 5 * h + 2
        · rw [if_pos e2, if_neg (by omega), if_neg (by omega), if_pos (by omega)]; rfl
        · rw [if_neg e2]
          by_cases e1 : k = 5 * h + 1
          · rw [if_pos e1, if_neg (by omega), if_pos (by omega)]; rfl
          · rw [if_neg e1]
            by_cases e0 : k = 5 * h
            · rw [if_pos e0, if_pos (by omega)]; rfl
            · rw [if_neg e0]
              by_cases e3 : k = 5 * h + 3
              · rw [if_neg (by omega), if_neg (by omega), if_neg (by omega), if_pos (by omega), g2 k (by omega)]; rfl
              · have := g1 k (by omega)
                unfold wo0 at this; exact this
    · show upd (upd (upd (upd g (5 * h) 10) (5 * h + 1) 4) (5 * h + 2) 3) (5 * h + 4) 1 k = _
      unfold upd
      rw [if_neg (by omega), if_neg (by omega), if_neg (by omega), if_neg (by omega)]; exact g2 k (by omega)
/-! what a hill is: of the class (its rows), of the reference (its rows), and kept as an image of the reference -/
def hilB (g t : Nat) (so ow wo ga : Nat → Nat) : Prop := g ≤ 20 ∧ t ≤ 99 ∧ (∀ k, k < 120 → so k < 5) ∧ (∀ k, k < 504 → ow k < 6) ∧ (∀ k, k < 30 → wo k ≤ 99) ∧ ∀ k, k < 6 → ga k < 64
def hilC (g t : Nat) (so ow wo ga : Nat → Nat) (vg vt : Int32) (fs fo fw fg : Nat → Int32) : Prop := vg = nI g ∧ vt = nI t ∧ rep 120 fs so ∧ rep 504 fo ow ∧ rep 30 fw wo ∧ rep 6 fg ga
def hilM (g t : Nat) (so ow wo ga : Nat → Nat) (vg vt : Int32) (ms mh mw mo mr : Nat → Int32) : Prop := vg = nI g ∧ vt = nI t ∧ rep 120 ms (fun k => cde (so k)) ∧ rep 24 mh (own ow g) ∧ rep 504 mw ow ∧ rep 30 mo wo ∧ rep 6 mr ga
def imgM (B g t : Nat) (so ow wo ga : Nat → Nat) (f : Nat → Int32) : Prop := (∀ k, k < 120 → f (B + k) = nI (cde (so k))) ∧ (∀ k, k < 24 → f (B + 120 + k) = nI (own ow g k)) ∧ (∀ k, k < 504 → f (B + 144 + k) = nI (ow k)) ∧ (∀ k, k < 30 → f (B + 648 + k) = nI (wo k)) ∧ (∀ k, k < 6 → f (B + 678 + k) = nI (ga k)) ∧ f (B + 684) = nI g ∧ f (B + 685) = nI t
theorem imgM_cong {B g t : Nat} {so ow wo ga : Nat → Nat} {f f' : Nat → Int32} (e : ∀ k, B ≤ k → k < B + 686 → f' k = f k) (h : imgM B g t so ow wo ga f) : imgM B g t so ow wo ga f' := by
  obtain ⟨h1, h2, h3, h4, h5, h6, h7⟩ := h
  refine ⟨fun k hk => ?_, fun k hk => ?_, fun k hk => ?_, fun k hk => ?_, fun k hk => ?_, ?_, ?_⟩
  · rw [e _ (by omega) (by omega)]; exact h1 k hk
  · rw [e _ (by omega) (by omega)]; exact h2 k hk
  · rw [e _ (by omega) (by omega)]; exact h3 k hk
  · rw [e _ (by omega) (by omega)]; exact h4 k hk
  · rw [e _ (by omega) (by omega)]; exact h5 k hk
  · rw [e _ (by omega) (by omega)]; exact h6
  · rw [e _ (by omega) (by omega)]; exact h7
theorem s_copyFrom {g t : Nat} {so ow wo ga : Nat → Nat} {vg vt ug ut : Int32} {fs fo fw fg es eo ew eg : Nat → Int32} (h : hilC g t so ow wo ga ug ut es eo ew eg) {K : Int32 → Int32 → (Nat → Int32) → (Nat → Int32) → (Nat → Int32) → (Nat → Int32) → Prop} (hK : ∀ vg vt fs fo fw fg, hilC g t so ow wo ga vg vt fs fo fw fg → K vg vt fs fo fw fg) : wp_X2_copyFrom vg vt fs fo fw fg ug ut es eo ew eg K := by
  obtain ⟨h1, h2, h3, h4, h5, h6⟩ := h
  exact ⟨0, 0, 120, rfl, rfl, rfl, by omega, by omega, 0, 0, 504, rfl, rfl, rfl, by omega, by omega, 0, 0, 30, rfl, rfl, rfl, by omega, by omega, 0, 0, 6, rfl, rfl, rfl, by omega, by omega, hK _ _ _ _ _ _ ⟨h1, h2, cpy_n h3, cpy_n h4, cpy_n h5, cpy_n h6⟩⟩
theorem s_image_n {g t k : Nat} {so ow wo ga : Nat → Nat} {ug ut : Int32} {es eo ew eg : Nat → Int32} (hk : k < 2) (h : hilC g t so ow wo ga ug ut es eo ew eg) {K : Int32 → Int32 → Int32 → (Nat → Int32) → (Nat → Int32) → (Nat → Int32) → (Nat → Int32) → Prop} (hK : ∀ vg vt fs fo fw fg, hilC g t so ow wo ga vg vt fs fo fw fg → K 1 vg vt fs fo fw fg) : wp_X4_image_n ug ut es eo ew eg (nI k) K :=
  s4_isImage_t hk (bn_f (by decide) (s_init2 (fun _ _ _ _ => s_copyFrom h (fun vg vt fs fo fw fg h' => hK vg vt fs fo fw fg h'))))
theorem s_image_s {g t k : Nat} {so ow wo ga : Nat → Nat} {ug ut vg vt : Int32} {es eo ew eg fs fo fw fg : Nat → Int32} (hk : k < 2) (h : hilC g t so ow wo ga ug ut es eo ew eg) {K : Int32 → Int32 → Int32 → (Nat → Int32) → (Nat → Int32) → (Nat → Int32) → (Nat → Int32) → Prop} (hK : ∀ vg vt fs fo fw fg, hilC g t so ow wo ga vg vt fs fo fw fg → K 1 vg vt fs fo fw fg) : wp_X4_image_s ug ut es eo ew eg vg vt fs fo fw fg (nI k) K :=
  s4_isImage_t hk (bn_f (by decide) (s_copyFrom h (fun vg vt fs fo fw fg h' => hK vg vt fs fo fw fg h')))
theorem s_image_o {x : Int32} (h : x < 0 ∨ nI 2 ≤ x) {K : Int32 → Prop} (hK : K (-2)) : wp_X4_image_o x K := s4_isImage_f h (bn_t rfl hK)
theorem s_restore_o {x : Int32} (h : x < 0 ∨ nI 2 ≤ x) {K : Int32 → Prop} (hK : K (-2)) : wp_X4_restore_o x K := s4_isImage_f h (bn_t rfl hK)
theorem s_restore_n {k : Nat} (hk : k < 2) {K : Int32 → Prop} (hK : K (-3)) : wp_X4_restore_n (nI k) K := s4_isImage_t hk (bn_f (by decide) hK)
theorem s_restore_s {g t k : Nat} {so ow wo ga : Nat → Nat} {ug ut vg vt fn bn : Int32} {es eo ew eg fs fo fw fg : Nat → Int32} (hk : k < 2) (h : hilC g t so ow wo ga ug ut es eo ew eg) {K : Int32 → Int32 → Int32 → (Nat → Int32) → (Nat → Int32) → (Nat → Int32) → (Nat → Int32) → Int32 → Int32 → Prop} (hK : ∀ vg vt fs fo fw fg, hilC g t so ow wo ga vg vt fs fo fw fg → K 1 vg vt fs fo fw fg 0 0) : wp_X4_restore_s vg vt fs fo fw fg fn bn ug ut es eo ew eg (nI k) K :=
  s4_isImage_t hk (bn_f (by decide) (s_copyFrom h (fun vg vt fs fo fw fg h' => hK vg vt fs fo fw fg h')))
theorem ix_a {B c j : Nat} : nI B + nI c + nI j = nI (B + c + j) := by rw [nI_add, nI_add]
theorem s5_image {g t k : Nat} {so ow wo ga : Nat → Nat} {vg vt : Int32} {ms mh mw mo mr f0 kp : Nat → Int32} (hk : k < 2) (h : hilM g t so ow wo ga vg vt ms mh mw mo mr) {K : Int32 → (Nat → Int32) → (Nat → Int32) → Prop} (hK : ∀ f', imgM (686 * k) g t so ow wo ga f' → (∀ i, (i < 686 * k ∨ 686 * k + 686 ≤ i) → f' i = f0 i) → K 1 f' (upd kp k 1)) : wp_X5_image vg vt ms mh mw mo mr f0 kp (nI k) K := by
  obtain ⟨h1, h2, h3, h4, h5, h6, h7⟩ := h
  refine s5_in_t 0 1 (by omega) (by omega) (by decide) (bn_f (by decide) (nm_r (e' := nI (686 * k)) (by rw [lit_n 686, pk_mul]) ?_))
  obtain ⟨B, hB⟩ : ∃ B, B = 686 * k := ⟨_, rfl⟩
  rw [← hB] at hK ⊢
  have hB2 : B ≤ 686 := by omega
  refine fill_lp (B := B) (src := fun j => nI (cde (so j))) (N := 120) (NEXT := fun f => lpW2 (wb_X5_image_48 vg vt mh mw mo mr kp (nI k) (nI B) K) 0 f) (by decide) (fun L j f hj a1 a2 => ?_) (fun f1 p1 q1 => ?_)
  · exact pk_le 120 j (fun z => a2 (by omega)) (fun z => ⟨j, rfl, z, nm_r (h3 j z) ⟨B + j, nI_add B j, by omega, nm_r (nI_1 j) (a1 z)⟩⟩) rfl rfl (by omega) (by omega)
  refine fill_lp (B := B + 120) (src := fun j => nI (own ow g j)) (N := 24) (NEXT := fun f => lpW2 (wb_X5_image_79 vg vt mw mo mr kp (nI k) (nI B) K) 0 f) (by decide) (fun L j f hj a1 a2 => ?_) (fun f2 p2 q2 => ?_)
  · exact pk_le 24 j (fun z => a2 (by omega)) (fun z => ⟨j, rfl, z, nm_r (h4 j z) ⟨B + 120 + j, ix_a, by omega, nm_r (nI_1 j) (a1 z)⟩⟩) rfl rfl (by omega) (by omega)
  refine fill_lp (B := B + 144) (src := fun j => nI (ow j)) (N := 504) (NEXT := fun f => lpW2 (wb_X5_image_112 vg vt mo mr kp (nI k) (nI B) K) 0 f) (by decide) (fun L j f hj a1 a2 => ?_) (fun f3 p3 q3 => ?_)
  · exact pk_le 504 j (fun z => a2 (by omega)) (fun z => ⟨j, rfl, z, nm_r (h5 j z) ⟨B + 144 + j, ix_a, by omega, nm_r (nI_1 j) (a1 z)⟩⟩) rfl rfl (by omega) (by omega)
  refine fill_lp (B := B + 648) (src := fun j => nI (wo j)) (N := 30) (NEXT := fun f => lpW2 (wb_X5_image_144 vg vt mr kp (nI k) (nI B) K) 0 f) (by decide) (fun L j f hj a1 a2 => ?_) (fun f4 p4 q4 => ?_)
  · exact pk_le 30 j (fun z => a2 (by omega)) (fun z => ⟨j, rfl, z, nm_r (h6 j z) ⟨B + 648 + j, ix_a, by omega, nm_r (nI_1 j) (a1 z)⟩⟩) rfl rfl (by omega) (by omega)
  refine fill_lp (B := B + 678) (src := fun j => nI (ga j)) (N := 6) (NEXT := fun f => K 1 (upd (upd f (B + 684) vg) (B + 685) vt) (upd kp k 1)) (by decide) (fun L j f hj a1 a2 => ?_) (fun f5 p5 q5 => ?_)
  · exact pk_le 6 j (fun z => ⟨B + 684, nI_add B 684, by omega, B + 685, nI_add B 685, by omega, k, rfl, hk, a2 (by omega)⟩) (fun z => ⟨j, rfl, z, nm_r (h7 j z) ⟨B + 678 + j, ix_a, by omega, nm_r (nI_1 j) (a1 z)⟩⟩) rfl rfl (by omega) (by omega)
  have ef : ∀ i, i ≠ B + 684 → i ≠ B + 685 → upd (upd f5 (B + 684) vg) (B + 685) vt i = f5 i := fun i e1 e2 => by unfold upd; rw [if_neg e2, if_neg e1]
  refine hK _ ⟨fun j hj => ?_, fun j hj => ?_, fun j hj => ?_, fun j hj => ?_, fun j hj => ?_, ?_, ?_⟩ (fun i hi => ?_)
  · rw [ef _ (by omega) (by omega), q5 _ (by omega), q4 _ (by omega), q3 _ (by omega), q2 _ (by omega)]; exact p1 j hj
  · rw [ef _ (by omega) (by omega), q5 _ (by omega), q4 _ (by omega), q3 _ (by omega)]; exact p2 j hj
  · rw [ef _ (by omega) (by omega), q5 _ (by omega), q4 _ (by omega)]; exact p3 j hj
  · rw [ef _ (by omega) (by omega), q5 _ (by omega)]; exact p4 j hj
  · rw [ef _ (by omega) (by omega)]; exact p5 j hj
  · unfold upd; rw [if_neg (by omega), if_pos rfl]; exact h1
  · unfold upd; rw [if_pos rfl]; exact h2
  · rw [ef _ (by omega) (by omega), q5 _ (by omega), q4 _ (by omega), q3 _ (by omega), q2 _ (by omega), q1 _ (by omega)]
theorem s5_image_o {x vg vt : Int32} {ms mh mw mo mr f0 kp : Nat → Int32} (h : x < 0 ∨ nI 2 ≤ x) {K : Int32 → (Nat → Int32) → (Nat → Int32) → Prop} (hK : K (-2) f0 kp) : wp_X5_image vg vt ms mh mw mo mr f0 kp x K := s5_in_f 1 h (by decide) (bn_t rfl hK)
theorem s5_restore_o {x vg vt : Int32} {ms mh mw mo mr f0 kp : Nat → Int32} (h : x < 0 ∨ nI 2 ≤ x) {K : Int32 → Int32 → Int32 → (Nat → Int32) → (Nat → Int32) → (Nat → Int32) → (Nat → Int32) → (Nat → Int32) → Prop} (hK : K (-2) vg vt ms mh mw mo mr) : wp_X5_restore vg vt ms mh mw mo mr f0 kp x K := s5_in_f 1 h (by decide) (bn_t rfl hK)
theorem s5_restore_n {k : Nat} {vg vt : Int32} {ms mh mw mo mr f0 kp : Nat → Int32} (hk : k < 2) (hkp : kp k = 0) {K : Int32 → Int32 → Int32 → (Nat → Int32) → (Nat → Int32) → (Nat → Int32) → (Nat → Int32) → (Nat → Int32) → Prop} (hK : K (-3) vg vt ms mh mw mo mr) : wp_X5_restore vg vt ms mh mw mo mr f0 kp (nI k) K := s5_in_t 0 1 (by omega) (by omega) (by decide) (bn_f (by decide) ⟨k, rfl, hk, bn_t hkp hK⟩)
theorem s5_restore {g t k : Nat} {so ow wo ga : Nat → Nat} {vg vt : Int32} {ms mh mw mo mr f0 kp : Nat → Int32} (hk : k < 2) (hkp : kp k = 1) (h : imgM (686 * k) g t so ow wo ga f0) {K : Int32 → Int32 → Int32 → (Nat → Int32) → (Nat → Int32) → (Nat → Int32) → (Nat → Int32) → (Nat → Int32) → Prop} (hK : ∀ vg vt ms mh mw mo mr, hilM g t so ow wo ga vg vt ms mh mw mo mr → K 1 vg vt ms mh mw mo mr) : wp_X5_restore vg vt ms mh mw mo mr f0 kp (nI k) K := by
  obtain ⟨B, hB⟩ : ∃ B, B = 686 * k := ⟨_, rfl⟩
  rw [← hB] at h
  obtain ⟨h1, h2, h3, h4, h5, h6, h7⟩ := h
  have hB2 : B ≤ 686 := by omega
  refine s5_in_t 0 1 (by omega) (by omega) (by decide) (bn_f (by decide) ⟨k, rfl, hk, bn_f (by rw [hkp]; decide) (nm_r (e' := nI B) (by rw [lit_n 686, pk_mul, hB]) ?_)⟩)
  have z0 : ∀ {N : Nat} {f : Nat → Int32} {s : Nat → Nat}, (∀ i, i < N → f (0 + i) = nI (s i)) → rep N f s := fun h i hi => by have := h i hi; rw [Nat.zero_add] at this; exact this
  refine fill_lp (B := 0) (src := fun j => nI (cde (so j))) (N := 120) (NEXT := fun f => lpW2 (wb_X5_restore_60 f mw mo mr f0 (nI B) K) 0 mh) (by decide) (fun L j f hj a1 a2 => ?_) (fun f1 p1 _ => ?_)
  · exact pk_le 120 j (fun z => a2 (by omega)) (fun z => ⟨B + j, nI_add B j, by omega, nm_r (h1 j z) ⟨j, rfl, z, nm_r (nI_1 j) (by have := a1 z; rw [Nat.zero_add] at this; exact this)⟩⟩) rfl rfl (by omega) (by omega)
  refine fill_lp (B := 0) (src := fun j => nI (own ow g j)) (N := 24) (NEXT := fun f => lpW2 (wb_X5_restore_91 f1 f mo mr f0 (nI B) K) 0 mw) (by decide) (fun L j f hj a1 a2 => ?_) (fun f2 p2 _ => ?_)
  · exact pk_le 24 j (fun z => a2 (by omega)) (fun z => ⟨B + 120 + j, ix_a, by omega, nm_r (h2 j z) ⟨j, rfl, z, nm_r (nI_1 j) (by have := a1 z; rw [Nat.zero_add] at this; exact this)⟩⟩) rfl rfl (by omega) (by omega)
  refine fill_lp (B := 0) (src := fun j => nI (ow j)) (N := 504) (NEXT := fun f => lpW2 (wb_X5_restore_124 f1 f2 f mr f0 (nI B) K) 0 mo) (by decide) (fun L j f hj a1 a2 => ?_) (fun f3 p3 _ => ?_)
  · exact pk_le 504 j (fun z => a2 (by omega)) (fun z => ⟨B + 144 + j, ix_a, by omega, nm_r (h3 j z) ⟨j, rfl, z, nm_r (nI_1 j) (by have := a1 z; rw [Nat.zero_add] at this; exact this)⟩⟩) rfl rfl (by omega) (by omega)
  refine fill_lp (B := 0) (src := fun j => nI (wo j)) (N := 30) (NEXT := fun f => lpW2 (wb_X5_restore_156 f1 f2 f3 f f0 (nI B) K) 0 mr) (by decide) (fun L j f hj a1 a2 => ?_) (fun f4 p4 _ => ?_)
  · exact pk_le 30 j (fun z => a2 (by omega)) (fun z => ⟨B + 648 + j, ix_a, by omega, nm_r (h4 j z) ⟨j, rfl, z, nm_r (nI_1 j) (by have := a1 z; rw [Nat.zero_add] at this; exact this)⟩⟩) rfl rfl (by omega) (by omega)
  refine fill_lp (B := 0) (src := fun j => nI (ga j)) (N := 6) (NEXT := fun f => K 1 (nI g) (nI t) f1 f2 f3 f4 f) (by decide) (fun L j f hj a1 a2 => ?_) (fun f5 p5 _ => hK _ _ _ _ _ _ _ ⟨rfl, rfl, z0 p1, z0 p2, z0 p3, z0 p4, z0 p5⟩)
  · exact pk_le 6 j (fun z => ⟨B + 684, nI_add B 684, by omega, nm_r h6 ⟨B + 685, nI_add B 685, by omega, nm_r h7 (a2 (by omega))⟩⟩) (fun z => ⟨B + 678 + j, ix_a, by omega, nm_r (h5 j z) ⟨j, rfl, z, nm_r (nI_1 j) (by have := a1 z; rw [Nat.zero_add] at this; exact this)⟩⟩) rfl rfl (by omega) (by omega)
