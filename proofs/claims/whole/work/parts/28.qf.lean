/-! cuts: the class's search, its small steps -/
def anyN (p : Nat → Bool) : Nat → Bool
  | 0 => false
  | k + 1 => anyN p k || p k
theorem anyN_f {p : Nat → Bool} : ∀ {n : Nat}, anyN p n = false → ∀ k, k < n → p k = false
  | 0, _, k, hk => absurd hk (Nat.not_lt_zero k)
  | n + 1, h, k, hk => by
    rw [anyN, Bool.or_eq_false_iff] at h
    by_cases e : k = n
    · rw [e]; exact h.2
    · exact anyN_f h.1 k (by omega)
theorem anyN_t {p : Nat → Bool} : ∀ {n : Nat}, anyN p n = true → ∃ k, k < n ∧ p k = true
  | 0, h => absurd h (by rw [anyN]; decide)
  | n + 1, h => by
    rw [anyN, Bool.or_eq_true] at h
    rcases h with h | h
    · obtain ⟨k, hk, hp⟩ := anyN_t h; exact ⟨k, by omega, hp⟩
    · exact ⟨n, by omega, h⟩
theorem bI_or (a b : Bool) : bI a ||| bI b = bI (a || b) := by cases a <;> cases b <;> decide
def rSums (A : Nat → Nat → Nat) (n : Nat) (f : Nat → Int32) : Prop := ∀ h, h < n → ∀ s, s < 48 → f (48 * h + s) = nI (A h s)
def rShr (A : Nat → Nat → Nat) (n : Nat) (b : Nat → Nat) (m : Nat) (f : Nat → Int32) : Prop := ∀ k, k < m → ∀ h, h < n → f (4 * k + h) = nI (arV A n b h k)
/-- the least share that the class keeps -/
def cL (A : Nat → Nat → Nat) (n cur : Nat) (bs os : Nat → Nat) : Int32 := if cur = 0 then -1 else nI (lsN A n bs os n)
theorem lsN_31 {A : Nat → Nat → Nat} {n m : Nat} {b o : Nat → Nat} : lsN A n b o m < 2 ^ 31 := Nat.lt_of_le_of_lt lsN_30 (by decide)
theorem s_isFound {A : Nat → Nat → Nat} {n cur : Nat} {bs os : Nat → Nat} {K : Int32 → Prop} (hK : K (bI (decide (0 < cur)))) : wp_X0_isFound (cL A n cur bs os) K := by
  unfold cL
  by_cases e : cur = 0
  · rw [if_pos e]; rw [decide_eq_false (by omega)] at hK; exact br_t (by decide) hK
  · rw [if_neg e]; rw [decide_eq_true (by omega)] at hK; exact br_f (nI_pos lsN_31) hK
theorem s_settled {A : Nat → Nat → Nat} {fair : Bool} {n cur : Nat} {bs os : Nat → Nat} {K : Int32 → Prop} (hK : K (bI (fair && decide (0 < cur)))) : wp_X0_isSettled (bI fair) (cL A n cur bs os) K := by
  cases fair
  · exact br_t rfl hK
  · refine br_f (by decide) (s_isFound ?_)
    rw [Bool.true_and] at hK
    cases h : decide (0 < cur)
    · rw [h] at hK; exact br_t rfl hK
    · rw [h] at hK; exact br_f (by decide) hK
/-- a value against the least share kept -/
theorem cmpL {A : Nat → Nat → Nat} {n cur m : Nat} {bs os : Nat → Nat} (hS : cS A false n cur bs os) (hm : m < 2 ^ 31) {P Q : Prop} (f : m + 1 ≤ cur → P) (g : cur < m + 1 → Q) : (nI m ≤ cL A n cur bs os → P) ∧ (¬ nI m ≤ cL A n cur bs os → Q) := by
  unfold cL
  by_cases e : cur = 0
  · rw [if_pos e]
    refine br_f (fun z => ?_) (g (by omega))
    rw [Int32.le_iff_toInt_le, nI_toInt hm, show (-1 : Int32).toInt = -1 by decide] at z
    omega
  · rw [if_neg e]
    have h := (hS (by omega)).2.1
    rw [cG_b] at h
    exact pk_le m (lsN A n bs os n) (fun z => f (by omega)) (fun z => g (by omega)) rfl rfl hm lsN_31
theorem s_enough {A : Nat → Nat → Nat} {fair : Bool} {n cur h sh : Nat} {bs os : Nat → Nat} {fs : Nat → Int32} (hA : cA A) (hn : n ≤ 4) (hfs : rSums A n fs) (hh : h < n) (hsh : sh ≤ 24000) (hS : cS A fair n cur bs os) {K : Int32 → Prop} (hK : K (bI (enB A fair n cur h sh))) : wp_X0_isEnough (bI fair) (nI n) (cL A n cur bs os) fs (nI h) (nI sh) K := by
  cases fair
  · rw [enB, if_neg (by decide)] at hK
    refine br_t rfl (cmpL hS (by omega) (fun z => ?_) (fun z => ?_))
    · rw [decide_eq_false (by omega)] at hK; exact hK
    · rw [decide_eq_true (by omega)] at hK; exact hK
  · rw [enB, if_pos rfl] at hK
    have h1 := hA.2.2 h 24 (by omega) (by decide)
    have h2 : sh * n ≤ 24000 * 4 := Nat.mul_le_mul hsh hn
    refine br_f (by decide) ⟨48 * h + 24, by rw [lit_n 48, lit_n 24, pk_mul, nI_add, Nat.mul_comm], by omega, ?_⟩
    rw [hfs h hh 24 (by decide), pk_mul]
    refine pk_lt (sh * n) (A h 24) (fun z => ?_) (fun z => ?_) rfl rfl (by omega) (by omega)
    · rw [decide_eq_false (by omega)] at hK; exact hK
    · rw [decide_eq_true z] at hK; exact hK
theorem arV_le {A : Nat → Nat → Nat} {n h k : Nat} {b : Nat → Nat} (hA : cA A) (hb : cVb n b) (hk : k < n) (hh : h < 6) : arV A n b h k ≤ 24000 := by
  unfold arV
  have h0 := cVb_24 hb (show 0 < n by omega)
  by_cases z : k + 1 < n
  · rw [if_pos z]
    have := hA.2.2 h (b (k + 1)) hh (by have := cVb_24 hb z; omega)
    omega
  · rw [if_neg z]
    have := hA.2.2 h (b 0 + 24) hh (by omega)
    omega
theorem s_note {A : Nat → Nat → Nat} {fair : Bool} {n cur u : Nat} {b bs os : Nat → Nat} {fs fsh fb : Nat → Int32} (hA : cA A) (hn : n ≤ 4) (hfs : rSums A n fs) (hb : cVb n b) (hfb : rep n fb b) (hu : u < n) (hS : cS A fair n cur bs os) (hsh : rShr A n b u fsh) {K : Int32 → (Nat → Int32) → Prop} (hK : ∀ f', rShr A n b (u + 1) f' → K (bI (anyN (fun h => enB A fair n cur h (arV A n b h u)) n)) f') : wp_X0_noteShares (bI fair) (nI n) (cL A n cur bs os) fs fsh fb (nI u) K := by
  obtain ⟨e, he⟩ : ∃ e, e = if u + 1 < n then b (u + 1) else b 0 + 24 := ⟨_, rfl⟩
  have hu24 := cVb_24 hb hu
  have he48 : e < 48 ∧ b u ≤ e := by
    have h0 := cVb_24 hb (show 0 < n by omega)
    by_cases z : u + 1 < n
    · rw [if_pos z] at he
      have := cVb_24 hb z
      have := hb.1 u z
      omega
    · rw [if_neg z] at he; omega
  have lp : lpW3 (wb_X0_noteShares_36 (bI fair) (nI n) (cL A n cur bs os) fs fb (nI u) (nI e) K) 0 0 fsh := by
    refine lpW3_inv (fun x y f => ∃ h, x = bI (anyN (fun h => enB A fair n cur h (arV A n b h u)) h) ∧ y = nI h ∧ h ≤ n ∧ rShr A n b u f ∧ ∀ h', h' < h → f (4 * u + h') = nI (arV A n b h' u)) (fun _ y _ => 5 - y.toInt.toNat) ?_ _ _ _ ⟨0, rfl, rfl, Nat.zero_le _, hsh, fun h' z => absurd z (Nat.not_lt_zero _)⟩
    rintro _ _ f ⟨h, rfl, rfl, hh, hf1, hf2⟩
    refine pk_le n h (fun z => ?_) (fun z => ?_) rfl rfl (by omega) (by omega)
    · have e1 : h = n := by omega
      subst e1
      refine ⟨bI_n _, hK f (fun k hk h' hh' => ?_)⟩
      by_cases e2 : k = u
      · subst e2; exact hf2 h' hh'
      · exact hf1 k (by omega) h' hh'
    · have hv := arV_le hA hb hu (show h < 6 by omega)
      have hmono := hA.1 h (b u) e he48.2
      refine ⟨48 * h + e, by rw [lit_n 48, pk_mul, nI_add, Nat.mul_comm], by omega, u, rfl, by omega, 48 * h + b u, by rw [hfb u hu, lit_n 48, pk_mul, nI_add, Nat.mul_comm], by omega, ?_⟩
      rw [hfs h z e he48.1, hfs h z (b u) (by omega)]
      refine nm_r (e' := nI (arV A n b h u)) (by rw [pk_sub hmono, he]; rfl) ⟨4 * u + h, by rw [lit_n 4, pk_mul, nI_add, Nat.mul_comm], by omega, s_enough hA hn hfs z hv hS (nm_r (bI_or _ _) (nm_r (nI_1 h) ⟨_, ?_, ⟨h + 1, rfl, rfl, z, fun k hk h' hh' => ?_, fun h' hh' => ?_⟩, rfl⟩))⟩
      · show 5 - (nI (h + 1)).toInt.toNat < 5 - (nI h).toInt.toNat
        rw [nI_toInt (by omega), nI_toInt (by omega)]; omega
      · show upd f (4 * u + h) _ _ = _
        unfold upd; rw [if_neg (by omega)]; exact hf1 k hk h' hh'
      · show upd f (4 * u + h) _ _ = _
        unfold upd
        by_cases e2 : h' = h
        · subst e2; rw [if_pos rfl]
        · rw [if_neg (by omega)]; exact hf2 h' (by omega)
  refine pk_le n (u + 1) (fun z => nm_r (e' := nI e) ?_ lp) (fun z => ⟨u + 1, nI_1 u, by omega, nm_r (e' := nI e) ?_ lp⟩) rfl (nI_1 u) (by omega) (by omega)
  · rw [hfb 0 (by omega), lit_n 24, nI_add, he, if_neg (by omega)]
  · rw [hfb (u + 1) z, he, if_pos z]
theorem s_firstArc {A : Nat → Nat → Nat} {fair : Bool} {n cur : Nat} {b bs os : Nat → Nat} {fs fsh fb : Nat → Int32} (hA : cA A) (hn : n ≤ 4) (hfs : rSums A n fs) (hb : cVb n b) (hfb : rep n fb b) (hS : cS A fair n cur bs os) {K : Int32 → (Nat → Int32) → Prop} (h1 : ∀ f', rShr A n b n f' → K (nI n) f') (h2 : ∀ u f', u < n → (∀ h, h < n → enB A fair n cur h (arV A n b h u) = false) → K (nI u) f') : wp_X0_firstArcOfNoUse (bI fair) (nI n) (cL A n cur bs os) fs fsh fb K := by
  refine lpW2_inv (fun x f => ∃ u, x = nI u ∧ u ≤ n ∧ rShr A n b u f) (fun x _ => 5 - x.toInt.toNat) ?_ _ _ ⟨0, rfl, Nat.zero_le _, fun k hk => absurd hk (Nat.not_lt_zero k)⟩
  rintro _ f ⟨u, rfl, hu, hf⟩
  refine pk_le n u (fun z => ?_) (fun z => s_note hA hn hfs hb hfb z hS hf (fun f' hf' => ?_)) rfl rfl (by omega) (by omega)
  · have e1 : u = n := by omega
    subst e1; exact h1 f hf
  · cases ha : anyN (fun h => enB A fair n cur h (arV A n b h u)) n
    · exact br_t rfl (h2 u f' z (anyN_f ha))
    · refine br_f (by decide) (nm_r (nI_1 u) ⟨_, ?_, ⟨u + 1, rfl, z, hf'⟩, rfl⟩)
      show 5 - (nI (u + 1)).toInt.toNat < 5 - (nI u).toInt.toNat
      rw [nI_toInt (by omega), nI_toInt (by omega)]; omega
theorem bI_o0 (a : Bool) : bI a ||| (0 : Int32) = bI a := by cases a <;> decide
theorem bI_o1 (a : Bool) : bI a ||| (1 : Int32) = bI true := by cases a <;> decide
theorem s_envious {A : Nat → Nat → Nat} {n h a : Nat} {b : Nat → Nat} {fsh : Nat → Int32} (hA : cA A) (hn : n ≤ 4) (hb : cVb n b) (hsh : rShr A n b n fsh) (hh : h < n) (ha : a < n) {K : Int32 → Prop} (hK : K (bI (anyN (fun c => decide (arV A n b h a < arV A n b h c)) n))) : wp_X0_isEnvious (nI n) fsh (nI h) (nI (arV A n b h a)) K := by
  refine lpW2_for (fun k => bI (anyN (fun c => decide (arV A n b h a < arV A n b h c)) k)) (fun k => nI k) n (fun k hk L hL => ?_) (fun L => ?_)
  · refine pk_le n k (fun z => by omega) (fun _ => ⟨4 * k + h, by rw [lit_n 4, pk_mul, nI_add, Nat.mul_comm], by omega, ?_⟩) rfl rfl (by omega) (by omega)
    have v1 := arV_le hA hb hk (show h < 6 by omega)
    have v2 := arV_le hA hb ha (show h < 6 by omega)
    rw [hsh k hk h hh]
    refine pk_le (arV A n b h k) (arV A n b h a) (fun z => nm_r (bI_o0 _) (nm_r (nI_1 k) ?_)) (fun z => nm_r (bI_o1 _) (nm_r (nI_1 k) ?_)) rfl rfl (by omega) (by omega)
    · rw [anyN, decide_eq_false (by omega), Bool.or_false] at hL; exact hL
    · rw [anyN, decide_eq_true z, Bool.or_true] at hL; exact hL
  · exact pk_le n n (fun _ => ⟨bI_n _, hK⟩) (fun z => by omega) rfl rfl (by omega) (by omega)
/-- the next bounds: both sides step alike -/
theorem m1_0 : nI 0 - (1 : Int32) = -1 := by decide
theorem m1_n {j : Nat} : nI (j + 1) - (1 : Int32) = nI j := by rw [lit_n 1, pk_sub (by omega)]; rfl
theorem m1_t {j : Nat} (h : j < 2 ^ 31) : ((nI j - (1 : Int32)).toInt + 1).toNat = j := by
  cases j with
  | zero => rw [m1_0]; decide
  | succ j => rw [m1_n, nI_toInt (by omega)]; omega
theorem m1_a {j : Nat} : nI j + (-1 : Int32) = nI j - (1 : Int32) := by rw [Int32.sub_eq_add_neg]
theorem s_step {n m : Nat} {b : Nat → Nat} {fb : Nat → Int32} (hn : n ≤ 4) (hb : cVb n b) (hfb : rep n fb b) (hm : m < n) {K : Int32 → (Nat → Int32) → Prop} (h1 : ∀ l f', l ≤ m → b l + n < 24 + l → (∀ k, l < k → k ≤ m → 24 + k ≤ b k + n) → rep n f' (nxB b l) → K 1 f') (h0 : (∀ k, k ≤ m → 24 + k ≤ b k + n) → K 0 fb) : wp_X0_stepBounds (nI n) fb (nI m) K := by
  have body : ∀ l, l ≤ m → b l + n < 24 + l → (∀ k, l < k → k ≤ m → 24 + k ≤ b k + n) → wj_X0_stepBounds_30 (nI n) fb (nI l) K := fun l hl hx hmax => by
    refine br_t (nI_pos' (by omega)) ⟨l, rfl, by omega, nm_r (e' := nI (b l + 1)) (by rw [hfb l (by omega), nI_1]) ⟨l, rfl, by omega, nm_r (nI_1 l) ?_⟩⟩
    refine lpW2_inv (fun x f => ∃ k, x = nI k ∧ l < k ∧ k ≤ n ∧ ∀ j, j < k → f j = nI (nxB b l j)) (fun x _ => 5 - x.toInt.toNat) ?_ _ _ ⟨l + 1, rfl, by omega, by omega, fun j hj => ?_⟩
    · rintro _ f ⟨k, rfl, hk1, hk2, hf⟩
      refine pk_le n k (fun z => ?_) (fun z => ?_) rfl rfl (by omega) (by omega)
      · have e : k = n := by omega
        subst e; exact h1 l f hl hx hmax hf
      · refine ⟨k - 1, by rw [lit_n 1, pk_sub (by omega)], by omega, nm_r (e' := nI (nxB b l k)) ?_ ⟨k, rfl, by omega, nm_r (nI_1 k) ⟨_, ?_, ⟨k + 1, rfl, by omega, z, fun j hj => ?_⟩, rfl⟩⟩⟩
        · rw [hf (k - 1) (by omega), nI_1]
          congr 1
          unfold nxB
          rw [if_neg (by omega), if_neg (by omega)]; omega
        · show 5 - (nI (k + 1)).toInt.toNat < 5 - (nI k).toInt.toNat
          rw [nI_toInt (by omega), nI_toInt (by omega)]; omega
        · unfold upd
          by_cases e : j = k
          · rw [if_pos e, e]
          · rw [if_neg e]; exact hf j (by omega)
    · unfold upd
      by_cases e : j = l
      · rw [if_pos e, e]
        congr 1
        unfold nxB
        rw [if_neg (by omega)]; omega
      · rw [if_neg e, hfb j (by omega)]
        congr 1
        unfold nxB
        rw [if_pos (by omega)]
  unfold wp_X0_stepBounds
  refine lpW1_inv (fun x => ∃ j, x = nI j - 1 ∧ j ≤ m + 1 ∧ ∀ k, j ≤ k → k ≤ m → 24 + k ≤ b k + n) (fun x => (x.toInt + 1).toNat) ?_ _ ⟨m + 1, m1_n.symm, Nat.le_refl _, fun k h1 h2 => by omega⟩
  rintro _ ⟨j, rfl, hj, hmax⟩
  cases j with
  | zero =>
    rw [m1_0]
    exact br_t (by decide) (br_f (by decide) (h0 (fun k hk => hmax k (Nat.zero_le _) hk)))
  | succ l =>
    have hl24 := cVb_24 hb (show l < n by omega)
    rw [m1_n]
    refine br_f (nI_pos (by omega)) ⟨l, rfl, by omega, ?_⟩
    rw [hfb l (by omega)]
    refine pk_lt (b l) (24 - n + l) (fun z => body l (by omega) (by omega) (fun k h1 h2 => hmax k h1 h2)) (fun z => nm_r m1_a ⟨_, ?_, ⟨l, rfl, by omega, fun k h1 h2 => ?_⟩, rfl⟩) rfl (by rw [lit_n 24, pk_sub (by omega), nI_add]) (by omega) (by omega)
    · show ((nI l - 1).toInt + 1).toNat < ((nI l).toInt + 1).toNat
      rw [m1_t (by omega), nI_toInt (by omega)]; omega
    · by_cases e : k = l
      · rw [e]; omega
      · exact hmax k (by omega) h2
