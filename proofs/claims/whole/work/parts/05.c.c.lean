/-! printed by wip/whole/gen: contracts over the machine -/
theorem hi_X0_forget_X0 : ∀ w ∈ wsX00, w ∈ wsX0_forget := fun _ h => List.mem_cons_of_mem _ (List.mem_append_right _ h)
set_option maxRecDepth 20000 in
set_option maxHeartbeats 4000000 in
theorem c_X0_forget (l : Launch) (g : gE) (a_this a_sums a_shares a_begins a_heirs a_foundBegins a_foundHeirs : Nat) (v_fair : Int32) (v_n : Int32) (v_leastShare : Int32)   (K : Int32 → Prop) (hw : wp_X0_forget v_n K) : Cv l g yX0_forget wsX0_forget { frames := 0, cells := 0, slots := 0, locals := 0 } [.ref a_this] [(a_this, .inr (0, [.int v_fair, .ref a_sums, .ref a_shares, .ref a_begins, .ref a_heirs, .ref a_foundBegins, .ref a_foundHeirs, .int v_n, .int v_leastShare]))] (fun (u : Int32) => K u) (fun (u : Int32) => [(a_this, .inr (0, [.int v_fair, .ref a_sums, .ref a_shares, .ref a_begins, .ref a_heirs, .ref a_foundBegins, .ref a_foundHeirs, .int u, .int v_leastShare]))]) 0 0 := by
  refine Cv_of (cc := cX0_forget) (nL := 1) (ret := none) (own := RX0) (lv0 := [(0, .ref a_this)]) (by decide +kernel) rfl rfl (Nat.le_of_ble_eq_true rfl) rfl (fun A x C R => ?_)
  refine j_aload_n C 1 rfl 0 dX0_forget_0 rfl rfl ?_
  refine j_iconst C 2 rfl dX0_forget_1 (v := (0 : Int32)) (by decide) ?_
  refine j_put C 5 rfl 0 0 7 (ws' := [(a_this, .inr (0, [.int v_fair, .ref a_sums, .ref a_shares, .ref a_begins, .ref a_heirs, .ref a_foundBegins, .ref a_foundHeirs, .int (0 : Int32), .int v_leastShare]))]) (T := TX0) (N := 9) (ty := .int) tyX0_ok nmX0 hi_X0_forget_X0 rfl (by decide) (List.mem_of_getElem? (i := 1) rfl) rfl rfl rfl rfl rfl rfl (Nat.le_of_ble_eq_true rfl) rfl dX0_forget_2 ?_
  exact j_vret C R ((0 : Int32)) dX0_forget_5 rfl hw
theorem hi_X0_isFound_X0 : ∀ w ∈ wsX00, w ∈ wsX0_isFound := fun _ h => List.mem_cons_of_mem _ (List.mem_append_right _ h)
set_option maxRecDepth 20000 in
set_option maxHeartbeats 4000000 in
theorem c_X0_isFound (l : Launch) (g : gE) (a_this a_sums a_shares a_begins a_heirs a_foundBegins a_foundHeirs : Nat) (v_fair : Int32) (v_n : Int32) (v_leastShare : Int32)   (K : Int32 → Prop) (hw : wp_X0_isFound v_leastShare K) : Ci l g yX0_isFound wsX0_isFound { frames := 0, cells := 0, slots := 0, locals := 0 } [.ref a_this] [(a_this, .inr (0, [.int v_fair, .ref a_sums, .ref a_shares, .ref a_begins, .ref a_heirs, .ref a_foundBegins, .ref a_foundHeirs, .int v_n, .int v_leastShare]))] (fun (r : Int32) (_ : Unit) => K r) (fun (_ : Unit) => [(a_this, .inr (0, [.int v_fair, .ref a_sums, .ref a_shares, .ref a_begins, .ref a_heirs, .ref a_foundBegins, .ref a_foundHeirs, .int v_n, .int v_leastShare]))]) 0 0 := by
  refine Ci_of (cc := cX0_isFound) (nL := 1) (ret := (some .boolean)) (own := RX0) (lv0 := [(0, .ref a_this)]) (by decide +kernel) rfl rfl (Nat.le_of_ble_eq_true rfl) rfl (fun A x C R => ?_)
  refine j_aload_n C 1 rfl 0 dX0_isFound_0 rfl rfl ?_
  refine j_get C 4 rfl 0 0 8 (T := TX0) (N := 9) hi_X0_isFound_X0 rfl (by decide) (List.mem_of_getElem? (i := 1) rfl) rfl rfl rfl dX0_isFound_1 ?_
  refine j_if_lt C 7 rfl 11 dX0_isFound_4 rfl (fun c => ?_) (fun c => ?_)
  · have hw := hw.1 c
    refine j_iconst C 12 rfl dX0_isFound_11 (v := (0 : Int32)) (by decide) ?_
    exact j_iret C R () rfl dX0_isFound_12 rfl hw
  · have hw := hw.2 c
    refine j_iconst C 8 rfl dX0_isFound_7 (v := (1 : Int32)) (by decide) ?_
    refine j_goto C 12 dX0_isFound_8 rfl ?_
    exact j_iret C R () rfl dX0_isFound_12 rfl hw
theorem hi_X0_answer_X0 : ∀ w ∈ wsX00, w ∈ wsX0_answer := fun _ h => List.mem_cons_of_mem _ (List.mem_append_right _ h)
set_option maxRecDepth 20000 in
set_option maxHeartbeats 4000000 in
theorem c_X0_answer (l : Launch) (g : gE) (a_this a_sums a_shares a_begins a_heirs a_foundBegins a_foundHeirs : Nat) (v_fair : Int32) (v_n : Int32) (v_leastShare : Int32) (f_foundBegins : (Nat → Int32)) (f_foundHeirs : (Nat → Int32)) (x1 : Int32)  (K : Int32 → Prop) (hw : wp_X0_answer v_fair v_n v_leastShare f_foundBegins f_foundHeirs x1 K) : Ci l g yX0_answer wsX0_answer { frames := 1, cells := 0, slots := 0, locals := 20 } [.ref a_this, .int x1] [(a_this, .inr (0, [.int v_fair, .ref a_sums, .ref a_shares, .ref a_begins, .ref a_heirs, .ref a_foundBegins, .ref a_foundHeirs, .int v_n, .int v_leastShare])), (a_foundBegins, gI g 4 f_foundBegins), (a_foundHeirs, gI g 4 f_foundHeirs)] (fun (r : Int32) (_ : Unit) => K r) (fun (_ : Unit) => [(a_this, .inr (0, [.int v_fair, .ref a_sums, .ref a_shares, .ref a_begins, .ref a_heirs, .ref a_foundBegins, .ref a_foundHeirs, .int v_n, .int v_leastShare])), (a_foundBegins, gI g 4 f_foundBegins), (a_foundHeirs, gI g 4 f_foundHeirs)]) 0 0 := by
  refine Ci_of (cc := cX0_answer) (nL := 2) (ret := (some .int)) (own := RX0) (lv0 := [(0, .ref a_this), (1, .int x1)]) (by decide +kernel) rfl rfl (Nat.le_of_ble_eq_true rfl) rfl (fun A x C R => ?_)
  have hj50 : wj_X0_answer_50 v_n f_foundHeirs x1 K → J l g A x 2 0 0 50 [(0, .ref a_this), (1, .int x1)] [] [(a_this, .inr (0, [.int v_fair, .ref a_sums, .ref a_shares, .ref a_begins, .ref a_heirs, .ref a_foundBegins, .ref a_foundHeirs, .int v_n, .int v_leastShare])), (a_foundBegins, gI g 4 f_foundBegins), (a_foundHeirs, gI g 4 f_foundHeirs)] := by
    intro  hw
    refine j_iload_n C 51 rfl 1 dX0_answer_50 rfl rfl ?_
    refine j_bipush C 53 rfl dX0_answer_51 (v := (10 : Int32)) (by decide) ?_
    refine j_icmp_lt C 56 rfl 79 dX0_answer_53 rfl (fun c => ?_) (fun c => ?_)
    · have hw := hw.1 c
      refine j_bipush C 81 rfl dX0_answer_79 (v := (-6 : Int32)) (by decide) ?_
      exact j_iret C R () rfl dX0_answer_81 rfl hw
    · have hw := hw.2 c
      refine j_iload_n C 57 rfl 1 dX0_answer_56 rfl rfl ?_
      refine j_bipush C 59 rfl dX0_answer_57 (v := (10 : Int32)) (by decide) ?_
      refine j_aload_n C 60 rfl 0 dX0_answer_59 rfl rfl ?_
      refine j_get C 63 rfl 0 0 7 (T := TX0) (N := 9) hi_X0_answer_X0 rfl (by decide) (List.mem_of_getElem? (i := 3) rfl) rfl rfl rfl dX0_answer_60 ?_
      refine j_iadd C 64 rfl dX0_answer_63 ?_
      refine j_icmp_ge C 67 rfl 79 dX0_answer_64 rfl (fun c => ?_) (fun c => ?_)
      · have hw := hw.1 c
        refine j_bipush C 81 rfl dX0_answer_79 (v := (-6 : Int32)) (by decide) ?_
        exact j_iret C R () rfl dX0_answer_81 rfl hw
      · have hw := hw.2 c
        refine j_aload_n C 68 rfl 0 dX0_answer_67 rfl rfl ?_
        refine j_get C 71 rfl 0 0 6 (T := TX0) (N := 9) hi_X0_answer_X0 rfl (by decide) (List.mem_of_getElem? (i := 5) rfl) rfl rfl rfl dX0_answer_68 ?_
        refine j_iload_n C 72 rfl 1 dX0_answer_71 rfl rfl ?_
        refine j_bipush C 74 rfl dX0_answer_72 (v := (10 : Int32)) (by decide) ?_
        refine j_isub C 75 rfl dX0_answer_74 ?_
        obtain ⟨k1, ek1, hk1, hw⟩ := hw
        refine j_iald C 76 rfl 2 k1 rfl ek1 hk1 (by decide) dX0_answer_75 ?_
        refine j_goto C 81 dX0_answer_76 rfl ?_
        exact j_iret C R () rfl dX0_answer_81 rfl hw
  refine j_aload_n C 1 rfl 0 dX0_answer_0 rfl rfl ?_
  refine j_ri C 4 rfl (jc_V C (c_X0_isFound l g a_this a_sums a_shares a_begins a_heirs a_foundBegins a_foundHeirs v_fair v_n v_leastShare _ hw) 0 gX0_answer_X0_isFound rfl rfl rfl hd_X0_isFound ⟨Nat.le_of_ble_eq_true rfl, Nat.le_of_ble_eq_true rfl⟩ (j_rec C 0 0 rfl rfl) [0] rfl rfl (rest := []) rfl rfl (Nat.le_of_ble_eq_true rfl) dX0_answer_1 ⟨Nat.le_refl _, Nat.le_refl _⟩) [0] rfl (fun _ => rfl) (fun r2 _ hw => ?_)
  try dsimp only at hw
  refine j_if_ne C 7 rfl 10 dX0_answer_4 rfl (fun c => ?_) (fun c => ?_)
  · have hw := hw.1 c
    refine j_iload_n C 11 rfl 1 dX0_answer_10 rfl rfl ?_
    refine j_iconst C 12 rfl dX0_answer_11 (v := (-1 : Int32)) (by decide) ?_
    refine j_icmp_ne C 15 rfl 31 dX0_answer_12 rfl (fun c => ?_) (fun c => ?_)
    · have hw := hw.1 c
      refine j_iload_n C 32 rfl 1 dX0_answer_31 rfl rfl ?_
      refine j_if_lt C 35 rfl 50 dX0_answer_32 rfl (fun c => ?_) (fun c => ?_)
      · have hw := hw.1 c
        exact hj50 hw
      · have hw := hw.2 c
        refine j_iload_n C 36 rfl 1 dX0_answer_35 rfl rfl ?_
        refine j_aload_n C 37 rfl 0 dX0_answer_36 rfl rfl ?_
        refine j_get C 40 rfl 0 0 7 (T := TX0) (N := 9) hi_X0_answer_X0 rfl (by decide) (List.mem_of_getElem? (i := 3) rfl) rfl rfl rfl dX0_answer_37 ?_
        refine j_icmp_ge C 43 rfl 50 dX0_answer_40 rfl (fun c => ?_) (fun c => ?_)
        · have hw := hw.1 c
          exact hj50 hw
        · have hw := hw.2 c
          refine j_aload_n C 44 rfl 0 dX0_answer_43 rfl rfl ?_
          refine j_get C 47 rfl 0 0 5 (T := TX0) (N := 9) hi_X0_answer_X0 rfl (by decide) (List.mem_of_getElem? (i := 4) rfl) rfl rfl rfl dX0_answer_44 ?_
          refine j_iload_n C 48 rfl 1 dX0_answer_47 rfl rfl ?_
          obtain ⟨k3, ek3, hk3, hw⟩ := hw
          refine j_iald C 49 rfl 1 k3 rfl ek3 hk3 (by decide) dX0_answer_48 ?_
          exact j_iret C R () rfl dX0_answer_49 rfl hw
    · have hw := hw.2 c
      refine j_aload_n C 16 rfl 0 dX0_answer_15 rfl rfl ?_
      refine j_get C 19 rfl 0 0 0 (T := TX0) (N := 9) hi_X0_answer_X0 rfl (by decide) (List.mem_of_getElem? (i := 1) rfl) rfl rfl rfl dX0_answer_16 ?_
      refine j_if_eq C 22 rfl 26 dX0_answer_19 rfl (fun c => ?_) (fun c => ?_)
      · have hw := hw.1 c
        refine j_aload_n C 27 rfl 0 dX0_answer_26 rfl rfl ?_
        refine j_get C 30 rfl 0 0 8 (T := TX0) (N := 9) hi_X0_answer_X0 rfl (by decide) (List.mem_of_getElem? (i := 2) rfl) rfl rfl rfl dX0_answer_27 ?_
        exact j_iret C R () rfl dX0_answer_30 rfl hw
      · have hw := hw.2 c
        refine j_iconst C 23 rfl dX0_answer_22 (v := (1 : Int32)) (by decide) ?_
        refine j_goto C 30 dX0_answer_23 rfl ?_
        exact j_iret C R () rfl dX0_answer_30 rfl hw
  · have hw := hw.2 c
    refine j_bipush C 9 rfl dX0_answer_7 (v := (-6 : Int32)) (by decide) ?_
    exact j_iret C R () rfl dX0_answer_9 rfl hw
theorem hi_X0_keep_X0 : ∀ w ∈ wsX00, w ∈ wsX0_keep := fun _ h => List.mem_cons_of_mem _ (List.mem_append_right _ h)
set_option maxRecDepth 20000 in
set_option maxHeartbeats 4000000 in
theorem c_X0_keep (l : Launch) (g : gE) (a_this a_sums a_shares a_begins a_heirs a_foundBegins a_foundHeirs : Nat) (v_fair : Int32) (v_n : Int32) (v_leastShare : Int32) (f_begins : (Nat → Int32)) (f_heirs : (Nat → Int32)) (f_foundBegins : (Nat → Int32)) (f_foundHeirs : (Nat → Int32)) (x1 : Int32)  (K : Int32 → (Nat → Int32) → (Nat → Int32) → Prop) (hw : wp_X0_keep v_n v_leastShare f_begins f_heirs f_foundBegins f_foundHeirs x1 K) : Cv l g yX0_keep wsX0_keep { frames := 1, cells := 0, slots := 0, locals := 60 } [.ref a_this, .int x1] [(a_this, .inr (0, [.int v_fair, .ref a_sums, .ref a_shares, .ref a_begins, .ref a_heirs, .ref a_foundBegins, .ref a_foundHeirs, .int v_n, .int v_leastShare])), (a_begins, gI g 4 f_begins), (a_heirs, gI g 4 f_heirs), (a_foundBegins, gI g 4 f_foundBegins), (a_foundHeirs, gI g 4 f_foundHeirs)] (fun (u : Int32 × (Nat → Int32) × (Nat → Int32)) => K u.1 u.2.1 u.2.2) (fun (u : Int32 × (Nat → Int32) × (Nat → Int32)) => [(a_this, .inr (0, [.int v_fair, .ref a_sums, .ref a_shares, .ref a_begins, .ref a_heirs, .ref a_foundBegins, .ref a_foundHeirs, .int v_n, .int (u.1)])), (a_begins, gI g 4 f_begins), (a_heirs, gI g 4 f_heirs), (a_foundBegins, gI g 4 (u.2.1)), (a_foundHeirs, gI g 4 (u.2.2))]) 0 0 := by
  refine Cv_of (cc := cX0_keep) (nL := 2) (ret := none) (own := RX0) (lv0 := [(0, .ref a_this), (1, .int x1)]) (by decide +kernel) rfl rfl (Nat.le_of_ble_eq_true rfl) rfl (fun A x C R => ?_)
  refine j_aload_n C 1 rfl 0 dX0_keep_0 rfl rfl ?_
  refine j_iload_n C 2 rfl 1 dX0_keep_1 rfl rfl ?_
  refine j_put C 5 rfl 0 0 8 (ws' := [(a_this, .inr (0, [.int v_fair, .ref a_sums, .ref a_shares, .ref a_begins, .ref a_heirs, .ref a_foundBegins, .ref a_foundHeirs, .int v_n, .int x1])), (a_begins, gI g 4 f_begins), (a_heirs, gI g 4 f_heirs), (a_foundBegins, gI g 4 f_foundBegins), (a_foundHeirs, gI g 4 f_foundHeirs)]) (T := TX0) (N := 9) (ty := .int) tyX0_ok nmX0 hi_X0_keep_X0 rfl (by decide) (List.mem_of_getElem? (i := 1) rfl) rfl rfl rfl rfl rfl rfl (Nat.le_of_ble_eq_true rfl) rfl dX0_keep_2 ?_
  refine j_aload_n C 6 rfl 0 dX0_keep_5 rfl rfl ?_
  refine j_get C 9 rfl 0 0 3 (T := TX0) (N := 9) hi_X0_keep_X0 rfl (by decide) (List.mem_of_getElem? (i := 2) rfl) rfl rfl rfl dX0_keep_6 ?_
  refine j_iconst C 10 rfl dX0_keep_9 (v := (0 : Int32)) (by decide) ?_
  refine j_aload_n C 11 rfl 0 dX0_keep_10 rfl rfl ?_
  refine j_get C 14 rfl 0 0 5 (T := TX0) (N := 9) hi_X0_keep_X0 rfl (by decide) (List.mem_of_getElem? (i := 3) rfl) rfl rfl rfl dX0_keep_11 ?_
  refine j_iconst C 15 rfl dX0_keep_14 (v := (0 : Int32)) (by decide) ?_
  refine j_aload_n C 16 rfl 0 dX0_keep_15 rfl rfl ?_
  refine j_get C 19 rfl 0 0 7 (T := TX0) (N := 9) hi_X0_keep_X0 rfl (by decide) (List.mem_of_getElem? (i := 4) rfl) rfl rfl rfl dX0_keep_16 ?_
  obtain ⟨sk1, dk1, nk1, e1, e2, e3, e4, e5, hw⟩ := hw
  refine j_copy C 22 rfl 1 3 sk1 dk1 nk1 (ws' := [(a_this, .inr (0, [.int v_fair, .ref a_sums, .ref a_shares, .ref a_begins, .ref a_heirs, .ref a_foundBegins, .ref a_foundHeirs, .int v_n, .int x1])), (a_begins, gI g 4 f_begins), (a_heirs, gI g 4 f_heirs), (a_foundBegins, gI g 4 (va_cpy f_begins f_foundBegins sk1 dk1 nk1)), (a_foundHeirs, gI g 4 f_foundHeirs)]) (List.mem_of_getElem? (i := 5) rfl) (List.mem_of_getElem? (i := 6) rfl) (List.mem_of_getElem? (i := 7) rfl) (List.mem_of_getElem? (i := 8) rfl) rfl rfl e1 e2 e3 e4 e5 (by decide) (by decide) (by decide) (Nat.le_of_ble_eq_true rfl) rfl dX0_keep_19 ?_
  refine j_aload_n C 23 rfl 0 dX0_keep_22 rfl rfl ?_
  refine j_get C 26 rfl 0 0 4 (T := TX0) (N := 9) hi_X0_keep_X0 rfl (by decide) (List.mem_of_getElem? (i := 9) rfl) rfl rfl rfl dX0_keep_23 ?_
  refine j_iconst C 27 rfl dX0_keep_26 (v := (0 : Int32)) (by decide) ?_
  refine j_aload_n C 28 rfl 0 dX0_keep_27 rfl rfl ?_
  refine j_get C 31 rfl 0 0 6 (T := TX0) (N := 9) hi_X0_keep_X0 rfl (by decide) (List.mem_of_getElem? (i := 10) rfl) rfl rfl rfl dX0_keep_28 ?_
  refine j_iconst C 32 rfl dX0_keep_31 (v := (0 : Int32)) (by decide) ?_
  refine j_aload_n C 33 rfl 0 dX0_keep_32 rfl rfl ?_
  refine j_get C 36 rfl 0 0 7 (T := TX0) (N := 9) hi_X0_keep_X0 rfl (by decide) (List.mem_of_getElem? (i := 4) rfl) rfl rfl rfl dX0_keep_33 ?_
  obtain ⟨sk2, dk2, nk2, e1, e2, e3, e4, e5, hw⟩ := hw
  refine j_copy C 39 rfl 2 4 sk2 dk2 nk2 (ws' := [(a_this, .inr (0, [.int v_fair, .ref a_sums, .ref a_shares, .ref a_begins, .ref a_heirs, .ref a_foundBegins, .ref a_foundHeirs, .int v_n, .int x1])), (a_begins, gI g 4 f_begins), (a_heirs, gI g 4 f_heirs), (a_foundBegins, gI g 4 (va_cpy f_begins f_foundBegins sk1 dk1 nk1)), (a_foundHeirs, gI g 4 (va_cpy f_heirs f_foundHeirs sk2 dk2 nk2))]) (List.mem_of_getElem? (i := 5) rfl) (List.mem_of_getElem? (i := 6) rfl) (List.mem_of_getElem? (i := 7) rfl) (List.mem_of_getElem? (i := 8) rfl) rfl rfl e1 e2 e3 e4 e5 (by decide) (by decide) (by decide) (Nat.le_of_ble_eq_true rfl) rfl dX0_keep_36 ?_
  exact j_vret C R (x1, va_cpy f_begins f_foundBegins sk1 dk1 nk1, va_cpy f_heirs f_foundHeirs sk2 dk2 nk2) dX0_keep_39 rfl hw
theorem hi_X0_isEnvious_X0 : ∀ w ∈ wsX00, w ∈ wsX0_isEnvious := fun _ h => List.mem_cons_of_mem _ (List.mem_append_right _ h)
set_option maxRecDepth 20000 in
set_option maxHeartbeats 4000000 in
theorem c_X0_isEnvious (l : Launch) (g : gE) (a_this a_sums a_shares a_begins a_heirs a_foundBegins a_foundHeirs : Nat) (v_fair : Int32) (v_n : Int32) (v_leastShare : Int32) (f_shares : (Nat → Int32)) (x1 : Int32) (x2 : Int32)  (K : Int32 → Prop) (hw : wp_X0_isEnvious v_n f_shares x1 x2 K) : Ci l g yX0_isEnvious wsX0_isEnvious { frames := 0, cells := 0, slots := 0, locals := 0 } [.ref a_this, .int x1, .int x2] [(a_this, .inr (0, [.int v_fair, .ref a_sums, .ref a_shares, .ref a_begins, .ref a_heirs, .ref a_foundBegins, .ref a_foundHeirs, .int v_n, .int v_leastShare])), (a_shares, gI g 16 f_shares)] (fun (r : Int32) (_ : Unit) => K r) (fun (_ : Unit) => [(a_this, .inr (0, [.int v_fair, .ref a_sums, .ref a_shares, .ref a_begins, .ref a_heirs, .ref a_foundBegins, .ref a_foundHeirs, .int v_n, .int v_leastShare])), (a_shares, gI g 16 f_shares)]) 0 0 := by
  refine Ci_of (cc := cX0_isEnvious) (nL := 5) (ret := (some .boolean)) (own := RX0) (lv0 := [(0, .ref a_this), (1, .int x1), (2, .int x2)]) (by decide +kernel) rfl rfl (Nat.le_of_ble_eq_true rfl) rfl (fun A x C R => ?_)
  refine j_iconst C 1 rfl dX0_isEnvious_0 (v := (0 : Int32)) (by decide) ?_
  refine j_istore_n C 2 rfl [1, 2, 3, 0] (lv' := [(0, .ref a_this), (1, .int x1), (2, .int x2), (3, .int (0 : Int32))]) dX0_isEnvious_1 rfl (by decide) rfl ?_
  refine j_iconst C 3 rfl dX0_isEnvious_2 (v := (0 : Int32)) (by decide) ?_
  refine j_istore C 5 rfl [1, 2, 3, 4, 0] (lv' := [(0, .ref a_this), (1, .int x1), (2, .int x2), (3, .int (0 : Int32)), (4, .int (0 : Int32))]) dX0_isEnvious_3 (by decide) rfl ?_
  refine lpW2_ind (G := fun x3 x4 => J l g A x 5 0 0 5 [(0, .ref a_this), (1, .int x1), (2, .int x2), (3, .int x3), (4, .int x4)] [] [(a_this, .inr (0, [.int v_fair, .ref a_sums, .ref a_shares, .ref a_begins, .ref a_heirs, .ref a_foundBegins, .ref a_foundHeirs, .int v_n, .int v_leastShare])), (a_shares, gI g 16 f_shares)]) (fun L5 x3 x4 hL5 hw => ?_) _ _ hw
  refine j_iload C 7 rfl 4 dX0_isEnvious_5 rfl ?_
  refine j_aload_n C 8 rfl 0 dX0_isEnvious_7 rfl rfl ?_
  refine j_get C 11 rfl 0 0 7 (T := TX0) (N := 9) hi_X0_isEnvious_X0 rfl (by decide) (List.mem_of_getElem? (i := 1) rfl) rfl rfl rfl dX0_isEnvious_8 ?_
  refine j_icmp_ge C 14 rfl 43 dX0_isEnvious_11 rfl (fun c => ?_) (fun c => ?_)
  · have hw := hw.1 c
    refine j_iload_n C 44 rfl 3 dX0_isEnvious_43 rfl rfl ?_
    obtain ⟨hn, hw⟩ := hw
    exact j_iret C R () hn dX0_isEnvious_44 rfl hw
  · have hw := hw.2 c
    refine j_iload_n C 15 rfl 3 dX0_isEnvious_14 rfl rfl ?_
    refine j_aload_n C 16 rfl 0 dX0_isEnvious_15 rfl rfl ?_
    refine j_get C 19 rfl 0 0 2 (T := TX0) (N := 9) hi_X0_isEnvious_X0 rfl (by decide) (List.mem_of_getElem? (i := 2) rfl) rfl rfl rfl dX0_isEnvious_16 ?_
    refine j_iload C 21 rfl 4 dX0_isEnvious_19 rfl ?_
    refine j_iconst C 22 rfl dX0_isEnvious_21 (v := (4 : Int32)) (by decide) ?_
    refine j_imul C 23 rfl dX0_isEnvious_22 ?_
    refine j_iload_n C 24 rfl 1 dX0_isEnvious_23 rfl rfl ?_
    refine j_iadd C 25 rfl dX0_isEnvious_24 ?_
    obtain ⟨k1, ek1, hk1, hw⟩ := hw
    refine j_iald C 26 rfl 1 k1 rfl ek1 hk1 (by decide) dX0_isEnvious_25 ?_
    refine j_iload_n C 27 rfl 2 dX0_isEnvious_26 rfl rfl ?_
    refine j_icmp_le C 30 rfl 34 dX0_isEnvious_27 rfl (fun c => ?_) (fun c => ?_)
    · have hw := hw.1 c
      refine j_iconst C 35 rfl dX0_isEnvious_34 (v := (0 : Int32)) (by decide) ?_
      refine j_ior C 36 rfl dX0_isEnvious_35 ?_
      refine j_top (fun n2 en2 => ?_)
      have hw := hw n2 en2
      refine j_istore_n C 37 rfl [1, 2, 3, 0, 4] (lv' := [(0, .ref a_this), (1, .int x1), (2, .int x2), (3, .int n2), (4, .int x4)]) dX0_isEnvious_36 rfl (by decide) rfl ?_
      refine j_iinc C 40 rfl 4 [1, 2, 3, 4, 0] (v' := (1 : Int32)) (lv' := fun z => [(0, .ref a_this), (1, .int x1), (2, .int x2), (3, .int n2), (4, .int z)]) dX0_isEnvious_37 rfl (by decide) (by decide) (fun _ => rfl) (fun n3 en3 => ?_)
      have hw := hw n3 en3
      refine j_goto C 5 dX0_isEnvious_40 rfl ?_
      exact hL5 _ _ hw
    · have hw := hw.2 c
      refine j_iconst C 31 rfl dX0_isEnvious_30 (v := (1 : Int32)) (by decide) ?_
      refine j_goto C 35 dX0_isEnvious_31 rfl ?_
      refine j_ior C 36 rfl dX0_isEnvious_35 ?_
      refine j_top (fun n4 en4 => ?_)
      have hw := hw n4 en4
      refine j_istore_n C 37 rfl [1, 2, 3, 0, 4] (lv' := [(0, .ref a_this), (1, .int x1), (2, .int x2), (3, .int n4), (4, .int x4)]) dX0_isEnvious_36 rfl (by decide) rfl ?_
      refine j_iinc C 40 rfl 4 [1, 2, 3, 4, 0] (v' := (1 : Int32)) (lv' := fun z => [(0, .ref a_this), (1, .int x1), (2, .int x2), (3, .int n4), (4, .int z)]) dX0_isEnvious_37 rfl (by decide) (by decide) (fun _ => rfl) (fun n5 en5 => ?_)
      have hw := hw n5 en5
      refine j_goto C 5 dX0_isEnvious_40 rfl ?_
      exact hL5 _ _ hw
theorem hi_X0_isSettled_X0 : ∀ w ∈ wsX00, w ∈ wsX0_isSettled := fun _ h => List.mem_cons_of_mem _ (List.mem_append_right _ h)
set_option maxRecDepth 20000 in
set_option maxHeartbeats 4000000 in
theorem c_X0_isSettled (l : Launch) (g : gE) (a_this a_sums a_shares a_begins a_heirs a_foundBegins a_foundHeirs : Nat) (v_fair : Int32) (v_n : Int32) (v_leastShare : Int32)   (K : Int32 → Prop) (hw : wp_X0_isSettled v_fair v_leastShare K) : Ci l g yX0_isSettled wsX0_isSettled { frames := 1, cells := 0, slots := 0, locals := 20 } [.ref a_this] [(a_this, .inr (0, [.int v_fair, .ref a_sums, .ref a_shares, .ref a_begins, .ref a_heirs, .ref a_foundBegins, .ref a_foundHeirs, .int v_n, .int v_leastShare]))] (fun (r : Int32) (_ : Unit) => K r) (fun (_ : Unit) => [(a_this, .inr (0, [.int v_fair, .ref a_sums, .ref a_shares, .ref a_begins, .ref a_heirs, .ref a_foundBegins, .ref a_foundHeirs, .int v_n, .int v_leastShare]))]) 0 0 := by
  refine Ci_of (cc := cX0_isSettled) (nL := 1) (ret := (some .boolean)) (own := RX0) (lv0 := [(0, .ref a_this)]) (by decide +kernel) rfl rfl (Nat.le_of_ble_eq_true rfl) rfl (fun A x C R => ?_)
  refine j_aload_n C 1 rfl 0 dX0_isSettled_0 rfl rfl ?_
  refine j_get C 4 rfl 0 0 0 (T := TX0) (N := 9) hi_X0_isSettled_X0 rfl (by decide) (List.mem_of_getElem? (i := 1) rfl) rfl rfl rfl dX0_isSettled_1 ?_
  refine j_if_eq C 7 rfl 18 dX0_isSettled_4 rfl (fun c => ?_) (fun c => ?_)
  · have hw := hw.1 c
    refine j_iconst C 19 rfl dX0_isSettled_18 (v := (0 : Int32)) (by decide) ?_
    exact j_iret C R () rfl dX0_isSettled_19 rfl hw
  · have hw := hw.2 c
    refine j_aload_n C 8 rfl 0 dX0_isSettled_7 rfl rfl ?_
    refine j_ri C 11 rfl (jc_V C (c_X0_isFound l g a_this a_sums a_shares a_begins a_heirs a_foundBegins a_foundHeirs v_fair v_n v_leastShare _ hw) 0 gX0_isSettled_X0_isFound rfl rfl rfl hd_X0_isFound ⟨Nat.le_of_ble_eq_true rfl, Nat.le_of_ble_eq_true rfl⟩ (j_rec C 0 0 rfl rfl) [0] rfl rfl (rest := []) rfl rfl (Nat.le_of_ble_eq_true rfl) dX0_isSettled_8 ⟨Nat.le_refl _, Nat.le_refl _⟩) [0] rfl (fun _ => rfl) (fun r1 _ hw => ?_)
    try dsimp only at hw
    refine j_if_eq C 14 rfl 18 dX0_isSettled_11 rfl (fun c => ?_) (fun c => ?_)
    · have hw := hw.1 c
      refine j_iconst C 19 rfl dX0_isSettled_18 (v := (0 : Int32)) (by decide) ?_
      exact j_iret C R () rfl dX0_isSettled_19 rfl hw
    · have hw := hw.2 c
      refine j_iconst C 15 rfl dX0_isSettled_14 (v := (1 : Int32)) (by decide) ?_
      refine j_goto C 19 dX0_isSettled_15 rfl ?_
      exact j_iret C R () rfl dX0_isSettled_19 rfl hw
theorem hi_X0_chooseBehind_X0 : ∀ w ∈ wsX00, w ∈ wsX0_chooseBehind := fun _ h => List.mem_cons_of_mem _ (List.mem_append_right _ h)
set_option maxRecDepth 20000 in
set_option maxHeartbeats 4000000 in
theorem c_X0_chooseBehind (l : Launch) (g : gE) (d : Nat) (H : Int32 → Int32 → Int32 → (Nat → Int32) → (Nat → Int32) → (Nat → Int32) → (Nat → Int32) → (Nat → Int32) → Int32 → Int32 → Int32 → (Int32 → (Nat → Int32) → (Nat → Int32) → (Nat → Int32) → Prop) → Prop) (hH : ∀ (a_this a_sums a_shares a_begins a_heirs a_foundBegins a_foundHeirs : Nat) (v_fair : Int32) (v_n : Int32) (v_leastShare : Int32) (f_shares : (Nat → Int32)) (f_begins : (Nat → Int32)) (f_heirs : (Nat → Int32)) (f_foundBegins : (Nat → Int32)) (f_foundHeirs : (Nat → Int32)) (x1 x2 x3 : Int32) (K : Int32 → (Nat → Int32) → (Nat → Int32) → (Nat → Int32) → Prop), H v_fair v_n v_leastShare f_shares f_begins f_heirs f_foundBegins f_foundHeirs x1 x2 x3 K → Cv l g yX0_chooseHeirs wsX0_chooseHeirs (rmH d) [.ref a_this, .int x1, .int x2, .int x3] [(a_this, .inr (0, [.int v_fair, .ref a_sums, .ref a_shares, .ref a_begins, .ref a_heirs, .ref a_foundBegins, .ref a_foundHeirs, .int v_n, .int v_leastShare])), (a_shares, gI g 16 f_shares), (a_begins, gI g 4 f_begins), (a_heirs, gI g 4 f_heirs), (a_foundBegins, gI g 4 f_foundBegins), (a_foundHeirs, gI g 4 f_foundHeirs)] (fun (u : Int32 × (Nat → Int32) × (Nat → Int32) × (Nat → Int32)) => K u.1 u.2.1 u.2.2.1 u.2.2.2) (fun (u : Int32 × (Nat → Int32) × (Nat → Int32) × (Nat → Int32)) => [(a_this, .inr (0, [.int v_fair, .ref a_sums, .ref a_shares, .ref a_begins, .ref a_heirs, .ref a_foundBegins, .ref a_foundHeirs, .int v_n, .int (u.1)])), (a_shares, gI g 16 f_shares), (a_begins, gI g 4 f_begins), (a_heirs, gI g 4 (u.2.1)), (a_foundBegins, gI g 4 (u.2.2.1)), (a_foundHeirs, gI g 4 (u.2.2.2))]) 0 0) (a_this a_sums a_shares a_begins a_heirs a_foundBegins a_foundHeirs : Nat) (v_fair : Int32) (v_n : Int32) (v_leastShare : Int32) (f_shares : (Nat → Int32)) (f_begins : (Nat → Int32)) (f_heirs : (Nat → Int32)) (f_foundBegins : (Nat → Int32)) (f_foundHeirs : (Nat → Int32)) (x1 : Int32) (x2 : Int32) (x3 : Int32)  (K : Int32 → (Nat → Int32) → (Nat → Int32) → (Nat → Int32) → Prop) (hw : wp_X0_chooseBehind H v_fair v_n v_leastShare f_shares f_begins f_heirs f_foundBegins f_foundHeirs x1 x2 x3 K) : Cv l g yX0_chooseBehind wsX0_chooseBehind (rmB d) [.ref a_this, .int x1, .int x2, .int x3] [(a_this, .inr (0, [.int v_fair, .ref a_sums, .ref a_shares, .ref a_begins, .ref a_heirs, .ref a_foundBegins, .ref a_foundHeirs, .int v_n, .int v_leastShare])), (a_shares, gI g 16 f_shares), (a_begins, gI g 4 f_begins), (a_heirs, gI g 4 f_heirs), (a_foundBegins, gI g 4 f_foundBegins), (a_foundHeirs, gI g 4 f_foundHeirs)] (fun (u : Int32 × (Nat → Int32) × (Nat → Int32) × (Nat → Int32)) => K u.1 u.2.1 u.2.2.1 u.2.2.2) (fun (u : Int32 × (Nat → Int32) × (Nat → Int32) × (Nat → Int32)) => [(a_this, .inr (0, [.int v_fair, .ref a_sums, .ref a_shares, .ref a_begins, .ref a_heirs, .ref a_foundBegins, .ref a_foundHeirs, .int v_n, .int (u.1)])), (a_shares, gI g 16 f_shares), (a_begins, gI g 4 f_begins), (a_heirs, gI g 4 (u.2.1)), (a_foundBegins, gI g 4 (u.2.2.1)), (a_foundHeirs, gI g 4 (u.2.2.2))]) 0 0 := by
  refine Cv_of (cc := cX0_chooseBehind) (nL := 4) (ret := none) (own := RX0) (lv0 := [(0, .ref a_this), (1, .int x1), (2, .int x2), (3, .int x3)]) (by decide +kernel) rfl rfl (Nat.le_of_ble_eq_true rfl) rfl (fun A x C R => ?_)
  refine j_iload_n C 1 rfl 1 dX0_chooseBehind_0 rfl rfl ?_
  refine j_iconst C 2 rfl dX0_chooseBehind_1 (v := (1 : Int32)) (by decide) ?_
  refine j_iadd C 3 rfl dX0_chooseBehind_2 ?_
  refine j_aload_n C 4 rfl 0 dX0_chooseBehind_3 rfl rfl ?_
  refine j_get C 7 rfl 0 0 7 (T := TX0) (N := 9) hi_X0_chooseBehind_X0 rfl (by decide) (List.mem_of_getElem? (i := 1) rfl) rfl rfl rfl dX0_chooseBehind_4 ?_
  refine j_icmp_ge C 10 rfl 22 dX0_chooseBehind_7 rfl (fun c => ?_) (fun c => ?_)
  · have hw := hw.1 c
    refine j_aload_n C 23 rfl 0 dX0_chooseBehind_22 rfl rfl ?_
    refine j_iload_n C 24 rfl 3 dX0_chooseBehind_23 rfl rfl ?_
    refine j_rwv C 27 rfl (jc_V C (c_X0_keep l g a_this a_sums a_shares a_begins a_heirs a_foundBegins a_foundHeirs v_fair v_n v_leastShare f_begins f_heirs f_foundBegins f_foundHeirs x3 _ hw) 1 gX0_chooseBehind_X0_keep rfl rfl rfl hd_X0_keep ⟨(by simp only [rmH, rmB]; omega), (by simp only [rmH, rmB]; omega)⟩ (j_rec C 0 0 rfl rfl) [0, 2, 3, 4, 5] rfl rfl (rest := []) rfl rfl (Nat.le_of_ble_eq_true rfl) dX0_chooseBehind_24 ⟨Nat.le_refl _, Nat.le_refl _⟩) [0, 2, 3, 4, 5] [1] [1, 0, 2, 3, 4, 5] (wr := [(a_shares, gI g 16 f_shares)]) (ws' := fun u => [(a_this, .inr (0, [.int v_fair, .ref a_sums, .ref a_shares, .ref a_begins, .ref a_heirs, .ref a_foundBegins, .ref a_foundHeirs, .int v_n, .int (u.1)])), (a_shares, gI g 16 f_shares), (a_begins, gI g 4 f_begins), (a_heirs, gI g 4 f_heirs), (a_foundBegins, gI g 4 (u.2.1)), (a_foundHeirs, gI g 4 (u.2.2))]) rfl rfl rfl (by decide) rfl (fun _ => rfl) (fun u hw => ?_)
    obtain ⟨u1, u2, u3⟩ := u
    try dsimp only at hw
    show J l g A x 4 0 0 27 [(0, .ref a_this), (1, .int x1), (2, .int x2), (3, .int x3)] [] [(a_this, .inr (0, [.int v_fair, .ref a_sums, .ref a_shares, .ref a_begins, .ref a_heirs, .ref a_foundBegins, .ref a_foundHeirs, .int v_n, .int u1])), (a_shares, gI g 16 f_shares), (a_begins, gI g 4 f_begins), (a_heirs, gI g 4 f_heirs), (a_foundBegins, gI g 4 u2), (a_foundHeirs, gI g 4 u3)]
    exact j_vret C R (u1, f_heirs, u2, u3) dX0_chooseBehind_27 rfl hw
  · have hw := hw.2 c
    refine j_aload_n C 11 rfl 0 dX0_chooseBehind_10 rfl rfl ?_
    refine j_iload_n C 12 rfl 1 dX0_chooseBehind_11 rfl rfl ?_
    refine j_iconst C 13 rfl dX0_chooseBehind_12 (v := (1 : Int32)) (by decide) ?_
    refine j_iadd C 14 rfl dX0_chooseBehind_13 ?_
    refine j_iload_n C 15 rfl 2 dX0_chooseBehind_14 rfl rfl ?_
    refine j_iload_n C 16 rfl 3 dX0_chooseBehind_15 rfl rfl ?_
    refine j_nm2 (fun n4 en4 => ?_)
    have hw := hw n4 en4
    refine j_rwv C 19 rfl (jc_V C (hH a_this a_sums a_shares a_begins a_heirs a_foundBegins a_foundHeirs v_fair v_n v_leastShare f_shares f_begins f_heirs f_foundBegins f_foundHeirs n4 x2 x3 _ hw) 3 gX0_chooseBehind_X0_chooseHeirs rfl rfl rfl hd_X0_chooseHeirs ⟨(by simp only [rmH, rmB]; omega), (by simp only [rmH, rmB]; omega)⟩ (j_rec C 0 0 rfl rfl) [0, 1, 2, 3, 4, 5] rfl rfl (rest := []) rfl rfl (Nat.le_of_ble_eq_true rfl) dX0_chooseBehind_16 ⟨Nat.le_refl _, Nat.le_refl _⟩) [0, 1, 2, 3, 4, 5] [] [0, 1, 2, 3, 4, 5] (wr := []) (ws' := fun u => [(a_this, .inr (0, [.int v_fair, .ref a_sums, .ref a_shares, .ref a_begins, .ref a_heirs, .ref a_foundBegins, .ref a_foundHeirs, .int v_n, .int (u.1)])), (a_shares, gI g 16 f_shares), (a_begins, gI g 4 f_begins), (a_heirs, gI g 4 (u.2.1)), (a_foundBegins, gI g 4 (u.2.2.1)), (a_foundHeirs, gI g 4 (u.2.2.2))]) rfl rfl rfl (by decide) rfl (fun _ => rfl) (fun u hw => ?_)
    obtain ⟨u5, u6, u7, u8⟩ := u
    try dsimp only at hw
    show J l g A x 4 0 0 19 [(0, .ref a_this), (1, .int x1), (2, .int x2), (3, .int x3)] [] [(a_this, .inr (0, [.int v_fair, .ref a_sums, .ref a_shares, .ref a_begins, .ref a_heirs, .ref a_foundBegins, .ref a_foundHeirs, .int v_n, .int u5])), (a_shares, gI g 16 f_shares), (a_begins, gI g 4 f_begins), (a_heirs, gI g 4 u6), (a_foundBegins, gI g 4 u7), (a_foundHeirs, gI g 4 u8)]
    refine j_goto C 27 dX0_chooseBehind_19 rfl ?_
    exact j_vret C R (u5, u6, u7, u8) dX0_chooseBehind_27 rfl hw
theorem hi_X0_chooseHeirs_X0 : ∀ w ∈ wsX00, w ∈ wsX0_chooseHeirs := fun _ h => List.mem_cons_of_mem _ (List.mem_append_right _ h)
set_option maxRecDepth 20000 in
set_option maxHeartbeats 4000000 in
theorem c_X0_chooseHeirs0 (l : Launch) (g : gE) (d : Nat) (H : Int32 → Int32 → Int32 → (Nat → Int32) → (Nat → Int32) → (Nat → Int32) → (Nat → Int32) → (Nat → Int32) → Int32 → Int32 → Int32 → (Int32 → (Nat → Int32) → (Nat → Int32) → (Nat → Int32) → Prop) → Prop) (hH : ∀ (a_this a_sums a_shares a_begins a_heirs a_foundBegins a_foundHeirs : Nat) (v_fair : Int32) (v_n : Int32) (v_leastShare : Int32) (f_shares : (Nat → Int32)) (f_begins : (Nat → Int32)) (f_heirs : (Nat → Int32)) (f_foundBegins : (Nat → Int32)) (f_foundHeirs : (Nat → Int32)) (x1 x2 x3 : Int32) (K : Int32 → (Nat → Int32) → (Nat → Int32) → (Nat → Int32) → Prop), H v_fair v_n v_leastShare f_shares f_begins f_heirs f_foundBegins f_foundHeirs x1 x2 x3 K → Cv l g yX0_chooseHeirs wsX0_chooseHeirs (rmH d) [.ref a_this, .int x1, .int x2, .int x3] [(a_this, .inr (0, [.int v_fair, .ref a_sums, .ref a_shares, .ref a_begins, .ref a_heirs, .ref a_foundBegins, .ref a_foundHeirs, .int v_n, .int v_leastShare])), (a_shares, gI g 16 f_shares), (a_begins, gI g 4 f_begins), (a_heirs, gI g 4 f_heirs), (a_foundBegins, gI g 4 f_foundBegins), (a_foundHeirs, gI g 4 f_foundHeirs)] (fun (u : Int32 × (Nat → Int32) × (Nat → Int32) × (Nat → Int32)) => K u.1 u.2.1 u.2.2.1 u.2.2.2) (fun (u : Int32 × (Nat → Int32) × (Nat → Int32) × (Nat → Int32)) => [(a_this, .inr (0, [.int v_fair, .ref a_sums, .ref a_shares, .ref a_begins, .ref a_heirs, .ref a_foundBegins, .ref a_foundHeirs, .int v_n, .int (u.1)])), (a_shares, gI g 16 f_shares), (a_begins, gI g 4 f_begins), (a_heirs, gI g 4 (u.2.1)), (a_foundBegins, gI g 4 (u.2.2.1)), (a_foundHeirs, gI g 4 (u.2.2.2))]) 0 0) (a_this a_sums a_shares a_begins a_heirs a_foundBegins a_foundHeirs : Nat) (v_fair : Int32) (v_n : Int32) (v_leastShare : Int32) (f_shares : (Nat → Int32)) (f_begins : (Nat → Int32)) (f_heirs : (Nat → Int32)) (f_foundBegins : (Nat → Int32)) (f_foundHeirs : (Nat → Int32)) (x1 : Int32) (x2 : Int32) (x3 : Int32)  (K : Int32 → (Nat → Int32) → (Nat → Int32) → (Nat → Int32) → Prop) (hw : wp_X0_chooseHeirs0 H v_fair v_n v_leastShare f_shares f_begins f_heirs f_foundBegins f_foundHeirs x1 x2 x3 K) : Cv l g yX0_chooseHeirs wsX0_chooseHeirs (rmH (d + 1)) [.ref a_this, .int x1, .int x2, .int x3] [(a_this, .inr (0, [.int v_fair, .ref a_sums, .ref a_shares, .ref a_begins, .ref a_heirs, .ref a_foundBegins, .ref a_foundHeirs, .int v_n, .int v_leastShare])), (a_shares, gI g 16 f_shares), (a_begins, gI g 4 f_begins), (a_heirs, gI g 4 f_heirs), (a_foundBegins, gI g 4 f_foundBegins), (a_foundHeirs, gI g 4 f_foundHeirs)] (fun (u : Int32 × (Nat → Int32) × (Nat → Int32) × (Nat → Int32)) => K u.1 u.2.1 u.2.2.1 u.2.2.2) (fun (u : Int32 × (Nat → Int32) × (Nat → Int32) × (Nat → Int32)) => [(a_this, .inr (0, [.int v_fair, .ref a_sums, .ref a_shares, .ref a_begins, .ref a_heirs, .ref a_foundBegins, .ref a_foundHeirs, .int v_n, .int (u.1)])), (a_shares, gI g 16 f_shares), (a_begins, gI g 4 f_begins), (a_heirs, gI g 4 (u.2.1)), (a_foundBegins, gI g 4 (u.2.2.1)), (a_foundHeirs, gI g 4 (u.2.2.2))]) 0 0 := by
  refine Cv_of (cc := cX0_chooseHeirs) (nL := 8) (ret := none) (own := RX0) (lv0 := [(0, .ref a_this), (1, .int x1), (2, .int x2), (3, .int x3)]) (by decide +kernel) rfl rfl (Nat.le_of_ble_eq_true rfl) rfl (fun A x C R => ?_)
  refine j_iconst C 1 rfl dX0_chooseHeirs_0 (v := (0 : Int32)) (by decide) ?_
  refine j_istore C 3 rfl [1, 2, 3, 4, 0] (lv' := [(0, .ref a_this), (1, .int x1), (2, .int x2), (3, .int x3), (4, .int (0 : Int32))]) dX0_chooseHeirs_1 (by decide) rfl ?_
  refine lpW5_ind (G := fun x4 v_leastShare f_heirs f_foundBegins f_foundHeirs => J l g A x 8 0 0 3 [(0, .ref a_this), (1, .int x1), (2, .int x2), (3, .int x3), (4, .int x4)] [] [(a_this, .inr (0, [.int v_fair, .ref a_sums, .ref a_shares, .ref a_begins, .ref a_heirs, .ref a_foundBegins, .ref a_foundHeirs, .int v_n, .int v_leastShare])), (a_shares, gI g 16 f_shares), (a_begins, gI g 4 f_begins), (a_heirs, gI g 4 f_heirs), (a_foundBegins, gI g 4 f_foundBegins), (a_foundHeirs, gI g 4 f_foundHeirs)]) (fun L3 x4 v_leastShare f_heirs f_foundBegins f_foundHeirs hL3 hw => ?_) _ _ _ _ _ hw
  have hj80 : ∀ (x4 : Int32) (x6 : Int32) (s0 : Int32) (v_leastShare : Int32) (f_heirs : (Nat → Int32)) (f_foundBegins : (Nat → Int32)) (f_foundHeirs : (Nat → Int32)), wj_X0_chooseHeirs_80 v_fair v_n v_leastShare f_shares f_begins f_heirs f_foundBegins f_foundHeirs x1 x2 x4 x6 s0 H L3 → J l g A x 8 0 0 80 [(0, .ref a_this), (1, .int x1), (2, .int x2), (3, .int x3), (4, .int x4), (6, .int x6)] [.int s0] [(a_this, .inr (0, [.int v_fair, .ref a_sums, .ref a_shares, .ref a_begins, .ref a_heirs, .ref a_foundBegins, .ref a_foundHeirs, .int v_n, .int v_leastShare])), (a_shares, gI g 16 f_shares), (a_begins, gI g 4 f_begins), (a_heirs, gI g 4 f_heirs), (a_foundBegins, gI g 4 f_foundBegins), (a_foundHeirs, gI g 4 f_foundHeirs)] := by
    intro x4 x6 s0 v_leastShare f_heirs f_foundBegins f_foundHeirs hw
    refine j_istore C 82 rfl [1, 2, 3, 4, 5, 6, 0] (lv' := [(0, .ref a_this), (1, .int x1), (2, .int x2), (3, .int x3), (4, .int x4), (6, .int x6), (7, .int s0)]) dX0_chooseHeirs_80 (by decide) rfl ?_
    refine j_iload_n C 83 rfl 2 dX0_chooseHeirs_82 rfl rfl ?_
    refine j_iload C 85 rfl 4 dX0_chooseHeirs_83 rfl ?_
    refine j_ishr C 86 rfl dX0_chooseHeirs_85 ?_
    refine j_iconst C 87 rfl dX0_chooseHeirs_86 (v := (1 : Int32)) (by decide) ?_
    refine j_iand C 88 rfl dX0_chooseHeirs_87 ?_
    refine j_if_ne C 91 rfl 117 dX0_chooseHeirs_88 rfl (fun c => ?_) (fun c => ?_)
    · have hw := hw.1 c
      refine j_iinc C 120 rfl 4 [1, 2, 3, 4, 0, 5, 6] (v' := (1 : Int32)) (lv' := fun z => [(0, .ref a_this), (1, .int x1), (2, .int x2), (3, .int x3), (4, .int z), (6, .int x6), (7, .int s0)]) dX0_chooseHeirs_117 rfl (by decide) (by decide) (fun _ => rfl) (fun n1 en1 => ?_)
      have hw := hw n1 en1
      refine j_goto C 3 dX0_chooseHeirs_120 rfl ?_
      refine j_lv [0, 1, 2, 3, 4] (lv' := [(0, .ref a_this), (1, .int x1), (2, .int x2), (3, .int x3), (4, .int n1)]) rfl ?_
      exact hL3 _ _ _ _ _ hw
    · have hw := hw.2 c
      refine j_iload C 93 rfl 6 dX0_chooseHeirs_91 rfl ?_
      refine j_if_eq C 96 rfl 117 dX0_chooseHeirs_93 rfl (fun c => ?_) (fun c => ?_)
      · have hw := hw.1 c
        refine j_iinc C 120 rfl 4 [1, 2, 3, 4, 0, 5, 6] (v' := (1 : Int32)) (lv' := fun z => [(0, .ref a_this), (1, .int x1), (2, .int x2), (3, .int x3), (4, .int z), (6, .int x6), (7, .int s0)]) dX0_chooseHeirs_117 rfl (by decide) (by decide) (fun _ => rfl) (fun n2 en2 => ?_)
        have hw := hw n2 en2
        refine j_goto C 3 dX0_chooseHeirs_120 rfl ?_
        refine j_lv [0, 1, 2, 3, 4] (lv' := [(0, .ref a_this), (1, .int x1), (2, .int x2), (3, .int x3), (4, .int n2)]) rfl ?_
        exact hL3 _ _ _ _ _ hw
      · have hw := hw.2 c
        refine j_aload_n C 97 rfl 0 dX0_chooseHeirs_96 rfl rfl ?_
        refine j_get C 100 rfl 0 0 4 (T := TX0) (N := 9) hi_X0_chooseHeirs_X0 rfl (by decide) (List.mem_of_getElem? (i := 9) rfl) rfl rfl rfl dX0_chooseHeirs_97 ?_
        refine j_iload_n C 101 rfl 1 dX0_chooseHeirs_100 rfl rfl ?_
        refine j_iload C 103 rfl 4 dX0_chooseHeirs_101 rfl ?_
        obtain ⟨k3, ek3, hk3, hw⟩ := hw
        refine j_iast C 104 rfl 3 k3 (ws' := [(a_this, .inr (0, [.int v_fair, .ref a_sums, .ref a_shares, .ref a_begins, .ref a_heirs, .ref a_foundBegins, .ref a_foundHeirs, .int v_n, .int v_leastShare])), (a_shares, gI g 16 f_shares), (a_begins, gI g 4 f_begins), (a_heirs, gI g 4 (upd f_heirs k3 x4)), (a_foundBegins, gI g 4 f_foundBegins), (a_foundHeirs, gI g 4 f_foundHeirs)]) rfl ek3 hk3 (by decide) rfl dX0_chooseHeirs_103 ?_
        refine j_aload_n C 105 rfl 0 dX0_chooseHeirs_104 rfl rfl ?_
        refine j_iload_n C 106 rfl 1 dX0_chooseHeirs_105 rfl rfl ?_
        refine j_iload_n C 107 rfl 2 dX0_chooseHeirs_106 rfl rfl ?_
        refine j_iconst C 108 rfl dX0_chooseHeirs_107 (v := (1 : Int32)) (by decide) ?_
        refine j_iload C 110 rfl 4 dX0_chooseHeirs_108 rfl ?_
        refine j_ishl C 111 rfl dX0_chooseHeirs_110 ?_
        refine j_ior C 112 rfl dX0_chooseHeirs_111 ?_
        refine j_iload C 114 rfl 5 dX0_chooseHeirs_112 rfl ?_
        refine j_nm1 (fun n4 en4 => ?_)
        have hw := hw n4 en4
        refine j_rwv C 117 rfl (jc_V C (c_X0_chooseBehind l g d H hH a_this a_sums a_shares a_begins a_heirs a_foundBegins a_foundHeirs v_fair v_n v_leastShare f_shares f_begins (upd f_heirs k3 x4) f_foundBegins f_foundHeirs x1 n4 x6 _ hw) 3 gX0_chooseHeirs_X0_chooseBehind rfl rfl rfl hd_X0_chooseBehind ⟨(by simp only [rmH, rmB]; omega), (by simp only [rmH, rmB]; omega)⟩ (j_rec C 0 0 rfl rfl) [0, 1, 2, 3, 4, 5] rfl rfl (rest := []) rfl rfl (Nat.le_of_ble_eq_true rfl) dX0_chooseHeirs_114 ⟨Nat.le_refl _, Nat.le_refl _⟩) [0, 1, 2, 3, 4, 5] [] [0, 1, 2, 3, 4, 5] (wr := []) (ws' := fun u => [(a_this, .inr (0, [.int v_fair, .ref a_sums, .ref a_shares, .ref a_begins, .ref a_heirs, .ref a_foundBegins, .ref a_foundHeirs, .int v_n, .int (u.1)])), (a_shares, gI g 16 f_shares), (a_begins, gI g 4 f_begins), (a_heirs, gI g 4 (u.2.1)), (a_foundBegins, gI g 4 (u.2.2.1)), (a_foundHeirs, gI g 4 (u.2.2.2))]) rfl rfl rfl (by decide) rfl (fun _ => rfl) (fun u hw => ?_)
        obtain ⟨u5, u6, u7, u8⟩ := u
        try dsimp only at hw
        show J l g A x 8 0 0 117 [(0, .ref a_this), (1, .int x1), (2, .int x2), (3, .int x3), (4, .int x4), (6, .int x6), (7, .int s0)] [] [(a_this, .inr (0, [.int v_fair, .ref a_sums, .ref a_shares, .ref a_begins, .ref a_heirs, .ref a_foundBegins, .ref a_foundHeirs, .int v_n, .int u5])), (a_shares, gI g 16 f_shares), (a_begins, gI g 4 f_begins), (a_heirs, gI g 4 u6), (a_foundBegins, gI g 4 u7), (a_foundHeirs, gI g 4 u8)]
        refine j_iinc C 120 rfl 4 [1, 2, 3, 4, 0, 5, 6] (v' := (1 : Int32)) (lv' := fun z => [(0, .ref a_this), (1, .int x1), (2, .int x2), (3, .int x3), (4, .int z), (6, .int x6), (7, .int s0)]) dX0_chooseHeirs_117 rfl (by decide) (by decide) (fun _ => rfl) (fun n9 en9 => ?_)
        have hw := hw n9 en9
        refine j_goto C 3 dX0_chooseHeirs_120 rfl ?_
        refine j_lv [0, 1, 2, 3, 4] (lv' := [(0, .ref a_this), (1, .int x1), (2, .int x2), (3, .int x3), (4, .int n9)]) rfl ?_
        exact hL3 _ _ _ _ _ hw
  refine j_iload C 5 rfl 4 dX0_chooseHeirs_3 rfl ?_
  refine j_aload_n C 6 rfl 0 dX0_chooseHeirs_5 rfl rfl ?_
  refine j_get C 9 rfl 0 0 7 (T := TX0) (N := 9) hi_X0_chooseHeirs_X0 rfl (by decide) (List.mem_of_getElem? (i := 1) rfl) rfl rfl rfl dX0_chooseHeirs_6 ?_
  refine j_icmp_ge C 12 rfl 123 dX0_chooseHeirs_9 rfl (fun c => ?_) (fun c => ?_)
  · have hw := hw.1 c
    exact j_vret C R (v_leastShare, f_heirs, f_foundBegins, f_foundHeirs) dX0_chooseHeirs_123 rfl hw
  · have hw := hw.2 c
    refine j_aload_n C 13 rfl 0 dX0_chooseHeirs_12 rfl rfl ?_
    refine j_ri C 16 rfl (jc_V C (c_X0_isSettled l g a_this a_sums a_shares a_begins a_heirs a_foundBegins a_foundHeirs v_fair v_n v_leastShare _ hw) 0 gX0_chooseHeirs_X0_isSettled rfl rfl rfl hd_X0_isSettled ⟨(by simp only [rmH, rmB]; omega), (by simp only [rmH, rmB]; omega)⟩ (j_rec C 0 0 rfl rfl) [0] rfl rfl (rest := []) rfl rfl (Nat.le_of_ble_eq_true rfl) dX0_chooseHeirs_13 ⟨Nat.le_refl _, Nat.le_refl _⟩) [0] rfl (fun _ => rfl) (fun r10 _ hw => ?_)
    try dsimp only at hw
    refine j_if_ne C 19 rfl 123 dX0_chooseHeirs_16 rfl (fun c => ?_) (fun c => ?_)
    · have hw := hw.1 c
      exact j_vret C R (v_leastShare, f_heirs, f_foundBegins, f_foundHeirs) dX0_chooseHeirs_123 rfl hw
    · have hw := hw.2 c
      refine j_aload_n C 20 rfl 0 dX0_chooseHeirs_19 rfl rfl ?_
      refine j_get C 23 rfl 0 0 2 (T := TX0) (N := 9) hi_X0_chooseHeirs_X0 rfl (by decide) (List.mem_of_getElem? (i := 2) rfl) rfl rfl rfl dX0_chooseHeirs_20 ?_
      refine j_iload_n C 24 rfl 1 dX0_chooseHeirs_23 rfl rfl ?_
      refine j_iconst C 25 rfl dX0_chooseHeirs_24 (v := (4 : Int32)) (by decide) ?_
      refine j_imul C 26 rfl dX0_chooseHeirs_25 ?_
      refine j_iload C 28 rfl 4 dX0_chooseHeirs_26 rfl ?_
      refine j_iadd C 29 rfl dX0_chooseHeirs_28 ?_
      obtain ⟨k11, ek11, hk11, hw⟩ := hw
      refine j_iald C 30 rfl 1 k11 rfl ek11 hk11 (by decide) dX0_chooseHeirs_29 ?_
      refine j_top (fun n12 en12 => ?_)
      have hw := hw n12 en12
      refine j_istore C 32 rfl [1, 2, 3, 4, 5, 0] (lv' := [(0, .ref a_this), (1, .int x1), (2, .int x2), (3, .int x3), (4, .int x4), (5, .int n12)]) dX0_chooseHeirs_30 (by decide) rfl ?_
      refine j_iload_n C 33 rfl 3 dX0_chooseHeirs_32 rfl rfl ?_
      refine j_iload C 35 rfl 5 dX0_chooseHeirs_33 rfl ?_
      refine j_min C 38 rfl (List.mem_of_getElem? (i := 3) rfl) (List.mem_of_getElem? (i := 4) rfl) (List.mem_of_getElem? (i := 5) rfl) (List.mem_of_getElem? (i := 6) rfl) (by simp only [rmH, rmB]; omega) (by simp only [rmH, rmB, List.map, List.sum_cons, List.sum_nil, Value.category]; omega) (Nat.le_refl _) (Nat.le_refl _) dX0_chooseHeirs_35 ?_
      refine j_top (fun n13 en13 => ?_)
      have hw := hw n13 en13
      refine j_istore C 40 rfl [1, 2, 3, 4, 5, 6, 0] (lv' := [(0, .ref a_this), (1, .int x1), (2, .int x2), (3, .int x3), (4, .int x4), (5, .int n12), (6, .int n13)]) dX0_chooseHeirs_38 (by decide) rfl ?_
      refine j_aload_n C 41 rfl 0 dX0_chooseHeirs_40 rfl rfl ?_
      refine j_get C 44 rfl 0 0 0 (T := TX0) (N := 9) hi_X0_chooseHeirs_X0 rfl (by decide) (List.mem_of_getElem? (i := 7) rfl) rfl rfl rfl dX0_chooseHeirs_41 ?_
      refine j_if_eq C 47 rfl 66 dX0_chooseHeirs_44 rfl (fun c => ?_) (fun c => ?_)
      · have hw := hw.1 c
        refine j_iload C 68 rfl 6 dX0_chooseHeirs_66 rfl ?_
        refine j_aload_n C 69 rfl 0 dX0_chooseHeirs_68 rfl rfl ?_
        refine j_get C 72 rfl 0 0 8 (T := TX0) (N := 9) hi_X0_chooseHeirs_X0 rfl (by decide) (List.mem_of_getElem? (i := 8) rfl) rfl rfl rfl dX0_chooseHeirs_69 ?_
        refine j_icmp_le C 75 rfl 79 dX0_chooseHeirs_72 rfl (fun c => ?_) (fun c => ?_)
        · have hw := hw.1 c
          refine j_iconst C 80 rfl dX0_chooseHeirs_79 (v := (0 : Int32)) (by decide) ?_
          refine j_lv [0, 1, 2, 3, 4, 6] (lv' := [(0, .ref a_this), (1, .int x1), (2, .int x2), (3, .int x3), (4, .int x4), (6, .int n13)]) rfl ?_
          exact hj80 _ _ _ _ _ _ _ hw
        · have hw := hw.2 c
          refine j_iconst C 76 rfl dX0_chooseHeirs_75 (v := (1 : Int32)) (by decide) ?_
          refine j_goto C 80 dX0_chooseHeirs_76 rfl ?_
          refine j_lv [0, 1, 2, 3, 4, 6] (lv' := [(0, .ref a_this), (1, .int x1), (2, .int x2), (3, .int x3), (4, .int x4), (6, .int n13)]) rfl ?_
          exact hj80 _ _ _ _ _ _ _ hw
      · have hw := hw.2 c
        refine j_aload_n C 48 rfl 0 dX0_chooseHeirs_47 rfl rfl ?_
        refine j_iload C 50 rfl 4 dX0_chooseHeirs_48 rfl ?_
        refine j_iload C 52 rfl 5 dX0_chooseHeirs_50 rfl ?_
        refine j_ri C 55 rfl (jc_V C (c_X0_isEnvious l g a_this a_sums a_shares a_begins a_heirs a_foundBegins a_foundHeirs v_fair v_n v_leastShare f_shares x4 n12 _ hw) 2 gX0_chooseHeirs_X0_isEnvious rfl rfl rfl hd_X0_isEnvious ⟨(by simp only [rmH, rmB]; omega), (by simp only [rmH, rmB]; omega)⟩ (j_rec C 0 0 rfl rfl) [0, 1] rfl rfl (rest := []) rfl rfl (Nat.le_of_ble_eq_true rfl) dX0_chooseHeirs_52 ⟨Nat.le_refl _, Nat.le_refl _⟩) [0, 1] rfl (fun _ => rfl) (fun r14 _ hw => ?_)
        try dsimp only at hw
        refine j_if_ne C 58 rfl 62 dX0_chooseHeirs_55 rfl (fun c => ?_) (fun c => ?_)
        · have hw := hw.1 c
          refine j_iconst C 63 rfl dX0_chooseHeirs_62 (v := (0 : Int32)) (by decide) ?_
          refine j_goto C 80 dX0_chooseHeirs_63 rfl ?_
          refine j_lv [0, 1, 2, 3, 4, 6] (lv' := [(0, .ref a_this), (1, .int x1), (2, .int x2), (3, .int x3), (4, .int x4), (6, .int n13)]) rfl ?_
          exact hj80 _ _ _ _ _ _ _ hw
        · have hw := hw.2 c
          refine j_iconst C 59 rfl dX0_chooseHeirs_58 (v := (1 : Int32)) (by decide) ?_
          refine j_goto C 80 dX0_chooseHeirs_59 rfl ?_
          refine j_lv [0, 1, 2, 3, 4, 6] (lv' := [(0, .ref a_this), (1, .int x1), (2, .int x2), (3, .int x3), (4, .int x4), (6, .int n13)]) rfl ?_
          exact hj80 _ _ _ _ _ _ _ hw
theorem c_X0_chooseHeirs (l : Launch) (g : gE) : ∀ (d : Nat) (a_this a_sums a_shares a_begins a_heirs a_foundBegins a_foundHeirs : Nat) (v_fair : Int32) (v_n : Int32) (v_leastShare : Int32) (f_shares : (Nat → Int32)) (f_begins : (Nat → Int32)) (f_heirs : (Nat → Int32)) (f_foundBegins : (Nat → Int32)) (f_foundHeirs : (Nat → Int32)) (x1 x2 x3 : Int32) (K : Int32 → (Nat → Int32) → (Nat → Int32) → (Nat → Int32) → Prop), wp_X0_chooseHeirs d v_fair v_n v_leastShare f_shares f_begins f_heirs f_foundBegins f_foundHeirs x1 x2 x3 K → Cv l g yX0_chooseHeirs wsX0_chooseHeirs (rmH d) [.ref a_this, .int x1, .int x2, .int x3] [(a_this, .inr (0, [.int v_fair, .ref a_sums, .ref a_shares, .ref a_begins, .ref a_heirs, .ref a_foundBegins, .ref a_foundHeirs, .int v_n, .int v_leastShare])), (a_shares, gI g 16 f_shares), (a_begins, gI g 4 f_begins), (a_heirs, gI g 4 f_heirs), (a_foundBegins, gI g 4 f_foundBegins), (a_foundHeirs, gI g 4 f_foundHeirs)] (fun (u : Int32 × (Nat → Int32) × (Nat → Int32) × (Nat → Int32)) => K u.1 u.2.1 u.2.2.1 u.2.2.2) (fun (u : Int32 × (Nat → Int32) × (Nat → Int32) × (Nat → Int32)) => [(a_this, .inr (0, [.int v_fair, .ref a_sums, .ref a_shares, .ref a_begins, .ref a_heirs, .ref a_foundBegins, .ref a_foundHeirs, .int v_n, .int (u.1)])), (a_shares, gI g 16 f_shares), (a_begins, gI g 4 f_begins), (a_heirs, gI g 4 (u.2.1)), (a_foundBegins, gI g 4 (u.2.2.1)), (a_foundHeirs, gI g 4 (u.2.2.2))]) 0 0
  | 0 => fun _ _ _ _ _ _ _ _ _ _ _ _ _ _ _ _ _ _ _ hw => hw.elim
  | d + 1 => fun a_this a_sums a_shares a_begins a_heirs a_foundBegins a_foundHeirs v_fair v_n v_leastShare f_shares f_begins f_heirs f_foundBegins f_foundHeirs x1 x2 x3 K hw => c_X0_chooseHeirs0 l g d (wp_X0_chooseHeirs d) (c_X0_chooseHeirs l g d) a_this a_sums a_shares a_begins a_heirs a_foundBegins a_foundHeirs v_fair v_n v_leastShare f_shares f_begins f_heirs f_foundBegins f_foundHeirs x1 x2 x3 K hw
theorem hi_X0_isEnough_X0 : ∀ w ∈ wsX00, w ∈ wsX0_isEnough := fun _ h => List.mem_cons_of_mem _ (List.mem_append_right _ h)
set_option maxRecDepth 20000 in
set_option maxHeartbeats 4000000 in
theorem c_X0_isEnough (l : Launch) (g : gE) (a_this a_sums a_shares a_begins a_heirs a_foundBegins a_foundHeirs : Nat) (v_fair : Int32) (v_n : Int32) (v_leastShare : Int32) (f_sums : (Nat → Int32)) (x1 : Int32) (x2 : Int32)  (K : Int32 → Prop) (hw : wp_X0_isEnough v_fair v_n v_leastShare f_sums x1 x2 K) : Ci l g yX0_isEnough wsX0_isEnough { frames := 0, cells := 0, slots := 0, locals := 0 } [.ref a_this, .int x1, .int x2] [(a_this, .inr (0, [.int v_fair, .ref a_sums, .ref a_shares, .ref a_begins, .ref a_heirs, .ref a_foundBegins, .ref a_foundHeirs, .int v_n, .int v_leastShare])), (a_sums, gI g 192 f_sums)] (fun (r : Int32) (_ : Unit) => K r) (fun (_ : Unit) => [(a_this, .inr (0, [.int v_fair, .ref a_sums, .ref a_shares, .ref a_begins, .ref a_heirs, .ref a_foundBegins, .ref a_foundHeirs, .int v_n, .int v_leastShare])), (a_sums, gI g 192 f_sums)]) 0 0 := by
  refine Ci_of (cc := cX0_isEnough) (nL := 3) (ret := (some .boolean)) (own := RX0) (lv0 := [(0, .ref a_this), (1, .int x1), (2, .int x2)]) (by decide +kernel) rfl rfl (Nat.le_of_ble_eq_true rfl) rfl (fun A x C R => ?_)
  refine j_aload_n C 1 rfl 0 dX0_isEnough_0 rfl rfl ?_
  refine j_get C 4 rfl 0 0 0 (T := TX0) (N := 9) hi_X0_isEnough_X0 rfl (by decide) (List.mem_of_getElem? (i := 1) rfl) rfl rfl rfl dX0_isEnough_1 ?_
  refine j_if_eq C 7 rfl 36 dX0_isEnough_4 rfl (fun c => ?_) (fun c => ?_)
  · have hw := hw.1 c
    refine j_iload_n C 37 rfl 2 dX0_isEnough_36 rfl rfl ?_
    refine j_aload_n C 38 rfl 0 dX0_isEnough_37 rfl rfl ?_
    refine j_get C 41 rfl 0 0 8 (T := TX0) (N := 9) hi_X0_isEnough_X0 rfl (by decide) (List.mem_of_getElem? (i := 4) rfl) rfl rfl rfl dX0_isEnough_38 ?_
    refine j_icmp_le C 44 rfl 48 dX0_isEnough_41 rfl (fun c => ?_) (fun c => ?_)
    · have hw := hw.1 c
      refine j_iconst C 49 rfl dX0_isEnough_48 (v := (0 : Int32)) (by decide) ?_
      exact j_iret C R () rfl dX0_isEnough_49 rfl hw
    · have hw := hw.2 c
      refine j_iconst C 45 rfl dX0_isEnough_44 (v := (1 : Int32)) (by decide) ?_
      refine j_goto C 49 dX0_isEnough_45 rfl ?_
      exact j_iret C R () rfl dX0_isEnough_49 rfl hw
  · have hw := hw.2 c
    refine j_iload_n C 8 rfl 2 dX0_isEnough_7 rfl rfl ?_
    refine j_aload_n C 9 rfl 0 dX0_isEnough_8 rfl rfl ?_
    refine j_get C 12 rfl 0 0 7 (T := TX0) (N := 9) hi_X0_isEnough_X0 rfl (by decide) (List.mem_of_getElem? (i := 2) rfl) rfl rfl rfl dX0_isEnough_9 ?_
    refine j_imul C 13 rfl dX0_isEnough_12 ?_
    refine j_aload_n C 14 rfl 0 dX0_isEnough_13 rfl rfl ?_
    refine j_get C 17 rfl 0 0 1 (T := TX0) (N := 9) hi_X0_isEnough_X0 rfl (by decide) (List.mem_of_getElem? (i := 3) rfl) rfl rfl rfl dX0_isEnough_14 ?_
    refine j_iload_n C 18 rfl 1 dX0_isEnough_17 rfl rfl ?_
    refine j_bipush C 20 rfl dX0_isEnough_18 (v := (48 : Int32)) (by decide) ?_
    refine j_imul C 21 rfl dX0_isEnough_20 ?_
    refine j_bipush C 23 rfl dX0_isEnough_21 (v := (24 : Int32)) (by decide) ?_
    refine j_iadd C 24 rfl dX0_isEnough_23 ?_
    obtain ⟨k1, ek1, hk1, hw⟩ := hw
    refine j_iald C 25 rfl 1 k1 rfl ek1 hk1 (by decide) dX0_isEnough_24 ?_
    refine j_icmp_lt C 28 rfl 32 dX0_isEnough_25 rfl (fun c => ?_) (fun c => ?_)
    · have hw := hw.1 c
      refine j_iconst C 33 rfl dX0_isEnough_32 (v := (0 : Int32)) (by decide) ?_
      refine j_goto C 49 dX0_isEnough_33 rfl ?_
      exact j_iret C R () rfl dX0_isEnough_49 rfl hw
    · have hw := hw.2 c
      refine j_iconst C 29 rfl dX0_isEnough_28 (v := (1 : Int32)) (by decide) ?_
      refine j_goto C 49 dX0_isEnough_29 rfl ?_
      exact j_iret C R () rfl dX0_isEnough_49 rfl hw
theorem hi_X0_noteShares_X0 : ∀ w ∈ wsX00, w ∈ wsX0_noteShares := fun _ h => List.mem_cons_of_mem _ (List.mem_append_right _ h)
set_option maxRecDepth 20000 in
set_option maxHeartbeats 4000000 in
theorem c_X0_noteShares (l : Launch) (g : gE) (a_this a_sums a_shares a_begins a_heirs a_foundBegins a_foundHeirs : Nat) (v_fair : Int32) (v_n : Int32) (v_leastShare : Int32) (f_sums : (Nat → Int32)) (f_shares : (Nat → Int32)) (f_begins : (Nat → Int32)) (x1 : Int32)  (K : Int32 → (Nat → Int32) → Prop) (hw : wp_X0_noteShares v_fair v_n v_leastShare f_sums f_shares f_begins x1 K) : Ci l g yX0_noteShares wsX0_noteShares { frames := 1, cells := 0, slots := 0, locals := 22 } [.ref a_this, .int x1] [(a_this, .inr (0, [.int v_fair, .ref a_sums, .ref a_shares, .ref a_begins, .ref a_heirs, .ref a_foundBegins, .ref a_foundHeirs, .int v_n, .int v_leastShare])), (a_sums, gI g 192 f_sums), (a_shares, gI g 16 f_shares), (a_begins, gI g 4 f_begins)] (fun (r : Int32) (u : (Nat → Int32)) => K r u) (fun (u : (Nat → Int32)) => [(a_this, .inr (0, [.int v_fair, .ref a_sums, .ref a_shares, .ref a_begins, .ref a_heirs, .ref a_foundBegins, .ref a_foundHeirs, .int v_n, .int v_leastShare])), (a_sums, gI g 192 f_sums), (a_shares, gI g 16 u), (a_begins, gI g 4 f_begins)]) 0 0 := by
  refine Ci_of (cc := cX0_noteShares) (nL := 6) (ret := (some .boolean)) (own := RX0) (lv0 := [(0, .ref a_this), (1, .int x1)]) (by decide +kernel) rfl rfl (Nat.le_of_ble_eq_true rfl) rfl (fun A x C R => ?_)
  refine j_iload_n C 1 rfl 1 dX0_noteShares_0 rfl rfl ?_
  refine j_iconst C 2 rfl dX0_noteShares_1 (v := (1 : Int32)) (by decide) ?_
  refine j_iadd C 3 rfl dX0_noteShares_2 ?_
  refine j_aload_n C 4 rfl 0 dX0_noteShares_3 rfl rfl ?_
  refine j_get C 7 rfl 0 0 7 (T := TX0) (N := 9) hi_X0_noteShares_X0 rfl (by decide) (List.mem_of_getElem? (i := 1) rfl) rfl rfl rfl dX0_noteShares_4 ?_
  refine j_icmp_ge C 10 rfl 21 dX0_noteShares_7 rfl (fun c => ?_) (fun c => ?_)
  · have hw := hw.1 c
    refine j_aload_n C 22 rfl 0 dX0_noteShares_21 rfl rfl ?_
    refine j_get C 25 rfl 0 0 3 (T := TX0) (N := 9) hi_X0_noteShares_X0 rfl (by decide) (List.mem_of_getElem? (i := 2) rfl) rfl rfl rfl dX0_noteShares_22 ?_
    refine j_iconst C 26 rfl dX0_noteShares_25 (v := (0 : Int32)) (by decide) ?_
    refine j_iald C 27 rfl 3 0 rfl (by decide) (by decide) (by decide) dX0_noteShares_26 ?_
    refine j_bipush C 29 rfl dX0_noteShares_27 (v := (24 : Int32)) (by decide) ?_
    refine j_iadd C 30 rfl dX0_noteShares_29 ?_
    refine j_top (fun n1 en1 => ?_)
    have hw := hw n1 en1
    refine j_istore_n C 31 rfl [1, 2, 0] (lv' := [(0, .ref a_this), (1, .int x1), (2, .int n1)]) dX0_noteShares_30 rfl (by decide) rfl ?_
    refine j_iconst C 32 rfl dX0_noteShares_31 (v := (0 : Int32)) (by decide) ?_
    refine j_istore_n C 33 rfl [1, 2, 3, 0] (lv' := [(0, .ref a_this), (1, .int x1), (2, .int n1), (3, .int (0 : Int32))]) dX0_noteShares_32 rfl (by decide) rfl ?_
    refine j_iconst C 34 rfl dX0_noteShares_33 (v := (0 : Int32)) (by decide) ?_
    refine j_istore C 36 rfl [1, 2, 3, 4, 0] (lv' := [(0, .ref a_this), (1, .int x1), (2, .int n1), (3, .int (0 : Int32)), (4, .int (0 : Int32))]) dX0_noteShares_34 (by decide) rfl ?_
    refine lpW3_ind (G := fun x3 x4 f_shares => J l g A x 6 0 0 36 [(0, .ref a_this), (1, .int x1), (2, .int n1), (3, .int x3), (4, .int x4)] [] [(a_this, .inr (0, [.int v_fair, .ref a_sums, .ref a_shares, .ref a_begins, .ref a_heirs, .ref a_foundBegins, .ref a_foundHeirs, .int v_n, .int v_leastShare])), (a_sums, gI g 192 f_sums), (a_shares, gI g 16 f_shares), (a_begins, gI g 4 f_begins)]) (fun L36 x3 x4 f_shares hL36 hw => ?_) _ _ _ hw
    refine j_iload C 38 rfl 4 dX0_noteShares_36 rfl ?_
    refine j_aload_n C 39 rfl 0 dX0_noteShares_38 rfl rfl ?_
    refine j_get C 42 rfl 0 0 7 (T := TX0) (N := 9) hi_X0_noteShares_X0 rfl (by decide) (List.mem_of_getElem? (i := 1) rfl) rfl rfl rfl dX0_noteShares_39 ?_
    refine j_icmp_ge C 45 rfl 107 dX0_noteShares_42 rfl (fun c => ?_) (fun c => ?_)
    · have hw := hw.1 c
      refine j_iload_n C 108 rfl 3 dX0_noteShares_107 rfl rfl ?_
      obtain ⟨hn, hw⟩ := hw
      exact j_iret C R (f_shares) hn dX0_noteShares_108 rfl hw
    · have hw := hw.2 c
      refine j_aload_n C 46 rfl 0 dX0_noteShares_45 rfl rfl ?_
      refine j_get C 49 rfl 0 0 1 (T := TX0) (N := 9) hi_X0_noteShares_X0 rfl (by decide) (List.mem_of_getElem? (i := 3) rfl) rfl rfl rfl dX0_noteShares_46 ?_
      refine j_iload C 51 rfl 4 dX0_noteShares_49 rfl ?_
      refine j_bipush C 53 rfl dX0_noteShares_51 (v := (48 : Int32)) (by decide) ?_
      refine j_imul C 54 rfl dX0_noteShares_53 ?_
      refine j_iload_n C 55 rfl 2 dX0_noteShares_54 rfl rfl ?_
      refine j_iadd C 56 rfl dX0_noteShares_55 ?_
      obtain ⟨k2, ek2, hk2, hw⟩ := hw
      refine j_iald C 57 rfl 1 k2 rfl ek2 hk2 (by decide) dX0_noteShares_56 ?_
      refine j_aload_n C 58 rfl 0 dX0_noteShares_57 rfl rfl ?_
      refine j_get C 61 rfl 0 0 1 (T := TX0) (N := 9) hi_X0_noteShares_X0 rfl (by decide) (List.mem_of_getElem? (i := 3) rfl) rfl rfl rfl dX0_noteShares_58 ?_
      refine j_iload C 63 rfl 4 dX0_noteShares_61 rfl ?_
      refine j_bipush C 65 rfl dX0_noteShares_63 (v := (48 : Int32)) (by decide) ?_
      refine j_imul C 66 rfl dX0_noteShares_65 ?_
      refine j_aload_n C 67 rfl 0 dX0_noteShares_66 rfl rfl ?_
      refine j_get C 70 rfl 0 0 3 (T := TX0) (N := 9) hi_X0_noteShares_X0 rfl (by decide) (List.mem_of_getElem? (i := 2) rfl) rfl rfl rfl dX0_noteShares_67 ?_
      refine j_iload_n C 71 rfl 1 dX0_noteShares_70 rfl rfl ?_
      obtain ⟨k3, ek3, hk3, hw⟩ := hw
      refine j_iald C 72 rfl 3 k3 rfl ek3 hk3 (by decide) dX0_noteShares_71 ?_
      refine j_iadd C 73 rfl dX0_noteShares_72 ?_
      obtain ⟨k4, ek4, hk4, hw⟩ := hw
      refine j_iald C 74 rfl 1 k4 rfl ek4 hk4 (by decide) dX0_noteShares_73 ?_
      refine j_isub C 75 rfl dX0_noteShares_74 ?_
      refine j_top (fun n5 en5 => ?_)
      have hw := hw n5 en5
      refine j_istore C 77 rfl [1, 2, 3, 4, 5, 0] (lv' := [(0, .ref a_this), (1, .int x1), (2, .int n1), (3, .int x3), (4, .int x4), (5, .int n5)]) dX0_noteShares_75 (by decide) rfl ?_
      refine j_aload_n C 78 rfl 0 dX0_noteShares_77 rfl rfl ?_
      refine j_get C 81 rfl 0 0 2 (T := TX0) (N := 9) hi_X0_noteShares_X0 rfl (by decide) (List.mem_of_getElem? (i := 4) rfl) rfl rfl rfl dX0_noteShares_78 ?_
      refine j_iload_n C 82 rfl 1 dX0_noteShares_81 rfl rfl ?_
      refine j_iconst C 83 rfl dX0_noteShares_82 (v := (4 : Int32)) (by decide) ?_
      refine j_imul C 84 rfl dX0_noteShares_83 ?_
      refine j_iload C 86 rfl 4 dX0_noteShares_84 rfl ?_
      refine j_iadd C 87 rfl dX0_noteShares_86 ?_
      refine j_iload C 89 rfl 5 dX0_noteShares_87 rfl ?_
      obtain ⟨k6, ek6, hk6, hw⟩ := hw
      refine j_iast C 90 rfl 2 k6 (ws' := [(a_this, .inr (0, [.int v_fair, .ref a_sums, .ref a_shares, .ref a_begins, .ref a_heirs, .ref a_foundBegins, .ref a_foundHeirs, .int v_n, .int v_leastShare])), (a_sums, gI g 192 f_sums), (a_shares, gI g 16 (upd f_shares k6 n5)), (a_begins, gI g 4 f_begins)]) rfl ek6 hk6 (by decide) rfl dX0_noteShares_89 ?_
      refine j_iload_n C 91 rfl 3 dX0_noteShares_90 rfl rfl ?_
      refine j_aload_n C 92 rfl 0 dX0_noteShares_91 rfl rfl ?_
      refine j_iload C 94 rfl 4 dX0_noteShares_92 rfl ?_
      refine j_iload C 96 rfl 5 dX0_noteShares_94 rfl ?_
      refine j_ri C 99 rfl (jc_V C (c_X0_isEnough l g a_this a_sums a_shares a_begins a_heirs a_foundBegins a_foundHeirs v_fair v_n v_leastShare f_sums x4 n5 _ hw) 2 gX0_noteShares_X0_isEnough rfl rfl rfl hd_X0_isEnough ⟨Nat.le_of_ble_eq_true rfl, Nat.le_of_ble_eq_true rfl⟩ (j_rec C 0 0 rfl rfl) [0, 1] rfl rfl (rest := [.int x3]) rfl rfl (Nat.le_of_ble_eq_true rfl) dX0_noteShares_96 ⟨Nat.le_refl _, Nat.le_refl _⟩) [0, 1] rfl (fun _ => rfl) (fun r7 _ hw => ?_)
      try dsimp only at hw
      refine j_ior C 100 rfl dX0_noteShares_99 ?_
      refine j_top (fun n8 en8 => ?_)
      have hw := hw n8 en8
      refine j_istore_n C 101 rfl [1, 2, 3, 0, 4, 5] (lv' := [(0, .ref a_this), (1, .int x1), (2, .int n1), (3, .int n8), (4, .int x4), (5, .int n5)]) dX0_noteShares_100 rfl (by decide) rfl ?_
      refine j_iinc C 104 rfl 4 [1, 2, 3, 4, 0, 5] (v' := (1 : Int32)) (lv' := fun z => [(0, .ref a_this), (1, .int x1), (2, .int n1), (3, .int n8), (4, .int z), (5, .int n5)]) dX0_noteShares_101 rfl (by decide) (by decide) (fun _ => rfl) (fun n9 en9 => ?_)
      have hw := hw n9 en9
      refine j_goto C 36 dX0_noteShares_104 rfl ?_
      refine j_lv [0, 1, 2, 3, 4] (lv' := [(0, .ref a_this), (1, .int x1), (2, .int n1), (3, .int n8), (4, .int n9)]) rfl ?_
      exact hL36 _ _ _ hw
  · have hw := hw.2 c
    refine j_aload_n C 11 rfl 0 dX0_noteShares_10 rfl rfl ?_
    refine j_get C 14 rfl 0 0 3 (T := TX0) (N := 9) hi_X0_noteShares_X0 rfl (by decide) (List.mem_of_getElem? (i := 2) rfl) rfl rfl rfl dX0_noteShares_11 ?_
    refine j_iload_n C 15 rfl 1 dX0_noteShares_14 rfl rfl ?_
    refine j_iconst C 16 rfl dX0_noteShares_15 (v := (1 : Int32)) (by decide) ?_
    refine j_iadd C 17 rfl dX0_noteShares_16 ?_
    obtain ⟨k10, ek10, hk10, hw⟩ := hw
    refine j_iald C 18 rfl 3 k10 rfl ek10 hk10 (by decide) dX0_noteShares_17 ?_
    refine j_goto C 30 dX0_noteShares_18 rfl ?_
    refine j_top (fun n11 en11 => ?_)
    have hw := hw n11 en11
    refine j_istore_n C 31 rfl [1, 2, 0] (lv' := [(0, .ref a_this), (1, .int x1), (2, .int n11)]) dX0_noteShares_30 rfl (by decide) rfl ?_
    refine j_iconst C 32 rfl dX0_noteShares_31 (v := (0 : Int32)) (by decide) ?_
    refine j_istore_n C 33 rfl [1, 2, 3, 0] (lv' := [(0, .ref a_this), (1, .int x1), (2, .int n11), (3, .int (0 : Int32))]) dX0_noteShares_32 rfl (by decide) rfl ?_
    refine j_iconst C 34 rfl dX0_noteShares_33 (v := (0 : Int32)) (by decide) ?_
    refine j_istore C 36 rfl [1, 2, 3, 4, 0] (lv' := [(0, .ref a_this), (1, .int x1), (2, .int n11), (3, .int (0 : Int32)), (4, .int (0 : Int32))]) dX0_noteShares_34 (by decide) rfl ?_
    refine lpW3_ind (G := fun x3 x4 f_shares => J l g A x 6 0 0 36 [(0, .ref a_this), (1, .int x1), (2, .int n11), (3, .int x3), (4, .int x4)] [] [(a_this, .inr (0, [.int v_fair, .ref a_sums, .ref a_shares, .ref a_begins, .ref a_heirs, .ref a_foundBegins, .ref a_foundHeirs, .int v_n, .int v_leastShare])), (a_sums, gI g 192 f_sums), (a_shares, gI g 16 f_shares), (a_begins, gI g 4 f_begins)]) (fun L36 x3 x4 f_shares hL36 hw => ?_) _ _ _ hw
    refine j_iload C 38 rfl 4 dX0_noteShares_36 rfl ?_
    refine j_aload_n C 39 rfl 0 dX0_noteShares_38 rfl rfl ?_
    refine j_get C 42 rfl 0 0 7 (T := TX0) (N := 9) hi_X0_noteShares_X0 rfl (by decide) (List.mem_of_getElem? (i := 1) rfl) rfl rfl rfl dX0_noteShares_39 ?_
    refine j_icmp_ge C 45 rfl 107 dX0_noteShares_42 rfl (fun c => ?_) (fun c => ?_)
    · have hw := hw.1 c
      refine j_iload_n C 108 rfl 3 dX0_noteShares_107 rfl rfl ?_
      obtain ⟨hn, hw⟩ := hw
      exact j_iret C R (f_shares) hn dX0_noteShares_108 rfl hw
    · have hw := hw.2 c
      refine j_aload_n C 46 rfl 0 dX0_noteShares_45 rfl rfl ?_
      refine j_get C 49 rfl 0 0 1 (T := TX0) (N := 9) hi_X0_noteShares_X0 rfl (by decide) (List.mem_of_getElem? (i := 3) rfl) rfl rfl rfl dX0_noteShares_46 ?_
      refine j_iload C 51 rfl 4 dX0_noteShares_49 rfl ?_
      refine j_bipush C 53 rfl dX0_noteShares_51 (v := (48 : Int32)) (by decide) ?_
      refine j_imul C 54 rfl dX0_noteShares_53 ?_
      refine j_iload_n C 55 rfl 2 dX0_noteShares_54 rfl rfl ?_
      refine j_iadd C 56 rfl dX0_noteShares_55 ?_
      obtain ⟨k12, ek12, hk12, hw⟩ := hw
      refine j_iald C 57 rfl 1 k12 rfl ek12 hk12 (by decide) dX0_noteShares_56 ?_
      refine j_aload_n C 58 rfl 0 dX0_noteShares_57 rfl rfl ?_
      refine j_get C 61 rfl 0 0 1 (T := TX0) (N := 9) hi_X0_noteShares_X0 rfl (by decide) (List.mem_of_getElem? (i := 3) rfl) rfl rfl rfl dX0_noteShares_58 ?_
      refine j_iload C 63 rfl 4 dX0_noteShares_61 rfl ?_
      refine j_bipush C 65 rfl dX0_noteShares_63 (v := (48 : Int32)) (by decide) ?_
      refine j_imul C 66 rfl dX0_noteShares_65 ?_
      refine j_aload_n C 67 rfl 0 dX0_noteShares_66 rfl rfl ?_
      refine j_get C 70 rfl 0 0 3 (T := TX0) (N := 9) hi_X0_noteShares_X0 rfl (by decide) (List.mem_of_getElem? (i := 2) rfl) rfl rfl rfl dX0_noteShares_67 ?_
      refine j_iload_n C 71 rfl 1 dX0_noteShares_70 rfl rfl ?_
      obtain ⟨k13, ek13, hk13, hw⟩ := hw
      refine j_iald C 72 rfl 3 k13 rfl ek13 hk13 (by decide) dX0_noteShares_71 ?_
      refine j_iadd C 73 rfl dX0_noteShares_72 ?_
      obtain ⟨k14, ek14, hk14, hw⟩ := hw
      refine j_iald C 74 rfl 1 k14 rfl ek14 hk14 (by decide) dX0_noteShares_73 ?_
      refine j_isub C 75 rfl dX0_noteShares_74 ?_
      refine j_top (fun n15 en15 => ?_)
      have hw := hw n15 en15
      refine j_istore C 77 rfl [1, 2, 3, 4, 5, 0] (lv' := [(0, .ref a_this), (1, .int x1), (2, .int n11), (3, .int x3), (4, .int x4), (5, .int n15)]) dX0_noteShares_75 (by decide) rfl ?_
      refine j_aload_n C 78 rfl 0 dX0_noteShares_77 rfl rfl ?_
      refine j_get C 81 rfl 0 0 2 (T := TX0) (N := 9) hi_X0_noteShares_X0 rfl (by decide) (List.mem_of_getElem? (i := 4) rfl) rfl rfl rfl dX0_noteShares_78 ?_
      refine j_iload_n C 82 rfl 1 dX0_noteShares_81 rfl rfl ?_
      refine j_iconst C 83 rfl dX0_noteShares_82 (v := (4 : Int32)) (by decide) ?_
      refine j_imul C 84 rfl dX0_noteShares_83 ?_
      refine j_iload C 86 rfl 4 dX0_noteShares_84 rfl ?_
      refine j_iadd C 87 rfl dX0_noteShares_86 ?_
      refine j_iload C 89 rfl 5 dX0_noteShares_87 rfl ?_
      obtain ⟨k16, ek16, hk16, hw⟩ := hw
      refine j_iast C 90 rfl 2 k16 (ws' := [(a_this, .inr (0, [.int v_fair, .ref a_sums, .ref a_shares, .ref a_begins, .ref a_heirs, .ref a_foundBegins, .ref a_foundHeirs, .int v_n, .int v_leastShare])), (a_sums, gI g 192 f_sums), (a_shares, gI g 16 (upd f_shares k16 n15)), (a_begins, gI g 4 f_begins)]) rfl ek16 hk16 (by decide) rfl dX0_noteShares_89 ?_
      refine j_iload_n C 91 rfl 3 dX0_noteShares_90 rfl rfl ?_
      refine j_aload_n C 92 rfl 0 dX0_noteShares_91 rfl rfl ?_
      refine j_iload C 94 rfl 4 dX0_noteShares_92 rfl ?_
      refine j_iload C 96 rfl 5 dX0_noteShares_94 rfl ?_
      refine j_ri C 99 rfl (jc_V C (c_X0_isEnough l g a_this a_sums a_shares a_begins a_heirs a_foundBegins a_foundHeirs v_fair v_n v_leastShare f_sums x4 n15 _ hw) 2 gX0_noteShares_X0_isEnough rfl rfl rfl hd_X0_isEnough ⟨Nat.le_of_ble_eq_true rfl, Nat.le_of_ble_eq_true rfl⟩ (j_rec C 0 0 rfl rfl) [0, 1] rfl rfl (rest := [.int x3]) rfl rfl (Nat.le_of_ble_eq_true rfl) dX0_noteShares_96 ⟨Nat.le_refl _, Nat.le_refl _⟩) [0, 1] rfl (fun _ => rfl) (fun r17 _ hw => ?_)
      try dsimp only at hw
      refine j_ior C 100 rfl dX0_noteShares_99 ?_
      refine j_top (fun n18 en18 => ?_)
      have hw := hw n18 en18
      refine j_istore_n C 101 rfl [1, 2, 3, 0, 4, 5] (lv' := [(0, .ref a_this), (1, .int x1), (2, .int n11), (3, .int n18), (4, .int x4), (5, .int n15)]) dX0_noteShares_100 rfl (by decide) rfl ?_
      refine j_iinc C 104 rfl 4 [1, 2, 3, 4, 0, 5] (v' := (1 : Int32)) (lv' := fun z => [(0, .ref a_this), (1, .int x1), (2, .int n11), (3, .int n18), (4, .int z), (5, .int n15)]) dX0_noteShares_101 rfl (by decide) (by decide) (fun _ => rfl) (fun n19 en19 => ?_)
      have hw := hw n19 en19
      refine j_goto C 36 dX0_noteShares_104 rfl ?_
      refine j_lv [0, 1, 2, 3, 4] (lv' := [(0, .ref a_this), (1, .int x1), (2, .int n11), (3, .int n18), (4, .int n19)]) rfl ?_
      exact hL36 _ _ _ hw
theorem hi_X0_firstArcOfNoUse_X0 : ∀ w ∈ wsX00, w ∈ wsX0_firstArcOfNoUse := fun _ h => List.mem_cons_of_mem _ (List.mem_append_right _ h)
set_option maxRecDepth 20000 in
set_option maxHeartbeats 4000000 in
theorem c_X0_firstArcOfNoUse (l : Launch) (g : gE) (a_this a_sums a_shares a_begins a_heirs a_foundBegins a_foundHeirs : Nat) (v_fair : Int32) (v_n : Int32) (v_leastShare : Int32) (f_sums : (Nat → Int32)) (f_shares : (Nat → Int32)) (f_begins : (Nat → Int32))   (K : Int32 → (Nat → Int32) → Prop) (hw : wp_X0_firstArcOfNoUse v_fair v_n v_leastShare f_sums f_shares f_begins K) : Ci l g yX0_firstArcOfNoUse wsX0_firstArcOfNoUse { frames := 2, cells := 0, slots := 0, locals := 47 } [.ref a_this] [(a_this, .inr (0, [.int v_fair, .ref a_sums, .ref a_shares, .ref a_begins, .ref a_heirs, .ref a_foundBegins, .ref a_foundHeirs, .int v_n, .int v_leastShare])), (a_sums, gI g 192 f_sums), (a_shares, gI g 16 f_shares), (a_begins, gI g 4 f_begins)] (fun (r : Int32) (u : (Nat → Int32)) => K r u) (fun (u : (Nat → Int32)) => [(a_this, .inr (0, [.int v_fair, .ref a_sums, .ref a_shares, .ref a_begins, .ref a_heirs, .ref a_foundBegins, .ref a_foundHeirs, .int v_n, .int v_leastShare])), (a_sums, gI g 192 f_sums), (a_shares, gI g 16 u), (a_begins, gI g 4 f_begins)]) 0 0 := by
  refine Ci_of (cc := cX0_firstArcOfNoUse) (nL := 2) (ret := (some .int)) (own := RX0) (lv0 := [(0, .ref a_this)]) (by decide +kernel) rfl rfl (Nat.le_of_ble_eq_true rfl) rfl (fun A x C R => ?_)
  refine j_iconst C 1 rfl dX0_firstArcOfNoUse_0 (v := (0 : Int32)) (by decide) ?_
  refine j_istore_n C 2 rfl [1, 0] (lv' := [(0, .ref a_this), (1, .int (0 : Int32))]) dX0_firstArcOfNoUse_1 rfl (by decide) rfl ?_
  refine lpW2_ind (G := fun x1 f_shares => J l g A x 2 0 0 2 [(0, .ref a_this), (1, .int x1)] [] [(a_this, .inr (0, [.int v_fair, .ref a_sums, .ref a_shares, .ref a_begins, .ref a_heirs, .ref a_foundBegins, .ref a_foundHeirs, .int v_n, .int v_leastShare])), (a_sums, gI g 192 f_sums), (a_shares, gI g 16 f_shares), (a_begins, gI g 4 f_begins)]) (fun L2 x1 f_shares hL2 hw => ?_) _ _ hw
  refine j_iload_n C 3 rfl 1 dX0_firstArcOfNoUse_2 rfl rfl ?_
  refine j_aload_n C 4 rfl 0 dX0_firstArcOfNoUse_3 rfl rfl ?_
  refine j_get C 7 rfl 0 0 7 (T := TX0) (N := 9) hi_X0_firstArcOfNoUse_X0 rfl (by decide) (List.mem_of_getElem? (i := 1) rfl) rfl rfl rfl dX0_firstArcOfNoUse_4 ?_
  refine j_icmp_ge C 10 rfl 24 dX0_firstArcOfNoUse_7 rfl (fun c => ?_) (fun c => ?_)
  · have hw := hw.1 c
    refine j_iload_n C 25 rfl 1 dX0_firstArcOfNoUse_24 rfl rfl ?_
    exact j_iret C R (f_shares) rfl dX0_firstArcOfNoUse_25 rfl hw
  · have hw := hw.2 c
    refine j_aload_n C 11 rfl 0 dX0_firstArcOfNoUse_10 rfl rfl ?_
    refine j_iload_n C 12 rfl 1 dX0_firstArcOfNoUse_11 rfl rfl ?_
    refine j_rwi C 15 rfl (jc_V C (c_X0_noteShares l g a_this a_sums a_shares a_begins a_heirs a_foundBegins a_foundHeirs v_fair v_n v_leastShare f_sums f_shares f_begins x1 _ hw) 1 gX0_firstArcOfNoUse_X0_noteShares rfl rfl rfl hd_X0_noteShares ⟨Nat.le_of_ble_eq_true rfl, Nat.le_of_ble_eq_true rfl⟩ (j_rec C 0 0 rfl rfl) [0, 1, 2, 3] rfl rfl (rest := []) rfl rfl (Nat.le_of_ble_eq_true rfl) dX0_firstArcOfNoUse_12 ⟨Nat.le_refl _, Nat.le_refl _⟩) [0, 1, 2, 3] [] [0, 1, 2, 3] (wr := []) (ws' := fun u => [(a_this, .inr (0, [.int v_fair, .ref a_sums, .ref a_shares, .ref a_begins, .ref a_heirs, .ref a_foundBegins, .ref a_foundHeirs, .int v_n, .int v_leastShare])), (a_sums, gI g 192 f_sums), (a_shares, gI g 16 u), (a_begins, gI g 4 f_begins)]) rfl rfl rfl (by decide) rfl (fun _ => rfl) (fun r1 u hw => ?_)
    obtain ⟨u2, eu2⟩ : ∃ z, z = u := ⟨_, rfl⟩
    subst eu2
    try dsimp only at hw
    show J l g A x 2 0 0 15 [(0, .ref a_this), (1, .int x1)] [.int r1] [(a_this, .inr (0, [.int v_fair, .ref a_sums, .ref a_shares, .ref a_begins, .ref a_heirs, .ref a_foundBegins, .ref a_foundHeirs, .int v_n, .int v_leastShare])), (a_sums, gI g 192 f_sums), (a_shares, gI g 16 u2), (a_begins, gI g 4 f_begins)]
    refine j_if_eq C 18 rfl 24 dX0_firstArcOfNoUse_15 rfl (fun c => ?_) (fun c => ?_)
    · have hw := hw.1 c
      refine j_iload_n C 25 rfl 1 dX0_firstArcOfNoUse_24 rfl rfl ?_
      exact j_iret C R (u2) rfl dX0_firstArcOfNoUse_25 rfl hw
    · have hw := hw.2 c
      refine j_iinc C 21 rfl 1 [1, 0] (v' := (1 : Int32)) (lv' := fun z => [(0, .ref a_this), (1, .int z)]) dX0_firstArcOfNoUse_18 rfl (by decide) (by decide) (fun _ => rfl) (fun n3 en3 => ?_)
      have hw := hw n3 en3
      refine j_goto C 2 dX0_firstArcOfNoUse_21 rfl ?_
      exact hL2 _ _ hw
theorem hi_X0_stepBounds_X0 : ∀ w ∈ wsX00, w ∈ wsX0_stepBounds := fun _ h => List.mem_cons_of_mem _ (List.mem_append_right _ h)
set_option maxRecDepth 20000 in
set_option maxHeartbeats 4000000 in
theorem c_X0_stepBounds (l : Launch) (g : gE) (a_this a_sums a_shares a_begins a_heirs a_foundBegins a_foundHeirs : Nat) (v_fair : Int32) (v_n : Int32) (v_leastShare : Int32) (f_begins : (Nat → Int32)) (x1 : Int32)  (K : Int32 → (Nat → Int32) → Prop) (hw : wp_X0_stepBounds v_n f_begins x1 K) : Ci l g yX0_stepBounds wsX0_stepBounds { frames := 0, cells := 0, slots := 0, locals := 0 } [.ref a_this, .int x1] [(a_this, .inr (0, [.int v_fair, .ref a_sums, .ref a_shares, .ref a_begins, .ref a_heirs, .ref a_foundBegins, .ref a_foundHeirs, .int v_n, .int v_leastShare])), (a_begins, gI g 4 f_begins)] (fun (r : Int32) (u : (Nat → Int32)) => K r u) (fun (u : (Nat → Int32)) => [(a_this, .inr (0, [.int v_fair, .ref a_sums, .ref a_shares, .ref a_begins, .ref a_heirs, .ref a_foundBegins, .ref a_foundHeirs, .int v_n, .int v_leastShare])), (a_begins, gI g 4 u)]) 0 0 := by
  refine Ci_of (cc := cX0_stepBounds) (nL := 4) (ret := (some .boolean)) (own := RX0) (lv0 := [(0, .ref a_this), (1, .int x1)]) (by decide +kernel) rfl rfl (Nat.le_of_ble_eq_true rfl) rfl (fun A x C R => ?_)
  have hj30 : ∀ (x2 : Int32) (f_begins : (Nat → Int32)), wj_X0_stepBounds_30 v_n f_begins x2 K → J l g A x 4 0 0 30 [(0, .ref a_this), (2, .int x2)] [] [(a_this, .inr (0, [.int v_fair, .ref a_sums, .ref a_shares, .ref a_begins, .ref a_heirs, .ref a_foundBegins, .ref a_foundHeirs, .int v_n, .int v_leastShare])), (a_begins, gI g 4 f_begins)] := by
    intro x2 f_begins hw
    refine j_iload_n C 31 rfl 1 dX0_stepBounds_30 rfl rfl ?_
    refine j_if_ge C 34 rfl 36 dX0_stepBounds_31 rfl (fun c => ?_) (fun c => ?_)
    · have hw := hw.1 c
      refine j_aload_n C 37 rfl 0 dX0_stepBounds_36 rfl rfl ?_
      refine j_get C 40 rfl 0 0 3 (T := TX0) (N := 9) hi_X0_stepBounds_X0 rfl (by decide) (List.mem_of_getElem? (i := 1) rfl) rfl rfl rfl dX0_stepBounds_37 ?_
      refine j_iload_n C 41 rfl 1 dX0_stepBounds_40 rfl rfl ?_
      refine j_dup2 C 42 rfl dX0_stepBounds_41 rfl rfl ?_
      obtain ⟨k1, ek1, hk1, hw⟩ := hw
      refine j_iald C 43 rfl 1 k1 rfl ek1 hk1 (by decide) dX0_stepBounds_42 ?_
      refine j_iconst C 44 rfl dX0_stepBounds_43 (v := (1 : Int32)) (by decide) ?_
      refine j_iadd C 45 rfl dX0_stepBounds_44 ?_
      refine j_top (fun n2 en2 => ?_)
      have hw := hw n2 en2
      obtain ⟨k3, ek3, hk3, hw⟩ := hw
      refine j_iast C 46 rfl 1 k3 (ws' := [(a_this, .inr (0, [.int v_fair, .ref a_sums, .ref a_shares, .ref a_begins, .ref a_heirs, .ref a_foundBegins, .ref a_foundHeirs, .int v_n, .int v_leastShare])), (a_begins, gI g 4 (upd f_begins k3 n2))]) rfl ek3 hk3 (by decide) rfl dX0_stepBounds_45 ?_
      refine j_iload_n C 47 rfl 1 dX0_stepBounds_46 rfl rfl ?_
      refine j_iconst C 48 rfl dX0_stepBounds_47 (v := (1 : Int32)) (by decide) ?_
      refine j_iadd C 49 rfl dX0_stepBounds_48 ?_
      refine j_top (fun n4 en4 => ?_)
      have hw := hw n4 en4
      refine j_istore_n C 50 rfl [1, 2, 0] (lv' := [(0, .ref a_this), (2, .int x2), (3, .int n4)]) dX0_stepBounds_49 rfl (by decide) rfl ?_
      refine j_lv [0, 2] (lv' := [(0, .ref a_this), (3, .int n4)]) rfl ?_
      refine lpW2_ind (G := fun x3 f_begins => J l g A x 4 0 0 50 [(0, .ref a_this), (3, .int x3)] [] [(a_this, .inr (0, [.int v_fair, .ref a_sums, .ref a_shares, .ref a_begins, .ref a_heirs, .ref a_foundBegins, .ref a_foundHeirs, .int v_n, .int v_leastShare])), (a_begins, gI g 4 f_begins)]) (fun L50 x3 f_begins hL50 hw => ?_) _ _ hw
      refine j_iload_n C 51 rfl 1 dX0_stepBounds_50 rfl rfl ?_
      refine j_aload_n C 52 rfl 0 dX0_stepBounds_51 rfl rfl ?_
      refine j_get C 55 rfl 0 0 7 (T := TX0) (N := 9) hi_X0_stepBounds_X0 rfl (by decide) (List.mem_of_getElem? (i := 2) rfl) rfl rfl rfl dX0_stepBounds_52 ?_
      refine j_icmp_ge C 58 rfl 80 dX0_stepBounds_55 rfl (fun c => ?_) (fun c => ?_)
      · have hw := hw.1 c
        refine j_iconst C 81 rfl dX0_stepBounds_80 (v := (1 : Int32)) (by decide) ?_
        exact j_iret C R (f_begins) rfl dX0_stepBounds_81 rfl hw
      · have hw := hw.2 c
        refine j_aload_n C 59 rfl 0 dX0_stepBounds_58 rfl rfl ?_
        refine j_get C 62 rfl 0 0 3 (T := TX0) (N := 9) hi_X0_stepBounds_X0 rfl (by decide) (List.mem_of_getElem? (i := 1) rfl) rfl rfl rfl dX0_stepBounds_59 ?_
        refine j_iload_n C 63 rfl 1 dX0_stepBounds_62 rfl rfl ?_
        refine j_aload_n C 64 rfl 0 dX0_stepBounds_63 rfl rfl ?_
        refine j_get C 67 rfl 0 0 3 (T := TX0) (N := 9) hi_X0_stepBounds_X0 rfl (by decide) (List.mem_of_getElem? (i := 1) rfl) rfl rfl rfl dX0_stepBounds_64 ?_
        refine j_iload_n C 68 rfl 1 dX0_stepBounds_67 rfl rfl ?_
        refine j_iconst C 69 rfl dX0_stepBounds_68 (v := (1 : Int32)) (by decide) ?_
        refine j_isub C 70 rfl dX0_stepBounds_69 ?_
        obtain ⟨k5, ek5, hk5, hw⟩ := hw
        refine j_iald C 71 rfl 1 k5 rfl ek5 hk5 (by decide) dX0_stepBounds_70 ?_
        refine j_iconst C 72 rfl dX0_stepBounds_71 (v := (1 : Int32)) (by decide) ?_
        refine j_iadd C 73 rfl dX0_stepBounds_72 ?_
        refine j_top (fun n6 en6 => ?_)
        have hw := hw n6 en6
        obtain ⟨k7, ek7, hk7, hw⟩ := hw
        refine j_iast C 74 rfl 1 k7 (ws' := [(a_this, .inr (0, [.int v_fair, .ref a_sums, .ref a_shares, .ref a_begins, .ref a_heirs, .ref a_foundBegins, .ref a_foundHeirs, .int v_n, .int v_leastShare])), (a_begins, gI g 4 (upd f_begins k7 n6))]) rfl ek7 hk7 (by decide) rfl dX0_stepBounds_73 ?_
        refine j_iinc C 77 rfl 1 [1, 0] (v' := (1 : Int32)) (lv' := fun z => [(0, .ref a_this), (3, .int z)]) dX0_stepBounds_74 rfl (by decide) (by decide) (fun _ => rfl) (fun n8 en8 => ?_)
        have hw := hw n8 en8
        refine j_goto C 50 dX0_stepBounds_77 rfl ?_
        exact hL50 _ _ hw
    · have hw := hw.2 c
      refine j_iconst C 35 rfl dX0_stepBounds_34 (v := (0 : Int32)) (by decide) ?_
      exact j_iret C R (f_begins) rfl dX0_stepBounds_35 rfl hw
  refine j_iload_n C 1 rfl 1 dX0_stepBounds_0 rfl rfl ?_
  refine j_istore_n C 2 rfl [1, 2, 0] (lv' := [(0, .ref a_this), (1, .int x1), (2, .int x1)]) dX0_stepBounds_1 rfl (by decide) rfl ?_
  refine j_lv [0, 2] (lv' := [(0, .ref a_this), (2, .int x1)]) rfl ?_
  refine lpW1_ind (G := fun x2 => J l g A x 4 0 0 2 [(0, .ref a_this), (2, .int x2)] [] [(a_this, .inr (0, [.int v_fair, .ref a_sums, .ref a_shares, .ref a_begins, .ref a_heirs, .ref a_foundBegins, .ref a_foundHeirs, .int v_n, .int v_leastShare])), (a_begins, gI g 4 f_begins)]) (fun L2 x2 hL2 hw => ?_) _ hw
  refine j_iload_n C 3 rfl 1 dX0_stepBounds_2 rfl rfl ?_
  refine j_if_lt C 6 rfl 30 dX0_stepBounds_3 rfl (fun c => ?_) (fun c => ?_)
  · have hw := hw.1 c
    exact hj30 _ _ hw
  · have hw := hw.2 c
    refine j_aload_n C 7 rfl 0 dX0_stepBounds_6 rfl rfl ?_
    refine j_get C 10 rfl 0 0 3 (T := TX0) (N := 9) hi_X0_stepBounds_X0 rfl (by decide) (List.mem_of_getElem? (i := 1) rfl) rfl rfl rfl dX0_stepBounds_7 ?_
    refine j_iload_n C 11 rfl 1 dX0_stepBounds_10 rfl rfl ?_
    obtain ⟨k9, ek9, hk9, hw⟩ := hw
    refine j_iald C 12 rfl 1 k9 rfl ek9 hk9 (by decide) dX0_stepBounds_11 ?_
    refine j_bipush C 14 rfl dX0_stepBounds_12 (v := (24 : Int32)) (by decide) ?_
    refine j_aload_n C 15 rfl 0 dX0_stepBounds_14 rfl rfl ?_
    refine j_get C 18 rfl 0 0 7 (T := TX0) (N := 9) hi_X0_stepBounds_X0 rfl (by decide) (List.mem_of_getElem? (i := 2) rfl) rfl rfl rfl dX0_stepBounds_15 ?_
    refine j_isub C 19 rfl dX0_stepBounds_18 ?_
    refine j_iload_n C 20 rfl 1 dX0_stepBounds_19 rfl rfl ?_
    refine j_iadd C 21 rfl dX0_stepBounds_20 ?_
    refine j_icmp_lt C 24 rfl 30 dX0_stepBounds_21 rfl (fun c => ?_) (fun c => ?_)
    · have hw := hw.1 c
      exact hj30 _ _ hw
    · have hw := hw.2 c
      refine j_iinc C 27 rfl 1 [1, 0] (v' := (-1 : Int32)) (lv' := fun z => [(0, .ref a_this), (2, .int z)]) dX0_stepBounds_24 rfl (by decide) (by decide) (fun _ => rfl) (fun n10 en10 => ?_)
      have hw := hw n10 en10
      refine j_goto C 2 dX0_stepBounds_27 rfl ?_
      exact hL2 _ hw
theorem hi_X0_sumUp_X0 : ∀ w ∈ wsX00, w ∈ wsX0_sumUp := fun _ h => List.mem_cons_of_mem _ (List.mem_append_left _ (List.mem_append_right _ h))
set_option maxRecDepth 20000 in
set_option maxHeartbeats 4000000 in
theorem c_X0_sumUp (l : Launch) (g : gE) (a_this a_sums a_shares a_begins a_heirs a_foundBegins a_foundHeirs a_p2 a_p2_sorts a_p2_owners a_p2_worths a_p2_gave : Nat) (v_fair : Int32) (v_n : Int32) (v_leastShare : Int32) (f_sums : (Nat → Int32)) (v_p2_generation : Int32) (v_p2_toll : Int32) (f_p2_sorts : (Nat → Int32)) (f_p2_worths : (Nat → Int32)) (x1 : Int32)  (K : (Nat → Int32) → Prop) (hw : wp_X0_sumUp f_sums f_p2_sorts f_p2_worths x1 K) : Cv l g yX0_sumUp wsX0_sumUp { frames := 2, cells := 0, slots := 0, locals := 46 } [.ref a_this, .int x1, .ref a_p2] [(a_this, .inr (0, [.int v_fair, .ref a_sums, .ref a_shares, .ref a_begins, .ref a_heirs, .ref a_foundBegins, .ref a_foundHeirs, .int v_n, .int v_leastShare])), (a_sums, gI g 192 f_sums), (a_p2, .inr (2, [.ref a_p2_sorts, .ref a_p2_owners, .ref a_p2_worths, .ref a_p2_gave, .int v_p2_generation, .int v_p2_toll])), (a_p2_sorts, gI g 120 f_p2_sorts), (a_p2_worths, gI g 30 f_p2_worths)] (fun (u : (Nat → Int32)) => K u) (fun (u : (Nat → Int32)) => [(a_this, .inr (0, [.int v_fair, .ref a_sums, .ref a_shares, .ref a_begins, .ref a_heirs, .ref a_foundBegins, .ref a_foundHeirs, .int v_n, .int v_leastShare])), (a_sums, gI g 192 u), (a_p2, .inr (2, [.ref a_p2_sorts, .ref a_p2_owners, .ref a_p2_worths, .ref a_p2_gave, .int v_p2_generation, .int v_p2_toll])), (a_p2_sorts, gI g 120 f_p2_sorts), (a_p2_worths, gI g 30 f_p2_worths)]) 0 0 := by
  refine Cv_of (cc := cX0_sumUp) (nL := 5) (ret := none) (own := RX0) (lv0 := [(0, .ref a_this), (1, .int x1), (2, .ref a_p2)]) (by decide +kernel) rfl rfl (Nat.le_of_ble_eq_true rfl) rfl (fun A x C R => ?_)
  refine j_iconst C 1 rfl dX0_sumUp_0 (v := (0 : Int32)) (by decide) ?_
  refine j_istore_n C 2 rfl [1, 2, 3, 0] (lv' := [(0, .ref a_this), (1, .int x1), (2, .ref a_p2), (3, .int (0 : Int32))]) dX0_sumUp_1 rfl (by decide) rfl ?_
  refine j_iconst C 3 rfl dX0_sumUp_2 (v := (0 : Int32)) (by decide) ?_
  refine j_istore C 5 rfl [1, 2, 3, 4, 0] (lv' := [(0, .ref a_this), (1, .int x1), (2, .ref a_p2), (3, .int (0 : Int32)), (4, .int (0 : Int32))]) dX0_sumUp_3 (by decide) rfl ?_
  refine lpW3_ind (G := fun x3 x4 f_sums => J l g A x 5 0 0 5 [(0, .ref a_this), (1, .int x1), (2, .ref a_p2), (3, .int x3), (4, .int x4)] [] [(a_this, .inr (0, [.int v_fair, .ref a_sums, .ref a_shares, .ref a_begins, .ref a_heirs, .ref a_foundBegins, .ref a_foundHeirs, .int v_n, .int v_leastShare])), (a_sums, gI g 192 f_sums), (a_p2, .inr (2, [.ref a_p2_sorts, .ref a_p2_owners, .ref a_p2_worths, .ref a_p2_gave, .int v_p2_generation, .int v_p2_toll])), (a_p2_sorts, gI g 120 f_p2_sorts), (a_p2_worths, gI g 30 f_p2_worths)]) (fun L5 x3 x4 f_sums hL5 hw => ?_) _ _ _ hw
  refine j_iload C 7 rfl 4 dX0_sumUp_5 rfl ?_
  refine j_bipush C 9 rfl dX0_sumUp_7 (v := (48 : Int32)) (by decide) ?_
  refine j_icmp_ge C 12 rfl 44 dX0_sumUp_9 rfl (fun c => ?_) (fun c => ?_)
  · have hw := hw.1 c
    exact j_vret C R (f_sums) dX0_sumUp_44 rfl hw
  · have hw := hw.2 c
    refine j_aload_n C 13 rfl 0 dX0_sumUp_12 rfl rfl ?_
    refine j_get C 16 rfl 0 0 1 (T := TX0) (N := 9) hi_X0_sumUp_X0 rfl (by decide) (List.mem_of_getElem? (i := 1) rfl) rfl rfl rfl dX0_sumUp_13 ?_
    refine j_iload_n C 17 rfl 1 dX0_sumUp_16 rfl rfl ?_
    refine j_bipush C 19 rfl dX0_sumUp_17 (v := (48 : Int32)) (by decide) ?_
    refine j_imul C 20 rfl dX0_sumUp_19 ?_
    refine j_iload C 22 rfl 4 dX0_sumUp_20 rfl ?_
    refine j_iadd C 23 rfl dX0_sumUp_22 ?_
    refine j_iload_n C 24 rfl 3 dX0_sumUp_23 rfl rfl ?_
    obtain ⟨k1, ek1, hk1, hw⟩ := hw
    refine j_iast C 25 rfl 1 k1 (ws' := [(a_this, .inr (0, [.int v_fair, .ref a_sums, .ref a_shares, .ref a_begins, .ref a_heirs, .ref a_foundBegins, .ref a_foundHeirs, .int v_n, .int v_leastShare])), (a_sums, gI g 192 (upd f_sums k1 x3)), (a_p2, .inr (2, [.ref a_p2_sorts, .ref a_p2_owners, .ref a_p2_worths, .ref a_p2_gave, .int v_p2_generation, .int v_p2_toll])), (a_p2_sorts, gI g 120 f_p2_sorts), (a_p2_worths, gI g 30 f_p2_worths)]) rfl ek1 hk1 (by decide) rfl dX0_sumUp_24 ?_
    refine j_iload_n C 26 rfl 3 dX0_sumUp_25 rfl rfl ?_
    refine j_aload_n C 27 rfl 2 dX0_sumUp_26 rfl rfl ?_
    refine j_iload_n C 28 rfl 1 dX0_sumUp_27 rfl rfl ?_
    refine j_iload C 30 rfl 4 dX0_sumUp_28 rfl ?_
    refine j_bipush C 32 rfl dX0_sumUp_30 (v := (24 : Int32)) (by decide) ?_
    refine j_irem C 33 rfl dX0_sumUp_32 (by decide) ?_
    refine j_top (fun n2 en2 => ?_)
    have hw := hw n2 en2
    refine j_ri C 36 rfl (jc_V C (c_X2_shareOfSector l g a_p2 a_p2_sorts a_p2_owners a_p2_worths a_p2_gave v_p2_generation v_p2_toll f_p2_sorts f_p2_worths x1 n2 _ hw) 2 gX0_sumUp_X2_shareOfSector rfl rfl rfl hd_X2_shareOfSector ⟨Nat.le_of_ble_eq_true rfl, Nat.le_of_ble_eq_true rfl⟩ (j_rec C 2 2 rfl rfl) [2, 3, 4] rfl rfl (rest := [.int x3]) rfl rfl (Nat.le_of_ble_eq_true rfl) dX0_sumUp_33 ⟨Nat.le_refl _, Nat.le_refl _⟩) [2, 3, 4] rfl (fun _ => rfl) (fun r3 _ hw => ?_)
    try dsimp only at hw
    refine j_iadd C 37 rfl dX0_sumUp_36 ?_
    refine j_top (fun n4 en4 => ?_)
    have hw := hw n4 en4
    refine j_istore_n C 38 rfl [1, 2, 3, 0, 4] (lv' := [(0, .ref a_this), (1, .int x1), (2, .ref a_p2), (3, .int n4), (4, .int x4)]) dX0_sumUp_37 rfl (by decide) rfl ?_
    refine j_iinc C 41 rfl 4 [1, 2, 3, 4, 0] (v' := (1 : Int32)) (lv' := fun z => [(0, .ref a_this), (1, .int x1), (2, .ref a_p2), (3, .int n4), (4, .int z)]) dX0_sumUp_38 rfl (by decide) (by decide) (fun _ => rfl) (fun n5 en5 => ?_)
    have hw := hw n5 en5
    refine j_goto C 5 dX0_sumUp_41 rfl ?_
    exact hL5 _ _ _ hw
theorem hi_X0_searchAmong_X0 : ∀ w ∈ wsX00, w ∈ wsX0_searchAmong := fun _ h => List.mem_cons_of_mem _ (List.mem_append_left _ (List.mem_append_right _ h))
set_option maxRecDepth 20000 in
set_option maxHeartbeats 4000000 in
theorem c_X0_searchAmong (l : Launch) (g : gE) (a_this a_sums a_shares a_begins a_heirs a_foundBegins a_foundHeirs a_p2 a_p2_sorts a_p2_owners a_p2_worths a_p2_gave : Nat) (v_fair : Int32) (v_n : Int32) (v_leastShare : Int32) (f_sums : (Nat → Int32)) (f_shares : (Nat → Int32)) (f_begins : (Nat → Int32)) (f_heirs : (Nat → Int32)) (f_foundBegins : (Nat → Int32)) (f_foundHeirs : (Nat → Int32)) (v_p2_generation : Int32) (v_p2_toll : Int32) (f_p2_sorts : (Nat → Int32)) (f_p2_worths : (Nat → Int32)) (x1 : Int32)  (K : Int32 → Int32 → (Nat → Int32) → (Nat → Int32) → (Nat → Int32) → (Nat → Int32) → (Nat → Int32) → (Nat → Int32) → Prop) (hw : wp_X0_searchAmong v_fair v_n v_leastShare f_sums f_shares f_begins f_heirs f_foundBegins f_foundHeirs f_p2_sorts f_p2_worths x1 K) : Cv l g yX0_searchAmong wsX0_searchAmong { frames := 13, cells := 0, slots := 0, locals := 627 } [.ref a_this, .int x1, .ref a_p2] [(a_this, .inr (0, [.int v_fair, .ref a_sums, .ref a_shares, .ref a_begins, .ref a_heirs, .ref a_foundBegins, .ref a_foundHeirs, .int v_n, .int v_leastShare])), (a_sums, gI g 192 f_sums), (a_shares, gI g 16 f_shares), (a_begins, gI g 4 f_begins), (a_heirs, gI g 4 f_heirs), (a_foundBegins, gI g 4 f_foundBegins), (a_foundHeirs, gI g 4 f_foundHeirs), (a_p2, .inr (2, [.ref a_p2_sorts, .ref a_p2_owners, .ref a_p2_worths, .ref a_p2_gave, .int v_p2_generation, .int v_p2_toll])), (a_p2_sorts, gI g 120 f_p2_sorts), (a_p2_worths, gI g 30 f_p2_worths)] (fun (u : Int32 × Int32 × (Nat → Int32) × (Nat → Int32) × (Nat → Int32) × (Nat → Int32) × (Nat → Int32) × (Nat → Int32)) => K u.1 u.2.1 u.2.2.1 u.2.2.2.1 u.2.2.2.2.1 u.2.2.2.2.2.1 u.2.2.2.2.2.2.1 u.2.2.2.2.2.2.2) (fun (u : Int32 × Int32 × (Nat → Int32) × (Nat → Int32) × (Nat → Int32) × (Nat → Int32) × (Nat → Int32) × (Nat → Int32)) => [(a_this, .inr (0, [.int v_fair, .ref a_sums, .ref a_shares, .ref a_begins, .ref a_heirs, .ref a_foundBegins, .ref a_foundHeirs, .int (u.1), .int (u.2.1)])), (a_sums, gI g 192 (u.2.2.1)), (a_shares, gI g 16 (u.2.2.2.1)), (a_begins, gI g 4 (u.2.2.2.2.1)), (a_heirs, gI g 4 (u.2.2.2.2.2.1)), (a_foundBegins, gI g 4 (u.2.2.2.2.2.2.1)), (a_foundHeirs, gI g 4 (u.2.2.2.2.2.2.2)), (a_p2, .inr (2, [.ref a_p2_sorts, .ref a_p2_owners, .ref a_p2_worths, .ref a_p2_gave, .int v_p2_generation, .int v_p2_toll])), (a_p2_sorts, gI g 120 f_p2_sorts), (a_p2_worths, gI g 30 f_p2_worths)]) 0 0 := by
  refine Cv_of (cc := cX0_searchAmong) (nL := 6) (ret := none) (own := RX0) (lv0 := [(0, .ref a_this), (1, .int x1), (2, .ref a_p2)]) (by decide +kernel) rfl rfl (Nat.le_of_ble_eq_true rfl) rfl (fun A x C R => ?_)
  refine j_aload_n C 1 rfl 0 dX0_searchAmong_0 rfl rfl ?_
  refine j_get C 4 rfl 0 0 7 (T := TX0) (N := 9) hi_X0_searchAmong_X0 rfl (by decide) (List.mem_of_getElem? (i := 1) rfl) rfl rfl rfl dX0_searchAmong_1 ?_
  refine j_iload_n C 5 rfl 1 dX0_searchAmong_4 rfl rfl ?_
  refine j_icmp_ne C 8 rfl 9 dX0_searchAmong_5 rfl (fun c => ?_) (fun c => ?_)
  · have hw := hw.1 c
    refine j_aload_n C 10 rfl 0 dX0_searchAmong_9 rfl rfl ?_
    refine j_iload_n C 11 rfl 1 dX0_searchAmong_10 rfl rfl ?_
    refine j_put C 14 rfl 0 0 7 (ws' := [(a_this, .inr (0, [.int v_fair, .ref a_sums, .ref a_shares, .ref a_begins, .ref a_heirs, .ref a_foundBegins, .ref a_foundHeirs, .int x1, .int v_leastShare])), (a_sums, gI g 192 f_sums), (a_shares, gI g 16 f_shares), (a_begins, gI g 4 f_begins), (a_heirs, gI g 4 f_heirs), (a_foundBegins, gI g 4 f_foundBegins), (a_foundHeirs, gI g 4 f_foundHeirs), (a_p2, .inr (2, [.ref a_p2_sorts, .ref a_p2_owners, .ref a_p2_worths, .ref a_p2_gave, .int v_p2_generation, .int v_p2_toll])), (a_p2_sorts, gI g 120 f_p2_sorts), (a_p2_worths, gI g 30 f_p2_worths)]) (T := TX0) (N := 9) (ty := .int) tyX0_ok nmX0 hi_X0_searchAmong_X0 rfl (by decide) (List.mem_of_getElem? (i := 1) rfl) rfl rfl rfl rfl rfl rfl (Nat.le_of_ble_eq_true rfl) rfl dX0_searchAmong_11 ?_
    refine j_aload_n C 15 rfl 0 dX0_searchAmong_14 rfl rfl ?_
    refine j_iconst C 16 rfl dX0_searchAmong_15 (v := (-1 : Int32)) (by decide) ?_
    refine j_put C 19 rfl 0 0 8 (ws' := [(a_this, .inr (0, [.int v_fair, .ref a_sums, .ref a_shares, .ref a_begins, .ref a_heirs, .ref a_foundBegins, .ref a_foundHeirs, .int x1, .int (-1 : Int32)])), (a_sums, gI g 192 f_sums), (a_shares, gI g 16 f_shares), (a_begins, gI g 4 f_begins), (a_heirs, gI g 4 f_heirs), (a_foundBegins, gI g 4 f_foundBegins), (a_foundHeirs, gI g 4 f_foundHeirs), (a_p2, .inr (2, [.ref a_p2_sorts, .ref a_p2_owners, .ref a_p2_worths, .ref a_p2_gave, .int v_p2_generation, .int v_p2_toll])), (a_p2_sorts, gI g 120 f_p2_sorts), (a_p2_worths, gI g 30 f_p2_worths)]) (T := TX0) (N := 9) (ty := .int) tyX0_ok nmX0 hi_X0_searchAmong_X0 rfl (by decide) (List.mem_of_getElem? (i := 2) rfl) rfl rfl rfl rfl rfl rfl (Nat.le_of_ble_eq_true rfl) rfl dX0_searchAmong_16 ?_
    refine j_iconst C 20 rfl dX0_searchAmong_19 (v := (0 : Int32)) (by decide) ?_
    refine j_istore_n C 21 rfl [1, 2, 3, 0] (lv' := [(0, .ref a_this), (1, .int x1), (2, .ref a_p2), (3, .int (0 : Int32))]) dX0_searchAmong_20 rfl (by decide) rfl ?_
    refine j_lv [0, 2, 3] (lv' := [(0, .ref a_this), (2, .ref a_p2), (3, .int (0 : Int32))]) rfl ?_
    refine lpW3_ind (G := fun x3 f_sums f_begins => J l g A x 6 0 0 21 [(0, .ref a_this), (2, .ref a_p2), (3, .int x3)] [] [(a_this, .inr (0, [.int v_fair, .ref a_sums, .ref a_shares, .ref a_begins, .ref a_heirs, .ref a_foundBegins, .ref a_foundHeirs, .int x1, .int (-1 : Int32)])), (a_sums, gI g 192 f_sums), (a_shares, gI g 16 f_shares), (a_begins, gI g 4 f_begins), (a_heirs, gI g 4 f_heirs), (a_foundBegins, gI g 4 f_foundBegins), (a_foundHeirs, gI g 4 f_foundHeirs), (a_p2, .inr (2, [.ref a_p2_sorts, .ref a_p2_owners, .ref a_p2_worths, .ref a_p2_gave, .int v_p2_generation, .int v_p2_toll])), (a_p2_sorts, gI g 120 f_p2_sorts), (a_p2_worths, gI g 30 f_p2_worths)]) (fun L21 x3 f_sums f_begins hL21 hw => ?_) _ _ _ hw
    refine j_iload_n C 22 rfl 2 dX0_searchAmong_21 rfl rfl ?_
    refine j_aload_n C 23 rfl 0 dX0_searchAmong_22 rfl rfl ?_
    refine j_get C 26 rfl 0 0 7 (T := TX0) (N := 9) hi_X0_searchAmong_X0 rfl (by decide) (List.mem_of_getElem? (i := 1) rfl) rfl rfl rfl dX0_searchAmong_23 ?_
    refine j_icmp_ge C 29 rfl 48 dX0_searchAmong_26 rfl (fun c => ?_) (fun c => ?_)
    · have hw := hw.1 c
      refine j_iconst C 49 rfl dX0_searchAmong_48 (v := (1 : Int32)) (by decide) ?_
      refine j_istore_n C 50 rfl [1, 2, 0] (lv' := [(0, .ref a_this), (2, .ref a_p2), (3, .int (1 : Int32))]) dX0_searchAmong_49 rfl (by decide) rfl ?_
      refine j_iconst C 51 rfl dX0_searchAmong_50 (v := (0 : Int32)) (by decide) ?_
      refine j_istore C 53 rfl [1, 2, 3, 0] (lv' := [(0, .ref a_this), (2, .ref a_p2), (3, .int (1 : Int32)), (4, .int (0 : Int32))]) dX0_searchAmong_51 (by decide) rfl ?_
      refine j_lv [0, 2, 3] (lv' := [(0, .ref a_this), (3, .int (1 : Int32)), (4, .int (0 : Int32))]) rfl ?_
      refine lpW8_ind (G := fun x3 x4 v_leastShare f_shares f_begins f_heirs f_foundBegins f_foundHeirs => J l g A x 6 0 0 53 [(0, .ref a_this), (3, .int x3), (4, .int x4)] [] [(a_this, .inr (0, [.int v_fair, .ref a_sums, .ref a_shares, .ref a_begins, .ref a_heirs, .ref a_foundBegins, .ref a_foundHeirs, .int x1, .int v_leastShare])), (a_sums, gI g 192 f_sums), (a_shares, gI g 16 f_shares), (a_begins, gI g 4 f_begins), (a_heirs, gI g 4 f_heirs), (a_foundBegins, gI g 4 f_foundBegins), (a_foundHeirs, gI g 4 f_foundHeirs), (a_p2, .inr (2, [.ref a_p2_sorts, .ref a_p2_owners, .ref a_p2_worths, .ref a_p2_gave, .int v_p2_generation, .int v_p2_toll])), (a_p2_sorts, gI g 120 f_p2_sorts), (a_p2_worths, gI g 30 f_p2_worths)]) (fun L53 x3 x4 v_leastShare f_shares f_begins f_heirs f_foundBegins f_foundHeirs hL53 hw => ?_) _ _ _ _ _ _ _ _ hw
      have hj95 : ∀ (x4 : Int32) (x5 : Int32) (v_leastShare : Int32) (f_shares : (Nat → Int32)) (f_begins : (Nat → Int32)) (f_heirs : (Nat → Int32)) (f_foundBegins : (Nat → Int32)) (f_foundHeirs : (Nat → Int32)), wj_X0_searchAmong_95 x1 v_leastShare f_shares f_begins f_heirs f_foundBegins f_foundHeirs x4 x5 L53 → J l g A x 6 0 0 95 [(0, .ref a_this), (4, .int x4), (5, .int x5)] [] [(a_this, .inr (0, [.int v_fair, .ref a_sums, .ref a_shares, .ref a_begins, .ref a_heirs, .ref a_foundBegins, .ref a_foundHeirs, .int x1, .int v_leastShare])), (a_sums, gI g 192 f_sums), (a_shares, gI g 16 f_shares), (a_begins, gI g 4 f_begins), (a_heirs, gI g 4 f_heirs), (a_foundBegins, gI g 4 f_foundBegins), (a_foundHeirs, gI g 4 f_foundHeirs), (a_p2, .inr (2, [.ref a_p2_sorts, .ref a_p2_owners, .ref a_p2_worths, .ref a_p2_gave, .int v_p2_generation, .int v_p2_toll])), (a_p2_sorts, gI g 120 f_p2_sorts), (a_p2_worths, gI g 30 f_p2_worths)] := by
        intro x4 x5 v_leastShare f_shares f_begins f_heirs f_foundBegins f_foundHeirs hw
        refine j_aload_n C 96 rfl 0 dX0_searchAmong_95 rfl rfl ?_
        refine j_iload C 98 rfl 2 dX0_searchAmong_96 rfl ?_
        refine j_iconst C 99 rfl dX0_searchAmong_98 (v := (1 : Int32)) (by decide) ?_
        refine j_iadd C 100 rfl dX0_searchAmong_99 ?_
        refine j_aload_n C 101 rfl 0 dX0_searchAmong_100 rfl rfl ?_
        refine j_get C 104 rfl 0 0 7 (T := TX0) (N := 9) hi_X0_searchAmong_X0 rfl (by decide) (List.mem_of_getElem? (i := 1) rfl) rfl rfl rfl dX0_searchAmong_101 ?_
        refine j_iconst C 105 rfl dX0_searchAmong_104 (v := (1 : Int32)) (by decide) ?_
        refine j_isub C 106 rfl dX0_searchAmong_105 ?_
        refine j_min C 109 rfl (List.mem_of_getElem? (i := 5) rfl) (List.mem_of_getElem? (i := 6) rfl) (List.mem_of_getElem? (i := 7) rfl) (List.mem_of_getElem? (i := 8) rfl) (by decide) (Nat.le_of_ble_eq_true rfl) (by decide) (by decide) dX0_searchAmong_106 ?_
        refine j_top (fun n1 en1 => ?_)
        have hw := hw n1 en1
        refine j_rwi C 112 rfl (jc_V C (c_X0_stepBounds l g a_this a_sums a_shares a_begins a_heirs a_foundBegins a_foundHeirs v_fair x1 v_leastShare f_begins n1 _ hw) 1 gX0_searchAmong_X0_stepBounds rfl rfl rfl hd_X0_stepBounds ⟨Nat.le_of_ble_eq_true rfl, Nat.le_of_ble_eq_true rfl⟩ (j_rec C 0 0 rfl rfl) [0, 3] rfl rfl (rest := []) rfl rfl (Nat.le_of_ble_eq_true rfl) dX0_searchAmong_109 ⟨Nat.le_refl _, Nat.le_refl _⟩) [0, 3] [1, 2, 4, 5, 6, 7, 8, 9] [8, 0, 1, 9, 2, 3, 4, 5, 6, 7] (wr := [(a_sums, gI g 192 f_sums), (a_shares, gI g 16 f_shares), (a_heirs, gI g 4 f_heirs), (a_foundBegins, gI g 4 f_foundBegins), (a_foundHeirs, gI g 4 f_foundHeirs), (a_p2, .inr (2, [.ref a_p2_sorts, .ref a_p2_owners, .ref a_p2_worths, .ref a_p2_gave, .int v_p2_generation, .int v_p2_toll])), (a_p2_sorts, gI g 120 f_p2_sorts), (a_p2_worths, gI g 30 f_p2_worths)]) (ws' := fun u => [(a_this, .inr (0, [.int v_fair, .ref a_sums, .ref a_shares, .ref a_begins, .ref a_heirs, .ref a_foundBegins, .ref a_foundHeirs, .int x1, .int v_leastShare])), (a_sums, gI g 192 f_sums), (a_shares, gI g 16 f_shares), (a_begins, gI g 4 u), (a_heirs, gI g 4 f_heirs), (a_foundBegins, gI g 4 f_foundBegins), (a_foundHeirs, gI g 4 f_foundHeirs), (a_p2, .inr (2, [.ref a_p2_sorts, .ref a_p2_owners, .ref a_p2_worths, .ref a_p2_gave, .int v_p2_generation, .int v_p2_toll])), (a_p2_sorts, gI g 120 f_p2_sorts), (a_p2_worths, gI g 30 f_p2_worths)]) rfl rfl rfl (by decide) rfl (fun _ => rfl) (fun r2 u hw => ?_)
        obtain ⟨u3, eu3⟩ : ∃ z, z = u := ⟨_, rfl⟩
        subst eu3
        try dsimp only at hw
        show J l g A x 6 0 0 112 [(0, .ref a_this), (4, .int x4), (5, .int x5)] [.int r2] [(a_this, .inr (0, [.int v_fair, .ref a_sums, .ref a_shares, .ref a_begins, .ref a_heirs, .ref a_foundBegins, .ref a_foundHeirs, .int x1, .int v_leastShare])), (a_sums, gI g 192 f_sums), (a_shares, gI g 16 f_shares), (a_begins, gI g 4 u3), (a_heirs, gI g 4 f_heirs), (a_foundBegins, gI g 4 f_foundBegins), (a_foundHeirs, gI g 4 f_foundHeirs), (a_p2, .inr (2, [.ref a_p2_sorts, .ref a_p2_owners, .ref a_p2_worths, .ref a_p2_gave, .int v_p2_generation, .int v_p2_toll])), (a_p2_sorts, gI g 120 f_p2_sorts), (a_p2_worths, gI g 30 f_p2_worths)]
        refine j_istore_n C 113 rfl [1, 0, 2, 3] (lv' := [(0, .ref a_this), (3, .int r2), (4, .int x4), (5, .int x5)]) dX0_searchAmong_112 rfl (by decide) rfl ?_
        refine j_iinc C 116 rfl 2 [1, 2, 0, 3] (v' := (1 : Int32)) (lv' := fun z => [(0, .ref a_this), (3, .int r2), (4, .int z), (5, .int x5)]) dX0_searchAmong_113 rfl (by decide) (by decide) (fun _ => rfl) (fun n4 en4 => ?_)
        have hw := hw n4 en4
        refine j_goto C 53 dX0_searchAmong_116 rfl ?_
        refine j_lv [0, 1, 2] (lv' := [(0, .ref a_this), (3, .int r2), (4, .int n4)]) rfl ?_
        exact hL53 _ _ _ _ _ _ _ _ hw
      refine j_iload C 55 rfl 2 dX0_searchAmong_53 rfl ?_
      refine j_sipush C 58 rfl dX0_searchAmong_55 (v := (10626 : Int32)) (by decide) ?_
      refine j_icmp_ge C 61 rfl 119 dX0_searchAmong_58 rfl (fun c => ?_) (fun c => ?_)
      · have hw := hw.1 c
        exact j_vret C R (x1, v_leastShare, f_sums, f_shares, f_begins, f_heirs, f_foundBegins, f_foundHeirs) dX0_searchAmong_119 rfl hw
      · have hw := hw.2 c
        refine j_iload_n C 62 rfl 1 dX0_searchAmong_61 rfl rfl ?_
        refine j_if_eq C 65 rfl 119 dX0_searchAmong_62 rfl (fun c => ?_) (fun c => ?_)
        · have hw := hw.1 c
          exact j_vret C R (x1, v_leastShare, f_sums, f_shares, f_begins, f_heirs, f_foundBegins, f_foundHeirs) dX0_searchAmong_119 rfl hw
        · have hw := hw.2 c
          refine j_aload_n C 66 rfl 0 dX0_searchAmong_65 rfl rfl ?_
          refine j_ri C 69 rfl (jc_V C (c_X0_isSettled l g a_this a_sums a_shares a_begins a_heirs a_foundBegins a_foundHeirs v_fair x1 v_leastShare _ hw) 0 gX0_searchAmong_X0_isSettled rfl rfl rfl hd_X0_isSettled ⟨Nat.le_of_ble_eq_true rfl, Nat.le_of_ble_eq_true rfl⟩ (j_rec C 0 0 rfl rfl) [0] rfl rfl (rest := []) rfl rfl (Nat.le_of_ble_eq_true rfl) dX0_searchAmong_66 ⟨Nat.le_refl _, Nat.le_refl _⟩) [0] rfl (fun _ => rfl) (fun r5 _ hw => ?_)
          try dsimp only at hw
          refine j_if_ne C 72 rfl 119 dX0_searchAmong_69 rfl (fun c => ?_) (fun c => ?_)
          · have hw := hw.1 c
            exact j_vret C R (x1, v_leastShare, f_sums, f_shares, f_begins, f_heirs, f_foundBegins, f_foundHeirs) dX0_searchAmong_119 rfl hw
          · have hw := hw.2 c
            refine j_aload_n C 73 rfl 0 dX0_searchAmong_72 rfl rfl ?_
            refine j_rwi C 76 rfl (jc_V C (c_X0_firstArcOfNoUse l g a_this a_sums a_shares a_begins a_heirs a_foundBegins a_foundHeirs v_fair x1 v_leastShare f_sums f_shares f_begins _ hw) 0 gX0_searchAmong_X0_firstArcOfNoUse rfl rfl rfl hd_X0_firstArcOfNoUse ⟨Nat.le_of_ble_eq_true rfl, Nat.le_of_ble_eq_true rfl⟩ (j_rec C 0 0 rfl rfl) [0, 1, 2, 3] rfl rfl (rest := []) rfl rfl (Nat.le_of_ble_eq_true rfl) dX0_searchAmong_73 ⟨Nat.le_refl _, Nat.le_refl _⟩) [0, 1, 2, 3] [4, 5, 6, 7, 8, 9] [6, 7, 8, 9, 0, 1, 2, 3, 4, 5] (wr := [(a_heirs, gI g 4 f_heirs), (a_foundBegins, gI g 4 f_foundBegins), (a_foundHeirs, gI g 4 f_foundHeirs), (a_p2, .inr (2, [.ref a_p2_sorts, .ref a_p2_owners, .ref a_p2_worths, .ref a_p2_gave, .int v_p2_generation, .int v_p2_toll])), (a_p2_sorts, gI g 120 f_p2_sorts), (a_p2_worths, gI g 30 f_p2_worths)]) (ws' := fun u => [(a_this, .inr (0, [.int v_fair, .ref a_sums, .ref a_shares, .ref a_begins, .ref a_heirs, .ref a_foundBegins, .ref a_foundHeirs, .int x1, .int v_leastShare])), (a_sums, gI g 192 f_sums), (a_shares, gI g 16 u), (a_begins, gI g 4 f_begins), (a_heirs, gI g 4 f_heirs), (a_foundBegins, gI g 4 f_foundBegins), (a_foundHeirs, gI g 4 f_foundHeirs), (a_p2, .inr (2, [.ref a_p2_sorts, .ref a_p2_owners, .ref a_p2_worths, .ref a_p2_gave, .int v_p2_generation, .int v_p2_toll])), (a_p2_sorts, gI g 120 f_p2_sorts), (a_p2_worths, gI g 30 f_p2_worths)]) rfl rfl rfl (by decide) rfl (fun _ => rfl) (fun r6 u hw => ?_)
            obtain ⟨u7, eu7⟩ : ∃ z, z = u := ⟨_, rfl⟩
            subst eu7
            try dsimp only at hw
            show J l g A x 6 0 0 76 [(0, .ref a_this), (3, .int x3), (4, .int x4)] [.int r6] [(a_this, .inr (0, [.int v_fair, .ref a_sums, .ref a_shares, .ref a_begins, .ref a_heirs, .ref a_foundBegins, .ref a_foundHeirs, .int x1, .int v_leastShare])), (a_sums, gI g 192 f_sums), (a_shares, gI g 16 u7), (a_begins, gI g 4 f_begins), (a_heirs, gI g 4 f_heirs), (a_foundBegins, gI g 4 f_foundBegins), (a_foundHeirs, gI g 4 f_foundHeirs), (a_p2, .inr (2, [.ref a_p2_sorts, .ref a_p2_owners, .ref a_p2_worths, .ref a_p2_gave, .int v_p2_generation, .int v_p2_toll])), (a_p2_sorts, gI g 120 f_p2_sorts), (a_p2_worths, gI g 30 f_p2_worths)]
            refine j_istore C 78 rfl [1, 2, 3, 0] (lv' := [(0, .ref a_this), (3, .int x3), (4, .int x4), (5, .int r6)]) dX0_searchAmong_76 (by decide) rfl ?_
            refine j_iload C 80 rfl 3 dX0_searchAmong_78 rfl ?_
            refine j_aload_n C 81 rfl 0 dX0_searchAmong_80 rfl rfl ?_
            refine j_get C 84 rfl 0 0 7 (T := TX0) (N := 9) hi_X0_searchAmong_X0 rfl (by decide) (List.mem_of_getElem? (i := 1) rfl) rfl rfl rfl dX0_searchAmong_81 ?_
            refine j_icmp_ne C 87 rfl 95 dX0_searchAmong_84 rfl (fun c => ?_) (fun c => ?_)
            · have hw := hw.1 c
              refine j_lv [0, 2, 3] (lv' := [(0, .ref a_this), (4, .int x4), (5, .int r6)]) rfl ?_
              exact hj95 _ _ _ _ _ _ _ _ hw
            · have hw := hw.2 c
              refine j_aload_n C 88 rfl 0 dX0_searchAmong_87 rfl rfl ?_
              refine j_iconst C 89 rfl dX0_searchAmong_88 (v := (0 : Int32)) (by decide) ?_
              refine j_iconst C 90 rfl dX0_searchAmong_89 (v := (0 : Int32)) (by decide) ?_
              refine j_ldc C 92 rfl (v := (1073741824 : Int32)) (List.mem_of_getElem? (i := 4) rfl) dX0_searchAmong_90 ?_
              refine j_rwv C 95 rfl (jc_V C (c_X0_chooseHeirs l g 4 a_this a_sums a_shares a_begins a_heirs a_foundBegins a_foundHeirs v_fair x1 v_leastShare u7 f_begins f_heirs f_foundBegins f_foundHeirs (0 : Int32) (0 : Int32) (1073741824 : Int32) _ hw) 3 gX0_searchAmong_X0_chooseHeirs rfl rfl rfl hd_X0_chooseHeirs ⟨Nat.le_of_ble_eq_true rfl, Nat.le_of_ble_eq_true rfl⟩ (j_rec C 0 0 rfl rfl) [0, 2, 3, 4, 5, 6] rfl rfl (rest := []) rfl rfl (Nat.le_of_ble_eq_true rfl) dX0_searchAmong_92 ⟨Nat.le_refl _, Nat.le_refl _⟩) [0, 2, 3, 4, 5, 6] [1, 7, 8, 9] [4, 0, 5, 6, 7, 8, 9, 1, 2, 3] (wr := [(a_sums, gI g 192 f_sums), (a_p2, .inr (2, [.ref a_p2_sorts, .ref a_p2_owners, .ref a_p2_worths, .ref a_p2_gave, .int v_p2_generation, .int v_p2_toll])), (a_p2_sorts, gI g 120 f_p2_sorts), (a_p2_worths, gI g 30 f_p2_worths)]) (ws' := fun u => [(a_this, .inr (0, [.int v_fair, .ref a_sums, .ref a_shares, .ref a_begins, .ref a_heirs, .ref a_foundBegins, .ref a_foundHeirs, .int x1, .int (u.1)])), (a_sums, gI g 192 f_sums), (a_shares, gI g 16 u7), (a_begins, gI g 4 f_begins), (a_heirs, gI g 4 (u.2.1)), (a_foundBegins, gI g 4 (u.2.2.1)), (a_foundHeirs, gI g 4 (u.2.2.2)), (a_p2, .inr (2, [.ref a_p2_sorts, .ref a_p2_owners, .ref a_p2_worths, .ref a_p2_gave, .int v_p2_generation, .int v_p2_toll])), (a_p2_sorts, gI g 120 f_p2_sorts), (a_p2_worths, gI g 30 f_p2_worths)]) rfl rfl rfl (by decide) rfl (fun _ => rfl) (fun u hw => ?_)
              obtain ⟨u8, u9, u10, u11⟩ := u
              try dsimp only at hw
              show J l g A x 6 0 0 95 [(0, .ref a_this), (3, .int x3), (4, .int x4), (5, .int r6)] [] [(a_this, .inr (0, [.int v_fair, .ref a_sums, .ref a_shares, .ref a_begins, .ref a_heirs, .ref a_foundBegins, .ref a_foundHeirs, .int x1, .int u8])), (a_sums, gI g 192 f_sums), (a_shares, gI g 16 u7), (a_begins, gI g 4 f_begins), (a_heirs, gI g 4 u9), (a_foundBegins, gI g 4 u10), (a_foundHeirs, gI g 4 u11), (a_p2, .inr (2, [.ref a_p2_sorts, .ref a_p2_owners, .ref a_p2_worths, .ref a_p2_gave, .int v_p2_generation, .int v_p2_toll])), (a_p2_sorts, gI g 120 f_p2_sorts), (a_p2_worths, gI g 30 f_p2_worths)]
              refine j_lv [0, 2, 3] (lv' := [(0, .ref a_this), (4, .int x4), (5, .int r6)]) rfl ?_
              exact hj95 _ _ _ _ _ _ _ _ hw
    · have hw := hw.2 c
      refine j_aload_n C 30 rfl 0 dX0_searchAmong_29 rfl rfl ?_
      refine j_get C 33 rfl 0 0 3 (T := TX0) (N := 9) hi_X0_searchAmong_X0 rfl (by decide) (List.mem_of_getElem? (i := 3) rfl) rfl rfl rfl dX0_searchAmong_30 ?_
      refine j_iload_n C 34 rfl 2 dX0_searchAmong_33 rfl rfl ?_
      refine j_iload_n C 35 rfl 2 dX0_searchAmong_34 rfl rfl ?_
      obtain ⟨k12, ek12, hk12, hw⟩ := hw
      refine j_iast C 36 rfl 3 k12 (ws' := [(a_this, .inr (0, [.int v_fair, .ref a_sums, .ref a_shares, .ref a_begins, .ref a_heirs, .ref a_foundBegins, .ref a_foundHeirs, .int x1, .int (-1 : Int32)])), (a_sums, gI g 192 f_sums), (a_shares, gI g 16 f_shares), (a_begins, gI g 4 (upd f_begins k12 x3)), (a_heirs, gI g 4 f_heirs), (a_foundBegins, gI g 4 f_foundBegins), (a_foundHeirs, gI g 4 f_foundHeirs), (a_p2, .inr (2, [.ref a_p2_sorts, .ref a_p2_owners, .ref a_p2_worths, .ref a_p2_gave, .int v_p2_generation, .int v_p2_toll])), (a_p2_sorts, gI g 120 f_p2_sorts), (a_p2_worths, gI g 30 f_p2_worths)]) rfl ek12 hk12 (by decide) rfl dX0_searchAmong_35 ?_
      refine j_aload_n C 37 rfl 0 dX0_searchAmong_36 rfl rfl ?_
      refine j_iload_n C 38 rfl 2 dX0_searchAmong_37 rfl rfl ?_
      refine j_aload_n C 39 rfl 1 dX0_searchAmong_38 rfl rfl ?_
      refine j_rwv C 42 rfl (jc_V C (c_X0_sumUp l g a_this a_sums a_shares a_begins a_heirs a_foundBegins a_foundHeirs a_p2 a_p2_sorts a_p2_owners a_p2_worths a_p2_gave v_fair x1 (-1 : Int32) f_sums v_p2_generation v_p2_toll f_p2_sorts f_p2_worths x3 _ hw) 2 gX0_searchAmong_X0_sumUp rfl rfl rfl hd_X0_sumUp ⟨Nat.le_of_ble_eq_true rfl, Nat.le_of_ble_eq_true rfl⟩ (j_rec C 0 0 rfl rfl) [0, 1, 7, 8, 9] rfl rfl (rest := []) rfl rfl (Nat.le_of_ble_eq_true rfl) dX0_searchAmong_39 ⟨Nat.le_refl _, Nat.le_refl _⟩) [0, 1, 7, 8, 9] [2, 3, 4, 5, 6] [5, 6, 0, 1, 2, 3, 4, 7, 8, 9] (wr := [(a_shares, gI g 16 f_shares), (a_begins, gI g 4 (upd f_begins k12 x3)), (a_heirs, gI g 4 f_heirs), (a_foundBegins, gI g 4 f_foundBegins), (a_foundHeirs, gI g 4 f_foundHeirs)]) (ws' := fun u => [(a_this, .inr (0, [.int v_fair, .ref a_sums, .ref a_shares, .ref a_begins, .ref a_heirs, .ref a_foundBegins, .ref a_foundHeirs, .int x1, .int (-1 : Int32)])), (a_sums, gI g 192 u), (a_shares, gI g 16 f_shares), (a_begins, gI g 4 (upd f_begins k12 x3)), (a_heirs, gI g 4 f_heirs), (a_foundBegins, gI g 4 f_foundBegins), (a_foundHeirs, gI g 4 f_foundHeirs), (a_p2, .inr (2, [.ref a_p2_sorts, .ref a_p2_owners, .ref a_p2_worths, .ref a_p2_gave, .int v_p2_generation, .int v_p2_toll])), (a_p2_sorts, gI g 120 f_p2_sorts), (a_p2_worths, gI g 30 f_p2_worths)]) rfl rfl rfl (by decide) rfl (fun _ => rfl) (fun u hw => ?_)
      obtain ⟨u13, eu13⟩ : ∃ z, z = u := ⟨_, rfl⟩
      subst eu13
      try dsimp only at hw
      show J l g A x 6 0 0 42 [(0, .ref a_this), (2, .ref a_p2), (3, .int x3)] [] [(a_this, .inr (0, [.int v_fair, .ref a_sums, .ref a_shares, .ref a_begins, .ref a_heirs, .ref a_foundBegins, .ref a_foundHeirs, .int x1, .int (-1 : Int32)])), (a_sums, gI g 192 u13), (a_shares, gI g 16 f_shares), (a_begins, gI g 4 (upd f_begins k12 x3)), (a_heirs, gI g 4 f_heirs), (a_foundBegins, gI g 4 f_foundBegins), (a_foundHeirs, gI g 4 f_foundHeirs), (a_p2, .inr (2, [.ref a_p2_sorts, .ref a_p2_owners, .ref a_p2_worths, .ref a_p2_gave, .int v_p2_generation, .int v_p2_toll])), (a_p2_sorts, gI g 120 f_p2_sorts), (a_p2_worths, gI g 30 f_p2_worths)]
      refine j_iinc C 45 rfl 2 [1, 2, 0] (v' := (1 : Int32)) (lv' := fun z => [(0, .ref a_this), (2, .ref a_p2), (3, .int z)]) dX0_searchAmong_42 rfl (by decide) (by decide) (fun _ => rfl) (fun n14 en14 => ?_)
      have hw := hw n14 en14
      refine j_goto C 21 dX0_searchAmong_45 rfl ?_
      exact hL21 _ _ _ hw
  · have hw := hw.2 c
    exact j_vret C R (v_n, v_leastShare, f_sums, f_shares, f_begins, f_heirs, f_foundBegins, f_foundHeirs) dX0_searchAmong_8 rfl hw
theorem hi_X1_openSides_X1 : ∀ w ∈ wsX10, w ∈ wsX1_openSides := fun _ h => List.mem_cons_of_mem _ (List.mem_append_right _ h)
set_option maxRecDepth 20000 in
set_option maxHeartbeats 4000000 in
theorem c_X1_openSides (l : Launch) (g : gE) (a_this a_room a_came a_queue a_goals : Nat) (v_queued : Int32) (f_room : (Nat → Int32)) (x1 : Int32) (x2 : Int32)  (K : (Nat → Int32) → Prop) (hw : wp_X1_openSides f_room x1 x2 K) : Cv l g yX1_openSides wsX1_openSides { frames := 0, cells := 0, slots := 0, locals := 0 } [.ref a_this, .int x1, .int x2] [(a_this, .inr (1, [.ref a_room, .ref a_came, .ref a_queue, .ref a_goals, .int v_queued])), (a_room, gI g 480 f_room)] (fun (u : (Nat → Int32)) => K u) (fun (u : (Nat → Int32)) => [(a_this, .inr (1, [.ref a_room, .ref a_came, .ref a_queue, .ref a_goals, .int v_queued])), (a_room, gI g 480 u)]) 0 0 := by
  refine Cv_of (cc := cX1_openSides) (nL := 3) (ret := none) (own := RX1) (lv0 := [(0, .ref a_this), (1, .int x1), (2, .int x2)]) (by decide +kernel) rfl rfl (Nat.le_of_ble_eq_true rfl) rfl (fun A x C R => ?_)
  have hj45 : ∀ (s1 : Int32) (s2 : Int32) (f_room : (Nat → Int32)), wj_X1_openSides_45 f_room x1 x2 s1 s2 K → J l g A x 3 0 0 45 [(0, .ref a_this), (1, .int x1), (2, .int x2)] [.int s2, .int s1, .ref a_room] [(a_this, .inr (1, [.ref a_room, .ref a_came, .ref a_queue, .ref a_goals, .int v_queued])), (a_room, gI g 480 f_room)] := by
    intro s1 s2 f_room hw
    obtain ⟨k1, ek1, hk1, hw⟩ := hw
    refine j_iast C 46 rfl 1 k1 (ws' := [(a_this, .inr (1, [.ref a_room, .ref a_came, .ref a_queue, .ref a_goals, .int v_queued])), (a_room, gI g 480 (upd f_room k1 s2))]) rfl ek1 hk1 (by decide) rfl dX1_openSides_45 ?_
    refine j_aload_n C 47 rfl 0 dX1_openSides_46 rfl rfl ?_
    refine j_get C 50 rfl 0 1 0 (T := TX1) (N := 5) hi_X1_openSides_X1 rfl (by decide) (List.mem_of_getElem? (i := 1) rfl) rfl rfl rfl dX1_openSides_47 ?_
    refine j_iload_n C 51 rfl 1 dX1_openSides_50 rfl rfl ?_
    refine j_iconst C 52 rfl dX1_openSides_51 (v := (4 : Int32)) (by decide) ?_
    refine j_imul C 53 rfl dX1_openSides_52 ?_
    refine j_iconst C 54 rfl dX1_openSides_53 (v := (3 : Int32)) (by decide) ?_
    refine j_iadd C 55 rfl dX1_openSides_54 ?_
    refine j_iload_n C 56 rfl 2 dX1_openSides_55 rfl rfl ?_
    refine j_if_le C 59 rfl 67 dX1_openSides_56 rfl (fun c => ?_) (fun c => ?_)
    · have hw := hw.1 c
      refine j_iconst C 68 rfl dX1_openSides_67 (v := (0 : Int32)) (by decide) ?_
      obtain ⟨k2, ek2, hk2, hw⟩ := hw
      refine j_iast C 69 rfl 1 k2 (ws' := [(a_this, .inr (1, [.ref a_room, .ref a_came, .ref a_queue, .ref a_goals, .int v_queued])), (a_room, gI g 480 (upd (upd f_room k1 s2) k2 (0 : Int32)))]) rfl ek2 hk2 (by decide) rfl dX1_openSides_68 ?_
      exact j_vret C R (upd (upd f_room k1 s2) k2 (0 : Int32)) dX1_openSides_69 rfl hw
    · have hw := hw.2 c
      refine j_iconst C 60 rfl dX1_openSides_59 (v := (5 : Int32)) (by decide) ?_
      refine j_iload_n C 61 rfl 2 dX1_openSides_60 rfl rfl ?_
      refine j_iconst C 62 rfl dX1_openSides_61 (v := (1 : Int32)) (by decide) ?_
      refine j_isub C 63 rfl dX1_openSides_62 ?_
      refine j_isub C 64 rfl dX1_openSides_63 ?_
      refine j_goto C 68 dX1_openSides_64 rfl ?_
      refine j_top (fun n3 en3 => ?_)
      have hw := hw n3 en3
      obtain ⟨k4, ek4, hk4, hw⟩ := hw
      refine j_iast C 69 rfl 1 k4 (ws' := [(a_this, .inr (1, [.ref a_room, .ref a_came, .ref a_queue, .ref a_goals, .int v_queued])), (a_room, gI g 480 (upd (upd f_room k1 s2) k4 n3))]) rfl ek4 hk4 (by decide) rfl dX1_openSides_68 ?_
      exact j_vret C R (upd (upd f_room k1 s2) k4 n3) dX1_openSides_69 rfl hw
  refine j_aload_n C 1 rfl 0 dX1_openSides_0 rfl rfl ?_
  refine j_get C 4 rfl 0 1 0 (T := TX1) (N := 5) hi_X1_openSides_X1 rfl (by decide) (List.mem_of_getElem? (i := 1) rfl) rfl rfl rfl dX1_openSides_1 ?_
  refine j_iload_n C 5 rfl 1 dX1_openSides_4 rfl rfl ?_
  refine j_iconst C 6 rfl dX1_openSides_5 (v := (4 : Int32)) (by decide) ?_
  refine j_imul C 7 rfl dX1_openSides_6 ?_
  refine j_iconst C 8 rfl dX1_openSides_7 (v := (0 : Int32)) (by decide) ?_
  refine j_iadd C 9 rfl dX1_openSides_8 ?_
  refine j_iconst C 10 rfl dX1_openSides_9 (v := (2 : Int32)) (by decide) ?_
  obtain ⟨k5, ek5, hk5, hw⟩ := hw
  refine j_iast C 11 rfl 1 k5 (ws' := [(a_this, .inr (1, [.ref a_room, .ref a_came, .ref a_queue, .ref a_goals, .int v_queued])), (a_room, gI g 480 (upd f_room k5 (2 : Int32)))]) rfl ek5 hk5 (by decide) rfl dX1_openSides_10 ?_
  refine j_aload_n C 12 rfl 0 dX1_openSides_11 rfl rfl ?_
  refine j_get C 15 rfl 0 1 0 (T := TX1) (N := 5) hi_X1_openSides_X1 rfl (by decide) (List.mem_of_getElem? (i := 1) rfl) rfl rfl rfl dX1_openSides_12 ?_
  refine j_iload_n C 16 rfl 1 dX1_openSides_15 rfl rfl ?_
  refine j_iconst C 17 rfl dX1_openSides_16 (v := (4 : Int32)) (by decide) ?_
  refine j_imul C 18 rfl dX1_openSides_17 ?_
  refine j_iconst C 19 rfl dX1_openSides_18 (v := (1 : Int32)) (by decide) ?_
  refine j_iadd C 20 rfl dX1_openSides_19 ?_
  refine j_iconst C 21 rfl dX1_openSides_20 (v := (2 : Int32)) (by decide) ?_
  obtain ⟨k6, ek6, hk6, hw⟩ := hw
  refine j_iast C 22 rfl 1 k6 (ws' := [(a_this, .inr (1, [.ref a_room, .ref a_came, .ref a_queue, .ref a_goals, .int v_queued])), (a_room, gI g 480 (upd (upd f_room k5 (2 : Int32)) k6 (2 : Int32)))]) rfl ek6 hk6 (by decide) rfl dX1_openSides_21 ?_
  refine j_aload_n C 23 rfl 0 dX1_openSides_22 rfl rfl ?_
  refine j_get C 26 rfl 0 1 0 (T := TX1) (N := 5) hi_X1_openSides_X1 rfl (by decide) (List.mem_of_getElem? (i := 1) rfl) rfl rfl rfl dX1_openSides_23 ?_
  refine j_iload_n C 27 rfl 1 dX1_openSides_26 rfl rfl ?_
  refine j_iconst C 28 rfl dX1_openSides_27 (v := (4 : Int32)) (by decide) ?_
  refine j_imul C 29 rfl dX1_openSides_28 ?_
  refine j_iconst C 30 rfl dX1_openSides_29 (v := (2 : Int32)) (by decide) ?_
  refine j_iadd C 31 rfl dX1_openSides_30 ?_
  refine j_iload_n C 32 rfl 2 dX1_openSides_31 rfl rfl ?_
  refine j_iconst C 33 rfl dX1_openSides_32 (v := (1 : Int32)) (by decide) ?_
  refine j_iadd C 34 rfl dX1_openSides_33 ?_
  refine j_iconst C 35 rfl dX1_openSides_34 (v := (5 : Int32)) (by decide) ?_
  refine j_icmp_ge C 38 rfl 44 dX1_openSides_35 rfl (fun c => ?_) (fun c => ?_)
  · have hw := hw.1 c
    refine j_iconst C 45 rfl dX1_openSides_44 (v := (0 : Int32)) (by decide) ?_
    exact hj45 _ _ _ hw
  · have hw := hw.2 c
    refine j_iconst C 39 rfl dX1_openSides_38 (v := (5 : Int32)) (by decide) ?_
    refine j_iload_n C 40 rfl 2 dX1_openSides_39 rfl rfl ?_
    refine j_isub C 41 rfl dX1_openSides_40 ?_
    refine j_goto C 45 dX1_openSides_41 rfl ?_
    exact hj45 _ _ _ hw
set_option maxRecDepth 20000 in
set_option maxHeartbeats 4000000 in
theorem c_X1_beside (l : Launch) (g : gE)  (x0 : Int32) (x1 : Int32)  (K : Int32 → Prop) (hw : wp_X1_beside x0 x1 K) : Ci l g yX1_beside wsX1_beside { frames := 0, cells := 0, slots := 0, locals := 0 } [.int x0, .int x1] [] (fun (r : Int32) (_ : Unit) => K r) (fun (_ : Unit) => []) 0 0 := by
  refine Ci_of (cc := cX1_beside) (nL := 4) (ret := (some .int)) (own := RX1) (lv0 := [(0, .int x0), (1, .int x1)]) (by decide +kernel) rfl rfl (Nat.le_of_ble_eq_true rfl) rfl (fun A x C R => ?_)
  refine j_iload_n C 1 rfl 0 dX1_beside_0 rfl rfl ?_
  refine j_bipush C 3 rfl dX1_beside_1 (v := (24 : Int32)) (by decide) ?_
  refine j_idiv C 4 rfl dX1_beside_3 (by decide) ?_
  refine j_top (fun n1 en1 => ?_)
  have hw := hw n1 en1
  refine j_istore_n C 5 rfl [1, 2, 0] (lv' := [(0, .int x0), (1, .int x1), (2, .int n1)]) dX1_beside_4 rfl (by decide) rfl ?_
  refine j_iload_n C 6 rfl 0 dX1_beside_5 rfl rfl ?_
  refine j_bipush C 8 rfl dX1_beside_6 (v := (24 : Int32)) (by decide) ?_
  refine j_irem C 9 rfl dX1_beside_8 (by decide) ?_
  refine j_top (fun n2 en2 => ?_)
  have hw := hw n2 en2
  refine j_istore_n C 10 rfl [1, 2, 3, 0] (lv' := [(0, .int x0), (1, .int x1), (2, .int n1), (3, .int n2)]) dX1_beside_9 rfl (by decide) rfl ?_
  refine j_iload_n C 11 rfl 1 dX1_beside_10 rfl rfl ?_
  by_cases hsw : x1.toInt < 0 ∨ 2 < x1.toInt
  · have hw := hw.1 hsw
    refine j_tout C 68 dX1_beside_11 hsw rfl ?_
    refine j_iload_n C 69 rfl 0 dX1_beside_68 rfl rfl ?_
    refine j_bipush C 71 rfl dX1_beside_69 (v := (24 : Int32)) (by decide) ?_
    refine j_isub C 72 rfl dX1_beside_71 ?_
    exact j_iret C R () rfl dX1_beside_72 rfl hw
  have hcs : x1.toInt = 0 ∨ x1.toInt = 1 ∨ x1.toInt = 2 := by omega
  rcases hcs with hcs | hcs | hcs
  · have hcs := tc_eq (0 : Int32) hcs (by decide)
    have hw := hw.2.1 hcs
    refine j_tin C (off := 25) 36 (0 : Int32) hcs dX1_beside_11 (by decide) (by decide) (by decide) rfl ?_
    refine j_iload_n C 37 rfl 2 dX1_beside_36 rfl rfl ?_
    refine j_bipush C 39 rfl dX1_beside_37 (v := (24 : Int32)) (by decide) ?_
    refine j_imul C 40 rfl dX1_beside_39 ?_
    refine j_iload_n C 41 rfl 3 dX1_beside_40 rfl rfl ?_
    refine j_iconst C 42 rfl dX1_beside_41 (v := (1 : Int32)) (by decide) ?_
    refine j_iadd C 43 rfl dX1_beside_42 ?_
    refine j_bipush C 45 rfl dX1_beside_43 (v := (24 : Int32)) (by decide) ?_
    refine j_irem C 46 rfl dX1_beside_45 (by decide) ?_
    refine j_iadd C 47 rfl dX1_beside_46 ?_
    exact j_iret C R () rfl dX1_beside_47 rfl hw
  · have hcs := tc_eq (1 : Int32) hcs (by decide)
    have hw := hw.2.2.1 hcs
    refine j_tin C (off := 37) 48 (1 : Int32) hcs dX1_beside_11 (by decide) (by decide) (by decide) rfl ?_
    refine j_iload_n C 49 rfl 2 dX1_beside_48 rfl rfl ?_
    refine j_bipush C 51 rfl dX1_beside_49 (v := (24 : Int32)) (by decide) ?_
    refine j_imul C 52 rfl dX1_beside_51 ?_
    refine j_iload_n C 53 rfl 3 dX1_beside_52 rfl rfl ?_
    refine j_bipush C 55 rfl dX1_beside_53 (v := (24 : Int32)) (by decide) ?_
    refine j_iadd C 56 rfl dX1_beside_55 ?_
    refine j_iconst C 57 rfl dX1_beside_56 (v := (1 : Int32)) (by decide) ?_
    refine j_isub C 58 rfl dX1_beside_57 ?_
    refine j_bipush C 60 rfl dX1_beside_58 (v := (24 : Int32)) (by decide) ?_
    refine j_irem C 61 rfl dX1_beside_60 (by decide) ?_
    refine j_iadd C 62 rfl dX1_beside_61 ?_
    exact j_iret C R () rfl dX1_beside_62 rfl hw
  · have hcs := tc_eq (2 : Int32) hcs (by decide)
    have hw := hw.2.2.2 hcs
    refine j_tin C (off := 52) 63 (2 : Int32) hcs dX1_beside_11 (by decide) (by decide) (by decide) rfl ?_
    refine j_iload_n C 64 rfl 0 dX1_beside_63 rfl rfl ?_
    refine j_bipush C 66 rfl dX1_beside_64 (v := (24 : Int32)) (by decide) ?_
    refine j_iadd C 67 rfl dX1_beside_66 ?_
    exact j_iret C R () rfl dX1_beside_67 rfl hw
theorem hi_X1_reach_X1 : ∀ w ∈ wsX10, w ∈ wsX1_reach := fun _ h => List.mem_cons_of_mem _ (List.mem_append_right _ h)
set_option maxRecDepth 20000 in
set_option maxHeartbeats 4000000 in
theorem c_X1_reach (l : Launch) (g : gE) (a_this a_room a_came a_queue a_goals : Nat) (v_queued : Int32) (f_came : (Nat → Int32)) (f_queue : (Nat → Int32)) (x1 : Int32) (x2 : Int32)  (K : Int32 → (Nat → Int32) → (Nat → Int32) → Prop) (hw : wp_X1_reach v_queued f_came f_queue x1 x2 K) : Cv l g yX1_reach wsX1_reach { frames := 0, cells := 0, slots := 0, locals := 0 } [.ref a_this, .int x1, .int x2] [(a_this, .inr (1, [.ref a_room, .ref a_came, .ref a_queue, .ref a_goals, .int v_queued])), (a_came, gI g 120 f_came), (a_queue, gI g 120 f_queue)] (fun (u : Int32 × (Nat → Int32) × (Nat → Int32)) => K u.1 u.2.1 u.2.2) (fun (u : Int32 × (Nat → Int32) × (Nat → Int32)) => [(a_this, .inr (1, [.ref a_room, .ref a_came, .ref a_queue, .ref a_goals, .int (u.1)])), (a_came, gI g 120 (u.2.1)), (a_queue, gI g 120 (u.2.2))]) 0 0 := by
  refine Cv_of (cc := cX1_reach) (nL := 3) (ret := none) (own := RX1) (lv0 := [(0, .ref a_this), (1, .int x1), (2, .int x2)]) (by decide +kernel) rfl rfl (Nat.le_of_ble_eq_true rfl) rfl (fun A x C R => ?_)
  refine j_aload_n C 1 rfl 0 dX1_reach_0 rfl rfl ?_
  refine j_get C 4 rfl 0 1 1 (T := TX1) (N := 5) hi_X1_reach_X1 rfl (by decide) (List.mem_of_getElem? (i := 1) rfl) rfl rfl rfl dX1_reach_1 ?_
  refine j_iload_n C 5 rfl 1 dX1_reach_4 rfl rfl ?_
  obtain ⟨k1, ek1, hk1, hw⟩ := hw
  refine j_iald C 6 rfl 1 k1 rfl ek1 hk1 (by decide) dX1_reach_5 ?_
  refine j_iconst C 7 rfl dX1_reach_6 (v := (-1 : Int32)) (by decide) ?_
  refine j_icmp_ne C 10 rfl 46 dX1_reach_7 rfl (fun c => ?_) (fun c => ?_)
  · have hw := hw.1 c
    exact j_vret C R (v_queued, f_came, f_queue) dX1_reach_46 rfl hw
  · have hw := hw.2 c
    refine j_aload_n C 11 rfl 0 dX1_reach_10 rfl rfl ?_
    refine j_get C 14 rfl 0 1 4 (T := TX1) (N := 5) hi_X1_reach_X1 rfl (by decide) (List.mem_of_getElem? (i := 2) rfl) rfl rfl rfl dX1_reach_11 ?_
    refine j_bipush C 16 rfl dX1_reach_14 (v := (120 : Int32)) (by decide) ?_
    refine j_icmp_ge C 19 rfl 46 dX1_reach_16 rfl (fun c => ?_) (fun c => ?_)
    · have hw := hw.1 c
      exact j_vret C R (v_queued, f_came, f_queue) dX1_reach_46 rfl hw
    · have hw := hw.2 c
      refine j_aload_n C 20 rfl 0 dX1_reach_19 rfl rfl ?_
      refine j_get C 23 rfl 0 1 1 (T := TX1) (N := 5) hi_X1_reach_X1 rfl (by decide) (List.mem_of_getElem? (i := 1) rfl) rfl rfl rfl dX1_reach_20 ?_
      refine j_iload_n C 24 rfl 1 dX1_reach_23 rfl rfl ?_
      refine j_iload_n C 25 rfl 2 dX1_reach_24 rfl rfl ?_
      obtain ⟨k2, ek2, hk2, hw⟩ := hw
      refine j_iast C 26 rfl 1 k2 (ws' := [(a_this, .inr (1, [.ref a_room, .ref a_came, .ref a_queue, .ref a_goals, .int v_queued])), (a_came, gI g 120 (upd f_came k2 x2)), (a_queue, gI g 120 f_queue)]) rfl ek2 hk2 (by decide) rfl dX1_reach_25 ?_
      refine j_aload_n C 27 rfl 0 dX1_reach_26 rfl rfl ?_
      refine j_get C 30 rfl 0 1 2 (T := TX1) (N := 5) hi_X1_reach_X1 rfl (by decide) (List.mem_of_getElem? (i := 3) rfl) rfl rfl rfl dX1_reach_27 ?_
      refine j_aload_n C 31 rfl 0 dX1_reach_30 rfl rfl ?_
      refine j_get C 34 rfl 0 1 4 (T := TX1) (N := 5) hi_X1_reach_X1 rfl (by decide) (List.mem_of_getElem? (i := 2) rfl) rfl rfl rfl dX1_reach_31 ?_
      refine j_iload_n C 35 rfl 1 dX1_reach_34 rfl rfl ?_
      obtain ⟨k3, ek3, hk3, hw⟩ := hw
      refine j_iast C 36 rfl 2 k3 (ws' := [(a_this, .inr (1, [.ref a_room, .ref a_came, .ref a_queue, .ref a_goals, .int v_queued])), (a_came, gI g 120 (upd f_came k2 x2)), (a_queue, gI g 120 (upd f_queue k3 x1))]) rfl ek3 hk3 (by decide) rfl dX1_reach_35 ?_
      refine j_aload_n C 37 rfl 0 dX1_reach_36 rfl rfl ?_
      refine j_dup C 38 rfl dX1_reach_37 rfl ?_
      refine j_get C 41 rfl 0 1 4 (T := TX1) (N := 5) hi_X1_reach_X1 rfl (by decide) (List.mem_of_getElem? (i := 2) rfl) rfl rfl rfl dX1_reach_38 ?_
      refine j_iconst C 42 rfl dX1_reach_41 (v := (1 : Int32)) (by decide) ?_
      refine j_iadd C 43 rfl dX1_reach_42 ?_
      refine j_top (fun n4 en4 => ?_)
      have hw := hw n4 en4
      refine j_put C 46 rfl 0 1 4 (ws' := [(a_this, .inr (1, [.ref a_room, .ref a_came, .ref a_queue, .ref a_goals, .int n4])), (a_came, gI g 120 (upd f_came k2 x2)), (a_queue, gI g 120 (upd f_queue k3 x1))]) (T := TX1) (N := 5) (ty := .int) tyX1_ok nmX1 hi_X1_reach_X1 rfl (by decide) (List.mem_of_getElem? (i := 2) rfl) rfl rfl rfl rfl rfl rfl (Nat.le_of_ble_eq_true rfl) rfl dX1_reach_43 ?_
      exact j_vret C R (n4, upd f_came k2 x2, upd f_queue k3 x1) dX1_reach_46 rfl hw
theorem hi_X1_seekGoal_X1 : ∀ w ∈ wsX10, w ∈ wsX1_seekGoal := fun _ h => List.mem_cons_of_mem _ (List.mem_append_left _ (List.mem_append_right _ h))
set_option maxRecDepth 20000 in
set_option maxHeartbeats 4000000 in
theorem c_X1_seekGoal (l : Launch) (g : gE) (a_this a_room a_came a_queue a_goals a_p2 a_p2_sorts a_p2_owners a_p2_worths a_p2_gave : Nat) (v_queued : Int32) (f_room : (Nat → Int32)) (f_came : (Nat → Int32)) (f_queue : (Nat → Int32)) (f_goals : (Nat → Int32)) (v_p2_generation : Int32) (v_p2_toll : Int32) (f_p2_sorts : (Nat → Int32)) (f_p2_owners : (Nat → Int32)) (x1 : Int32)  (K : Int32 → Int32 → (Nat → Int32) → (Nat → Int32) → Prop) (hw : wp_X1_seekGoal v_queued f_room f_came f_queue f_goals v_p2_generation f_p2_sorts f_p2_owners x1 K) : Ci l g yX1_seekGoal wsX1_seekGoal { frames := 2, cells := 0, slots := 0, locals := 43 } [.ref a_this, .int x1, .ref a_p2] [(a_this, .inr (1, [.ref a_room, .ref a_came, .ref a_queue, .ref a_goals, .int v_queued])), (a_room, gI g 480 f_room), (a_came, gI g 120 f_came), (a_queue, gI g 120 f_queue), (a_goals, gZ g 120 f_goals), (a_p2, .inr (2, [.ref a_p2_sorts, .ref a_p2_owners, .ref a_p2_worths, .ref a_p2_gave, .int v_p2_generation, .int v_p2_toll])), (a_p2_sorts, gI g 120 f_p2_sorts), (a_p2_owners, gI g 504 f_p2_owners)] (fun (r : Int32) (u : Int32 × (Nat → Int32) × (Nat → Int32)) => K r u.1 u.2.1 u.2.2) (fun (u : Int32 × (Nat → Int32) × (Nat → Int32)) => [(a_this, .inr (1, [.ref a_room, .ref a_came, .ref a_queue, .ref a_goals, .int (u.1)])), (a_room, gI g 480 f_room), (a_came, gI g 120 (u.2.1)), (a_queue, gI g 120 (u.2.2)), (a_goals, gZ g 120 f_goals), (a_p2, .inr (2, [.ref a_p2_sorts, .ref a_p2_owners, .ref a_p2_worths, .ref a_p2_gave, .int v_p2_generation, .int v_p2_toll])), (a_p2_sorts, gI g 120 f_p2_sorts), (a_p2_owners, gI g 504 f_p2_owners)]) 0 0 := by
  refine Ci_of (cc := cX1_seekGoal) (nL := 6) (ret := (some .int)) (own := RX1) (lv0 := [(0, .ref a_this), (1, .int x1), (2, .ref a_p2)]) (by decide +kernel) rfl rfl (Nat.le_of_ble_eq_true rfl) rfl (fun A x C R => ?_)
  refine j_aload_n C 1 rfl 0 dX1_seekGoal_0 rfl rfl ?_
  refine j_iconst C 2 rfl dX1_seekGoal_1 (v := (0 : Int32)) (by decide) ?_
  refine j_put C 5 rfl 0 1 4 (ws' := [(a_this, .inr (1, [.ref a_room, .ref a_came, .ref a_queue, .ref a_goals, .int (0 : Int32)])), (a_room, gI g 480 f_room), (a_came, gI g 120 f_came), (a_queue, gI g 120 f_queue), (a_goals, gZ g 120 f_goals), (a_p2, .inr (2, [.ref a_p2_sorts, .ref a_p2_owners, .ref a_p2_worths, .ref a_p2_gave, .int v_p2_generation, .int v_p2_toll])), (a_p2_sorts, gI g 120 f_p2_sorts), (a_p2_owners, gI g 504 f_p2_owners)]) (T := TX1) (N := 5) (ty := .int) tyX1_ok nmX1 hi_X1_seekGoal_X1 rfl (by decide) (List.mem_of_getElem? (i := 1) rfl) rfl rfl rfl rfl rfl rfl (Nat.le_of_ble_eq_true rfl) rfl dX1_seekGoal_2 ?_
  refine j_iconst C 6 rfl dX1_seekGoal_5 (v := (0 : Int32)) (by decide) ?_
  refine j_istore_n C 7 rfl [1, 2, 3, 0] (lv' := [(0, .ref a_this), (1, .int x1), (2, .ref a_p2), (3, .int (0 : Int32))]) dX1_seekGoal_6 rfl (by decide) rfl ?_
  refine lpW4_ind (G := fun x3 v_queued f_came f_queue => J l g A x 6 0 0 7 [(0, .ref a_this), (1, .int x1), (2, .ref a_p2), (3, .int x3)] [] [(a_this, .inr (1, [.ref a_room, .ref a_came, .ref a_queue, .ref a_goals, .int v_queued])), (a_room, gI g 480 f_room), (a_came, gI g 120 f_came), (a_queue, gI g 120 f_queue), (a_goals, gZ g 120 f_goals), (a_p2, .inr (2, [.ref a_p2_sorts, .ref a_p2_owners, .ref a_p2_worths, .ref a_p2_gave, .int v_p2_generation, .int v_p2_toll])), (a_p2_sorts, gI g 120 f_p2_sorts), (a_p2_owners, gI g 504 f_p2_owners)]) (fun L7 x3 v_queued f_came f_queue hL7 hw => ?_) _ _ _ _ hw
  refine j_iload_n C 8 rfl 3 dX1_seekGoal_7 rfl rfl ?_
  refine j_bipush C 10 rfl dX1_seekGoal_8 (v := (120 : Int32)) (by decide) ?_
  refine j_icmp_ge C 13 rfl 62 dX1_seekGoal_10 rfl (fun c => ?_) (fun c => ?_)
  · have hw := hw.1 c
    refine j_iconst C 63 rfl dX1_seekGoal_62 (v := (0 : Int32)) (by decide) ?_
    refine j_istore_n C 64 rfl [1, 2, 3, 0] (lv' := [(0, .ref a_this), (1, .int x1), (2, .ref a_p2), (3, .int (0 : Int32))]) dX1_seekGoal_63 rfl (by decide) rfl ?_
    refine j_lv [0, 3] (lv' := [(0, .ref a_this), (3, .int (0 : Int32))]) rfl ?_
    refine lpW4_ind (G := fun x3 v_queued f_came f_queue => J l g A x 6 0 0 64 [(0, .ref a_this), (3, .int x3)] [] [(a_this, .inr (1, [.ref a_room, .ref a_came, .ref a_queue, .ref a_goals, .int v_queued])), (a_room, gI g 480 f_room), (a_came, gI g 120 f_came), (a_queue, gI g 120 f_queue), (a_goals, gZ g 120 f_goals), (a_p2, .inr (2, [.ref a_p2_sorts, .ref a_p2_owners, .ref a_p2_worths, .ref a_p2_gave, .int v_p2_generation, .int v_p2_toll])), (a_p2_sorts, gI g 120 f_p2_sorts), (a_p2_owners, gI g 504 f_p2_owners)]) (fun L64 x3 v_queued f_came f_queue hL64 hw => ?_) _ _ _ _ hw
    refine j_iload_n C 65 rfl 1 dX1_seekGoal_64 rfl rfl ?_
    refine j_aload_n C 66 rfl 0 dX1_seekGoal_65 rfl rfl ?_
    refine j_get C 69 rfl 0 1 4 (T := TX1) (N := 5) hi_X1_seekGoal_X1 rfl (by decide) (List.mem_of_getElem? (i := 1) rfl) rfl rfl rfl dX1_seekGoal_66 ?_
    refine j_icmp_ge C 72 rfl 148 dX1_seekGoal_69 rfl (fun c => ?_) (fun c => ?_)
    · have hw := hw.1 c
      refine j_bipush C 150 rfl dX1_seekGoal_148 (v := (-6 : Int32)) (by decide) ?_
      exact j_iret C R (v_queued, f_came, f_queue) rfl dX1_seekGoal_150 rfl hw
    · have hw := hw.2 c
      refine j_iload_n C 73 rfl 1 dX1_seekGoal_72 rfl rfl ?_
      refine j_bipush C 75 rfl dX1_seekGoal_73 (v := (120 : Int32)) (by decide) ?_
      refine j_icmp_ge C 78 rfl 148 dX1_seekGoal_75 rfl (fun c => ?_) (fun c => ?_)
      · have hw := hw.1 c
        refine j_bipush C 150 rfl dX1_seekGoal_148 (v := (-6 : Int32)) (by decide) ?_
        exact j_iret C R (v_queued, f_came, f_queue) rfl dX1_seekGoal_150 rfl hw
      · have hw := hw.2 c
        refine j_aload_n C 79 rfl 0 dX1_seekGoal_78 rfl rfl ?_
        refine j_get C 82 rfl 0 1 2 (T := TX1) (N := 5) hi_X1_seekGoal_X1 rfl (by decide) (List.mem_of_getElem? (i := 3) rfl) rfl rfl rfl dX1_seekGoal_79 ?_
        refine j_iload_n C 83 rfl 1 dX1_seekGoal_82 rfl rfl ?_
        obtain ⟨k1, ek1, hk1, hw⟩ := hw
        refine j_iald C 84 rfl 3 k1 rfl ek1 hk1 (by decide) dX1_seekGoal_83 ?_
        refine j_top (fun n2 en2 => ?_)
        have hw := hw n2 en2
        refine j_istore C 86 rfl [1, 2, 0] (lv' := [(0, .ref a_this), (3, .int x3), (4, .int n2)]) dX1_seekGoal_84 (by decide) rfl ?_
        refine j_aload_n C 87 rfl 0 dX1_seekGoal_86 rfl rfl ?_
        refine j_get C 90 rfl 0 1 3 (T := TX1) (N := 5) hi_X1_seekGoal_X1 rfl (by decide) (List.mem_of_getElem? (i := 4) rfl) rfl rfl rfl dX1_seekGoal_87 ?_
        refine j_iload C 92 rfl 2 dX1_seekGoal_90 rfl ?_
        obtain ⟨k3, ek3, hk3, hw⟩ := hw
        refine j_zald C 93 rfl 4 k3 rfl ek3 hk3 (by decide) dX1_seekGoal_92 ?_
        refine j_if_eq C 96 rfl 99 dX1_seekGoal_93 rfl (fun c => ?_) (fun c => ?_)
        · have hw := hw.1 c
          refine j_iconst C 100 rfl dX1_seekGoal_99 (v := (0 : Int32)) (by decide) ?_
          refine j_istore C 102 rfl [1, 2, 3, 0] (lv' := [(0, .ref a_this), (3, .int x3), (4, .int n2), (5, .int (0 : Int32))]) dX1_seekGoal_100 (by decide) rfl ?_
          refine lpW4_ind (G := fun x5 v_queued f_came f_queue => J l g A x 6 0 0 102 [(0, .ref a_this), (3, .int x3), (4, .int n2), (5, .int x5)] [] [(a_this, .inr (1, [.ref a_room, .ref a_came, .ref a_queue, .ref a_goals, .int v_queued])), (a_room, gI g 480 f_room), (a_came, gI g 120 f_came), (a_queue, gI g 120 f_queue), (a_goals, gZ g 120 f_goals), (a_p2, .inr (2, [.ref a_p2_sorts, .ref a_p2_owners, .ref a_p2_worths, .ref a_p2_gave, .int v_p2_generation, .int v_p2_toll])), (a_p2_sorts, gI g 120 f_p2_sorts), (a_p2_owners, gI g 504 f_p2_owners)]) (fun L102 x5 v_queued f_came f_queue hL102 hw => ?_) _ _ _ _ hw
          refine j_iload C 104 rfl 3 dX1_seekGoal_102 rfl ?_
          refine j_iconst C 105 rfl dX1_seekGoal_104 (v := (4 : Int32)) (by decide) ?_
          refine j_icmp_ge C 108 rfl 142 dX1_seekGoal_105 rfl (fun c => ?_) (fun c => ?_)
          · have hw := hw.1 c
            refine j_iinc C 145 rfl 1 [1, 0, 2, 3] (v' := (1 : Int32)) (lv' := fun z => [(0, .ref a_this), (3, .int z), (4, .int n2), (5, .int x5)]) dX1_seekGoal_142 rfl (by decide) (by decide) (fun _ => rfl) (fun n4 en4 => ?_)
            have hw := hw n4 en4
            refine j_goto C 64 dX1_seekGoal_145 rfl ?_
            refine j_lv [0, 1] (lv' := [(0, .ref a_this), (3, .int n4)]) rfl ?_
            exact hL64 _ _ _ _ hw
          · have hw := hw.2 c
            refine j_aload_n C 109 rfl 0 dX1_seekGoal_108 rfl rfl ?_
            refine j_get C 112 rfl 0 1 0 (T := TX1) (N := 5) hi_X1_seekGoal_X1 rfl (by decide) (List.mem_of_getElem? (i := 5) rfl) rfl rfl rfl dX1_seekGoal_109 ?_
            refine j_iload C 114 rfl 2 dX1_seekGoal_112 rfl ?_
            refine j_iconst C 115 rfl dX1_seekGoal_114 (v := (4 : Int32)) (by decide) ?_
            refine j_imul C 116 rfl dX1_seekGoal_115 ?_
            refine j_iload C 118 rfl 3 dX1_seekGoal_116 rfl ?_
            refine j_iadd C 119 rfl dX1_seekGoal_118 ?_
            obtain ⟨k5, ek5, hk5, hw⟩ := hw
            refine j_iald C 120 rfl 1 k5 rfl ek5 hk5 (by decide) dX1_seekGoal_119 ?_
            refine j_if_le C 123 rfl 136 dX1_seekGoal_120 rfl (fun c => ?_) (fun c => ?_)
            · have hw := hw.1 c
              refine j_iinc C 139 rfl 3 [1, 2, 3, 0] (v' := (1 : Int32)) (lv' := fun z => [(0, .ref a_this), (3, .int x3), (4, .int n2), (5, .int z)]) dX1_seekGoal_136 rfl (by decide) (by decide) (fun _ => rfl) (fun n6 en6 => ?_)
              have hw := hw n6 en6
              refine j_goto C 102 dX1_seekGoal_139 rfl ?_
              exact hL102 _ _ _ _ hw
            · have hw := hw.2 c
              refine j_aload_n C 124 rfl 0 dX1_seekGoal_123 rfl rfl ?_
              refine j_iload C 126 rfl 2 dX1_seekGoal_124 rfl ?_
              refine j_iload C 128 rfl 3 dX1_seekGoal_126 rfl ?_
              refine j_ri C 131 rfl (jc_S C (c_X1_beside l g n2 x5 _ hw) 2 gX1_seekGoal_X1_beside rfl rfl rfl hd_X1_beside ⟨Nat.le_of_ble_eq_true rfl, Nat.le_of_ble_eq_true rfl⟩ [] rfl rfl (rest := [.ref a_this]) rfl rfl (Nat.le_of_ble_eq_true rfl) dX1_seekGoal_128 ⟨Nat.le_refl _, Nat.le_refl _⟩) [] rfl (fun _ => rfl) (fun r7 _ hw => ?_)
              try dsimp only at hw
              refine j_iload C 133 rfl 3 dX1_seekGoal_131 rfl ?_
              refine j_rwv C 136 rfl (jc_V C (c_X1_reach l g a_this a_room a_came a_queue a_goals v_queued f_came f_queue r7 x5 _ hw) 2 gX1_seekGoal_X1_reach rfl rfl rfl hd_X1_reach ⟨Nat.le_of_ble_eq_true rfl, Nat.le_of_ble_eq_true rfl⟩ (j_rec C 0 1 rfl rfl) [0, 2, 3] rfl rfl (rest := []) rfl rfl (Nat.le_of_ble_eq_true rfl) dX1_seekGoal_133 ⟨Nat.le_refl _, Nat.le_refl _⟩) [0, 2, 3] [1, 4, 5, 6, 7] [5, 0, 6, 7, 1, 2, 3, 4] (wr := [(a_room, gI g 480 f_room), (a_goals, gZ g 120 f_goals), (a_p2, .inr (2, [.ref a_p2_sorts, .ref a_p2_owners, .ref a_p2_worths, .ref a_p2_gave, .int v_p2_generation, .int v_p2_toll])), (a_p2_sorts, gI g 120 f_p2_sorts), (a_p2_owners, gI g 504 f_p2_owners)]) (ws' := fun u => [(a_this, .inr (1, [.ref a_room, .ref a_came, .ref a_queue, .ref a_goals, .int (u.1)])), (a_room, gI g 480 f_room), (a_came, gI g 120 (u.2.1)), (a_queue, gI g 120 (u.2.2)), (a_goals, gZ g 120 f_goals), (a_p2, .inr (2, [.ref a_p2_sorts, .ref a_p2_owners, .ref a_p2_worths, .ref a_p2_gave, .int v_p2_generation, .int v_p2_toll])), (a_p2_sorts, gI g 120 f_p2_sorts), (a_p2_owners, gI g 504 f_p2_owners)]) rfl rfl rfl (by decide) rfl (fun _ => rfl) (fun u hw => ?_)
              obtain ⟨u8, u9, u10⟩ := u
              try dsimp only at hw
              show J l g A x 6 0 0 136 [(0, .ref a_this), (3, .int x3), (4, .int n2), (5, .int x5)] [] [(a_this, .inr (1, [.ref a_room, .ref a_came, .ref a_queue, .ref a_goals, .int u8])), (a_room, gI g 480 f_room), (a_came, gI g 120 u9), (a_queue, gI g 120 u10), (a_goals, gZ g 120 f_goals), (a_p2, .inr (2, [.ref a_p2_sorts, .ref a_p2_owners, .ref a_p2_worths, .ref a_p2_gave, .int v_p2_generation, .int v_p2_toll])), (a_p2_sorts, gI g 120 f_p2_sorts), (a_p2_owners, gI g 504 f_p2_owners)]
              refine j_iinc C 139 rfl 3 [1, 2, 3, 0] (v' := (1 : Int32)) (lv' := fun z => [(0, .ref a_this), (3, .int x3), (4, .int n2), (5, .int z)]) dX1_seekGoal_136 rfl (by decide) (by decide) (fun _ => rfl) (fun n11 en11 => ?_)
              have hw := hw n11 en11
              refine j_goto C 102 dX1_seekGoal_139 rfl ?_
              exact hL102 _ _ _ _ hw
        · have hw := hw.2 c
          refine j_iload C 98 rfl 2 dX1_seekGoal_96 rfl ?_
          exact j_iret C R (v_queued, f_came, f_queue) rfl dX1_seekGoal_98 rfl hw
  · have hw := hw.2 c
    refine j_aload_n C 14 rfl 0 dX1_seekGoal_13 rfl rfl ?_
    refine j_get C 17 rfl 0 1 1 (T := TX1) (N := 5) hi_X1_seekGoal_X1 rfl (by decide) (List.mem_of_getElem? (i := 2) rfl) rfl rfl rfl dX1_seekGoal_14 ?_
    refine j_iload_n C 18 rfl 3 dX1_seekGoal_17 rfl rfl ?_
    refine j_iconst C 19 rfl dX1_seekGoal_18 (v := (-1 : Int32)) (by decide) ?_
    obtain ⟨k12, ek12, hk12, hw⟩ := hw
    refine j_iast C 20 rfl 2 k12 (ws' := [(a_this, .inr (1, [.ref a_room, .ref a_came, .ref a_queue, .ref a_goals, .int v_queued])), (a_room, gI g 480 f_room), (a_came, gI g 120 (upd f_came k12 (-1 : Int32))), (a_queue, gI g 120 f_queue), (a_goals, gZ g 120 f_goals), (a_p2, .inr (2, [.ref a_p2_sorts, .ref a_p2_owners, .ref a_p2_worths, .ref a_p2_gave, .int v_p2_generation, .int v_p2_toll])), (a_p2_sorts, gI g 120 f_p2_sorts), (a_p2_owners, gI g 504 f_p2_owners)]) rfl ek12 hk12 (by decide) rfl dX1_seekGoal_19 ?_
    refine j_iload_n C 21 rfl 3 dX1_seekGoal_20 rfl rfl ?_
    refine j_bipush C 23 rfl dX1_seekGoal_21 (v := (24 : Int32)) (by decide) ?_
    refine j_irem C 24 rfl dX1_seekGoal_23 (by decide) ?_
    refine j_top (fun n13 en13 => ?_)
    have hw := hw n13 en13
    refine j_istore C 26 rfl [1, 2, 3, 4, 0] (lv' := [(0, .ref a_this), (1, .int x1), (2, .ref a_p2), (3, .int x3), (4, .int n13)]) dX1_seekGoal_24 (by decide) rfl ?_
    refine j_aload_n C 27 rfl 2 dX1_seekGoal_26 rfl rfl ?_
    refine j_iload_n C 28 rfl 3 dX1_seekGoal_27 rfl rfl ?_
    refine j_bipush C 30 rfl dX1_seekGoal_28 (v := (24 : Int32)) (by decide) ?_
    refine j_idiv C 31 rfl dX1_seekGoal_30 (by decide) ?_
    refine j_iload C 33 rfl 4 dX1_seekGoal_31 rfl ?_
    refine j_nm1 (fun n14 en14 => ?_)
    have hw := hw n14 en14
    refine j_ri C 36 rfl (jc_V C (c_X2_sortAt l g a_p2 a_p2_sorts a_p2_owners a_p2_worths a_p2_gave v_p2_generation v_p2_toll f_p2_sorts n14 n13 _ hw) 2 gX1_seekGoal_X2_sortAt rfl rfl rfl hd_X2_sortAt ⟨Nat.le_of_ble_eq_true rfl, Nat.le_of_ble_eq_true rfl⟩ (j_rec C 5 2 rfl rfl) [5, 6] rfl rfl (rest := []) rfl rfl (Nat.le_of_ble_eq_true rfl) dX1_seekGoal_33 ⟨Nat.le_refl _, Nat.le_refl _⟩) [5, 6] rfl (fun _ => rfl) (fun r15 _ hw => ?_)
    try dsimp only at hw
    refine j_iconst C 37 rfl dX1_seekGoal_36 (v := (2 : Int32)) (by decide) ?_
    refine j_icmp_ne C 40 rfl 56 dX1_seekGoal_37 rfl (fun c => ?_) (fun c => ?_)
    · have hw := hw.1 c
      refine j_iinc C 59 rfl 3 [1, 2, 3, 0, 4] (v' := (1 : Int32)) (lv' := fun z => [(0, .ref a_this), (1, .int x1), (2, .ref a_p2), (3, .int z), (4, .int n13)]) dX1_seekGoal_56 rfl (by decide) (by decide) (fun _ => rfl) (fun n16 en16 => ?_)
      have hw := hw n16 en16
      refine j_goto C 7 dX1_seekGoal_59 rfl ?_
      refine j_lv [0, 1, 2, 3] (lv' := [(0, .ref a_this), (1, .int x1), (2, .ref a_p2), (3, .int n16)]) rfl ?_
      exact hL7 _ _ _ _ hw
    · have hw := hw.2 c
      refine j_aload_n C 41 rfl 2 dX1_seekGoal_40 rfl rfl ?_
      refine j_iload C 43 rfl 4 dX1_seekGoal_41 rfl ?_
      refine j_ri C 46 rfl (jc_V C (c_X2_ownerOf l g a_p2 a_p2_sorts a_p2_owners a_p2_worths a_p2_gave v_p2_generation v_p2_toll f_p2_owners n13 _ hw) 1 gX1_seekGoal_X2_ownerOf rfl rfl rfl hd_X2_ownerOf ⟨Nat.le_of_ble_eq_true rfl, Nat.le_of_ble_eq_true rfl⟩ (j_rec C 5 2 rfl rfl) [5, 7] rfl rfl (rest := []) rfl rfl (Nat.le_of_ble_eq_true rfl) dX1_seekGoal_43 ⟨Nat.le_refl _, Nat.le_refl _⟩) [5, 7] rfl (fun _ => rfl) (fun r17 _ hw => ?_)
      try dsimp only at hw
      refine j_iload_n C 47 rfl 1 dX1_seekGoal_46 rfl rfl ?_
      refine j_icmp_ne C 50 rfl 56 dX1_seekGoal_47 rfl (fun c => ?_) (fun c => ?_)
      · have hw := hw.1 c
        refine j_iinc C 59 rfl 3 [1, 2, 3, 0, 4] (v' := (1 : Int32)) (lv' := fun z => [(0, .ref a_this), (1, .int x1), (2, .ref a_p2), (3, .int z), (4, .int n13)]) dX1_seekGoal_56 rfl (by decide) (by decide) (fun _ => rfl) (fun n18 en18 => ?_)
        have hw := hw n18 en18
        refine j_goto C 7 dX1_seekGoal_59 rfl ?_
        refine j_lv [0, 1, 2, 3] (lv' := [(0, .ref a_this), (1, .int x1), (2, .ref a_p2), (3, .int n18)]) rfl ?_
        exact hL7 _ _ _ _ hw
      · have hw := hw.2 c
        refine j_aload_n C 51 rfl 0 dX1_seekGoal_50 rfl rfl ?_
        refine j_iload_n C 52 rfl 3 dX1_seekGoal_51 rfl rfl ?_
        refine j_iconst C 53 rfl dX1_seekGoal_52 (v := (4 : Int32)) (by decide) ?_
        refine j_rwv C 56 rfl (jc_V C (c_X1_reach l g a_this a_room a_came a_queue a_goals v_queued (upd f_came k12 (-1 : Int32)) f_queue x3 (4 : Int32) _ hw) 2 gX1_seekGoal_X1_reach rfl rfl rfl hd_X1_reach ⟨Nat.le_of_ble_eq_true rfl, Nat.le_of_ble_eq_true rfl⟩ (j_rec C 0 1 rfl rfl) [0, 2, 3] rfl rfl (rest := []) rfl rfl (Nat.le_of_ble_eq_true rfl) dX1_seekGoal_53 ⟨Nat.le_refl _, Nat.le_refl _⟩) [0, 2, 3] [1, 4, 5, 6, 7] [5, 0, 6, 7, 1, 2, 3, 4] (wr := [(a_room, gI g 480 f_room), (a_goals, gZ g 120 f_goals), (a_p2, .inr (2, [.ref a_p2_sorts, .ref a_p2_owners, .ref a_p2_worths, .ref a_p2_gave, .int v_p2_generation, .int v_p2_toll])), (a_p2_sorts, gI g 120 f_p2_sorts), (a_p2_owners, gI g 504 f_p2_owners)]) (ws' := fun u => [(a_this, .inr (1, [.ref a_room, .ref a_came, .ref a_queue, .ref a_goals, .int (u.1)])), (a_room, gI g 480 f_room), (a_came, gI g 120 (u.2.1)), (a_queue, gI g 120 (u.2.2)), (a_goals, gZ g 120 f_goals), (a_p2, .inr (2, [.ref a_p2_sorts, .ref a_p2_owners, .ref a_p2_worths, .ref a_p2_gave, .int v_p2_generation, .int v_p2_toll])), (a_p2_sorts, gI g 120 f_p2_sorts), (a_p2_owners, gI g 504 f_p2_owners)]) rfl rfl rfl (by decide) rfl (fun _ => rfl) (fun u hw => ?_)
        obtain ⟨u19, u20, u21⟩ := u
        try dsimp only at hw
        show J l g A x 6 0 0 56 [(0, .ref a_this), (1, .int x1), (2, .ref a_p2), (3, .int x3), (4, .int n13)] [] [(a_this, .inr (1, [.ref a_room, .ref a_came, .ref a_queue, .ref a_goals, .int u19])), (a_room, gI g 480 f_room), (a_came, gI g 120 u20), (a_queue, gI g 120 u21), (a_goals, gZ g 120 f_goals), (a_p2, .inr (2, [.ref a_p2_sorts, .ref a_p2_owners, .ref a_p2_worths, .ref a_p2_gave, .int v_p2_generation, .int v_p2_toll])), (a_p2_sorts, gI g 120 f_p2_sorts), (a_p2_owners, gI g 504 f_p2_owners)]
        refine j_iinc C 59 rfl 3 [1, 2, 3, 0, 4] (v' := (1 : Int32)) (lv' := fun z => [(0, .ref a_this), (1, .int x1), (2, .ref a_p2), (3, .int z), (4, .int n13)]) dX1_seekGoal_56 rfl (by decide) (by decide) (fun _ => rfl) (fun n22 en22 => ?_)
        have hw := hw n22 en22
        refine j_goto C 7 dX1_seekGoal_59 rfl ?_
        refine j_lv [0, 1, 2, 3] (lv' := [(0, .ref a_this), (1, .int x1), (2, .ref a_p2), (3, .int n22)]) rfl ?_
        exact hL7 _ _ _ _ hw
set_option maxRecDepth 20000 in
set_option maxHeartbeats 4000000 in
theorem c_X1_opposite (l : Launch) (g : gE)  (x0 : Int32)  (K : Int32 → Prop) (hw : wp_X1_opposite x0 K) : Ci l g yX1_opposite wsX1_opposite { frames := 0, cells := 0, slots := 0, locals := 0 } [.int x0] [] (fun (r : Int32) (_ : Unit) => K r) (fun (_ : Unit) => []) 0 0 := by
  refine Ci_of (cc := cX1_opposite) (nL := 1) (ret := (some .int)) (own := RX1) (lv0 := [(0, .int x0)]) (by decide +kernel) rfl rfl (Nat.le_of_ble_eq_true rfl) rfl (fun A x C R => ?_)
  refine j_iload_n C 1 rfl 0 dX1_opposite_0 rfl rfl ?_
  refine j_iconst C 2 rfl dX1_opposite_1 (v := (1 : Int32)) (by decide) ?_
  refine j_ixor C 3 rfl dX1_opposite_2 ?_
  exact j_iret C R () rfl dX1_opposite_3 rfl hw
theorem hi_X1_streamTo_X1 : ∀ w ∈ wsX10, w ∈ wsX1_streamTo := fun _ h => List.mem_cons_of_mem _ (List.mem_append_right _ h)
set_option maxRecDepth 20000 in
set_option maxHeartbeats 4000000 in
theorem c_X1_streamTo (l : Launch) (g : gE) (a_this a_room a_came a_queue a_goals : Nat) (v_queued : Int32) (f_room : (Nat → Int32)) (f_came : (Nat → Int32)) (x1 : Int32)  (K : Int32 → (Nat → Int32) → Prop) (hw : wp_X1_streamTo f_room f_came x1 K) : Ci l g yX1_streamTo wsX1_streamTo { frames := 1, cells := 0, slots := 0, locals := 40 } [.ref a_this, .int x1] [(a_this, .inr (1, [.ref a_room, .ref a_came, .ref a_queue, .ref a_goals, .int v_queued])), (a_room, gI g 480 f_room), (a_came, gI g 120 f_came)] (fun (r : Int32) (u : (Nat → Int32)) => K r u) (fun (u : (Nat → Int32)) => [(a_this, .inr (1, [.ref a_room, .ref a_came, .ref a_queue, .ref a_goals, .int v_queued])), (a_room, gI g 480 u), (a_came, gI g 120 f_came)]) 0 0 := by
  refine Ci_of (cc := cX1_streamTo) (nL := 6) (ret := (some .int)) (own := RX1) (lv0 := [(0, .ref a_this), (1, .int x1)]) (by decide +kernel) rfl rfl (Nat.le_of_ble_eq_true rfl) rfl (fun A x C R => ?_)
  refine j_sipush C 3 rfl dX1_streamTo_0 (v := (1000 : Int32)) (by decide) ?_
  refine j_istore_n C 4 rfl [1, 2, 0] (lv' := [(0, .ref a_this), (1, .int x1), (2, .int (1000 : Int32))]) dX1_streamTo_3 rfl (by decide) rfl ?_
  refine j_iload_n C 5 rfl 1 dX1_streamTo_4 rfl rfl ?_
  refine j_istore_n C 6 rfl [1, 2, 3, 0] (lv' := [(0, .ref a_this), (1, .int x1), (2, .int (1000 : Int32)), (3, .int x1)]) dX1_streamTo_5 rfl (by decide) rfl ?_
  refine j_iconst C 7 rfl dX1_streamTo_6 (v := (0 : Int32)) (by decide) ?_
  refine j_istore C 9 rfl [1, 2, 3, 4, 0] (lv' := [(0, .ref a_this), (1, .int x1), (2, .int (1000 : Int32)), (3, .int x1), (4, .int (0 : Int32))]) dX1_streamTo_7 (by decide) rfl ?_
  refine lpW3_ind (G := fun x2 x3 x4 => J l g A x 6 0 0 9 [(0, .ref a_this), (1, .int x1), (2, .int x2), (3, .int x3), (4, .int x4)] [] [(a_this, .inr (1, [.ref a_room, .ref a_came, .ref a_queue, .ref a_goals, .int v_queued])), (a_room, gI g 480 f_room), (a_came, gI g 120 f_came)]) (fun L9 x2 x3 x4 hL9 hw => ?_) _ _ _ hw
  refine j_aload_n C 10 rfl 0 dX1_streamTo_9 rfl rfl ?_
  refine j_get C 13 rfl 0 1 1 (T := TX1) (N := 5) hi_X1_streamTo_X1 rfl (by decide) (List.mem_of_getElem? (i := 1) rfl) rfl rfl rfl dX1_streamTo_10 ?_
  refine j_iload_n C 14 rfl 3 dX1_streamTo_13 rfl rfl ?_
  obtain ⟨k1, ek1, hk1, hw⟩ := hw
  refine j_iald C 15 rfl 2 k1 rfl ek1 hk1 (by decide) dX1_streamTo_14 ?_
  refine j_iconst C 16 rfl dX1_streamTo_15 (v := (4 : Int32)) (by decide) ?_
  refine j_icmp_eq C 19 rfl 66 dX1_streamTo_16 rfl (fun c => ?_) (fun c => ?_)
  · have hw := hw.1 c
    refine j_iload_n C 67 rfl 1 dX1_streamTo_66 rfl rfl ?_
    refine j_istore_n C 68 rfl [1, 2, 3, 0, 4] (lv' := [(0, .ref a_this), (1, .int x1), (2, .int x2), (3, .int x1), (4, .int x4)]) dX1_streamTo_67 rfl (by decide) rfl ?_
    refine j_iconst C 69 rfl dX1_streamTo_68 (v := (0 : Int32)) (by decide) ?_
    refine j_istore C 71 rfl [1, 2, 3, 4, 0] (lv' := [(0, .ref a_this), (1, .int x1), (2, .int x2), (3, .int x1), (4, .int (0 : Int32))]) dX1_streamTo_69 (by decide) rfl ?_
    refine j_lv [0, 2, 3, 4] (lv' := [(0, .ref a_this), (2, .int x2), (3, .int x1), (4, .int (0 : Int32))]) rfl ?_
    refine lpW3_ind (G := fun x3 x4 f_room => J l g A x 6 0 0 71 [(0, .ref a_this), (2, .int x2), (3, .int x3), (4, .int x4)] [] [(a_this, .inr (1, [.ref a_room, .ref a_came, .ref a_queue, .ref a_goals, .int v_queued])), (a_room, gI g 480 f_room), (a_came, gI g 120 f_came)]) (fun L71 x3 x4 f_room hL71 hw => ?_) _ _ _ hw
    refine j_aload_n C 72 rfl 0 dX1_streamTo_71 rfl rfl ?_
    refine j_get C 75 rfl 0 1 1 (T := TX1) (N := 5) hi_X1_streamTo_X1 rfl (by decide) (List.mem_of_getElem? (i := 1) rfl) rfl rfl rfl dX1_streamTo_72 ?_
    refine j_iload_n C 76 rfl 2 dX1_streamTo_75 rfl rfl ?_
    obtain ⟨k2, ek2, hk2, hw⟩ := hw
    refine j_iald C 77 rfl 2 k2 rfl ek2 hk2 (by decide) dX1_streamTo_76 ?_
    refine j_iconst C 78 rfl dX1_streamTo_77 (v := (4 : Int32)) (by decide) ?_
    refine j_icmp_eq C 81 rfl 145 dX1_streamTo_78 rfl (fun c => ?_) (fun c => ?_)
    · have hw := hw.1 c
      refine j_iload_n C 146 rfl 1 dX1_streamTo_145 rfl rfl ?_
      exact j_iret C R (f_room) rfl dX1_streamTo_146 rfl hw
    · have hw := hw.2 c
      refine j_iload C 83 rfl 3 dX1_streamTo_81 rfl ?_
      refine j_bipush C 85 rfl dX1_streamTo_83 (v := (120 : Int32)) (by decide) ?_
      refine j_icmp_ge C 88 rfl 145 dX1_streamTo_85 rfl (fun c => ?_) (fun c => ?_)
      · have hw := hw.1 c
        refine j_iload_n C 146 rfl 1 dX1_streamTo_145 rfl rfl ?_
        exact j_iret C R (f_room) rfl dX1_streamTo_146 rfl hw
      · have hw := hw.2 c
        refine j_aload_n C 89 rfl 0 dX1_streamTo_88 rfl rfl ?_
        refine j_get C 92 rfl 0 1 1 (T := TX1) (N := 5) hi_X1_streamTo_X1 rfl (by decide) (List.mem_of_getElem? (i := 1) rfl) rfl rfl rfl dX1_streamTo_89 ?_
        refine j_iload_n C 93 rfl 2 dX1_streamTo_92 rfl rfl ?_
        obtain ⟨k3, ek3, hk3, hw⟩ := hw
        refine j_iald C 94 rfl 2 k3 rfl ek3 hk3 (by decide) dX1_streamTo_93 ?_
        refine j_top (fun n4 en4 => ?_)
        have hw := hw n4 en4
        refine j_istore C 96 rfl [1, 2, 3, 4, 0] (lv' := [(0, .ref a_this), (2, .int x2), (3, .int x3), (4, .int x4), (5, .int n4)]) dX1_streamTo_94 (by decide) rfl ?_
        refine j_aload_n C 97 rfl 0 dX1_streamTo_96 rfl rfl ?_
        refine j_get C 100 rfl 0 1 0 (T := TX1) (N := 5) hi_X1_streamTo_X1 rfl (by decide) (List.mem_of_getElem? (i := 2) rfl) rfl rfl rfl dX1_streamTo_97 ?_
        refine j_iload_n C 101 rfl 2 dX1_streamTo_100 rfl rfl ?_
        refine j_iconst C 102 rfl dX1_streamTo_101 (v := (4 : Int32)) (by decide) ?_
        refine j_imul C 103 rfl dX1_streamTo_102 ?_
        refine j_iload C 105 rfl 4 dX1_streamTo_103 rfl ?_
        refine j_ri C 108 rfl (jc_S C (c_X1_opposite l g n4 _ hw) 1 gX1_streamTo_X1_opposite rfl rfl rfl hd_X1_opposite ⟨Nat.le_of_ble_eq_true rfl, Nat.le_of_ble_eq_true rfl⟩ [] rfl rfl (rest := [.int (x3 * (4 : Int32)), .ref a_room]) rfl rfl (Nat.le_of_ble_eq_true rfl) dX1_streamTo_105 ⟨Nat.le_refl _, Nat.le_refl _⟩) [] rfl (fun _ => rfl) (fun r5 _ hw => ?_)
        try dsimp only at hw
        refine j_iadd C 109 rfl dX1_streamTo_108 ?_
        refine j_dup2 C 110 rfl dX1_streamTo_109 rfl rfl ?_
        obtain ⟨k6, ek6, hk6, hw⟩ := hw
        refine j_iald C 111 rfl 1 k6 rfl ek6 hk6 (by decide) dX1_streamTo_110 ?_
        refine j_iload_n C 112 rfl 1 dX1_streamTo_111 rfl rfl ?_
        refine j_iadd C 113 rfl dX1_streamTo_112 ?_
        refine j_top (fun n7 en7 => ?_)
        have hw := hw n7 en7
        obtain ⟨k8, ek8, hk8, hw⟩ := hw
        refine j_iast C 114 rfl 1 k8 (ws' := [(a_this, .inr (1, [.ref a_room, .ref a_came, .ref a_queue, .ref a_goals, .int v_queued])), (a_room, gI g 480 (upd f_room k8 n7)), (a_came, gI g 120 f_came)]) rfl ek8 hk8 (by decide) rfl dX1_streamTo_113 ?_
        refine j_iload_n C 115 rfl 2 dX1_streamTo_114 rfl rfl ?_
        refine j_iload C 117 rfl 4 dX1_streamTo_115 rfl ?_
        refine j_ri C 120 rfl (jc_S C (c_X1_opposite l g n4 _ hw) 1 gX1_streamTo_X1_opposite rfl rfl rfl hd_X1_opposite ⟨Nat.le_of_ble_eq_true rfl, Nat.le_of_ble_eq_true rfl⟩ [] rfl rfl (rest := [.int x3]) rfl rfl (Nat.le_of_ble_eq_true rfl) dX1_streamTo_117 ⟨Nat.le_refl _, Nat.le_refl _⟩) [] rfl (fun _ => rfl) (fun r9 _ hw => ?_)
        try dsimp only at hw
        refine j_ri C 123 rfl (jc_S C (c_X1_beside l g x3 r9 _ hw) 2 gX1_streamTo_X1_beside rfl rfl rfl hd_X1_beside ⟨Nat.le_of_ble_eq_true rfl, Nat.le_of_ble_eq_true rfl⟩ [] rfl rfl (rest := []) rfl rfl (Nat.le_of_ble_eq_true rfl) dX1_streamTo_120 ⟨Nat.le_refl _, Nat.le_refl _⟩) [] rfl (fun _ => rfl) (fun r10 _ hw => ?_)
        try dsimp only at hw
        refine j_istore_n C 124 rfl [1, 2, 0, 3, 4] (lv' := [(0, .ref a_this), (2, .int x2), (3, .int r10), (4, .int x4), (5, .int n4)]) dX1_streamTo_123 rfl (by decide) rfl ?_
        refine j_aload_n C 125 rfl 0 dX1_streamTo_124 rfl rfl ?_
        refine j_get C 128 rfl 0 1 0 (T := TX1) (N := 5) hi_X1_streamTo_X1 rfl (by decide) (List.mem_of_getElem? (i := 2) rfl) rfl rfl rfl dX1_streamTo_125 ?_
        refine j_iload_n C 129 rfl 2 dX1_streamTo_128 rfl rfl ?_
        refine j_iconst C 130 rfl dX1_streamTo_129 (v := (4 : Int32)) (by decide) ?_
        refine j_imul C 131 rfl dX1_streamTo_130 ?_
        refine j_iload C 133 rfl 4 dX1_streamTo_131 rfl ?_
        refine j_iadd C 134 rfl dX1_streamTo_133 ?_
        refine j_dup2 C 135 rfl dX1_streamTo_134 rfl rfl ?_
        obtain ⟨k11, ek11, hk11, hw⟩ := hw
        refine j_iald C 136 rfl 1 k11 rfl ek11 hk11 (by decide) dX1_streamTo_135 ?_
        refine j_iload_n C 137 rfl 1 dX1_streamTo_136 rfl rfl ?_
        refine j_isub C 138 rfl dX1_streamTo_137 ?_
        refine j_top (fun n12 en12 => ?_)
        have hw := hw n12 en12
        obtain ⟨k13, ek13, hk13, hw⟩ := hw
        refine j_iast C 139 rfl 1 k13 (ws' := [(a_this, .inr (1, [.ref a_room, .ref a_came, .ref a_queue, .ref a_goals, .int v_queued])), (a_room, gI g 480 (upd (upd f_room k8 n7) k13 n12)), (a_came, gI g 120 f_came)]) rfl ek13 hk13 (by decide) rfl dX1_streamTo_138 ?_
        refine j_iinc C 142 rfl 3 [1, 2, 3, 0, 4] (v' := (1 : Int32)) (lv' := fun z => [(0, .ref a_this), (2, .int x2), (3, .int r10), (4, .int z), (5, .int n4)]) dX1_streamTo_139 rfl (by decide) (by decide) (fun _ => rfl) (fun n14 en14 => ?_)
        have hw := hw n14 en14
        refine j_goto C 71 dX1_streamTo_142 rfl ?_
        refine j_lv [0, 1, 2, 3] (lv' := [(0, .ref a_this), (2, .int x2), (3, .int r10), (4, .int n14)]) rfl ?_
        exact hL71 _ _ _ hw
  · have hw := hw.2 c
    refine j_iload C 21 rfl 4 dX1_streamTo_19 rfl ?_
    refine j_bipush C 23 rfl dX1_streamTo_21 (v := (120 : Int32)) (by decide) ?_
    refine j_icmp_ge C 26 rfl 66 dX1_streamTo_23 rfl (fun c => ?_) (fun c => ?_)
    · have hw := hw.1 c
      refine j_iload_n C 67 rfl 1 dX1_streamTo_66 rfl rfl ?_
      refine j_istore_n C 68 rfl [1, 2, 3, 0, 4] (lv' := [(0, .ref a_this), (1, .int x1), (2, .int x2), (3, .int x1), (4, .int x4)]) dX1_streamTo_67 rfl (by decide) rfl ?_
      refine j_iconst C 69 rfl dX1_streamTo_68 (v := (0 : Int32)) (by decide) ?_
      refine j_istore C 71 rfl [1, 2, 3, 4, 0] (lv' := [(0, .ref a_this), (1, .int x1), (2, .int x2), (3, .int x1), (4, .int (0 : Int32))]) dX1_streamTo_69 (by decide) rfl ?_
      refine j_lv [0, 2, 3, 4] (lv' := [(0, .ref a_this), (2, .int x2), (3, .int x1), (4, .int (0 : Int32))]) rfl ?_
      refine lpW3_ind (G := fun x3 x4 f_room => J l g A x 6 0 0 71 [(0, .ref a_this), (2, .int x2), (3, .int x3), (4, .int x4)] [] [(a_this, .inr (1, [.ref a_room, .ref a_came, .ref a_queue, .ref a_goals, .int v_queued])), (a_room, gI g 480 f_room), (a_came, gI g 120 f_came)]) (fun L71 x3 x4 f_room hL71 hw => ?_) _ _ _ hw
      refine j_aload_n C 72 rfl 0 dX1_streamTo_71 rfl rfl ?_
      refine j_get C 75 rfl 0 1 1 (T := TX1) (N := 5) hi_X1_streamTo_X1 rfl (by decide) (List.mem_of_getElem? (i := 1) rfl) rfl rfl rfl dX1_streamTo_72 ?_
      refine j_iload_n C 76 rfl 2 dX1_streamTo_75 rfl rfl ?_
      obtain ⟨k15, ek15, hk15, hw⟩ := hw
      refine j_iald C 77 rfl 2 k15 rfl ek15 hk15 (by decide) dX1_streamTo_76 ?_
      refine j_iconst C 78 rfl dX1_streamTo_77 (v := (4 : Int32)) (by decide) ?_
      refine j_icmp_eq C 81 rfl 145 dX1_streamTo_78 rfl (fun c => ?_) (fun c => ?_)
      · have hw := hw.1 c
        refine j_iload_n C 146 rfl 1 dX1_streamTo_145 rfl rfl ?_
        exact j_iret C R (f_room) rfl dX1_streamTo_146 rfl hw
      · have hw := hw.2 c
        refine j_iload C 83 rfl 3 dX1_streamTo_81 rfl ?_
        refine j_bipush C 85 rfl dX1_streamTo_83 (v := (120 : Int32)) (by decide) ?_
        refine j_icmp_ge C 88 rfl 145 dX1_streamTo_85 rfl (fun c => ?_) (fun c => ?_)
        · have hw := hw.1 c
          refine j_iload_n C 146 rfl 1 dX1_streamTo_145 rfl rfl ?_
          exact j_iret C R (f_room) rfl dX1_streamTo_146 rfl hw
        · have hw := hw.2 c
          refine j_aload_n C 89 rfl 0 dX1_streamTo_88 rfl rfl ?_
          refine j_get C 92 rfl 0 1 1 (T := TX1) (N := 5) hi_X1_streamTo_X1 rfl (by decide) (List.mem_of_getElem? (i := 1) rfl) rfl rfl rfl dX1_streamTo_89 ?_
          refine j_iload_n C 93 rfl 2 dX1_streamTo_92 rfl rfl ?_
          obtain ⟨k16, ek16, hk16, hw⟩ := hw
          refine j_iald C 94 rfl 2 k16 rfl ek16 hk16 (by decide) dX1_streamTo_93 ?_
          refine j_top (fun n17 en17 => ?_)
          have hw := hw n17 en17
          refine j_istore C 96 rfl [1, 2, 3, 4, 0] (lv' := [(0, .ref a_this), (2, .int x2), (3, .int x3), (4, .int x4), (5, .int n17)]) dX1_streamTo_94 (by decide) rfl ?_
          refine j_aload_n C 97 rfl 0 dX1_streamTo_96 rfl rfl ?_
          refine j_get C 100 rfl 0 1 0 (T := TX1) (N := 5) hi_X1_streamTo_X1 rfl (by decide) (List.mem_of_getElem? (i := 2) rfl) rfl rfl rfl dX1_streamTo_97 ?_
          refine j_iload_n C 101 rfl 2 dX1_streamTo_100 rfl rfl ?_
          refine j_iconst C 102 rfl dX1_streamTo_101 (v := (4 : Int32)) (by decide) ?_
          refine j_imul C 103 rfl dX1_streamTo_102 ?_
          refine j_iload C 105 rfl 4 dX1_streamTo_103 rfl ?_
          refine j_ri C 108 rfl (jc_S C (c_X1_opposite l g n17 _ hw) 1 gX1_streamTo_X1_opposite rfl rfl rfl hd_X1_opposite ⟨Nat.le_of_ble_eq_true rfl, Nat.le_of_ble_eq_true rfl⟩ [] rfl rfl (rest := [.int (x3 * (4 : Int32)), .ref a_room]) rfl rfl (Nat.le_of_ble_eq_true rfl) dX1_streamTo_105 ⟨Nat.le_refl _, Nat.le_refl _⟩) [] rfl (fun _ => rfl) (fun r18 _ hw => ?_)
          try dsimp only at hw
          refine j_iadd C 109 rfl dX1_streamTo_108 ?_
          refine j_dup2 C 110 rfl dX1_streamTo_109 rfl rfl ?_
          obtain ⟨k19, ek19, hk19, hw⟩ := hw
          refine j_iald C 111 rfl 1 k19 rfl ek19 hk19 (by decide) dX1_streamTo_110 ?_
          refine j_iload_n C 112 rfl 1 dX1_streamTo_111 rfl rfl ?_
          refine j_iadd C 113 rfl dX1_streamTo_112 ?_
          refine j_top (fun n20 en20 => ?_)
          have hw := hw n20 en20
          obtain ⟨k21, ek21, hk21, hw⟩ := hw
          refine j_iast C 114 rfl 1 k21 (ws' := [(a_this, .inr (1, [.ref a_room, .ref a_came, .ref a_queue, .ref a_goals, .int v_queued])), (a_room, gI g 480 (upd f_room k21 n20)), (a_came, gI g 120 f_came)]) rfl ek21 hk21 (by decide) rfl dX1_streamTo_113 ?_
          refine j_iload_n C 115 rfl 2 dX1_streamTo_114 rfl rfl ?_
          refine j_iload C 117 rfl 4 dX1_streamTo_115 rfl ?_
          refine j_ri C 120 rfl (jc_S C (c_X1_opposite l g n17 _ hw) 1 gX1_streamTo_X1_opposite rfl rfl rfl hd_X1_opposite ⟨Nat.le_of_ble_eq_true rfl, Nat.le_of_ble_eq_true rfl⟩ [] rfl rfl (rest := [.int x3]) rfl rfl (Nat.le_of_ble_eq_true rfl) dX1_streamTo_117 ⟨Nat.le_refl _, Nat.le_refl _⟩) [] rfl (fun _ => rfl) (fun r22 _ hw => ?_)
          try dsimp only at hw
          refine j_ri C 123 rfl (jc_S C (c_X1_beside l g x3 r22 _ hw) 2 gX1_streamTo_X1_beside rfl rfl rfl hd_X1_beside ⟨Nat.le_of_ble_eq_true rfl, Nat.le_of_ble_eq_true rfl⟩ [] rfl rfl (rest := []) rfl rfl (Nat.le_of_ble_eq_true rfl) dX1_streamTo_120 ⟨Nat.le_refl _, Nat.le_refl _⟩) [] rfl (fun _ => rfl) (fun r23 _ hw => ?_)
          try dsimp only at hw
          refine j_istore_n C 124 rfl [1, 2, 0, 3, 4] (lv' := [(0, .ref a_this), (2, .int x2), (3, .int r23), (4, .int x4), (5, .int n17)]) dX1_streamTo_123 rfl (by decide) rfl ?_
          refine j_aload_n C 125 rfl 0 dX1_streamTo_124 rfl rfl ?_
          refine j_get C 128 rfl 0 1 0 (T := TX1) (N := 5) hi_X1_streamTo_X1 rfl (by decide) (List.mem_of_getElem? (i := 2) rfl) rfl rfl rfl dX1_streamTo_125 ?_
          refine j_iload_n C 129 rfl 2 dX1_streamTo_128 rfl rfl ?_
          refine j_iconst C 130 rfl dX1_streamTo_129 (v := (4 : Int32)) (by decide) ?_
          refine j_imul C 131 rfl dX1_streamTo_130 ?_
          refine j_iload C 133 rfl 4 dX1_streamTo_131 rfl ?_
          refine j_iadd C 134 rfl dX1_streamTo_133 ?_
          refine j_dup2 C 135 rfl dX1_streamTo_134 rfl rfl ?_
          obtain ⟨k24, ek24, hk24, hw⟩ := hw
          refine j_iald C 136 rfl 1 k24 rfl ek24 hk24 (by decide) dX1_streamTo_135 ?_
          refine j_iload_n C 137 rfl 1 dX1_streamTo_136 rfl rfl ?_
          refine j_isub C 138 rfl dX1_streamTo_137 ?_
          refine j_top (fun n25 en25 => ?_)
          have hw := hw n25 en25
          obtain ⟨k26, ek26, hk26, hw⟩ := hw
          refine j_iast C 139 rfl 1 k26 (ws' := [(a_this, .inr (1, [.ref a_room, .ref a_came, .ref a_queue, .ref a_goals, .int v_queued])), (a_room, gI g 480 (upd (upd f_room k21 n20) k26 n25)), (a_came, gI g 120 f_came)]) rfl ek26 hk26 (by decide) rfl dX1_streamTo_138 ?_
          refine j_iinc C 142 rfl 3 [1, 2, 3, 0, 4] (v' := (1 : Int32)) (lv' := fun z => [(0, .ref a_this), (2, .int x2), (3, .int r23), (4, .int z), (5, .int n17)]) dX1_streamTo_139 rfl (by decide) (by decide) (fun _ => rfl) (fun n27 en27 => ?_)
          have hw := hw n27 en27
          refine j_goto C 71 dX1_streamTo_142 rfl ?_
          refine j_lv [0, 1, 2, 3] (lv' := [(0, .ref a_this), (2, .int x2), (3, .int r23), (4, .int n27)]) rfl ?_
          exact hL71 _ _ _ hw
    · have hw := hw.2 c
      refine j_aload_n C 27 rfl 0 dX1_streamTo_26 rfl rfl ?_
      refine j_get C 30 rfl 0 1 1 (T := TX1) (N := 5) hi_X1_streamTo_X1 rfl (by decide) (List.mem_of_getElem? (i := 1) rfl) rfl rfl rfl dX1_streamTo_27 ?_
      refine j_iload_n C 31 rfl 3 dX1_streamTo_30 rfl rfl ?_
      obtain ⟨k28, ek28, hk28, hw⟩ := hw
      refine j_iald C 32 rfl 2 k28 rfl ek28 hk28 (by decide) dX1_streamTo_31 ?_
      refine j_top (fun n29 en29 => ?_)
      have hw := hw n29 en29
      refine j_istore C 34 rfl [1, 2, 3, 4, 5, 0] (lv' := [(0, .ref a_this), (1, .int x1), (2, .int x2), (3, .int x3), (4, .int x4), (5, .int n29)]) dX1_streamTo_32 (by decide) rfl ?_
      refine j_iload_n C 35 rfl 3 dX1_streamTo_34 rfl rfl ?_
      refine j_iload C 37 rfl 5 dX1_streamTo_35 rfl ?_
      refine j_ri C 40 rfl (jc_S C (c_X1_opposite l g n29 _ hw) 1 gX1_streamTo_X1_opposite rfl rfl rfl hd_X1_opposite ⟨Nat.le_of_ble_eq_true rfl, Nat.le_of_ble_eq_true rfl⟩ [] rfl rfl (rest := [.int x3]) rfl rfl (Nat.le_of_ble_eq_true rfl) dX1_streamTo_37 ⟨Nat.le_refl _, Nat.le_refl _⟩) [] rfl (fun _ => rfl) (fun r30 _ hw => ?_)
      try dsimp only at hw
      refine j_ri C 43 rfl (jc_S C (c_X1_beside l g x3 r30 _ hw) 2 gX1_streamTo_X1_beside rfl rfl rfl hd_X1_beside ⟨Nat.le_of_ble_eq_true rfl, Nat.le_of_ble_eq_true rfl⟩ [] rfl rfl (rest := []) rfl rfl (Nat.le_of_ble_eq_true rfl) dX1_streamTo_40 ⟨Nat.le_refl _, Nat.le_refl _⟩) [] rfl (fun _ => rfl) (fun r31 _ hw => ?_)
      try dsimp only at hw
      refine j_istore_n C 44 rfl [1, 2, 3, 0, 4, 5] (lv' := [(0, .ref a_this), (1, .int x1), (2, .int x2), (3, .int r31), (4, .int x4), (5, .int n29)]) dX1_streamTo_43 rfl (by decide) rfl ?_
      refine j_iload_n C 45 rfl 2 dX1_streamTo_44 rfl rfl ?_
      refine j_aload_n C 46 rfl 0 dX1_streamTo_45 rfl rfl ?_
      refine j_get C 49 rfl 0 1 0 (T := TX1) (N := 5) hi_X1_streamTo_X1 rfl (by decide) (List.mem_of_getElem? (i := 2) rfl) rfl rfl rfl dX1_streamTo_46 ?_
      refine j_iload_n C 50 rfl 3 dX1_streamTo_49 rfl rfl ?_
      refine j_iconst C 51 rfl dX1_streamTo_50 (v := (4 : Int32)) (by decide) ?_
      refine j_imul C 52 rfl dX1_streamTo_51 ?_
      refine j_iload C 54 rfl 5 dX1_streamTo_52 rfl ?_
      refine j_iadd C 55 rfl dX1_streamTo_54 ?_
      obtain ⟨k32, ek32, hk32, hw⟩ := hw
      refine j_iald C 56 rfl 1 k32 rfl ek32 hk32 (by decide) dX1_streamTo_55 ?_
      refine j_min C 59 rfl (List.mem_of_getElem? (i := 3) rfl) (List.mem_of_getElem? (i := 4) rfl) (List.mem_of_getElem? (i := 5) rfl) (List.mem_of_getElem? (i := 6) rfl) (by decide) (Nat.le_of_ble_eq_true rfl) (by decide) (by decide) dX1_streamTo_56 ?_
      refine j_top (fun n33 en33 => ?_)
      have hw := hw n33 en33
      refine j_istore_n C 60 rfl [1, 2, 0, 3, 4, 5] (lv' := [(0, .ref a_this), (1, .int x1), (2, .int n33), (3, .int r31), (4, .int x4), (5, .int n29)]) dX1_streamTo_59 rfl (by decide) rfl ?_
      refine j_iinc C 63 rfl 4 [1, 2, 3, 4, 0, 5] (v' := (1 : Int32)) (lv' := fun z => [(0, .ref a_this), (1, .int x1), (2, .int n33), (3, .int r31), (4, .int z), (5, .int n29)]) dX1_streamTo_60 rfl (by decide) (by decide) (fun _ => rfl) (fun n34 en34 => ?_)
      have hw := hw n34 en34
      refine j_goto C 9 dX1_streamTo_63 rfl ?_
      refine j_lv [0, 1, 2, 3, 4] (lv' := [(0, .ref a_this), (1, .int x1), (2, .int n33), (3, .int r31), (4, .int n34)]) rfl ?_
      exact hL9 _ _ _ hw
theorem hi_X1_lengthFor_X1 : ∀ w ∈ wsX10, w ∈ wsX1_lengthFor := fun _ h => List.mem_cons_of_mem _ (List.mem_append_left _ (List.mem_append_right _ h))
set_option maxRecDepth 20000 in
set_option maxHeartbeats 4000000 in
theorem c_X1_lengthFor (l : Launch) (g : gE) (a_this a_room a_came a_queue a_goals a_p2 a_p2_sorts a_p2_owners a_p2_worths a_p2_gave : Nat) (v_queued : Int32) (f_room : (Nat → Int32)) (f_came : (Nat → Int32)) (f_queue : (Nat → Int32)) (f_goals : (Nat → Int32)) (v_p2_generation : Int32) (v_p2_toll : Int32) (f_p2_sorts : (Nat → Int32)) (f_p2_owners : (Nat → Int32)) (x1 : Int32)  (K : Int32 → Int32 → (Nat → Int32) → (Nat → Int32) → (Nat → Int32) → (Nat → Int32) → Prop) (hw : wp_X1_lengthFor v_queued f_room f_came f_queue f_goals v_p2_generation f_p2_sorts f_p2_owners x1 K) : Ci l g yX1_lengthFor wsX1_lengthFor { frames := 3, cells := 0, slots := 0, locals := 68 } [.ref a_this, .int x1, .ref a_p2] [(a_this, .inr (1, [.ref a_room, .ref a_came, .ref a_queue, .ref a_goals, .int v_queued])), (a_room, gI g 480 f_room), (a_came, gI g 120 f_came), (a_queue, gI g 120 f_queue), (a_goals, gZ g 120 f_goals), (a_p2, .inr (2, [.ref a_p2_sorts, .ref a_p2_owners, .ref a_p2_worths, .ref a_p2_gave, .int v_p2_generation, .int v_p2_toll])), (a_p2_sorts, gI g 120 f_p2_sorts), (a_p2_owners, gI g 504 f_p2_owners)] (fun (r : Int32) (u : Int32 × (Nat → Int32) × (Nat → Int32) × (Nat → Int32) × (Nat → Int32)) => K r u.1 u.2.1 u.2.2.1 u.2.2.2.1 u.2.2.2.2) (fun (u : Int32 × (Nat → Int32) × (Nat → Int32) × (Nat → Int32) × (Nat → Int32)) => [(a_this, .inr (1, [.ref a_room, .ref a_came, .ref a_queue, .ref a_goals, .int (u.1)])), (a_room, gI g 480 (u.2.1)), (a_came, gI g 120 (u.2.2.1)), (a_queue, gI g 120 (u.2.2.2.1)), (a_goals, gZ g 120 (u.2.2.2.2)), (a_p2, .inr (2, [.ref a_p2_sorts, .ref a_p2_owners, .ref a_p2_worths, .ref a_p2_gave, .int v_p2_generation, .int v_p2_toll])), (a_p2_sorts, gI g 120 f_p2_sorts), (a_p2_owners, gI g 504 f_p2_owners)]) 0 0 := by
  refine Ci_of (cc := cX1_lengthFor) (nL := 6) (ret := (some .int)) (own := RX1) (lv0 := [(0, .ref a_this), (1, .int x1), (2, .ref a_p2)]) (by decide +kernel) rfl rfl (Nat.le_of_ble_eq_true rfl) rfl (fun A x C R => ?_)
  refine j_iconst C 1 rfl dX1_lengthFor_0 (v := (0 : Int32)) (by decide) ?_
  refine j_istore_n C 2 rfl [1, 2, 3, 0] (lv' := [(0, .ref a_this), (1, .int x1), (2, .ref a_p2), (3, .int (0 : Int32))]) dX1_lengthFor_1 rfl (by decide) rfl ?_
  refine lpW3_ind (G := fun x3 f_room f_goals => J l g A x 6 0 0 2 [(0, .ref a_this), (1, .int x1), (2, .ref a_p2), (3, .int x3)] [] [(a_this, .inr (1, [.ref a_room, .ref a_came, .ref a_queue, .ref a_goals, .int v_queued])), (a_room, gI g 480 f_room), (a_came, gI g 120 f_came), (a_queue, gI g 120 f_queue), (a_goals, gZ g 120 f_goals), (a_p2, .inr (2, [.ref a_p2_sorts, .ref a_p2_owners, .ref a_p2_worths, .ref a_p2_gave, .int v_p2_generation, .int v_p2_toll])), (a_p2_sorts, gI g 120 f_p2_sorts), (a_p2_owners, gI g 504 f_p2_owners)]) (fun L2 x3 f_room f_goals hL2 hw => ?_) _ _ _ hw
  refine j_iload_n C 3 rfl 3 dX1_lengthFor_2 rfl rfl ?_
  refine j_iconst C 4 rfl dX1_lengthFor_3 (v := (5 : Int32)) (by decide) ?_
  refine j_icmp_ge C 7 rfl 77 dX1_lengthFor_4 rfl (fun c => ?_) (fun c => ?_)
  · have hw := hw.1 c
    refine j_iconst C 78 rfl dX1_lengthFor_77 (v := (0 : Int32)) (by decide) ?_
    refine j_istore_n C 79 rfl [1, 2, 3, 0] (lv' := [(0, .ref a_this), (1, .int x1), (2, .ref a_p2), (3, .int (0 : Int32))]) dX1_lengthFor_78 rfl (by decide) rfl ?_
    refine j_iconst C 80 rfl dX1_lengthFor_79 (v := (0 : Int32)) (by decide) ?_
    refine j_istore C 82 rfl [1, 2, 3, 4, 0] (lv' := [(0, .ref a_this), (1, .int x1), (2, .ref a_p2), (3, .int (0 : Int32)), (4, .int (0 : Int32))]) dX1_lengthFor_80 (by decide) rfl ?_
    refine lpW6_ind (G := fun x3 x4 v_queued f_room f_came f_queue => J l g A x 6 0 0 82 [(0, .ref a_this), (1, .int x1), (2, .ref a_p2), (3, .int x3), (4, .int x4)] [] [(a_this, .inr (1, [.ref a_room, .ref a_came, .ref a_queue, .ref a_goals, .int v_queued])), (a_room, gI g 480 f_room), (a_came, gI g 120 f_came), (a_queue, gI g 120 f_queue), (a_goals, gZ g 120 f_goals), (a_p2, .inr (2, [.ref a_p2_sorts, .ref a_p2_owners, .ref a_p2_worths, .ref a_p2_gave, .int v_p2_generation, .int v_p2_toll])), (a_p2_sorts, gI g 120 f_p2_sorts), (a_p2_owners, gI g 504 f_p2_owners)]) (fun L82 x3 x4 v_queued f_room f_came f_queue hL82 hw => ?_) _ _ _ _ _ _ hw
    refine j_iload C 84 rfl 4 dX1_lengthFor_82 rfl ?_
    refine j_sipush C 87 rfl dX1_lengthFor_84 (v := (1000 : Int32)) (by decide) ?_
    refine j_icmp_ge C 90 rfl 123 dX1_lengthFor_87 rfl (fun c => ?_) (fun c => ?_)
    · have hw := hw.1 c
      refine j_iload_n C 124 rfl 3 dX1_lengthFor_123 rfl rfl ?_
      exact j_iret C R (v_queued, f_room, f_came, f_queue, f_goals) rfl dX1_lengthFor_124 rfl hw
    · have hw := hw.2 c
      refine j_aload_n C 91 rfl 0 dX1_lengthFor_90 rfl rfl ?_
      refine j_iload_n C 92 rfl 1 dX1_lengthFor_91 rfl rfl ?_
      refine j_aload_n C 93 rfl 2 dX1_lengthFor_92 rfl rfl ?_
      refine j_rwi C 96 rfl (jc_V C (c_X1_seekGoal l g a_this a_room a_came a_queue a_goals a_p2 a_p2_sorts a_p2_owners a_p2_worths a_p2_gave v_queued f_room f_came f_queue f_goals v_p2_generation v_p2_toll f_p2_sorts f_p2_owners x1 _ hw) 2 gX1_lengthFor_X1_seekGoal rfl rfl rfl hd_X1_seekGoal ⟨Nat.le_of_ble_eq_true rfl, Nat.le_of_ble_eq_true rfl⟩ (j_rec C 0 1 rfl rfl) [0, 1, 2, 3, 4, 5, 6, 7] rfl rfl (rest := []) rfl rfl (Nat.le_of_ble_eq_true rfl) dX1_lengthFor_93 ⟨Nat.le_refl _, Nat.le_refl _⟩) [0, 1, 2, 3, 4, 5, 6, 7] [] [0, 1, 2, 3, 4, 5, 6, 7] (wr := []) (ws' := fun u => [(a_this, .inr (1, [.ref a_room, .ref a_came, .ref a_queue, .ref a_goals, .int (u.1)])), (a_room, gI g 480 f_room), (a_came, gI g 120 (u.2.1)), (a_queue, gI g 120 (u.2.2)), (a_goals, gZ g 120 f_goals), (a_p2, .inr (2, [.ref a_p2_sorts, .ref a_p2_owners, .ref a_p2_worths, .ref a_p2_gave, .int v_p2_generation, .int v_p2_toll])), (a_p2_sorts, gI g 120 f_p2_sorts), (a_p2_owners, gI g 504 f_p2_owners)]) rfl rfl rfl (by decide) rfl (fun _ => rfl) (fun r1 u hw => ?_)
      obtain ⟨u2, u3, u4⟩ := u
      try dsimp only at hw
      show J l g A x 6 0 0 96 [(0, .ref a_this), (1, .int x1), (2, .ref a_p2), (3, .int x3), (4, .int x4)] [.int r1] [(a_this, .inr (1, [.ref a_room, .ref a_came, .ref a_queue, .ref a_goals, .int u2])), (a_room, gI g 480 f_room), (a_came, gI g 120 u3), (a_queue, gI g 120 u4), (a_goals, gZ g 120 f_goals), (a_p2, .inr (2, [.ref a_p2_sorts, .ref a_p2_owners, .ref a_p2_worths, .ref a_p2_gave, .int v_p2_generation, .int v_p2_toll])), (a_p2_sorts, gI g 120 f_p2_sorts), (a_p2_owners, gI g 504 f_p2_owners)]
      refine j_istore C 98 rfl [1, 2, 3, 4, 5, 0] (lv' := [(0, .ref a_this), (1, .int x1), (2, .ref a_p2), (3, .int x3), (4, .int x4), (5, .int r1)]) dX1_lengthFor_96 (by decide) rfl ?_
      refine j_iload C 100 rfl 5 dX1_lengthFor_98 rfl ?_
      refine j_bipush C 102 rfl dX1_lengthFor_100 (v := (-6 : Int32)) (by decide) ?_
      refine j_icmp_ne C 105 rfl 108 dX1_lengthFor_102 rfl (fun c => ?_) (fun c => ?_)
      · have hw := hw.1 c
        refine j_iload_n C 109 rfl 3 dX1_lengthFor_108 rfl rfl ?_
        refine j_aload_n C 110 rfl 0 dX1_lengthFor_109 rfl rfl ?_
        refine j_iload C 112 rfl 5 dX1_lengthFor_110 rfl ?_
        refine j_rwi C 115 rfl (jc_V C (c_X1_streamTo l g a_this a_room a_came a_queue a_goals u2 f_room u3 r1 _ hw) 1 gX1_lengthFor_X1_streamTo rfl rfl rfl hd_X1_streamTo ⟨Nat.le_of_ble_eq_true rfl, Nat.le_of_ble_eq_true rfl⟩ (j_rec C 0 1 rfl rfl) [0, 1, 2] rfl rfl (rest := [.int x3]) rfl rfl (Nat.le_of_ble_eq_true rfl) dX1_lengthFor_112 ⟨Nat.le_refl _, Nat.le_refl _⟩) [0, 1, 2] [3, 4, 5, 6, 7] [5, 6, 7, 0, 1, 2, 3, 4] (wr := [(a_queue, gI g 120 u4), (a_goals, gZ g 120 f_goals), (a_p2, .inr (2, [.ref a_p2_sorts, .ref a_p2_owners, .ref a_p2_worths, .ref a_p2_gave, .int v_p2_generation, .int v_p2_toll])), (a_p2_sorts, gI g 120 f_p2_sorts), (a_p2_owners, gI g 504 f_p2_owners)]) (ws' := fun u => [(a_this, .inr (1, [.ref a_room, .ref a_came, .ref a_queue, .ref a_goals, .int u2])), (a_room, gI g 480 u), (a_came, gI g 120 u3), (a_queue, gI g 120 u4), (a_goals, gZ g 120 f_goals), (a_p2, .inr (2, [.ref a_p2_sorts, .ref a_p2_owners, .ref a_p2_worths, .ref a_p2_gave, .int v_p2_generation, .int v_p2_toll])), (a_p2_sorts, gI g 120 f_p2_sorts), (a_p2_owners, gI g 504 f_p2_owners)]) rfl rfl rfl (by decide) rfl (fun _ => rfl) (fun r5 u hw => ?_)
        obtain ⟨u6, eu6⟩ : ∃ z, z = u := ⟨_, rfl⟩
        subst eu6
        try dsimp only at hw
        show J l g A x 6 0 0 115 [(0, .ref a_this), (1, .int x1), (2, .ref a_p2), (3, .int x3), (4, .int x4), (5, .int r1)] [.int r5, .int x3] [(a_this, .inr (1, [.ref a_room, .ref a_came, .ref a_queue, .ref a_goals, .int u2])), (a_room, gI g 480 u6), (a_came, gI g 120 u3), (a_queue, gI g 120 u4), (a_goals, gZ g 120 f_goals), (a_p2, .inr (2, [.ref a_p2_sorts, .ref a_p2_owners, .ref a_p2_worths, .ref a_p2_gave, .int v_p2_generation, .int v_p2_toll])), (a_p2_sorts, gI g 120 f_p2_sorts), (a_p2_owners, gI g 504 f_p2_owners)]
        refine j_iadd C 116 rfl dX1_lengthFor_115 ?_
        refine j_top (fun n7 en7 => ?_)
        have hw := hw n7 en7
        refine j_istore_n C 117 rfl [1, 2, 3, 0, 4, 5] (lv' := [(0, .ref a_this), (1, .int x1), (2, .ref a_p2), (3, .int n7), (4, .int x4), (5, .int r1)]) dX1_lengthFor_116 rfl (by decide) rfl ?_
        refine j_iinc C 120 rfl 4 [1, 2, 3, 4, 0, 5] (v' := (1 : Int32)) (lv' := fun z => [(0, .ref a_this), (1, .int x1), (2, .ref a_p2), (3, .int n7), (4, .int z), (5, .int r1)]) dX1_lengthFor_117 rfl (by decide) (by decide) (fun _ => rfl) (fun n8 en8 => ?_)
        have hw := hw n8 en8
        refine j_goto C 82 dX1_lengthFor_120 rfl ?_
        refine j_lv [0, 1, 2, 3, 4] (lv' := [(0, .ref a_this), (1, .int x1), (2, .ref a_p2), (3, .int n7), (4, .int n8)]) rfl ?_
        exact hL82 _ _ _ _ _ _ hw
      · have hw := hw.2 c
        refine j_goto C 123 dX1_lengthFor_105 rfl ?_
        refine j_iload_n C 124 rfl 3 dX1_lengthFor_123 rfl rfl ?_
        exact j_iret C R (u2, f_room, u3, u4, f_goals) rfl dX1_lengthFor_124 rfl hw
  · have hw := hw.2 c
    refine j_iconst C 8 rfl dX1_lengthFor_7 (v := (0 : Int32)) (by decide) ?_
    refine j_istore C 10 rfl [1, 2, 3, 4, 0] (lv' := [(0, .ref a_this), (1, .int x1), (2, .ref a_p2), (3, .int x3), (4, .int (0 : Int32))]) dX1_lengthFor_8 (by decide) rfl ?_
    refine lpW3_ind (G := fun x4 f_room f_goals => J l g A x 6 0 0 10 [(0, .ref a_this), (1, .int x1), (2, .ref a_p2), (3, .int x3), (4, .int x4)] [] [(a_this, .inr (1, [.ref a_room, .ref a_came, .ref a_queue, .ref a_goals, .int v_queued])), (a_room, gI g 480 f_room), (a_came, gI g 120 f_came), (a_queue, gI g 120 f_queue), (a_goals, gZ g 120 f_goals), (a_p2, .inr (2, [.ref a_p2_sorts, .ref a_p2_owners, .ref a_p2_worths, .ref a_p2_gave, .int v_p2_generation, .int v_p2_toll])), (a_p2_sorts, gI g 120 f_p2_sorts), (a_p2_owners, gI g 504 f_p2_owners)]) (fun L10 x4 f_room f_goals hL10 hw => ?_) _ _ _ hw
    refine j_iload C 12 rfl 4 dX1_lengthFor_10 rfl ?_
    refine j_bipush C 14 rfl dX1_lengthFor_12 (v := (24 : Int32)) (by decide) ?_
    refine j_icmp_ge C 17 rfl 71 dX1_lengthFor_14 rfl (fun c => ?_) (fun c => ?_)
    · have hw := hw.1 c
      refine j_iinc C 74 rfl 3 [1, 2, 3, 0, 4] (v' := (1 : Int32)) (lv' := fun z => [(0, .ref a_this), (1, .int x1), (2, .ref a_p2), (3, .int z), (4, .int x4)]) dX1_lengthFor_71 rfl (by decide) (by decide) (fun _ => rfl) (fun n9 en9 => ?_)
      have hw := hw n9 en9
      refine j_goto C 2 dX1_lengthFor_74 rfl ?_
      refine j_lv [0, 1, 2, 3] (lv' := [(0, .ref a_this), (1, .int x1), (2, .ref a_p2), (3, .int n9)]) rfl ?_
      exact hL2 _ _ _ hw
    · have hw := hw.2 c
      refine j_iload_n C 18 rfl 3 dX1_lengthFor_17 rfl rfl ?_
      refine j_bipush C 20 rfl dX1_lengthFor_18 (v := (24 : Int32)) (by decide) ?_
      refine j_imul C 21 rfl dX1_lengthFor_20 ?_
      refine j_iload C 23 rfl 4 dX1_lengthFor_21 rfl ?_
      refine j_iadd C 24 rfl dX1_lengthFor_23 ?_
      refine j_top (fun n10 en10 => ?_)
      have hw := hw n10 en10
      refine j_istore C 26 rfl [1, 2, 3, 4, 5, 0] (lv' := [(0, .ref a_this), (1, .int x1), (2, .ref a_p2), (3, .int x3), (4, .int x4), (5, .int n10)]) dX1_lengthFor_24 (by decide) rfl ?_
      refine j_aload_n C 27 rfl 0 dX1_lengthFor_26 rfl rfl ?_
      refine j_get C 30 rfl 0 1 3 (T := TX1) (N := 5) hi_X1_lengthFor_X1 rfl (by decide) (List.mem_of_getElem? (i := 1) rfl) rfl rfl rfl dX1_lengthFor_27 ?_
      refine j_iload C 32 rfl 5 dX1_lengthFor_30 rfl ?_
      refine j_aload_n C 33 rfl 2 dX1_lengthFor_32 rfl rfl ?_
      refine j_iload_n C 34 rfl 3 dX1_lengthFor_33 rfl rfl ?_
      refine j_iload C 36 rfl 4 dX1_lengthFor_34 rfl ?_
      refine j_ri C 39 rfl (jc_V C (c_X2_sortAt l g a_p2 a_p2_sorts a_p2_owners a_p2_worths a_p2_gave v_p2_generation v_p2_toll f_p2_sorts x3 x4 _ hw) 2 gX1_lengthFor_X2_sortAt rfl rfl rfl hd_X2_sortAt ⟨Nat.le_of_ble_eq_true rfl, Nat.le_of_ble_eq_true rfl⟩ (j_rec C 5 2 rfl rfl) [5, 6] rfl rfl (rest := [.int n10, .ref a_goals]) rfl rfl (Nat.le_of_ble_eq_true rfl) dX1_lengthFor_36 ⟨Nat.le_refl _, Nat.le_refl _⟩) [5, 6] rfl (fun _ => rfl) (fun r11 _ hw => ?_)
      try dsimp only at hw
      refine j_if_ne C 42 rfl 56 dX1_lengthFor_39 rfl (fun c => ?_) (fun c => ?_)
      · have hw := hw.1 c
        refine j_iconst C 57 rfl dX1_lengthFor_56 (v := (0 : Int32)) (by decide) ?_
        obtain ⟨k12, ek12, hk12, hw⟩ := hw
        refine j_zast C 58 rfl 4 k12 (ws' := [(a_this, .inr (1, [.ref a_room, .ref a_came, .ref a_queue, .ref a_goals, .int v_queued])), (a_room, gI g 480 f_room), (a_came, gI g 120 f_came), (a_queue, gI g 120 f_queue), (a_goals, gZ g 120 (upd f_goals k12 (vp_nar .boolean (0 : Int32)))), (a_p2, .inr (2, [.ref a_p2_sorts, .ref a_p2_owners, .ref a_p2_worths, .ref a_p2_gave, .int v_p2_generation, .int v_p2_toll])), (a_p2_sorts, gI g 120 f_p2_sorts), (a_p2_owners, gI g 504 f_p2_owners)]) rfl ek12 hk12 (by decide) rfl dX1_lengthFor_57 ?_
        refine j_aload_n C 59 rfl 0 dX1_lengthFor_58 rfl rfl ?_
        refine j_iload C 61 rfl 5 dX1_lengthFor_59 rfl ?_
        refine j_iload_n C 62 rfl 3 dX1_lengthFor_61 rfl rfl ?_
        refine j_rwv C 65 rfl (jc_V C (c_X1_openSides l g a_this a_room a_came a_queue a_goals v_queued f_room n10 x3 _ hw) 2 gX1_lengthFor_X1_openSides rfl rfl rfl hd_X1_openSides ⟨Nat.le_of_ble_eq_true rfl, Nat.le_of_ble_eq_true rfl⟩ (j_rec C 0 1 rfl rfl) [0, 1] rfl rfl (rest := []) rfl rfl (Nat.le_of_ble_eq_true rfl) dX1_lengthFor_62 ⟨Nat.le_refl _, Nat.le_refl _⟩) [0, 1] [2, 3, 4, 5, 6, 7] [6, 7, 0, 1, 2, 3, 4, 5] (wr := [(a_came, gI g 120 f_came), (a_queue, gI g 120 f_queue), (a_goals, gZ g 120 (upd f_goals k12 (vp_nar .boolean (0 : Int32)))), (a_p2, .inr (2, [.ref a_p2_sorts, .ref a_p2_owners, .ref a_p2_worths, .ref a_p2_gave, .int v_p2_generation, .int v_p2_toll])), (a_p2_sorts, gI g 120 f_p2_sorts), (a_p2_owners, gI g 504 f_p2_owners)]) (ws' := fun u => [(a_this, .inr (1, [.ref a_room, .ref a_came, .ref a_queue, .ref a_goals, .int v_queued])), (a_room, gI g 480 u), (a_came, gI g 120 f_came), (a_queue, gI g 120 f_queue), (a_goals, gZ g 120 (upd f_goals k12 (vp_nar .boolean (0 : Int32)))), (a_p2, .inr (2, [.ref a_p2_sorts, .ref a_p2_owners, .ref a_p2_worths, .ref a_p2_gave, .int v_p2_generation, .int v_p2_toll])), (a_p2_sorts, gI g 120 f_p2_sorts), (a_p2_owners, gI g 504 f_p2_owners)]) rfl rfl rfl (by decide) rfl (fun _ => rfl) (fun u hw => ?_)
        obtain ⟨u13, eu13⟩ : ∃ z, z = u := ⟨_, rfl⟩
        subst eu13
        try dsimp only at hw
        show J l g A x 6 0 0 65 [(0, .ref a_this), (1, .int x1), (2, .ref a_p2), (3, .int x3), (4, .int x4), (5, .int n10)] [] [(a_this, .inr (1, [.ref a_room, .ref a_came, .ref a_queue, .ref a_goals, .int v_queued])), (a_room, gI g 480 u13), (a_came, gI g 120 f_came), (a_queue, gI g 120 f_queue), (a_goals, gZ g 120 (upd f_goals k12 (vp_nar .boolean (0 : Int32)))), (a_p2, .inr (2, [.ref a_p2_sorts, .ref a_p2_owners, .ref a_p2_worths, .ref a_p2_gave, .int v_p2_generation, .int v_p2_toll])), (a_p2_sorts, gI g 120 f_p2_sorts), (a_p2_owners, gI g 504 f_p2_owners)]
        refine j_iinc C 68 rfl 4 [1, 2, 3, 4, 0, 5] (v' := (1 : Int32)) (lv' := fun z => [(0, .ref a_this), (1, .int x1), (2, .ref a_p2), (3, .int x3), (4, .int z), (5, .int n10)]) dX1_lengthFor_65 rfl (by decide) (by decide) (fun _ => rfl) (fun n14 en14 => ?_)
        have hw := hw n14 en14
        refine j_goto C 10 dX1_lengthFor_68 rfl ?_
        refine j_lv [0, 1, 2, 3, 4] (lv' := [(0, .ref a_this), (1, .int x1), (2, .ref a_p2), (3, .int x3), (4, .int n14)]) rfl ?_
        exact hL10 _ _ _ hw
      · have hw := hw.2 c
        refine j_aload_n C 43 rfl 2 dX1_lengthFor_42 rfl rfl ?_
        refine j_iload C 45 rfl 4 dX1_lengthFor_43 rfl ?_
        refine j_ri C 48 rfl (jc_V C (c_X2_ownerOf l g a_p2 a_p2_sorts a_p2_owners a_p2_worths a_p2_gave v_p2_generation v_p2_toll f_p2_owners x4 _ hw) 1 gX1_lengthFor_X2_ownerOf rfl rfl rfl hd_X2_ownerOf ⟨Nat.le_of_ble_eq_true rfl, Nat.le_of_ble_eq_true rfl⟩ (j_rec C 5 2 rfl rfl) [5, 7] rfl rfl (rest := [.int n10, .ref a_goals]) rfl rfl (Nat.le_of_ble_eq_true rfl) dX1_lengthFor_45 ⟨Nat.le_refl _, Nat.le_refl _⟩) [5, 7] rfl (fun _ => rfl) (fun r15 _ hw => ?_)
        try dsimp only at hw
        refine j_iload_n C 49 rfl 1 dX1_lengthFor_48 rfl rfl ?_
        refine j_icmp_eq C 52 rfl 56 dX1_lengthFor_49 rfl (fun c => ?_) (fun c => ?_)
        · have hw := hw.1 c
          refine j_iconst C 57 rfl dX1_lengthFor_56 (v := (0 : Int32)) (by decide) ?_
          obtain ⟨k16, ek16, hk16, hw⟩ := hw
          refine j_zast C 58 rfl 4 k16 (ws' := [(a_this, .inr (1, [.ref a_room, .ref a_came, .ref a_queue, .ref a_goals, .int v_queued])), (a_room, gI g 480 f_room), (a_came, gI g 120 f_came), (a_queue, gI g 120 f_queue), (a_goals, gZ g 120 (upd f_goals k16 (vp_nar .boolean (0 : Int32)))), (a_p2, .inr (2, [.ref a_p2_sorts, .ref a_p2_owners, .ref a_p2_worths, .ref a_p2_gave, .int v_p2_generation, .int v_p2_toll])), (a_p2_sorts, gI g 120 f_p2_sorts), (a_p2_owners, gI g 504 f_p2_owners)]) rfl ek16 hk16 (by decide) rfl dX1_lengthFor_57 ?_
          refine j_aload_n C 59 rfl 0 dX1_lengthFor_58 rfl rfl ?_
          refine j_iload C 61 rfl 5 dX1_lengthFor_59 rfl ?_
          refine j_iload_n C 62 rfl 3 dX1_lengthFor_61 rfl rfl ?_
          refine j_rwv C 65 rfl (jc_V C (c_X1_openSides l g a_this a_room a_came a_queue a_goals v_queued f_room n10 x3 _ hw) 2 gX1_lengthFor_X1_openSides rfl rfl rfl hd_X1_openSides ⟨Nat.le_of_ble_eq_true rfl, Nat.le_of_ble_eq_true rfl⟩ (j_rec C 0 1 rfl rfl) [0, 1] rfl rfl (rest := []) rfl rfl (Nat.le_of_ble_eq_true rfl) dX1_lengthFor_62 ⟨Nat.le_refl _, Nat.le_refl _⟩) [0, 1] [2, 3, 4, 5, 6, 7] [6, 7, 0, 1, 2, 3, 4, 5] (wr := [(a_came, gI g 120 f_came), (a_queue, gI g 120 f_queue), (a_goals, gZ g 120 (upd f_goals k16 (vp_nar .boolean (0 : Int32)))), (a_p2, .inr (2, [.ref a_p2_sorts, .ref a_p2_owners, .ref a_p2_worths, .ref a_p2_gave, .int v_p2_generation, .int v_p2_toll])), (a_p2_sorts, gI g 120 f_p2_sorts), (a_p2_owners, gI g 504 f_p2_owners)]) (ws' := fun u => [(a_this, .inr (1, [.ref a_room, .ref a_came, .ref a_queue, .ref a_goals, .int v_queued])), (a_room, gI g 480 u), (a_came, gI g 120 f_came), (a_queue, gI g 120 f_queue), (a_goals, gZ g 120 (upd f_goals k16 (vp_nar .boolean (0 : Int32)))), (a_p2, .inr (2, [.ref a_p2_sorts, .ref a_p2_owners, .ref a_p2_worths, .ref a_p2_gave, .int v_p2_generation, .int v_p2_toll])), (a_p2_sorts, gI g 120 f_p2_sorts), (a_p2_owners, gI g 504 f_p2_owners)]) rfl rfl rfl (by decide) rfl (fun _ => rfl) (fun u hw => ?_)
          obtain ⟨u17, eu17⟩ : ∃ z, z = u := ⟨_, rfl⟩
          subst eu17
          try dsimp only at hw
          show J l g A x 6 0 0 65 [(0, .ref a_this), (1, .int x1), (2, .ref a_p2), (3, .int x3), (4, .int x4), (5, .int n10)] [] [(a_this, .inr (1, [.ref a_room, .ref a_came, .ref a_queue, .ref a_goals, .int v_queued])), (a_room, gI g 480 u17), (a_came, gI g 120 f_came), (a_queue, gI g 120 f_queue), (a_goals, gZ g 120 (upd f_goals k16 (vp_nar .boolean (0 : Int32)))), (a_p2, .inr (2, [.ref a_p2_sorts, .ref a_p2_owners, .ref a_p2_worths, .ref a_p2_gave, .int v_p2_generation, .int v_p2_toll])), (a_p2_sorts, gI g 120 f_p2_sorts), (a_p2_owners, gI g 504 f_p2_owners)]
          refine j_iinc C 68 rfl 4 [1, 2, 3, 4, 0, 5] (v' := (1 : Int32)) (lv' := fun z => [(0, .ref a_this), (1, .int x1), (2, .ref a_p2), (3, .int x3), (4, .int z), (5, .int n10)]) dX1_lengthFor_65 rfl (by decide) (by decide) (fun _ => rfl) (fun n18 en18 => ?_)
          have hw := hw n18 en18
          refine j_goto C 10 dX1_lengthFor_68 rfl ?_
          refine j_lv [0, 1, 2, 3, 4] (lv' := [(0, .ref a_this), (1, .int x1), (2, .ref a_p2), (3, .int x3), (4, .int n18)]) rfl ?_
          exact hL10 _ _ _ hw
        · have hw := hw.2 c
          refine j_iconst C 53 rfl dX1_lengthFor_52 (v := (1 : Int32)) (by decide) ?_
          refine j_goto C 57 dX1_lengthFor_53 rfl ?_
          obtain ⟨k19, ek19, hk19, hw⟩ := hw
          refine j_zast C 58 rfl 4 k19 (ws' := [(a_this, .inr (1, [.ref a_room, .ref a_came, .ref a_queue, .ref a_goals, .int v_queued])), (a_room, gI g 480 f_room), (a_came, gI g 120 f_came), (a_queue, gI g 120 f_queue), (a_goals, gZ g 120 (upd f_goals k19 (vp_nar .boolean (1 : Int32)))), (a_p2, .inr (2, [.ref a_p2_sorts, .ref a_p2_owners, .ref a_p2_worths, .ref a_p2_gave, .int v_p2_generation, .int v_p2_toll])), (a_p2_sorts, gI g 120 f_p2_sorts), (a_p2_owners, gI g 504 f_p2_owners)]) rfl ek19 hk19 (by decide) rfl dX1_lengthFor_57 ?_
          refine j_aload_n C 59 rfl 0 dX1_lengthFor_58 rfl rfl ?_
          refine j_iload C 61 rfl 5 dX1_lengthFor_59 rfl ?_
          refine j_iload_n C 62 rfl 3 dX1_lengthFor_61 rfl rfl ?_
          refine j_rwv C 65 rfl (jc_V C (c_X1_openSides l g a_this a_room a_came a_queue a_goals v_queued f_room n10 x3 _ hw) 2 gX1_lengthFor_X1_openSides rfl rfl rfl hd_X1_openSides ⟨Nat.le_of_ble_eq_true rfl, Nat.le_of_ble_eq_true rfl⟩ (j_rec C 0 1 rfl rfl) [0, 1] rfl rfl (rest := []) rfl rfl (Nat.le_of_ble_eq_true rfl) dX1_lengthFor_62 ⟨Nat.le_refl _, Nat.le_refl _⟩) [0, 1] [2, 3, 4, 5, 6, 7] [6, 7, 0, 1, 2, 3, 4, 5] (wr := [(a_came, gI g 120 f_came), (a_queue, gI g 120 f_queue), (a_goals, gZ g 120 (upd f_goals k19 (vp_nar .boolean (1 : Int32)))), (a_p2, .inr (2, [.ref a_p2_sorts, .ref a_p2_owners, .ref a_p2_worths, .ref a_p2_gave, .int v_p2_generation, .int v_p2_toll])), (a_p2_sorts, gI g 120 f_p2_sorts), (a_p2_owners, gI g 504 f_p2_owners)]) (ws' := fun u => [(a_this, .inr (1, [.ref a_room, .ref a_came, .ref a_queue, .ref a_goals, .int v_queued])), (a_room, gI g 480 u), (a_came, gI g 120 f_came), (a_queue, gI g 120 f_queue), (a_goals, gZ g 120 (upd f_goals k19 (vp_nar .boolean (1 : Int32)))), (a_p2, .inr (2, [.ref a_p2_sorts, .ref a_p2_owners, .ref a_p2_worths, .ref a_p2_gave, .int v_p2_generation, .int v_p2_toll])), (a_p2_sorts, gI g 120 f_p2_sorts), (a_p2_owners, gI g 504 f_p2_owners)]) rfl rfl rfl (by decide) rfl (fun _ => rfl) (fun u hw => ?_)
          obtain ⟨u20, eu20⟩ : ∃ z, z = u := ⟨_, rfl⟩
          subst eu20
          try dsimp only at hw
          show J l g A x 6 0 0 65 [(0, .ref a_this), (1, .int x1), (2, .ref a_p2), (3, .int x3), (4, .int x4), (5, .int n10)] [] [(a_this, .inr (1, [.ref a_room, .ref a_came, .ref a_queue, .ref a_goals, .int v_queued])), (a_room, gI g 480 u20), (a_came, gI g 120 f_came), (a_queue, gI g 120 f_queue), (a_goals, gZ g 120 (upd f_goals k19 (vp_nar .boolean (1 : Int32)))), (a_p2, .inr (2, [.ref a_p2_sorts, .ref a_p2_owners, .ref a_p2_worths, .ref a_p2_gave, .int v_p2_generation, .int v_p2_toll])), (a_p2_sorts, gI g 120 f_p2_sorts), (a_p2_owners, gI g 504 f_p2_owners)]
          refine j_iinc C 68 rfl 4 [1, 2, 3, 4, 0, 5] (v' := (1 : Int32)) (lv' := fun z => [(0, .ref a_this), (1, .int x1), (2, .ref a_p2), (3, .int x3), (4, .int z), (5, .int n10)]) dX1_lengthFor_65 rfl (by decide) (by decide) (fun _ => rfl) (fun n21 en21 => ?_)
          have hw := hw n21 en21
          refine j_goto C 10 dX1_lengthFor_68 rfl ?_
          refine j_lv [0, 1, 2, 3, 4] (lv' := [(0, .ref a_this), (1, .int x1), (2, .ref a_p2), (3, .int x3), (4, .int n21)]) rfl ?_
          exact hL10 _ _ _ hw
