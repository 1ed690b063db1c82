/-! printed by wip/whole/gen: contracts over the machine -/
set_option maxRecDepth 20000 in
set_option maxHeartbeats 4000000 in
theorem c_X5_in (l : Launch) (g : gE)  (x0 : Int32) (x1 : Int32) (x2 : Int32)  (K : Int32 → Prop) (hw : wp_X5_in x0 x1 x2 K) : Ci l g yX5_in wsX5_in { frames := 0, cells := 0, slots := 0, locals := 0 } [.int x0, .int x1, .int x2] [] (fun (r : Int32) (_ : Unit) => K r) (fun (_ : Unit) => []) 0 0 := by
  refine Ci_of (cc := cX5_in) (nL := 3) (ret := (some .boolean)) (own := RX5) (lv0 := [(0, .int x0), (1, .int x1), (2, .int x2)]) (by decide +kernel) rfl rfl (Nat.le_of_ble_eq_true rfl) rfl (fun A x C R => ?_)
  refine j_iload_n C 1 rfl 0 dX5_in_0 rfl rfl ?_
  refine j_iload_n C 2 rfl 1 dX5_in_1 rfl rfl ?_
  refine j_icmp_lt C 5 rfl 14 dX5_in_2 rfl (fun c => ?_) (fun c => ?_)
  · have hw := hw.1 c
    refine j_iconst C 15 rfl dX5_in_14 (v := (0 : Int32)) (by decide) ?_
    exact j_iret C R () rfl dX5_in_15 rfl hw
  · have hw := hw.2 c
    refine j_iload_n C 6 rfl 0 dX5_in_5 rfl rfl ?_
    refine j_iload_n C 7 rfl 2 dX5_in_6 rfl rfl ?_
    refine j_icmp_gt C 10 rfl 14 dX5_in_7 rfl (fun c => ?_) (fun c => ?_)
    · have hw := hw.1 c
      refine j_iconst C 15 rfl dX5_in_14 (v := (0 : Int32)) (by decide) ?_
      exact j_iret C R () rfl dX5_in_15 rfl hw
    · have hw := hw.2 c
      refine j_iconst C 11 rfl dX5_in_10 (v := (1 : Int32)) (by decide) ?_
      refine j_goto C 15 dX5_in_11 rfl ?_
      exact j_iret C R () rfl dX5_in_15 rfl hw
set_option maxRecDepth 20000 in
set_option maxHeartbeats 4000000 in
theorem c_X5_isHeir (l : Launch) (g : gE)  (x0 : Int32)  (K : Int32 → Prop) (hw : wp_X5_isHeir x0 K) : Ci l g yX5_isHeir wsX5_isHeir { frames := 1, cells := 0, slots := 0, locals := 22 } [.int x0] [] (fun (r : Int32) (_ : Unit) => K r) (fun (_ : Unit) => []) 0 0 := by
  refine Ci_of (cc := cX5_isHeir) (nL := 1) (ret := (some .boolean)) (own := RX5) (lv0 := [(0, .int x0)]) (by decide +kernel) rfl rfl (Nat.le_of_ble_eq_true rfl) rfl (fun A x C R => ?_)
  refine j_iload_n C 1 rfl 0 dX5_isHeir_0 rfl rfl ?_
  refine j_iconst C 2 rfl dX5_isHeir_1 (v := (0 : Int32)) (by decide) ?_
  refine j_iconst C 3 rfl dX5_isHeir_2 (v := (5 : Int32)) (by decide) ?_
  refine j_ri C 6 rfl (jc_S C (c_X5_in l g x0 (0 : Int32) (5 : Int32) _ hw) 3 gX5_isHeir_X5_in rfl rfl rfl hd_X5_in ⟨Nat.le_of_ble_eq_true rfl, Nat.le_of_ble_eq_true rfl⟩ [] rfl rfl (rest := []) rfl rfl (Nat.le_of_ble_eq_true rfl) dX5_isHeir_3 ⟨Nat.le_refl _, Nat.le_refl _⟩) [] rfl (fun _ => rfl) (fun r1 _ hw => ?_)
  try dsimp only at hw
  obtain ⟨hn, hw⟩ := hw
  exact j_iret C R () hn dX5_isHeir_6 rfl hw
set_option maxRecDepth 20000 in
set_option maxHeartbeats 4000000 in
theorem c_X5_isSector (l : Launch) (g : gE)  (x0 : Int32)  (K : Int32 → Prop) (hw : wp_X5_isSector x0 K) : Ci l g yX5_isSector wsX5_isSector { frames := 1, cells := 0, slots := 0, locals := 22 } [.int x0] [] (fun (r : Int32) (_ : Unit) => K r) (fun (_ : Unit) => []) 0 0 := by
  refine Ci_of (cc := cX5_isSector) (nL := 1) (ret := (some .boolean)) (own := RX5) (lv0 := [(0, .int x0)]) (by decide +kernel) rfl rfl (Nat.le_of_ble_eq_true rfl) rfl (fun A x C R => ?_)
  refine j_iload_n C 1 rfl 0 dX5_isSector_0 rfl rfl ?_
  refine j_iconst C 2 rfl dX5_isSector_1 (v := (0 : Int32)) (by decide) ?_
  refine j_bipush C 4 rfl dX5_isSector_2 (v := (23 : Int32)) (by decide) ?_
  refine j_ri C 7 rfl (jc_S C (c_X5_in l g x0 (0 : Int32) (23 : Int32) _ hw) 3 gX5_isSector_X5_in rfl rfl rfl hd_X5_in ⟨Nat.le_of_ble_eq_true rfl, Nat.le_of_ble_eq_true rfl⟩ [] rfl rfl (rest := []) rfl rfl (Nat.le_of_ble_eq_true rfl) dX5_isSector_4 ⟨Nat.le_refl _, Nat.le_refl _⟩) [] rfl (fun _ => rfl) (fun r1 _ hw => ?_)
  try dsimp only at hw
  obtain ⟨hn, hw⟩ := hw
  exact j_iret C R () hn dX5_isSector_7 rfl hw
set_option maxRecDepth 20000 in
set_option maxHeartbeats 4000000 in
theorem c_X5_isRing (l : Launch) (g : gE)  (x0 : Int32)  (K : Int32 → Prop) (hw : wp_X5_isRing x0 K) : Ci l g yX5_isRing wsX5_isRing { frames := 1, cells := 0, slots := 0, locals := 22 } [.int x0] [] (fun (r : Int32) (_ : Unit) => K r) (fun (_ : Unit) => []) 0 0 := by
  refine Ci_of (cc := cX5_isRing) (nL := 1) (ret := (some .boolean)) (own := RX5) (lv0 := [(0, .int x0)]) (by decide +kernel) rfl rfl (Nat.le_of_ble_eq_true rfl) rfl (fun A x C R => ?_)
  refine j_iload_n C 1 rfl 0 dX5_isRing_0 rfl rfl ?_
  refine j_iconst C 2 rfl dX5_isRing_1 (v := (0 : Int32)) (by decide) ?_
  refine j_iconst C 3 rfl dX5_isRing_2 (v := (4 : Int32)) (by decide) ?_
  refine j_ri C 6 rfl (jc_S C (c_X5_in l g x0 (0 : Int32) (4 : Int32) _ hw) 3 gX5_isRing_X5_in rfl rfl rfl hd_X5_in ⟨Nat.le_of_ble_eq_true rfl, Nat.le_of_ble_eq_true rfl⟩ [] rfl rfl (rest := []) rfl rfl (Nat.le_of_ble_eq_true rfl) dX5_isRing_3 ⟨Nat.le_refl _, Nat.le_refl _⟩) [] rfl (fun _ => rfl) (fun r1 _ hw => ?_)
  try dsimp only at hw
  obtain ⟨hn, hw⟩ := hw
  exact j_iret C R () hn dX5_isRing_6 rfl hw
set_option maxRecDepth 20000 in
set_option maxHeartbeats 4000000 in
theorem c_X5_hasBit (l : Launch) (g : gE)  (x0 : Int32) (x1 : Int32)  (K : Int32 → Prop) (hw : wp_X5_hasBit x0 x1 K) : Ci l g yX5_hasBit wsX5_hasBit { frames := 0, cells := 0, slots := 0, locals := 0 } [.int x0, .int x1] [] (fun (r : Int32) (_ : Unit) => K r) (fun (_ : Unit) => []) 0 0 := by
  refine Ci_of (cc := cX5_hasBit) (nL := 2) (ret := (some .boolean)) (own := RX5) (lv0 := [(0, .int x0), (1, .int x1)]) (by decide +kernel) rfl rfl (Nat.le_of_ble_eq_true rfl) rfl (fun A x C R => ?_)
  refine j_iload_n C 1 rfl 0 dX5_hasBit_0 rfl rfl ?_
  refine j_iload_n C 2 rfl 1 dX5_hasBit_1 rfl rfl ?_
  refine j_ishr C 3 rfl dX5_hasBit_2 ?_
  refine j_iconst C 4 rfl dX5_hasBit_3 (v := (1 : Int32)) (by decide) ?_
  refine j_iand C 5 rfl dX5_hasBit_4 ?_
  refine j_iconst C 6 rfl dX5_hasBit_5 (v := (1 : Int32)) (by decide) ?_
  refine j_icmp_ne C 9 rfl 13 dX5_hasBit_6 rfl (fun c => ?_) (fun c => ?_)
  · have hw := hw.1 c
    refine j_iconst C 14 rfl dX5_hasBit_13 (v := (0 : Int32)) (by decide) ?_
    exact j_iret C R () rfl dX5_hasBit_14 rfl hw
  · have hw := hw.2 c
    refine j_iconst C 10 rfl dX5_hasBit_9 (v := (1 : Int32)) (by decide) ?_
    refine j_goto C 14 dX5_hasBit_10 rfl ?_
    exact j_iret C R () rfl dX5_hasBit_14 rfl hw
set_option maxRecDepth 20000 in
set_option maxHeartbeats 4000000 in
theorem c_X5_next (l : Launch) (g : gE)  (x0 : Int32)  (K : Int32 → Prop) (hw : wp_X5_next x0 K) : Ci l g yX5_next wsX5_next { frames := 0, cells := 0, slots := 0, locals := 0 } [.int x0] [] (fun (r : Int32) (_ : Unit) => K r) (fun (_ : Unit) => []) 0 0 := by
  refine Ci_of (cc := cX5_next) (nL := 1) (ret := (some .int)) (own := RX5) (lv0 := [(0, .int x0)]) (by decide +kernel) rfl rfl (Nat.le_of_ble_eq_true rfl) rfl (fun A x C R => ?_)
  refine j_iload_n C 1 rfl 0 dX5_next_0 rfl rfl ?_
  refine j_iconst C 2 rfl dX5_next_1 (v := (1 : Int32)) (by decide) ?_
  refine j_iadd C 3 rfl dX5_next_2 ?_
  refine j_bipush C 5 rfl dX5_next_3 (v := (24 : Int32)) (by decide) ?_
  refine j_irem C 6 rfl dX5_next_5 (by decide) ?_
  exact j_iret C R () rfl dX5_next_6 rfl hw
set_option maxRecDepth 20000 in
set_option maxHeartbeats 4000000 in
theorem c_X5_before (l : Launch) (g : gE)  (x0 : Int32)  (K : Int32 → Prop) (hw : wp_X5_before x0 K) : Ci l g yX5_before wsX5_before { frames := 0, cells := 0, slots := 0, locals := 0 } [.int x0] [] (fun (r : Int32) (_ : Unit) => K r) (fun (_ : Unit) => []) 0 0 := by
  refine Ci_of (cc := cX5_before) (nL := 1) (ret := (some .int)) (own := RX5) (lv0 := [(0, .int x0)]) (by decide +kernel) rfl rfl (Nat.le_of_ble_eq_true rfl) rfl (fun A x C R => ?_)
  refine j_iload_n C 1 rfl 0 dX5_before_0 rfl rfl ?_
  refine j_bipush C 3 rfl dX5_before_1 (v := (24 : Int32)) (by decide) ?_
  refine j_iadd C 4 rfl dX5_before_3 ?_
  refine j_iconst C 5 rfl dX5_before_4 (v := (1 : Int32)) (by decide) ?_
  refine j_isub C 6 rfl dX5_before_5 ?_
  refine j_bipush C 8 rfl dX5_before_6 (v := (24 : Int32)) (by decide) ?_
  refine j_irem C 9 rfl dX5_before_8 (by decide) ?_
  exact j_iret C R () rfl dX5_before_9 rfl hw
theorem hi_X5_say_X5 : ∀ w ∈ wsX50, w ∈ wsX5_say := fun _ h => List.mem_cons_of_mem _ (List.mem_append_right _ h)
set_option maxRecDepth 20000 in
set_option maxHeartbeats 4000000 in
theorem c_X5_say (l : Launch) (g : gE) (a_this a_pad a_sort a_heir a_was a_worth a_rights a_ahead a_bound a_owner a_foundBound a_foundOwner a_beside a_upward a_from a_queue a_image a_isKept : Nat) (v_signs : Int32) (v_generations : Int32) (v_toll : Int32) (v_foundLeast : Int32) (v_stops : Int32) (f_pad : (Nat → Int32)) (x1 : Int32)  (K : Int32 → Int32 → (Nat → Int32) → Prop) (hw : wp_X5_say v_signs f_pad x1 K) : Ci l g yX5_say wsX5_say { frames := 1, cells := 0, slots := 0, locals := 22 } [.ref a_this, .int x1] [(a_this, .inr (5, [.int v_signs, .ref a_pad, .ref a_sort, .ref a_heir, .int v_generations, .ref a_was, .ref a_worth, .int v_toll, .ref a_rights, .ref a_ahead, .ref a_bound, .ref a_owner, .ref a_foundBound, .ref a_foundOwner, .int v_foundLeast, .int v_stops, .ref a_beside, .ref a_upward, .ref a_from, .ref a_queue, .ref a_image, .ref a_isKept])), (a_pad, gI g 60 f_pad)] (fun (r : Int32) (u : Int32 × (Nat → Int32)) => K r u.1 u.2) (fun (u : Int32 × (Nat → Int32)) => [(a_this, .inr (5, [.int (u.1), .ref a_pad, .ref a_sort, .ref a_heir, .int v_generations, .ref a_was, .ref a_worth, .int v_toll, .ref a_rights, .ref a_ahead, .ref a_bound, .ref a_owner, .ref a_foundBound, .ref a_foundOwner, .int v_foundLeast, .int v_stops, .ref a_beside, .ref a_upward, .ref a_from, .ref a_queue, .ref a_image, .ref a_isKept])), (a_pad, gI g 60 (u.2))]) 0 0 := by
  refine Ci_of (cc := cX5_say) (nL := 2) (ret := (some .int)) (own := RX5) (lv0 := [(0, .ref a_this), (1, .int x1)]) (by decide +kernel) rfl rfl (Nat.le_of_ble_eq_true rfl) rfl (fun A x C R => ?_)
  refine j_iload_n C 1 rfl 1 dX5_say_0 rfl rfl ?_
  refine j_bipush C 3 rfl dX5_say_1 (v := (33 : Int32)) (by decide) ?_
  refine j_bipush C 5 rfl dX5_say_3 (v := (126 : Int32)) (by decide) ?_
  refine j_ri C 8 rfl (jc_S C (c_X5_in l g x1 (33 : Int32) (126 : Int32) _ hw) 3 gX5_say_X5_in rfl rfl rfl hd_X5_in ⟨Nat.le_of_ble_eq_true rfl, Nat.le_of_ble_eq_true rfl⟩ [] rfl rfl (rest := []) rfl rfl (Nat.le_of_ble_eq_true rfl) dX5_say_5 ⟨Nat.le_refl _, Nat.le_refl _⟩) [] rfl (fun _ => rfl) (fun r1 _ hw => ?_)
  try dsimp only at hw
  refine j_if_ne C 11 rfl 14 dX5_say_8 rfl (fun c => ?_) (fun c => ?_)
  · have hw := hw.1 c
    refine j_aload_n C 15 rfl 0 dX5_say_14 rfl rfl ?_
    refine j_get C 18 rfl 0 5 0 (T := TX5) (N := 22) hi_X5_say_X5 rfl (by decide) (List.mem_of_getElem? (i := 1) rfl) rfl rfl rfl dX5_say_15 ?_
    refine j_bipush C 20 rfl dX5_say_18 (v := (60 : Int32)) (by decide) ?_
    refine j_icmp_ne C 23 rfl 26 dX5_say_20 rfl (fun c => ?_) (fun c => ?_)
    · have hw := hw.1 c
      refine j_aload_n C 27 rfl 0 dX5_say_26 rfl rfl ?_
      refine j_get C 30 rfl 0 5 1 (T := TX5) (N := 22) hi_X5_say_X5 rfl (by decide) (List.mem_of_getElem? (i := 2) rfl) rfl rfl rfl dX5_say_27 ?_
      refine j_aload_n C 31 rfl 0 dX5_say_30 rfl rfl ?_
      refine j_get C 34 rfl 0 5 0 (T := TX5) (N := 22) hi_X5_say_X5 rfl (by decide) (List.mem_of_getElem? (i := 1) rfl) rfl rfl rfl dX5_say_31 ?_
      refine j_iload_n C 35 rfl 1 dX5_say_34 rfl rfl ?_
      obtain ⟨k2, ek2, hk2, hw⟩ := hw
      refine j_iast C 36 rfl 1 k2 (ws' := [(a_this, .inr (5, [.int v_signs, .ref a_pad, .ref a_sort, .ref a_heir, .int v_generations, .ref a_was, .ref a_worth, .int v_toll, .ref a_rights, .ref a_ahead, .ref a_bound, .ref a_owner, .ref a_foundBound, .ref a_foundOwner, .int v_foundLeast, .int v_stops, .ref a_beside, .ref a_upward, .ref a_from, .ref a_queue, .ref a_image, .ref a_isKept])), (a_pad, gI g 60 (upd f_pad k2 x1))]) rfl ek2 hk2 (by decide) rfl dX5_say_35 ?_
      refine j_aload_n C 37 rfl 0 dX5_say_36 rfl rfl ?_
      refine j_dup C 38 rfl dX5_say_37 rfl ?_
      refine j_get C 41 rfl 0 5 0 (T := TX5) (N := 22) hi_X5_say_X5 rfl (by decide) (List.mem_of_getElem? (i := 1) rfl) rfl rfl rfl dX5_say_38 ?_
      refine j_iconst C 42 rfl dX5_say_41 (v := (1 : Int32)) (by decide) ?_
      refine j_iadd C 43 rfl dX5_say_42 ?_
      refine j_top (fun n3 en3 => ?_)
      have hw := hw n3 en3
      refine j_put C 46 rfl 0 5 0 (ws' := [(a_this, .inr (5, [.int n3, .ref a_pad, .ref a_sort, .ref a_heir, .int v_generations, .ref a_was, .ref a_worth, .int v_toll, .ref a_rights, .ref a_ahead, .ref a_bound, .ref a_owner, .ref a_foundBound, .ref a_foundOwner, .int v_foundLeast, .int v_stops, .ref a_beside, .ref a_upward, .ref a_from, .ref a_queue, .ref a_image, .ref a_isKept])), (a_pad, gI g 60 (upd f_pad k2 x1))]) (T := TX5) (N := 22) (ty := .int) tyX5_ok nmX5 hi_X5_say_X5 rfl (by decide) (List.mem_of_getElem? (i := 1) rfl) rfl rfl rfl rfl rfl rfl (Nat.le_of_ble_eq_true rfl) rfl dX5_say_43 ?_
      refine j_aload_n C 47 rfl 0 dX5_say_46 rfl rfl ?_
      refine j_get C 50 rfl 0 5 0 (T := TX5) (N := 22) hi_X5_say_X5 rfl (by decide) (List.mem_of_getElem? (i := 1) rfl) rfl rfl rfl dX5_say_47 ?_
      exact j_iret C R (n3, upd f_pad k2 x1) rfl dX5_say_50 rfl hw
    · have hw := hw.2 c
      refine j_bipush C 25 rfl dX5_say_23 (v := (-4 : Int32)) (by decide) ?_
      exact j_iret C R (v_signs, f_pad) rfl dX5_say_25 rfl hw
  · have hw := hw.2 c
    refine j_bipush C 13 rfl dX5_say_11 (v := (-2 : Int32)) (by decide) ?_
    exact j_iret C R (v_signs, f_pad) rfl dX5_say_13 rfl hw
theorem hi_X5_wipe_X5 : ∀ w ∈ wsX50, w ∈ wsX5_wipe := fun _ h => List.mem_cons_of_mem _ (List.mem_append_right _ h)
set_option maxRecDepth 20000 in
set_option maxHeartbeats 4000000 in
theorem c_X5_wipe (l : Launch) (g : gE) (a_this a_pad a_sort a_heir a_was a_worth a_rights a_ahead a_bound a_owner a_foundBound a_foundOwner a_beside a_upward a_from a_queue a_image a_isKept : Nat) (v_signs : Int32) (v_generations : Int32) (v_toll : Int32) (v_foundLeast : Int32) (v_stops : Int32)   (K : Int32 → Int32 → Prop) (hw : wp_X5_wipe v_signs K) : Ci l g yX5_wipe wsX5_wipe { frames := 0, cells := 0, slots := 0, locals := 0 } [.ref a_this] [(a_this, .inr (5, [.int v_signs, .ref a_pad, .ref a_sort, .ref a_heir, .int v_generations, .ref a_was, .ref a_worth, .int v_toll, .ref a_rights, .ref a_ahead, .ref a_bound, .ref a_owner, .ref a_foundBound, .ref a_foundOwner, .int v_foundLeast, .int v_stops, .ref a_beside, .ref a_upward, .ref a_from, .ref a_queue, .ref a_image, .ref a_isKept]))] (fun (r : Int32) (u : Int32) => K r u) (fun (u : Int32) => [(a_this, .inr (5, [.int u, .ref a_pad, .ref a_sort, .ref a_heir, .int v_generations, .ref a_was, .ref a_worth, .int v_toll, .ref a_rights, .ref a_ahead, .ref a_bound, .ref a_owner, .ref a_foundBound, .ref a_foundOwner, .int v_foundLeast, .int v_stops, .ref a_beside, .ref a_upward, .ref a_from, .ref a_queue, .ref a_image, .ref a_isKept]))]) 0 0 := by
  refine Ci_of (cc := cX5_wipe) (nL := 2) (ret := (some .int)) (own := RX5) (lv0 := [(0, .ref a_this)]) (by decide +kernel) rfl rfl (Nat.le_of_ble_eq_true rfl) rfl (fun A x C R => ?_)
  refine j_aload_n C 1 rfl 0 dX5_wipe_0 rfl rfl ?_
  refine j_get C 4 rfl 0 5 0 (T := TX5) (N := 22) hi_X5_wipe_X5 rfl (by decide) (List.mem_of_getElem? (i := 1) rfl) rfl rfl rfl dX5_wipe_1 ?_
  refine j_istore_n C 5 rfl [1, 0] (lv' := [(0, .ref a_this), (1, .int v_signs)]) dX5_wipe_4 rfl (by decide) rfl ?_
  refine j_aload_n C 6 rfl 0 dX5_wipe_5 rfl rfl ?_
  refine j_iconst C 7 rfl dX5_wipe_6 (v := (0 : Int32)) (by decide) ?_
  refine j_put C 10 rfl 0 5 0 (ws' := [(a_this, .inr (5, [.int (0 : Int32), .ref a_pad, .ref a_sort, .ref a_heir, .int v_generations, .ref a_was, .ref a_worth, .int v_toll, .ref a_rights, .ref a_ahead, .ref a_bound, .ref a_owner, .ref a_foundBound, .ref a_foundOwner, .int v_foundLeast, .int v_stops, .ref a_beside, .ref a_upward, .ref a_from, .ref a_queue, .ref a_image, .ref a_isKept]))]) (T := TX5) (N := 22) (ty := .int) tyX5_ok nmX5 hi_X5_wipe_X5 rfl (by decide) (List.mem_of_getElem? (i := 1) rfl) rfl rfl rfl rfl rfl rfl (Nat.le_of_ble_eq_true rfl) rfl dX5_wipe_7 ?_
  refine j_iload_n C 11 rfl 1 dX5_wipe_10 rfl rfl ?_
  exact j_iret C R ((0 : Int32)) rfl dX5_wipe_11 rfl hw
set_option maxRecDepth 20000 in
set_option maxHeartbeats 4000000 in
theorem c_X5_sortOf (l : Launch) (g : gE)  (x0 : Int32)  (K : Int32 → Prop) (hw : wp_X5_sortOf x0 K) : Ci l g yX5_sortOf wsX5_sortOf { frames := 0, cells := 0, slots := 0, locals := 0 } [.int x0] [] (fun (r : Int32) (_ : Unit) => K r) (fun (_ : Unit) => []) 0 0 := by
  refine Ci_of (cc := cX5_sortOf) (nL := 1) (ret := (some .int)) (own := RX5) (lv0 := [(0, .int x0)]) (by decide +kernel) rfl rfl (Nat.le_of_ble_eq_true rfl) rfl (fun A x C R => ?_)
  refine j_iload_n C 1 rfl 0 dX5_sortOf_0 rfl rfl ?_
  by_cases hsw : x0.toInt < 109 ∨ 119 < x0.toInt
  · have hw := hw.1 hsw
    refine j_tout C 70 dX5_sortOf_1 hsw rfl ?_
    refine j_bipush C 72 rfl dX5_sortOf_70 (v := (-6 : Int32)) (by decide) ?_
    exact j_iret C R () rfl dX5_sortOf_72 rfl hw
  have hcs : x0.toInt = 109 ∨ x0.toInt = 110 ∨ x0.toInt = 111 ∨ x0.toInt = 112 ∨ x0.toInt = 113 ∨ x0.toInt = 114 ∨ x0.toInt = 115 ∨ x0.toInt = 116 ∨ x0.toInt = 117 ∨ x0.toInt = 118 ∨ x0.toInt = 119 := by omega
  rcases hcs with hcs | hcs | hcs | hcs | hcs | hcs | hcs | hcs | hcs | hcs | hcs
  · have hcs := tc_eq (109 : Int32) hcs (by decide)
    have hw := hw.2.1 hcs
    refine j_tin C (off := 63) 64 (109 : Int32) hcs dX5_sortOf_1 (by decide) (by decide) (by decide) rfl ?_
    refine j_iconst C 65 rfl dX5_sortOf_64 (v := (2 : Int32)) (by decide) ?_
    exact j_iret C R () rfl dX5_sortOf_65 rfl hw
  · have hcs := tc_eq (110 : Int32) hcs (by decide)
    have hw := hw.2.2.1 hcs
    refine j_tin C (off := 69) 70 (110 : Int32) hcs dX5_sortOf_1 (by decide) (by decide) (by decide) rfl ?_
    refine j_bipush C 72 rfl dX5_sortOf_70 (v := (-6 : Int32)) (by decide) ?_
    exact j_iret C R () rfl dX5_sortOf_72 rfl hw
  · have hcs := tc_eq (111 : Int32) hcs (by decide)
    have hw := hw.2.2.2.1 hcs
    refine j_tin C (off := 69) 70 (111 : Int32) hcs dX5_sortOf_1 (by decide) (by decide) (by decide) rfl ?_
    refine j_bipush C 72 rfl dX5_sortOf_70 (v := (-6 : Int32)) (by decide) ?_
    exact j_iret C R () rfl dX5_sortOf_72 rfl hw
  · have hcs := tc_eq (112 : Int32) hcs (by decide)
    have hw := hw.2.2.2.2.1 hcs
    refine j_tin C (off := 69) 70 (112 : Int32) hcs dX5_sortOf_1 (by decide) (by decide) (by decide) rfl ?_
    refine j_bipush C 72 rfl dX5_sortOf_70 (v := (-6 : Int32)) (by decide) ?_
    exact j_iret C R () rfl dX5_sortOf_72 rfl hw
  · have hcs := tc_eq (113 : Int32) hcs (by decide)
    have hw := hw.2.2.2.2.2.1 hcs
    refine j_tin C (off := 69) 70 (113 : Int32) hcs dX5_sortOf_1 (by decide) (by decide) (by decide) rfl ?_
    refine j_bipush C 72 rfl dX5_sortOf_70 (v := (-6 : Int32)) (by decide) ?_
    exact j_iret C R () rfl dX5_sortOf_72 rfl hw
  · have hcs := tc_eq (114 : Int32) hcs (by decide)
    have hw := hw.2.2.2.2.2.2.1 hcs
    refine j_tin C (off := 65) 66 (114 : Int32) hcs dX5_sortOf_1 (by decide) (by decide) (by decide) rfl ?_
    refine j_iconst C 67 rfl dX5_sortOf_66 (v := (3 : Int32)) (by decide) ?_
    exact j_iret C R () rfl dX5_sortOf_67 rfl hw
  · have hcs := tc_eq (115 : Int32) hcs (by decide)
    have hw := hw.2.2.2.2.2.2.2.1 hcs
    refine j_tin C (off := 67) 68 (115 : Int32) hcs dX5_sortOf_1 (by decide) (by decide) (by decide) rfl ?_
    refine j_iconst C 69 rfl dX5_sortOf_68 (v := (4 : Int32)) (by decide) ?_
    exact j_iret C R () rfl dX5_sortOf_69 rfl hw
  · have hcs := tc_eq (116 : Int32) hcs (by decide)
    have hw := hw.2.2.2.2.2.2.2.2.1 hcs
    refine j_tin C (off := 69) 70 (116 : Int32) hcs dX5_sortOf_1 (by decide) (by decide) (by decide) rfl ?_
    refine j_bipush C 72 rfl dX5_sortOf_70 (v := (-6 : Int32)) (by decide) ?_
    exact j_iret C R () rfl dX5_sortOf_72 rfl hw
  · have hcs := tc_eq (117 : Int32) hcs (by decide)
    have hw := hw.2.2.2.2.2.2.2.2.2.1 hcs
    refine j_tin C (off := 69) 70 (117 : Int32) hcs dX5_sortOf_1 (by decide) (by decide) (by decide) rfl ?_
    refine j_bipush C 72 rfl dX5_sortOf_70 (v := (-6 : Int32)) (by decide) ?_
    exact j_iret C R () rfl dX5_sortOf_72 rfl hw
  · have hcs := tc_eq (118 : Int32) hcs (by decide)
    have hw := hw.2.2.2.2.2.2.2.2.2.2.1 hcs
    refine j_tin C (off := 59) 60 (118 : Int32) hcs dX5_sortOf_1 (by decide) (by decide) (by decide) rfl ?_
    refine j_iconst C 61 rfl dX5_sortOf_60 (v := (0 : Int32)) (by decide) ?_
    exact j_iret C R () rfl dX5_sortOf_61 rfl hw
  · have hcs := tc_eq (119 : Int32) hcs (by decide)
    have hw := hw.2.2.2.2.2.2.2.2.2.2.2 hcs
    refine j_tin C (off := 61) 62 (119 : Int32) hcs dX5_sortOf_1 (by decide) (by decide) (by decide) rfl ?_
    refine j_iconst C 63 rfl dX5_sortOf_62 (v := (1 : Int32)) (by decide) ?_
    exact j_iret C R () rfl dX5_sortOf_63 rfl hw
theorem hi_X5_sectorsOf_X5 : ∀ w ∈ wsX50, w ∈ wsX5_sectorsOf := fun _ h => List.mem_cons_of_mem _ (List.mem_append_right _ h)
set_option maxRecDepth 20000 in
set_option maxHeartbeats 4000000 in
theorem c_X5_sectorsOf (l : Launch) (g : gE) (a_this a_pad a_sort a_heir a_was a_worth a_rights a_ahead a_bound a_owner a_foundBound a_foundOwner a_beside a_upward a_from a_queue a_image a_isKept : Nat) (v_signs : Int32) (v_generations : Int32) (v_toll : Int32) (v_foundLeast : Int32) (v_stops : Int32) (f_heir : (Nat → Int32)) (x1 : Int32)  (K : Int32 → Prop) (hw : wp_X5_sectorsOf f_heir x1 K) : Ci l g yX5_sectorsOf wsX5_sectorsOf { frames := 0, cells := 0, slots := 0, locals := 0 } [.ref a_this, .int x1] [(a_this, .inr (5, [.int v_signs, .ref a_pad, .ref a_sort, .ref a_heir, .int v_generations, .ref a_was, .ref a_worth, .int v_toll, .ref a_rights, .ref a_ahead, .ref a_bound, .ref a_owner, .ref a_foundBound, .ref a_foundOwner, .int v_foundLeast, .int v_stops, .ref a_beside, .ref a_upward, .ref a_from, .ref a_queue, .ref a_image, .ref a_isKept])), (a_heir, gI g 24 f_heir)] (fun (r : Int32) (_ : Unit) => K r) (fun (_ : Unit) => [(a_this, .inr (5, [.int v_signs, .ref a_pad, .ref a_sort, .ref a_heir, .int v_generations, .ref a_was, .ref a_worth, .int v_toll, .ref a_rights, .ref a_ahead, .ref a_bound, .ref a_owner, .ref a_foundBound, .ref a_foundOwner, .int v_foundLeast, .int v_stops, .ref a_beside, .ref a_upward, .ref a_from, .ref a_queue, .ref a_image, .ref a_isKept])), (a_heir, gI g 24 f_heir)]) 0 0 := by
  refine Ci_of (cc := cX5_sectorsOf) (nL := 4) (ret := (some .int)) (own := RX5) (lv0 := [(0, .ref a_this), (1, .int x1)]) (by decide +kernel) rfl rfl (Nat.le_of_ble_eq_true rfl) rfl (fun A x C R => ?_)
  refine j_iconst C 1 rfl dX5_sectorsOf_0 (v := (0 : Int32)) (by decide) ?_
  refine j_istore_n C 2 rfl [1, 2, 0] (lv' := [(0, .ref a_this), (1, .int x1), (2, .int (0 : Int32))]) dX5_sectorsOf_1 rfl (by decide) rfl ?_
  refine j_iconst C 3 rfl dX5_sectorsOf_2 (v := (0 : Int32)) (by decide) ?_
  refine j_istore_n C 4 rfl [1, 2, 3, 0] (lv' := [(0, .ref a_this), (1, .int x1), (2, .int (0 : Int32)), (3, .int (0 : Int32))]) dX5_sectorsOf_3 rfl (by decide) rfl ?_
  refine lpW2_ind (G := fun x2 x3 => J l g A x 4 0 0 4 [(0, .ref a_this), (1, .int x1), (2, .int x2), (3, .int x3)] [] [(a_this, .inr (5, [.int v_signs, .ref a_pad, .ref a_sort, .ref a_heir, .int v_generations, .ref a_was, .ref a_worth, .int v_toll, .ref a_rights, .ref a_ahead, .ref a_bound, .ref a_owner, .ref a_foundBound, .ref a_foundOwner, .int v_foundLeast, .int v_stops, .ref a_beside, .ref a_upward, .ref a_from, .ref a_queue, .ref a_image, .ref a_isKept])), (a_heir, gI g 24 f_heir)]) (fun L4 x2 x3 hL4 hw => ?_) _ _ hw
  refine j_iload_n C 5 rfl 3 dX5_sectorsOf_4 rfl rfl ?_
  refine j_bipush C 7 rfl dX5_sectorsOf_5 (v := (24 : Int32)) (by decide) ?_
  refine j_icmp_ge C 10 rfl 34 dX5_sectorsOf_7 rfl (fun c => ?_) (fun c => ?_)
  · have hw := hw.1 c
    refine j_iload_n C 35 rfl 2 dX5_sectorsOf_34 rfl rfl ?_
    exact j_iret C R () rfl dX5_sectorsOf_35 rfl hw
  · have hw := hw.2 c
    refine j_iload_n C 11 rfl 2 dX5_sectorsOf_10 rfl rfl ?_
    refine j_aload_n C 12 rfl 0 dX5_sectorsOf_11 rfl rfl ?_
    refine j_get C 15 rfl 0 5 3 (T := TX5) (N := 22) hi_X5_sectorsOf_X5 rfl (by decide) (List.mem_of_getElem? (i := 1) rfl) rfl rfl rfl dX5_sectorsOf_12 ?_
    refine j_iload_n C 16 rfl 3 dX5_sectorsOf_15 rfl rfl ?_
    obtain ⟨k1, ek1, hk1, hw⟩ := hw
    refine j_iald C 17 rfl 1 k1 rfl ek1 hk1 (by decide) dX5_sectorsOf_16 ?_
    refine j_iload_n C 18 rfl 1 dX5_sectorsOf_17 rfl rfl ?_
    refine j_icmp_ne C 21 rfl 25 dX5_sectorsOf_18 rfl (fun c => ?_) (fun c => ?_)
    · have hw := hw.1 c
      refine j_iconst C 26 rfl dX5_sectorsOf_25 (v := (0 : Int32)) (by decide) ?_
      refine j_iadd C 27 rfl dX5_sectorsOf_26 ?_
      refine j_top (fun n2 en2 => ?_)
      have hw := hw n2 en2
      refine j_istore_n C 28 rfl [1, 2, 0, 3] (lv' := [(0, .ref a_this), (1, .int x1), (2, .int n2), (3, .int x3)]) dX5_sectorsOf_27 rfl (by decide) rfl ?_
      refine j_iinc C 31 rfl 3 [1, 2, 3, 0] (v' := (1 : Int32)) (lv' := fun z => [(0, .ref a_this), (1, .int x1), (2, .int n2), (3, .int z)]) dX5_sectorsOf_28 rfl (by decide) (by decide) (fun _ => rfl) (fun n3 en3 => ?_)
      have hw := hw n3 en3
      refine j_goto C 4 dX5_sectorsOf_31 rfl ?_
      exact hL4 _ _ hw
    · have hw := hw.2 c
      refine j_iconst C 22 rfl dX5_sectorsOf_21 (v := (1 : Int32)) (by decide) ?_
      refine j_goto C 26 dX5_sectorsOf_22 rfl ?_
      refine j_iadd C 27 rfl dX5_sectorsOf_26 ?_
      refine j_top (fun n4 en4 => ?_)
      have hw := hw n4 en4
      refine j_istore_n C 28 rfl [1, 2, 0, 3] (lv' := [(0, .ref a_this), (1, .int x1), (2, .int n4), (3, .int x3)]) dX5_sectorsOf_27 rfl (by decide) rfl ?_
      refine j_iinc C 31 rfl 3 [1, 2, 3, 0] (v' := (1 : Int32)) (lv' := fun z => [(0, .ref a_this), (1, .int x1), (2, .int n4), (3, .int z)]) dX5_sectorsOf_28 rfl (by decide) (by decide) (fun _ => rfl) (fun n5 en5 => ?_)
      have hw := hw n5 en5
      refine j_goto C 4 dX5_sectorsOf_31 rfl ?_
      exact hL4 _ _ hw
set_option maxRecDepth 20000 in
set_option maxHeartbeats 4000000 in
theorem c_X5_isLetter (l : Launch) (g : gE)  (x0 : Int32) (x1 : Int32)  (K : Int32 → Prop) (hw : wp_X5_isLetter x0 x1 K) : Ci l g yX5_isLetter wsX5_isLetter { frames := 1, cells := 0, slots := 0, locals := 22 } [.int x0, .int x1] [] (fun (r : Int32) (_ : Unit) => K r) (fun (_ : Unit) => []) 0 0 := by
  refine Ci_of (cc := cX5_isLetter) (nL := 2) (ret := (some .boolean)) (own := RX5) (lv0 := [(0, .int x0), (1, .int x1)]) (by decide +kernel) rfl rfl (Nat.le_of_ble_eq_true rfl) rfl (fun A x C R => ?_)
  refine j_iload_n C 1 rfl 0 dX5_isLetter_0 rfl rfl ?_
  refine j_if_ne C 4 rfl 19 dX5_isLetter_1 rfl (fun c => ?_) (fun c => ?_)
  · have hw := hw.1 c
    refine j_iload_n C 20 rfl 1 dX5_isLetter_19 rfl rfl ?_
    refine j_bipush C 22 rfl dX5_isLetter_20 (v := (97 : Int32)) (by decide) ?_
    refine j_bipush C 24 rfl dX5_isLetter_22 (v := (102 : Int32)) (by decide) ?_
    refine j_ri C 27 rfl (jc_S C (c_X5_in l g x1 (97 : Int32) (102 : Int32) _ hw) 3 gX5_isLetter_X5_in rfl rfl rfl hd_X5_in ⟨Nat.le_of_ble_eq_true rfl, Nat.le_of_ble_eq_true rfl⟩ [] rfl rfl (rest := []) rfl rfl (Nat.le_of_ble_eq_true rfl) dX5_isLetter_24 ⟨Nat.le_refl _, Nat.le_refl _⟩) [] rfl (fun _ => rfl) (fun r1 _ hw => ?_)
    try dsimp only at hw
    obtain ⟨hn, hw⟩ := hw
    exact j_iret C R () hn dX5_isLetter_27 rfl hw
  · have hw := hw.2 c
    refine j_iload_n C 5 rfl 1 dX5_isLetter_4 rfl rfl ?_
    refine j_ri C 8 rfl (jc_S C (c_X5_sortOf l g x1 _ hw) 1 gX5_isLetter_X5_sortOf rfl rfl rfl hd_X5_sortOf ⟨Nat.le_of_ble_eq_true rfl, Nat.le_of_ble_eq_true rfl⟩ [] rfl rfl (rest := []) rfl rfl (Nat.le_of_ble_eq_true rfl) dX5_isLetter_5 ⟨Nat.le_refl _, Nat.le_refl _⟩) [] rfl (fun _ => rfl) (fun r2 _ hw => ?_)
    try dsimp only at hw
    refine j_if_lt C 11 rfl 15 dX5_isLetter_8 rfl (fun c => ?_) (fun c => ?_)
    · have hw := hw.1 c
      refine j_iconst C 16 rfl dX5_isLetter_15 (v := (0 : Int32)) (by decide) ?_
      refine j_goto C 27 dX5_isLetter_16 rfl ?_
      exact j_iret C R () rfl dX5_isLetter_27 rfl hw
    · have hw := hw.2 c
      refine j_iconst C 12 rfl dX5_isLetter_11 (v := (1 : Int32)) (by decide) ?_
      refine j_goto C 27 dX5_isLetter_12 rfl ?_
      exact j_iret C R () rfl dX5_isLetter_27 rfl hw
theorem hi_X5_faultOf_X5 : ∀ w ∈ wsX50, w ∈ wsX5_faultOf := fun _ h => List.mem_cons_of_mem _ (List.mem_append_right _ h)
set_option maxRecDepth 20000 in
set_option maxHeartbeats 4000000 in
theorem c_X5_faultOf (l : Launch) (g : gE) (a_this a_pad a_sort a_heir a_was a_worth a_rights a_ahead a_bound a_owner a_foundBound a_foundOwner a_beside a_upward a_from a_queue a_image a_isKept : Nat) (v_signs : Int32) (v_generations : Int32) (v_toll : Int32) (v_foundLeast : Int32) (v_stops : Int32) (f_pad : (Nat → Int32)) (f_heir : (Nat → Int32)) (x1 : Int32)  (K : Int32 → Prop) (hw : wp_X5_faultOf v_signs f_pad f_heir x1 K) : Ci l g yX5_faultOf wsX5_faultOf { frames := 2, cells := 0, slots := 0, locals := 43 } [.ref a_this, .int x1] [(a_this, .inr (5, [.int v_signs, .ref a_pad, .ref a_sort, .ref a_heir, .int v_generations, .ref a_was, .ref a_worth, .int v_toll, .ref a_rights, .ref a_ahead, .ref a_bound, .ref a_owner, .ref a_foundBound, .ref a_foundOwner, .int v_foundLeast, .int v_stops, .ref a_beside, .ref a_upward, .ref a_from, .ref a_queue, .ref a_image, .ref a_isKept])), (a_pad, gI g 60 f_pad), (a_heir, gI g 24 f_heir)] (fun (r : Int32) (_ : Unit) => K r) (fun (_ : Unit) => [(a_this, .inr (5, [.int v_signs, .ref a_pad, .ref a_sort, .ref a_heir, .int v_generations, .ref a_was, .ref a_worth, .int v_toll, .ref a_rights, .ref a_ahead, .ref a_bound, .ref a_owner, .ref a_foundBound, .ref a_foundOwner, .int v_foundLeast, .int v_stops, .ref a_beside, .ref a_upward, .ref a_from, .ref a_queue, .ref a_image, .ref a_isKept])), (a_pad, gI g 60 f_pad), (a_heir, gI g 24 f_heir)]) 0 0 := by
  refine Ci_of (cc := cX5_faultOf) (nL := 7) (ret := (some .int)) (own := RX5) (lv0 := [(0, .ref a_this), (1, .int x1)]) (by decide +kernel) rfl rfl (Nat.le_of_ble_eq_true rfl) rfl (fun A x C R => ?_)
  refine j_iconst C 1 rfl dX5_faultOf_0 (v := (0 : Int32)) (by decide) ?_
  refine j_istore_n C 2 rfl [1, 2, 0] (lv' := [(0, .ref a_this), (1, .int x1), (2, .int (0 : Int32))]) dX5_faultOf_1 rfl (by decide) rfl ?_
  refine j_bipush C 4 rfl dX5_faultOf_2 (v := (24 : Int32)) (by decide) ?_
  refine j_istore_n C 5 rfl [1, 2, 3, 0] (lv' := [(0, .ref a_this), (1, .int x1), (2, .int (0 : Int32)), (3, .int (24 : Int32))]) dX5_faultOf_4 rfl (by decide) rfl ?_
  refine j_iload_n C 6 rfl 1 dX5_faultOf_5 rfl rfl ?_
  refine j_iconst C 7 rfl dX5_faultOf_6 (v := (2 : Int32)) (by decide) ?_
  refine j_icmp_ne C 10 rfl 72 dX5_faultOf_7 rfl (fun c => ?_) (fun c => ?_)
  · have hw := hw.1 c
    refine j_iload_n C 73 rfl 2 dX5_faultOf_72 rfl rfl ?_
    refine j_istore C 75 rfl [1, 2, 3, 4, 0] (lv' := [(0, .ref a_this), (1, .int x1), (2, .int (0 : Int32)), (3, .int (24 : Int32)), (4, .int (0 : Int32))]) dX5_faultOf_73 (by decide) rfl ?_
    refine lpW2_ind (G := fun x3 x4 => J l g A x 7 0 0 75 [(0, .ref a_this), (1, .int x1), (2, .int (0 : Int32)), (3, .int x3), (4, .int x4)] [] [(a_this, .inr (5, [.int v_signs, .ref a_pad, .ref a_sort, .ref a_heir, .int v_generations, .ref a_was, .ref a_worth, .int v_toll, .ref a_rights, .ref a_ahead, .ref a_bound, .ref a_owner, .ref a_foundBound, .ref a_foundOwner, .int v_foundLeast, .int v_stops, .ref a_beside, .ref a_upward, .ref a_from, .ref a_queue, .ref a_image, .ref a_isKept])), (a_pad, gI g 60 f_pad), (a_heir, gI g 24 f_heir)]) (fun L75 x3 x4 hL75 hw => ?_) _ _ hw
    have hj167 : ∀ (x3 : Int32) (x4 : Int32) (x5 : Int32) (s0 : Int32), wj_X5_faultOf_167 f_pad x3 x4 x5 s0 K L75 → J l g A x 7 0 0 167 [(0, .ref a_this), (1, .int x1), (2, .int (0 : Int32)), (3, .int x3), (4, .int x4), (5, .int x5)] [.int s0] [(a_this, .inr (5, [.int v_signs, .ref a_pad, .ref a_sort, .ref a_heir, .int v_generations, .ref a_was, .ref a_worth, .int v_toll, .ref a_rights, .ref a_ahead, .ref a_bound, .ref a_owner, .ref a_foundBound, .ref a_foundOwner, .int v_foundLeast, .int v_stops, .ref a_beside, .ref a_upward, .ref a_from, .ref a_queue, .ref a_image, .ref a_isKept])), (a_pad, gI g 60 f_pad), (a_heir, gI g 24 f_heir)] := by
      intro x3 x4 x5 s0 hw
      refine j_istore C 169 rfl [1, 2, 3, 4, 5, 6, 0] (lv' := [(0, .ref a_this), (1, .int x1), (2, .int (0 : Int32)), (3, .int x3), (4, .int x4), (5, .int x5), (6, .int s0)]) dX5_faultOf_167 (by decide) rfl ?_
      refine j_iload C 171 rfl 6 dX5_faultOf_169 rfl ?_
      refine j_if_ne C 174 rfl 177 dX5_faultOf_171 rfl (fun c => ?_) (fun c => ?_)
      · have hw := hw.1 c
        refine j_iload_n C 178 rfl 3 dX5_faultOf_177 rfl rfl ?_
        refine j_iload C 180 rfl 5 dX5_faultOf_178 rfl ?_
        refine j_if_eq C 183 rfl 187 dX5_faultOf_180 rfl (fun c => ?_) (fun c => ?_)
        · have hw := hw.1 c
          refine j_aload_n C 188 rfl 0 dX5_faultOf_187 rfl rfl ?_
          refine j_get C 191 rfl 0 5 1 (T := TX5) (N := 22) hi_X5_faultOf_X5 rfl (by decide) (List.mem_of_getElem? (i := 2) rfl) rfl rfl rfl dX5_faultOf_188 ?_
          refine j_iload C 193 rfl 4 dX5_faultOf_191 rfl ?_
          obtain ⟨k1, ek1, hk1, hw⟩ := hw
          refine j_iald C 194 rfl 1 k1 rfl ek1 hk1 (by decide) dX5_faultOf_193 ?_
          refine j_bipush C 196 rfl dX5_faultOf_194 (v := (48 : Int32)) (by decide) ?_
          refine j_isub C 197 rfl dX5_faultOf_196 ?_
          refine j_isub C 198 rfl dX5_faultOf_197 ?_
          refine j_top (fun n2 en2 => ?_)
          have hw := hw n2 en2
          refine j_istore_n C 199 rfl [1, 2, 3, 0, 4, 5, 6] (lv' := [(0, .ref a_this), (1, .int x1), (2, .int (0 : Int32)), (3, .int n2), (4, .int x4), (5, .int x5), (6, .int s0)]) dX5_faultOf_198 rfl (by decide) rfl ?_
          refine j_iinc C 202 rfl 4 [1, 2, 3, 4, 0, 5, 6] (v' := (1 : Int32)) (lv' := fun z => [(0, .ref a_this), (1, .int x1), (2, .int (0 : Int32)), (3, .int n2), (4, .int z), (5, .int x5), (6, .int s0)]) dX5_faultOf_199 rfl (by decide) (by decide) (fun _ => rfl) (fun n3 en3 => ?_)
          have hw := hw n3 en3
          refine j_goto C 75 dX5_faultOf_202 rfl ?_
          refine j_lv [0, 1, 2, 3, 4] (lv' := [(0, .ref a_this), (1, .int x1), (2, .int (0 : Int32)), (3, .int n2), (4, .int n3)]) rfl ?_
          exact hL75 _ _ hw
        · have hw := hw.2 c
          refine j_iconst C 184 rfl dX5_faultOf_183 (v := (0 : Int32)) (by decide) ?_
          refine j_goto C 197 dX5_faultOf_184 rfl ?_
          refine j_isub C 198 rfl dX5_faultOf_197 ?_
          refine j_top (fun n4 en4 => ?_)
          have hw := hw n4 en4
          refine j_istore_n C 199 rfl [1, 2, 3, 0, 4, 5, 6] (lv' := [(0, .ref a_this), (1, .int x1), (2, .int (0 : Int32)), (3, .int n4), (4, .int x4), (5, .int x5), (6, .int s0)]) dX5_faultOf_198 rfl (by decide) rfl ?_
          refine j_iinc C 202 rfl 4 [1, 2, 3, 4, 0, 5, 6] (v' := (1 : Int32)) (lv' := fun z => [(0, .ref a_this), (1, .int x1), (2, .int (0 : Int32)), (3, .int n4), (4, .int z), (5, .int x5), (6, .int s0)]) dX5_faultOf_199 rfl (by decide) (by decide) (fun _ => rfl) (fun n5 en5 => ?_)
          have hw := hw n5 en5
          refine j_goto C 75 dX5_faultOf_202 rfl ?_
          refine j_lv [0, 1, 2, 3, 4] (lv' := [(0, .ref a_this), (1, .int x1), (2, .int (0 : Int32)), (3, .int n4), (4, .int n5)]) rfl ?_
          exact hL75 _ _ hw
      · have hw := hw.2 c
        refine j_iload C 176 rfl 4 dX5_faultOf_174 rfl ?_
        exact j_iret C R () rfl dX5_faultOf_176 rfl hw
    have hj98 : ∀ (x3 : Int32) (x4 : Int32) (s0 : Int32), wj_X5_faultOf_98 f_pad x1 x3 x4 s0 K L75 → J l g A x 7 0 0 98 [(0, .ref a_this), (1, .int x1), (2, .int (0 : Int32)), (3, .int x3), (4, .int x4)] [.int s0] [(a_this, .inr (5, [.int v_signs, .ref a_pad, .ref a_sort, .ref a_heir, .int v_generations, .ref a_was, .ref a_worth, .int v_toll, .ref a_rights, .ref a_ahead, .ref a_bound, .ref a_owner, .ref a_foundBound, .ref a_foundOwner, .int v_foundLeast, .int v_stops, .ref a_beside, .ref a_upward, .ref a_from, .ref a_queue, .ref a_image, .ref a_isKept])), (a_pad, gI g 60 f_pad), (a_heir, gI g 24 f_heir)] := by
      intro x3 x4 s0 hw
      refine j_istore C 100 rfl [1, 2, 3, 4, 5, 0] (lv' := [(0, .ref a_this), (1, .int x1), (2, .int (0 : Int32)), (3, .int x3), (4, .int x4), (5, .int s0)]) dX5_faultOf_98 (by decide) rfl ?_
      refine j_iload C 102 rfl 5 dX5_faultOf_100 rfl ?_
      refine j_if_eq C 105 rfl 131 dX5_faultOf_102 rfl (fun c => ?_) (fun c => ?_)
      · have hw := hw.1 c
        refine j_aload_n C 132 rfl 0 dX5_faultOf_131 rfl rfl ?_
        refine j_get C 135 rfl 0 5 1 (T := TX5) (N := 22) hi_X5_faultOf_X5 rfl (by decide) (List.mem_of_getElem? (i := 2) rfl) rfl rfl rfl dX5_faultOf_132 ?_
        refine j_iload C 137 rfl 4 dX5_faultOf_135 rfl ?_
        obtain ⟨k6, ek6, hk6, hw⟩ := hw
        refine j_iald C 138 rfl 1 k6 rfl ek6 hk6 (by decide) dX5_faultOf_137 ?_
        refine j_bipush C 140 rfl dX5_faultOf_138 (v := (49 : Int32)) (by decide) ?_
        refine j_bipush C 142 rfl dX5_faultOf_140 (v := (57 : Int32)) (by decide) ?_
        refine j_nm2 (fun n7 en7 => ?_)
        have hw := hw n7 en7
        refine j_ri C 145 rfl (jc_S C (c_X5_in l g n7 (49 : Int32) (57 : Int32) _ hw) 3 gX5_faultOf_X5_in rfl rfl rfl hd_X5_in ⟨Nat.le_of_ble_eq_true rfl, Nat.le_of_ble_eq_true rfl⟩ [] rfl rfl (rest := []) rfl rfl (Nat.le_of_ble_eq_true rfl) dX5_faultOf_142 ⟨Nat.le_refl _, Nat.le_refl _⟩) [] rfl (fun _ => rfl) (fun r8 _ hw => ?_)
        try dsimp only at hw
        refine j_if_eq C 148 rfl 166 dX5_faultOf_145 rfl (fun c => ?_) (fun c => ?_)
        · have hw := hw.1 c
          refine j_iconst C 167 rfl dX5_faultOf_166 (v := (0 : Int32)) (by decide) ?_
          exact hj167 _ _ _ _ hw
        · have hw := hw.2 c
          refine j_aload_n C 149 rfl 0 dX5_faultOf_148 rfl rfl ?_
          refine j_get C 152 rfl 0 5 1 (T := TX5) (N := 22) hi_X5_faultOf_X5 rfl (by decide) (List.mem_of_getElem? (i := 2) rfl) rfl rfl rfl dX5_faultOf_149 ?_
          refine j_iload C 154 rfl 4 dX5_faultOf_152 rfl ?_
          obtain ⟨k9, ek9, hk9, hw⟩ := hw
          refine j_iald C 155 rfl 1 k9 rfl ek9 hk9 (by decide) dX5_faultOf_154 ?_
          refine j_bipush C 157 rfl dX5_faultOf_155 (v := (48 : Int32)) (by decide) ?_
          refine j_isub C 158 rfl dX5_faultOf_157 ?_
          refine j_iload_n C 159 rfl 3 dX5_faultOf_158 rfl rfl ?_
          refine j_icmp_gt C 162 rfl 166 dX5_faultOf_159 rfl (fun c => ?_) (fun c => ?_)
          · have hw := hw.1 c
            refine j_iconst C 167 rfl dX5_faultOf_166 (v := (0 : Int32)) (by decide) ?_
            exact hj167 _ _ _ _ hw
          · have hw := hw.2 c
            refine j_iconst C 163 rfl dX5_faultOf_162 (v := (1 : Int32)) (by decide) ?_
            refine j_goto C 167 dX5_faultOf_163 rfl ?_
            exact hj167 _ _ _ _ hw
      · have hw := hw.2 c
        refine j_iload_n C 106 rfl 3 dX5_faultOf_105 rfl rfl ?_
        refine j_if_le C 109 rfl 127 dX5_faultOf_106 rfl (fun c => ?_) (fun c => ?_)
        · have hw := hw.1 c
          refine j_iconst C 128 rfl dX5_faultOf_127 (v := (0 : Int32)) (by decide) ?_
          refine j_goto C 167 dX5_faultOf_128 rfl ?_
          exact hj167 _ _ _ _ hw
        · have hw := hw.2 c
          refine j_iload_n C 110 rfl 1 dX5_faultOf_109 rfl rfl ?_
          refine j_aload_n C 111 rfl 0 dX5_faultOf_110 rfl rfl ?_
          refine j_get C 114 rfl 0 5 1 (T := TX5) (N := 22) hi_X5_faultOf_X5 rfl (by decide) (List.mem_of_getElem? (i := 2) rfl) rfl rfl rfl dX5_faultOf_111 ?_
          refine j_iload C 116 rfl 4 dX5_faultOf_114 rfl ?_
          obtain ⟨k10, ek10, hk10, hw⟩ := hw
          refine j_iald C 117 rfl 1 k10 rfl ek10 hk10 (by decide) dX5_faultOf_116 ?_
          refine j_top (fun n11 en11 => ?_)
          have hw := hw n11 en11
          refine j_ri C 120 rfl (jc_S C (c_X5_isLetter l g x1 n11 _ hw) 2 gX5_faultOf_X5_isLetter rfl rfl rfl hd_X5_isLetter ⟨Nat.le_of_ble_eq_true rfl, Nat.le_of_ble_eq_true rfl⟩ [] rfl rfl (rest := []) rfl rfl (Nat.le_of_ble_eq_true rfl) dX5_faultOf_117 ⟨Nat.le_refl _, Nat.le_refl _⟩) [] rfl (fun _ => rfl) (fun r12 _ hw => ?_)
          try dsimp only at hw
          refine j_if_eq C 123 rfl 127 dX5_faultOf_120 rfl (fun c => ?_) (fun c => ?_)
          · have hw := hw.1 c
            refine j_iconst C 128 rfl dX5_faultOf_127 (v := (0 : Int32)) (by decide) ?_
            refine j_goto C 167 dX5_faultOf_128 rfl ?_
            exact hj167 _ _ _ _ hw
          · have hw := hw.2 c
            refine j_iconst C 124 rfl dX5_faultOf_123 (v := (1 : Int32)) (by decide) ?_
            refine j_goto C 167 dX5_faultOf_124 rfl ?_
            exact hj167 _ _ _ _ hw
    refine j_iload C 77 rfl 4 dX5_faultOf_75 rfl ?_
    refine j_aload_n C 78 rfl 0 dX5_faultOf_77 rfl rfl ?_
    refine j_get C 81 rfl 0 5 0 (T := TX5) (N := 22) hi_X5_faultOf_X5 rfl (by decide) (List.mem_of_getElem? (i := 1) rfl) rfl rfl rfl dX5_faultOf_78 ?_
    refine j_icmp_ge C 84 rfl 205 dX5_faultOf_81 rfl (fun c => ?_) (fun c => ?_)
    · have hw := hw.1 c
      refine j_iload_n C 206 rfl 3 dX5_faultOf_205 rfl rfl ?_
      refine j_if_gt C 209 rfl 221 dX5_faultOf_206 rfl (fun c => ?_) (fun c => ?_)
      · have hw := hw.1 c
        refine j_aload_n C 222 rfl 0 dX5_faultOf_221 rfl rfl ?_
        refine j_get C 225 rfl 0 5 0 (T := TX5) (N := 22) hi_X5_faultOf_X5 rfl (by decide) (List.mem_of_getElem? (i := 1) rfl) rfl rfl rfl dX5_faultOf_222 ?_
        refine j_goto C 230 dX5_faultOf_225 rfl ?_
        exact j_iret C R () rfl dX5_faultOf_230 rfl hw
      · have hw := hw.2 c
        refine j_aload_n C 210 rfl 0 dX5_faultOf_209 rfl rfl ?_
        refine j_get C 213 rfl 0 5 0 (T := TX5) (N := 22) hi_X5_faultOf_X5 rfl (by decide) (List.mem_of_getElem? (i := 1) rfl) rfl rfl rfl dX5_faultOf_210 ?_
        refine j_iload_n C 214 rfl 2 dX5_faultOf_213 rfl rfl ?_
        refine j_isub C 215 rfl dX5_faultOf_214 ?_
        refine j_iconst C 216 rfl dX5_faultOf_215 (v := (2 : Int32)) (by decide) ?_
        refine j_irem C 217 rfl dX5_faultOf_216 (by decide) ?_
        refine j_iconst C 218 rfl dX5_faultOf_217 (v := (1 : Int32)) (by decide) ?_
        refine j_icmp_ne C 221 rfl 228 dX5_faultOf_218 rfl (fun c => ?_) (fun c => ?_)
        · have hw := hw.1 c
          refine j_bipush C 230 rfl dX5_faultOf_228 (v := (-6 : Int32)) (by decide) ?_
          exact j_iret C R () rfl dX5_faultOf_230 rfl hw
        · have hw := hw.2 c
          refine j_aload_n C 222 rfl 0 dX5_faultOf_221 rfl rfl ?_
          refine j_get C 225 rfl 0 5 0 (T := TX5) (N := 22) hi_X5_faultOf_X5 rfl (by decide) (List.mem_of_getElem? (i := 1) rfl) rfl rfl rfl dX5_faultOf_222 ?_
          refine j_goto C 230 dX5_faultOf_225 rfl ?_
          exact j_iret C R () rfl dX5_faultOf_230 rfl hw
    · have hw := hw.2 c
      refine j_iload C 86 rfl 4 dX5_faultOf_84 rfl ?_
      refine j_iload_n C 87 rfl 2 dX5_faultOf_86 rfl rfl ?_
      refine j_isub C 88 rfl dX5_faultOf_87 ?_
      refine j_iconst C 89 rfl dX5_faultOf_88 (v := (2 : Int32)) (by decide) ?_
      refine j_irem C 90 rfl dX5_faultOf_89 (by decide) ?_
      refine j_if_ne C 93 rfl 97 dX5_faultOf_90 rfl (fun c => ?_) (fun c => ?_)
      · have hw := hw.1 c
        refine j_iconst C 98 rfl dX5_faultOf_97 (v := (0 : Int32)) (by decide) ?_
        exact hj98 _ _ _ hw
      · have hw := hw.2 c
        refine j_iconst C 94 rfl dX5_faultOf_93 (v := (1 : Int32)) (by decide) ?_
        refine j_goto C 98 dX5_faultOf_94 rfl ?_
        exact hj98 _ _ _ hw
  · have hw := hw.2 c
    refine j_aload_n C 11 rfl 0 dX5_faultOf_10 rfl rfl ?_
    refine j_get C 14 rfl 0 5 0 (T := TX5) (N := 22) hi_X5_faultOf_X5 rfl (by decide) (List.mem_of_getElem? (i := 1) rfl) rfl rfl rfl dX5_faultOf_11 ?_
    refine j_if_eq C 17 rfl 33 dX5_faultOf_14 rfl (fun c => ?_) (fun c => ?_)
    · have hw := hw.1 c
      refine j_iconst C 34 rfl dX5_faultOf_33 (v := (0 : Int32)) (by decide) ?_
      exact j_iret C R () rfl dX5_faultOf_34 rfl hw
    · have hw := hw.2 c
      refine j_aload_n C 18 rfl 0 dX5_faultOf_17 rfl rfl ?_
      refine j_get C 21 rfl 0 5 1 (T := TX5) (N := 22) hi_X5_faultOf_X5 rfl (by decide) (List.mem_of_getElem? (i := 2) rfl) rfl rfl rfl dX5_faultOf_18 ?_
      refine j_iconst C 22 rfl dX5_faultOf_21 (v := (0 : Int32)) (by decide) ?_
      refine j_iald C 23 rfl 1 0 rfl (by decide) (by decide) (by decide) dX5_faultOf_22 ?_
      refine j_bipush C 25 rfl dX5_faultOf_23 (v := (97 : Int32)) (by decide) ?_
      refine j_bipush C 27 rfl dX5_faultOf_25 (v := (102 : Int32)) (by decide) ?_
      refine j_nm2 (fun n13 en13 => ?_)
      have hw := hw n13 en13
      refine j_ri C 30 rfl (jc_S C (c_X5_in l g n13 (97 : Int32) (102 : Int32) _ hw) 3 gX5_faultOf_X5_in rfl rfl rfl hd_X5_in ⟨Nat.le_of_ble_eq_true rfl, Nat.le_of_ble_eq_true rfl⟩ [] rfl rfl (rest := []) rfl rfl (Nat.le_of_ble_eq_true rfl) dX5_faultOf_27 ⟨Nat.le_refl _, Nat.le_refl _⟩) [] rfl (fun _ => rfl) (fun r14 _ hw => ?_)
      try dsimp only at hw
      refine j_if_ne C 33 rfl 35 dX5_faultOf_30 rfl (fun c => ?_) (fun c => ?_)
      · have hw := hw.1 c
        refine j_aload_n C 36 rfl 0 dX5_faultOf_35 rfl rfl ?_
        refine j_get C 39 rfl 0 5 0 (T := TX5) (N := 22) hi_X5_faultOf_X5 rfl (by decide) (List.mem_of_getElem? (i := 1) rfl) rfl rfl rfl dX5_faultOf_36 ?_
        refine j_iconst C 40 rfl dX5_faultOf_39 (v := (1 : Int32)) (by decide) ?_
        refine j_icmp_eq C 43 rfl 54 dX5_faultOf_40 rfl (fun c => ?_) (fun c => ?_)
        · have hw := hw.1 c
          refine j_iconst C 55 rfl dX5_faultOf_54 (v := (1 : Int32)) (by decide) ?_
          exact j_iret C R () rfl dX5_faultOf_55 rfl hw
        · have hw := hw.2 c
          refine j_aload_n C 44 rfl 0 dX5_faultOf_43 rfl rfl ?_
          refine j_get C 47 rfl 0 5 1 (T := TX5) (N := 22) hi_X5_faultOf_X5 rfl (by decide) (List.mem_of_getElem? (i := 2) rfl) rfl rfl rfl dX5_faultOf_44 ?_
          refine j_iconst C 48 rfl dX5_faultOf_47 (v := (1 : Int32)) (by decide) ?_
          refine j_iald C 49 rfl 1 1 rfl (by decide) (by decide) (by decide) dX5_faultOf_48 ?_
          refine j_bipush C 51 rfl dX5_faultOf_49 (v := (58 : Int32)) (by decide) ?_
          refine j_icmp_eq C 54 rfl 56 dX5_faultOf_51 rfl (fun c => ?_) (fun c => ?_)
          · have hw := hw.1 c
            refine j_iconst C 57 rfl dX5_faultOf_56 (v := (2 : Int32)) (by decide) ?_
            refine j_istore_n C 58 rfl [1, 2, 0, 3] (lv' := [(0, .ref a_this), (1, .int x1), (2, .int (2 : Int32)), (3, .int (24 : Int32))]) dX5_faultOf_57 rfl (by decide) rfl ?_
            refine j_aload_n C 59 rfl 0 dX5_faultOf_58 rfl rfl ?_
            refine j_aload_n C 60 rfl 0 dX5_faultOf_59 rfl rfl ?_
            refine j_get C 63 rfl 0 5 1 (T := TX5) (N := 22) hi_X5_faultOf_X5 rfl (by decide) (List.mem_of_getElem? (i := 2) rfl) rfl rfl rfl dX5_faultOf_60 ?_
            refine j_iconst C 64 rfl dX5_faultOf_63 (v := (0 : Int32)) (by decide) ?_
            refine j_iald C 65 rfl 1 0 rfl (by decide) (by decide) (by decide) dX5_faultOf_64 ?_
            refine j_bipush C 67 rfl dX5_faultOf_65 (v := (97 : Int32)) (by decide) ?_
            refine j_isub C 68 rfl dX5_faultOf_67 ?_
            refine j_top (fun n15 en15 => ?_)
            have hw := hw n15 en15
            refine j_ri C 71 rfl (jc_V C (c_X5_sectorsOf l g a_this a_pad a_sort a_heir a_was a_worth a_rights a_ahead a_bound a_owner a_foundBound a_foundOwner a_beside a_upward a_from a_queue a_image a_isKept v_signs v_generations v_toll v_foundLeast v_stops f_heir n15 _ hw) 1 gX5_faultOf_X5_sectorsOf rfl rfl rfl hd_X5_sectorsOf ⟨Nat.le_of_ble_eq_true rfl, Nat.le_of_ble_eq_true rfl⟩ (j_rec C 0 5 rfl rfl) [0, 2] rfl rfl (rest := []) rfl rfl (Nat.le_of_ble_eq_true rfl) dX5_faultOf_68 ⟨Nat.le_refl _, Nat.le_refl _⟩) [0, 2] rfl (fun _ => rfl) (fun r16 _ hw => ?_)
            try dsimp only at hw
            refine j_istore_n C 72 rfl [1, 2, 3, 0] (lv' := [(0, .ref a_this), (1, .int x1), (2, .int (2 : Int32)), (3, .int r16)]) dX5_faultOf_71 rfl (by decide) rfl ?_
            refine j_iload_n C 73 rfl 2 dX5_faultOf_72 rfl rfl ?_
            refine j_istore C 75 rfl [1, 2, 3, 4, 0] (lv' := [(0, .ref a_this), (1, .int x1), (2, .int (2 : Int32)), (3, .int r16), (4, .int (2 : Int32))]) dX5_faultOf_73 (by decide) rfl ?_
            refine lpW2_ind (G := fun x3 x4 => J l g A x 7 0 0 75 [(0, .ref a_this), (1, .int x1), (2, .int (2 : Int32)), (3, .int x3), (4, .int x4)] [] [(a_this, .inr (5, [.int v_signs, .ref a_pad, .ref a_sort, .ref a_heir, .int v_generations, .ref a_was, .ref a_worth, .int v_toll, .ref a_rights, .ref a_ahead, .ref a_bound, .ref a_owner, .ref a_foundBound, .ref a_foundOwner, .int v_foundLeast, .int v_stops, .ref a_beside, .ref a_upward, .ref a_from, .ref a_queue, .ref a_image, .ref a_isKept])), (a_pad, gI g 60 f_pad), (a_heir, gI g 24 f_heir)]) (fun L75 x3 x4 hL75 hw => ?_) _ _ hw
            have hj167 : ∀ (x3 : Int32) (x4 : Int32) (x5 : Int32) (s0 : Int32), wj_X5_faultOf_167 f_pad x3 x4 x5 s0 K L75 → J l g A x 7 0 0 167 [(0, .ref a_this), (1, .int x1), (2, .int (2 : Int32)), (3, .int x3), (4, .int x4), (5, .int x5)] [.int s0] [(a_this, .inr (5, [.int v_signs, .ref a_pad, .ref a_sort, .ref a_heir, .int v_generations, .ref a_was, .ref a_worth, .int v_toll, .ref a_rights, .ref a_ahead, .ref a_bound, .ref a_owner, .ref a_foundBound, .ref a_foundOwner, .int v_foundLeast, .int v_stops, .ref a_beside, .ref a_upward, .ref a_from, .ref a_queue, .ref a_image, .ref a_isKept])), (a_pad, gI g 60 f_pad), (a_heir, gI g 24 f_heir)] := by
              intro x3 x4 x5 s0 hw
              refine j_istore C 169 rfl [1, 2, 3, 4, 5, 6, 0] (lv' := [(0, .ref a_this), (1, .int x1), (2, .int (2 : Int32)), (3, .int x3), (4, .int x4), (5, .int x5), (6, .int s0)]) dX5_faultOf_167 (by decide) rfl ?_
              refine j_iload C 171 rfl 6 dX5_faultOf_169 rfl ?_
              refine j_if_ne C 174 rfl 177 dX5_faultOf_171 rfl (fun c => ?_) (fun c => ?_)
              · have hw := hw.1 c
                refine j_iload_n C 178 rfl 3 dX5_faultOf_177 rfl rfl ?_
                refine j_iload C 180 rfl 5 dX5_faultOf_178 rfl ?_
                refine j_if_eq C 183 rfl 187 dX5_faultOf_180 rfl (fun c => ?_) (fun c => ?_)
                · have hw := hw.1 c
                  refine j_aload_n C 188 rfl 0 dX5_faultOf_187 rfl rfl ?_
                  refine j_get C 191 rfl 0 5 1 (T := TX5) (N := 22) hi_X5_faultOf_X5 rfl (by decide) (List.mem_of_getElem? (i := 2) rfl) rfl rfl rfl dX5_faultOf_188 ?_
                  refine j_iload C 193 rfl 4 dX5_faultOf_191 rfl ?_
                  obtain ⟨k17, ek17, hk17, hw⟩ := hw
                  refine j_iald C 194 rfl 1 k17 rfl ek17 hk17 (by decide) dX5_faultOf_193 ?_
                  refine j_bipush C 196 rfl dX5_faultOf_194 (v := (48 : Int32)) (by decide) ?_
                  refine j_isub C 197 rfl dX5_faultOf_196 ?_
                  refine j_isub C 198 rfl dX5_faultOf_197 ?_
                  refine j_top (fun n18 en18 => ?_)
                  have hw := hw n18 en18
                  refine j_istore_n C 199 rfl [1, 2, 3, 0, 4, 5, 6] (lv' := [(0, .ref a_this), (1, .int x1), (2, .int (2 : Int32)), (3, .int n18), (4, .int x4), (5, .int x5), (6, .int s0)]) dX5_faultOf_198 rfl (by decide) rfl ?_
                  refine j_iinc C 202 rfl 4 [1, 2, 3, 4, 0, 5, 6] (v' := (1 : Int32)) (lv' := fun z => [(0, .ref a_this), (1, .int x1), (2, .int (2 : Int32)), (3, .int n18), (4, .int z), (5, .int x5), (6, .int s0)]) dX5_faultOf_199 rfl (by decide) (by decide) (fun _ => rfl) (fun n19 en19 => ?_)
                  have hw := hw n19 en19
                  refine j_goto C 75 dX5_faultOf_202 rfl ?_
                  refine j_lv [0, 1, 2, 3, 4] (lv' := [(0, .ref a_this), (1, .int x1), (2, .int (2 : Int32)), (3, .int n18), (4, .int n19)]) rfl ?_
                  exact hL75 _ _ hw
                · have hw := hw.2 c
                  refine j_iconst C 184 rfl dX5_faultOf_183 (v := (0 : Int32)) (by decide) ?_
                  refine j_goto C 197 dX5_faultOf_184 rfl ?_
                  refine j_isub C 198 rfl dX5_faultOf_197 ?_
                  refine j_top (fun n20 en20 => ?_)
                  have hw := hw n20 en20
                  refine j_istore_n C 199 rfl [1, 2, 3, 0, 4, 5, 6] (lv' := [(0, .ref a_this), (1, .int x1), (2, .int (2 : Int32)), (3, .int n20), (4, .int x4), (5, .int x5), (6, .int s0)]) dX5_faultOf_198 rfl (by decide) rfl ?_
                  refine j_iinc C 202 rfl 4 [1, 2, 3, 4, 0, 5, 6] (v' := (1 : Int32)) (lv' := fun z => [(0, .ref a_this), (1, .int x1), (2, .int (2 : Int32)), (3, .int n20), (4, .int z), (5, .int x5), (6, .int s0)]) dX5_faultOf_199 rfl (by decide) (by decide) (fun _ => rfl) (fun n21 en21 => ?_)
                  have hw := hw n21 en21
                  refine j_goto C 75 dX5_faultOf_202 rfl ?_
                  refine j_lv [0, 1, 2, 3, 4] (lv' := [(0, .ref a_this), (1, .int x1), (2, .int (2 : Int32)), (3, .int n20), (4, .int n21)]) rfl ?_
                  exact hL75 _ _ hw
              · have hw := hw.2 c
                refine j_iload C 176 rfl 4 dX5_faultOf_174 rfl ?_
                exact j_iret C R () rfl dX5_faultOf_176 rfl hw
            have hj98 : ∀ (x3 : Int32) (x4 : Int32) (s0 : Int32), wj_X5_faultOf_98 f_pad x1 x3 x4 s0 K L75 → J l g A x 7 0 0 98 [(0, .ref a_this), (1, .int x1), (2, .int (2 : Int32)), (3, .int x3), (4, .int x4)] [.int s0] [(a_this, .inr (5, [.int v_signs, .ref a_pad, .ref a_sort, .ref a_heir, .int v_generations, .ref a_was, .ref a_worth, .int v_toll, .ref a_rights, .ref a_ahead, .ref a_bound, .ref a_owner, .ref a_foundBound, .ref a_foundOwner, .int v_foundLeast, .int v_stops, .ref a_beside, .ref a_upward, .ref a_from, .ref a_queue, .ref a_image, .ref a_isKept])), (a_pad, gI g 60 f_pad), (a_heir, gI g 24 f_heir)] := by
              intro x3 x4 s0 hw
              refine j_istore C 100 rfl [1, 2, 3, 4, 5, 0] (lv' := [(0, .ref a_this), (1, .int x1), (2, .int (2 : Int32)), (3, .int x3), (4, .int x4), (5, .int s0)]) dX5_faultOf_98 (by decide) rfl ?_
              refine j_iload C 102 rfl 5 dX5_faultOf_100 rfl ?_
              refine j_if_eq C 105 rfl 131 dX5_faultOf_102 rfl (fun c => ?_) (fun c => ?_)
              · have hw := hw.1 c
                refine j_aload_n C 132 rfl 0 dX5_faultOf_131 rfl rfl ?_
                refine j_get C 135 rfl 0 5 1 (T := TX5) (N := 22) hi_X5_faultOf_X5 rfl (by decide) (List.mem_of_getElem? (i := 2) rfl) rfl rfl rfl dX5_faultOf_132 ?_
                refine j_iload C 137 rfl 4 dX5_faultOf_135 rfl ?_
                obtain ⟨k22, ek22, hk22, hw⟩ := hw
                refine j_iald C 138 rfl 1 k22 rfl ek22 hk22 (by decide) dX5_faultOf_137 ?_
                refine j_bipush C 140 rfl dX5_faultOf_138 (v := (49 : Int32)) (by decide) ?_
                refine j_bipush C 142 rfl dX5_faultOf_140 (v := (57 : Int32)) (by decide) ?_
                refine j_nm2 (fun n23 en23 => ?_)
                have hw := hw n23 en23
                refine j_ri C 145 rfl (jc_S C (c_X5_in l g n23 (49 : Int32) (57 : Int32) _ hw) 3 gX5_faultOf_X5_in rfl rfl rfl hd_X5_in ⟨Nat.le_of_ble_eq_true rfl, Nat.le_of_ble_eq_true rfl⟩ [] rfl rfl (rest := []) rfl rfl (Nat.le_of_ble_eq_true rfl) dX5_faultOf_142 ⟨Nat.le_refl _, Nat.le_refl _⟩) [] rfl (fun _ => rfl) (fun r24 _ hw => ?_)
                try dsimp only at hw
                refine j_if_eq C 148 rfl 166 dX5_faultOf_145 rfl (fun c => ?_) (fun c => ?_)
                · have hw := hw.1 c
                  refine j_iconst C 167 rfl dX5_faultOf_166 (v := (0 : Int32)) (by decide) ?_
                  exact hj167 _ _ _ _ hw
                · have hw := hw.2 c
                  refine j_aload_n C 149 rfl 0 dX5_faultOf_148 rfl rfl ?_
                  refine j_get C 152 rfl 0 5 1 (T := TX5) (N := 22) hi_X5_faultOf_X5 rfl (by decide) (List.mem_of_getElem? (i := 2) rfl) rfl rfl rfl dX5_faultOf_149 ?_
                  refine j_iload C 154 rfl 4 dX5_faultOf_152 rfl ?_
                  obtain ⟨k25, ek25, hk25, hw⟩ := hw
                  refine j_iald C 155 rfl 1 k25 rfl ek25 hk25 (by decide) dX5_faultOf_154 ?_
                  refine j_bipush C 157 rfl dX5_faultOf_155 (v := (48 : Int32)) (by decide) ?_
                  refine j_isub C 158 rfl dX5_faultOf_157 ?_
                  refine j_iload_n C 159 rfl 3 dX5_faultOf_158 rfl rfl ?_
                  refine j_icmp_gt C 162 rfl 166 dX5_faultOf_159 rfl (fun c => ?_) (fun c => ?_)
                  · have hw := hw.1 c
                    refine j_iconst C 167 rfl dX5_faultOf_166 (v := (0 : Int32)) (by decide) ?_
                    exact hj167 _ _ _ _ hw
                  · have hw := hw.2 c
                    refine j_iconst C 163 rfl dX5_faultOf_162 (v := (1 : Int32)) (by decide) ?_
                    refine j_goto C 167 dX5_faultOf_163 rfl ?_
                    exact hj167 _ _ _ _ hw
              · have hw := hw.2 c
                refine j_iload_n C 106 rfl 3 dX5_faultOf_105 rfl rfl ?_
                refine j_if_le C 109 rfl 127 dX5_faultOf_106 rfl (fun c => ?_) (fun c => ?_)
                · have hw := hw.1 c
                  refine j_iconst C 128 rfl dX5_faultOf_127 (v := (0 : Int32)) (by decide) ?_
                  refine j_goto C 167 dX5_faultOf_128 rfl ?_
                  exact hj167 _ _ _ _ hw
                · have hw := hw.2 c
                  refine j_iload_n C 110 rfl 1 dX5_faultOf_109 rfl rfl ?_
                  refine j_aload_n C 111 rfl 0 dX5_faultOf_110 rfl rfl ?_
                  refine j_get C 114 rfl 0 5 1 (T := TX5) (N := 22) hi_X5_faultOf_X5 rfl (by decide) (List.mem_of_getElem? (i := 2) rfl) rfl rfl rfl dX5_faultOf_111 ?_
                  refine j_iload C 116 rfl 4 dX5_faultOf_114 rfl ?_
                  obtain ⟨k26, ek26, hk26, hw⟩ := hw
                  refine j_iald C 117 rfl 1 k26 rfl ek26 hk26 (by decide) dX5_faultOf_116 ?_
                  refine j_top (fun n27 en27 => ?_)
                  have hw := hw n27 en27
                  refine j_ri C 120 rfl (jc_S C (c_X5_isLetter l g x1 n27 _ hw) 2 gX5_faultOf_X5_isLetter rfl rfl rfl hd_X5_isLetter ⟨Nat.le_of_ble_eq_true rfl, Nat.le_of_ble_eq_true rfl⟩ [] rfl rfl (rest := []) rfl rfl (Nat.le_of_ble_eq_true rfl) dX5_faultOf_117 ⟨Nat.le_refl _, Nat.le_refl _⟩) [] rfl (fun _ => rfl) (fun r28 _ hw => ?_)
                  try dsimp only at hw
                  refine j_if_eq C 123 rfl 127 dX5_faultOf_120 rfl (fun c => ?_) (fun c => ?_)
                  · have hw := hw.1 c
                    refine j_iconst C 128 rfl dX5_faultOf_127 (v := (0 : Int32)) (by decide) ?_
                    refine j_goto C 167 dX5_faultOf_128 rfl ?_
                    exact hj167 _ _ _ _ hw
                  · have hw := hw.2 c
                    refine j_iconst C 124 rfl dX5_faultOf_123 (v := (1 : Int32)) (by decide) ?_
                    refine j_goto C 167 dX5_faultOf_124 rfl ?_
                    exact hj167 _ _ _ _ hw
            refine j_iload C 77 rfl 4 dX5_faultOf_75 rfl ?_
            refine j_aload_n C 78 rfl 0 dX5_faultOf_77 rfl rfl ?_
            refine j_get C 81 rfl 0 5 0 (T := TX5) (N := 22) hi_X5_faultOf_X5 rfl (by decide) (List.mem_of_getElem? (i := 1) rfl) rfl rfl rfl dX5_faultOf_78 ?_
            refine j_icmp_ge C 84 rfl 205 dX5_faultOf_81 rfl (fun c => ?_) (fun c => ?_)
            · have hw := hw.1 c
              refine j_iload_n C 206 rfl 3 dX5_faultOf_205 rfl rfl ?_
              refine j_if_gt C 209 rfl 221 dX5_faultOf_206 rfl (fun c => ?_) (fun c => ?_)
              · have hw := hw.1 c
                refine j_aload_n C 222 rfl 0 dX5_faultOf_221 rfl rfl ?_
                refine j_get C 225 rfl 0 5 0 (T := TX5) (N := 22) hi_X5_faultOf_X5 rfl (by decide) (List.mem_of_getElem? (i := 1) rfl) rfl rfl rfl dX5_faultOf_222 ?_
                refine j_goto C 230 dX5_faultOf_225 rfl ?_
                exact j_iret C R () rfl dX5_faultOf_230 rfl hw
              · have hw := hw.2 c
                refine j_aload_n C 210 rfl 0 dX5_faultOf_209 rfl rfl ?_
                refine j_get C 213 rfl 0 5 0 (T := TX5) (N := 22) hi_X5_faultOf_X5 rfl (by decide) (List.mem_of_getElem? (i := 1) rfl) rfl rfl rfl dX5_faultOf_210 ?_
                refine j_iload_n C 214 rfl 2 dX5_faultOf_213 rfl rfl ?_
                refine j_isub C 215 rfl dX5_faultOf_214 ?_
                refine j_iconst C 216 rfl dX5_faultOf_215 (v := (2 : Int32)) (by decide) ?_
                refine j_irem C 217 rfl dX5_faultOf_216 (by decide) ?_
                refine j_iconst C 218 rfl dX5_faultOf_217 (v := (1 : Int32)) (by decide) ?_
                refine j_icmp_ne C 221 rfl 228 dX5_faultOf_218 rfl (fun c => ?_) (fun c => ?_)
                · have hw := hw.1 c
                  refine j_bipush C 230 rfl dX5_faultOf_228 (v := (-6 : Int32)) (by decide) ?_
                  exact j_iret C R () rfl dX5_faultOf_230 rfl hw
                · have hw := hw.2 c
                  refine j_aload_n C 222 rfl 0 dX5_faultOf_221 rfl rfl ?_
                  refine j_get C 225 rfl 0 5 0 (T := TX5) (N := 22) hi_X5_faultOf_X5 rfl (by decide) (List.mem_of_getElem? (i := 1) rfl) rfl rfl rfl dX5_faultOf_222 ?_
                  refine j_goto C 230 dX5_faultOf_225 rfl ?_
                  exact j_iret C R () rfl dX5_faultOf_230 rfl hw
            · have hw := hw.2 c
              refine j_iload C 86 rfl 4 dX5_faultOf_84 rfl ?_
              refine j_iload_n C 87 rfl 2 dX5_faultOf_86 rfl rfl ?_
              refine j_isub C 88 rfl dX5_faultOf_87 ?_
              refine j_iconst C 89 rfl dX5_faultOf_88 (v := (2 : Int32)) (by decide) ?_
              refine j_irem C 90 rfl dX5_faultOf_89 (by decide) ?_
              refine j_if_ne C 93 rfl 97 dX5_faultOf_90 rfl (fun c => ?_) (fun c => ?_)
              · have hw := hw.1 c
                refine j_iconst C 98 rfl dX5_faultOf_97 (v := (0 : Int32)) (by decide) ?_
                exact hj98 _ _ _ hw
              · have hw := hw.2 c
                refine j_iconst C 94 rfl dX5_faultOf_93 (v := (1 : Int32)) (by decide) ?_
                refine j_goto C 98 dX5_faultOf_94 rfl ?_
                exact hj98 _ _ _ hw
          · have hw := hw.2 c
            refine j_iconst C 55 rfl dX5_faultOf_54 (v := (1 : Int32)) (by decide) ?_
            exact j_iret C R () rfl dX5_faultOf_55 rfl hw
      · have hw := hw.2 c
        refine j_iconst C 34 rfl dX5_faultOf_33 (v := (0 : Int32)) (by decide) ?_
        exact j_iret C R () rfl dX5_faultOf_34 rfl hw
set_option maxRecDepth 20000 in
set_option maxHeartbeats 4000000 in
theorem c_X5_fault (l : Launch) (g : gE) (a_this a_pad a_sort a_heir a_was a_worth a_rights a_ahead a_bound a_owner a_foundBound a_foundOwner a_beside a_upward a_from a_queue a_image a_isKept : Nat) (v_signs : Int32) (v_generations : Int32) (v_toll : Int32) (v_foundLeast : Int32) (v_stops : Int32) (f_pad : (Nat → Int32)) (f_heir : (Nat → Int32)) (x1 : Int32)  (K : Int32 → Prop) (hw : wp_X5_fault v_signs f_pad f_heir x1 K) : Ci l g yX5_fault wsX5_fault { frames := 3, cells := 0, slots := 0, locals := 69 } [.ref a_this, .int x1] [(a_this, .inr (5, [.int v_signs, .ref a_pad, .ref a_sort, .ref a_heir, .int v_generations, .ref a_was, .ref a_worth, .int v_toll, .ref a_rights, .ref a_ahead, .ref a_bound, .ref a_owner, .ref a_foundBound, .ref a_foundOwner, .int v_foundLeast, .int v_stops, .ref a_beside, .ref a_upward, .ref a_from, .ref a_queue, .ref a_image, .ref a_isKept])), (a_pad, gI g 60 f_pad), (a_heir, gI g 24 f_heir)] (fun (r : Int32) (_ : Unit) => K r) (fun (_ : Unit) => [(a_this, .inr (5, [.int v_signs, .ref a_pad, .ref a_sort, .ref a_heir, .int v_generations, .ref a_was, .ref a_worth, .int v_toll, .ref a_rights, .ref a_ahead, .ref a_bound, .ref a_owner, .ref a_foundBound, .ref a_foundOwner, .int v_foundLeast, .int v_stops, .ref a_beside, .ref a_upward, .ref a_from, .ref a_queue, .ref a_image, .ref a_isKept])), (a_pad, gI g 60 f_pad), (a_heir, gI g 24 f_heir)]) 0 0 := by
  refine Ci_of (cc := cX5_fault) (nL := 2) (ret := (some .int)) (own := RX5) (lv0 := [(0, .ref a_this), (1, .int x1)]) (by decide +kernel) rfl rfl (Nat.le_of_ble_eq_true rfl) rfl (fun A x C R => ?_)
  refine j_iload_n C 1 rfl 1 dX5_fault_0 rfl rfl ?_
  refine j_iconst C 2 rfl dX5_fault_1 (v := (0 : Int32)) (by decide) ?_
  refine j_iconst C 3 rfl dX5_fault_2 (v := (2 : Int32)) (by decide) ?_
  refine j_ri C 6 rfl (jc_S C (c_X5_in l g x1 (0 : Int32) (2 : Int32) _ hw) 3 gX5_fault_X5_in rfl rfl rfl hd_X5_in ⟨Nat.le_of_ble_eq_true rfl, Nat.le_of_ble_eq_true rfl⟩ [] rfl rfl (rest := []) rfl rfl (Nat.le_of_ble_eq_true rfl) dX5_fault_3 ⟨Nat.le_refl _, Nat.le_refl _⟩) [] rfl (fun _ => rfl) (fun r1 _ hw => ?_)
  try dsimp only at hw
  refine j_if_eq C 9 rfl 17 dX5_fault_6 rfl (fun c => ?_) (fun c => ?_)
  · have hw := hw.1 c
    refine j_bipush C 19 rfl dX5_fault_17 (v := (-2 : Int32)) (by decide) ?_
    exact j_iret C R () rfl dX5_fault_19 rfl hw
  · have hw := hw.2 c
    refine j_aload_n C 10 rfl 0 dX5_fault_9 rfl rfl ?_
    refine j_iload_n C 11 rfl 1 dX5_fault_10 rfl rfl ?_
    refine j_ri C 14 rfl (jc_V C (c_X5_faultOf l g a_this a_pad a_sort a_heir a_was a_worth a_rights a_ahead a_bound a_owner a_foundBound a_foundOwner a_beside a_upward a_from a_queue a_image a_isKept v_signs v_generations v_toll v_foundLeast v_stops f_pad f_heir x1 _ hw) 1 gX5_fault_X5_faultOf rfl rfl rfl hd_X5_faultOf ⟨Nat.le_of_ble_eq_true rfl, Nat.le_of_ble_eq_true rfl⟩ (j_rec C 0 5 rfl rfl) [0, 1, 2] rfl rfl (rest := []) rfl rfl (Nat.le_of_ble_eq_true rfl) dX5_fault_11 ⟨Nat.le_refl _, Nat.le_refl _⟩) [0, 1, 2] rfl (fun _ => rfl) (fun r2 _ hw => ?_)
    try dsimp only at hw
    refine j_goto C 19 dX5_fault_14 rfl ?_
    exact j_iret C R () rfl dX5_fault_19 rfl hw
theorem hi_X5_ring_X5 : ∀ w ∈ wsX50, w ∈ wsX5_ring := fun _ h => List.mem_cons_of_mem _ (List.mem_append_right _ h)
set_option maxRecDepth 20000 in
set_option maxHeartbeats 4000000 in
theorem c_X5_ring (l : Launch) (g : gE) (a_this a_pad a_sort a_heir a_was a_worth a_rights a_ahead a_bound a_owner a_foundBound a_foundOwner a_beside a_upward a_from a_queue a_image a_isKept : Nat) (v_signs : Int32) (v_generations : Int32) (v_toll : Int32) (v_foundLeast : Int32) (v_stops : Int32) (f_pad : (Nat → Int32)) (f_sort : (Nat → Int32)) (f_heir : (Nat → Int32)) (x1 : Int32)  (K : Int32 → Int32 → (Nat → Int32) → Prop) (hw : wp_X5_ring v_signs f_pad f_sort f_heir x1 K) : Ci l g yX5_ring wsX5_ring { frames := 3, cells := 0, slots := 0, locals := 69 } [.ref a_this, .int x1] [(a_this, .inr (5, [.int v_signs, .ref a_pad, .ref a_sort, .ref a_heir, .int v_generations, .ref a_was, .ref a_worth, .int v_toll, .ref a_rights, .ref a_ahead, .ref a_bound, .ref a_owner, .ref a_foundBound, .ref a_foundOwner, .int v_foundLeast, .int v_stops, .ref a_beside, .ref a_upward, .ref a_from, .ref a_queue, .ref a_image, .ref a_isKept])), (a_pad, gI g 60 f_pad), (a_sort, gI g 120 f_sort), (a_heir, gI g 24 f_heir)] (fun (r : Int32) (u : Int32 × (Nat → Int32)) => K r u.1 u.2) (fun (u : Int32 × (Nat → Int32)) => [(a_this, .inr (5, [.int (u.1), .ref a_pad, .ref a_sort, .ref a_heir, .int v_generations, .ref a_was, .ref a_worth, .int v_toll, .ref a_rights, .ref a_ahead, .ref a_bound, .ref a_owner, .ref a_foundBound, .ref a_foundOwner, .int v_foundLeast, .int v_stops, .ref a_beside, .ref a_upward, .ref a_from, .ref a_queue, .ref a_image, .ref a_isKept])), (a_pad, gI g 60 f_pad), (a_sort, gI g 120 (u.2)), (a_heir, gI g 24 f_heir)]) 0 0 := by
  refine Ci_of (cc := cX5_ring) (nL := 5) (ret := (some .int)) (own := RX5) (lv0 := [(0, .ref a_this), (1, .int x1)]) (by decide +kernel) rfl rfl (Nat.le_of_ble_eq_true rfl) rfl (fun A x C R => ?_)
  refine j_iload_n C 1 rfl 1 dX5_ring_0 rfl rfl ?_
  refine j_ri C 4 rfl (jc_S C (c_X5_isRing l g x1 _ hw) 1 gX5_ring_X5_isRing rfl rfl rfl hd_X5_isRing ⟨Nat.le_of_ble_eq_true rfl, Nat.le_of_ble_eq_true rfl⟩ [] rfl rfl (rest := []) rfl rfl (Nat.le_of_ble_eq_true rfl) dX5_ring_1 ⟨Nat.le_refl _, Nat.le_refl _⟩) [] rfl (fun _ => rfl) (fun r1 _ hw => ?_)
  try dsimp only at hw
  refine j_if_ne C 7 rfl 9 dX5_ring_4 rfl (fun c => ?_) (fun c => ?_)
  · have hw := hw.1 c
    refine j_aload_n C 10 rfl 0 dX5_ring_9 rfl rfl ?_
    refine j_iconst C 11 rfl dX5_ring_10 (v := (0 : Int32)) (by decide) ?_
    refine j_ri C 14 rfl (jc_V C (c_X5_faultOf l g a_this a_pad a_sort a_heir a_was a_worth a_rights a_ahead a_bound a_owner a_foundBound a_foundOwner a_beside a_upward a_from a_queue a_image a_isKept v_signs v_generations v_toll v_foundLeast v_stops f_pad f_heir (0 : Int32) _ hw) 1 gX5_ring_X5_faultOf rfl rfl rfl hd_X5_faultOf ⟨Nat.le_of_ble_eq_true rfl, Nat.le_of_ble_eq_true rfl⟩ (j_rec C 0 5 rfl rfl) [0, 1, 3] rfl rfl (rest := []) rfl rfl (Nat.le_of_ble_eq_true rfl) dX5_ring_11 ⟨Nat.le_refl _, Nat.le_refl _⟩) [0, 1, 3] rfl (fun _ => rfl) (fun r2 _ hw => ?_)
    try dsimp only at hw
    refine j_if_lt C 17 rfl 20 dX5_ring_14 rfl (fun c => ?_) (fun c => ?_)
    · have hw := hw.1 c
      refine j_iconst C 21 rfl dX5_ring_20 (v := (0 : Int32)) (by decide) ?_
      refine j_istore_n C 22 rfl [1, 2, 0] (lv' := [(0, .ref a_this), (1, .int x1), (2, .int (0 : Int32))]) dX5_ring_21 rfl (by decide) rfl ?_
      refine j_iconst C 23 rfl dX5_ring_22 (v := (0 : Int32)) (by decide) ?_
      refine j_istore_n C 24 rfl [1, 2, 3, 0] (lv' := [(0, .ref a_this), (1, .int x1), (2, .int (0 : Int32)), (3, .int (0 : Int32))]) dX5_ring_23 rfl (by decide) rfl ?_
      refine lpW3_ind (G := fun x2 x3 f_sort => J l g A x 5 0 0 24 [(0, .ref a_this), (1, .int x1), (2, .int x2), (3, .int x3)] [] [(a_this, .inr (5, [.int v_signs, .ref a_pad, .ref a_sort, .ref a_heir, .int v_generations, .ref a_was, .ref a_worth, .int v_toll, .ref a_rights, .ref a_ahead, .ref a_bound, .ref a_owner, .ref a_foundBound, .ref a_foundOwner, .int v_foundLeast, .int v_stops, .ref a_beside, .ref a_upward, .ref a_from, .ref a_queue, .ref a_image, .ref a_isKept])), (a_pad, gI g 60 f_pad), (a_sort, gI g 120 f_sort), (a_heir, gI g 24 f_heir)]) (fun L24 x2 x3 f_sort hL24 hw => ?_) _ _ _ hw
      refine j_iload_n C 25 rfl 3 dX5_ring_24 rfl rfl ?_
      refine j_aload_n C 26 rfl 0 dX5_ring_25 rfl rfl ?_
      refine j_get C 29 rfl 0 5 0 (T := TX5) (N := 22) hi_X5_ring_X5 rfl (by decide) (List.mem_of_getElem? (i := 1) rfl) rfl rfl rfl dX5_ring_26 ?_
      refine j_icmp_ge C 32 rfl 83 dX5_ring_29 rfl (fun c => ?_) (fun c => ?_)
      · have hw := hw.1 c
        refine j_aload_n C 84 rfl 0 dX5_ring_83 rfl rfl ?_
        refine j_get C 87 rfl 0 5 0 (T := TX5) (N := 22) hi_X5_ring_X5 rfl (by decide) (List.mem_of_getElem? (i := 1) rfl) rfl rfl rfl dX5_ring_84 ?_
        refine j_iconst C 88 rfl dX5_ring_87 (v := (2 : Int32)) (by decide) ?_
        refine j_idiv C 89 rfl dX5_ring_88 (by decide) ?_
        refine j_top (fun n3 en3 => ?_)
        have hw := hw n3 en3
        refine j_istore_n C 90 rfl [1, 2, 3, 0] (lv' := [(0, .ref a_this), (1, .int x1), (2, .int x2), (3, .int n3)]) dX5_ring_89 rfl (by decide) rfl ?_
        refine j_aload_n C 91 rfl 0 dX5_ring_90 rfl rfl ?_
        refine j_iconst C 92 rfl dX5_ring_91 (v := (0 : Int32)) (by decide) ?_
        refine j_put C 95 rfl 0 5 0 (ws' := [(a_this, .inr (5, [.int (0 : Int32), .ref a_pad, .ref a_sort, .ref a_heir, .int v_generations, .ref a_was, .ref a_worth, .int v_toll, .ref a_rights, .ref a_ahead, .ref a_bound, .ref a_owner, .ref a_foundBound, .ref a_foundOwner, .int v_foundLeast, .int v_stops, .ref a_beside, .ref a_upward, .ref a_from, .ref a_queue, .ref a_image, .ref a_isKept])), (a_pad, gI g 60 f_pad), (a_sort, gI g 120 f_sort), (a_heir, gI g 24 f_heir)]) (T := TX5) (N := 22) (ty := .int) tyX5_ok nmX5 hi_X5_ring_X5 rfl (by decide) (List.mem_of_getElem? (i := 1) rfl) rfl rfl rfl rfl rfl rfl (Nat.le_of_ble_eq_true rfl) rfl dX5_ring_92 ?_
        refine j_iload_n C 96 rfl 3 dX5_ring_95 rfl rfl ?_
        exact j_iret C R ((0 : Int32), f_sort) rfl dX5_ring_96 rfl hw
      · have hw := hw.2 c
        refine j_iconst C 33 rfl dX5_ring_32 (v := (0 : Int32)) (by decide) ?_
        refine j_istore C 35 rfl [1, 2, 3, 4, 0] (lv' := [(0, .ref a_this), (1, .int x1), (2, .int x2), (3, .int x3), (4, .int (0 : Int32))]) dX5_ring_33 (by decide) rfl ?_
        refine lpW3_ind (G := fun x2 x4 f_sort => J l g A x 5 0 0 35 [(0, .ref a_this), (1, .int x1), (2, .int x2), (3, .int x3), (4, .int x4)] [] [(a_this, .inr (5, [.int v_signs, .ref a_pad, .ref a_sort, .ref a_heir, .int v_generations, .ref a_was, .ref a_worth, .int v_toll, .ref a_rights, .ref a_ahead, .ref a_bound, .ref a_owner, .ref a_foundBound, .ref a_foundOwner, .int v_foundLeast, .int v_stops, .ref a_beside, .ref a_upward, .ref a_from, .ref a_queue, .ref a_image, .ref a_isKept])), (a_pad, gI g 60 f_pad), (a_sort, gI g 120 f_sort), (a_heir, gI g 24 f_heir)]) (fun L35 x2 x4 f_sort hL35 hw => ?_) _ _ _ hw
        refine j_iload C 37 rfl 4 dX5_ring_35 rfl ?_
        refine j_aload_n C 38 rfl 0 dX5_ring_37 rfl rfl ?_
        refine j_get C 41 rfl 0 5 1 (T := TX5) (N := 22) hi_X5_ring_X5 rfl (by decide) (List.mem_of_getElem? (i := 2) rfl) rfl rfl rfl dX5_ring_38 ?_
        refine j_iload_n C 42 rfl 3 dX5_ring_41 rfl rfl ?_
        refine j_iconst C 43 rfl dX5_ring_42 (v := (1 : Int32)) (by decide) ?_
        refine j_iadd C 44 rfl dX5_ring_43 ?_
        obtain ⟨k4, ek4, hk4, hw⟩ := hw
        refine j_iald C 45 rfl 1 k4 rfl ek4 hk4 (by decide) dX5_ring_44 ?_
        refine j_bipush C 47 rfl dX5_ring_45 (v := (48 : Int32)) (by decide) ?_
        refine j_isub C 48 rfl dX5_ring_47 ?_
        refine j_icmp_ge C 51 rfl 77 dX5_ring_48 rfl (fun c => ?_) (fun c => ?_)
        · have hw := hw.1 c
          refine j_iinc C 80 rfl 3 [1, 2, 3, 0, 4] (v' := (2 : Int32)) (lv' := fun z => [(0, .ref a_this), (1, .int x1), (2, .int x2), (3, .int z), (4, .int x4)]) dX5_ring_77 rfl (by decide) (by decide) (fun _ => rfl) (fun n5 en5 => ?_)
          have hw := hw n5 en5
          refine j_goto C 24 dX5_ring_80 rfl ?_
          refine j_lv [0, 1, 2, 3] (lv' := [(0, .ref a_this), (1, .int x1), (2, .int x2), (3, .int n5)]) rfl ?_
          exact hL24 _ _ _ hw
        · have hw := hw.2 c
          refine j_aload_n C 52 rfl 0 dX5_ring_51 rfl rfl ?_
          refine j_get C 55 rfl 0 5 2 (T := TX5) (N := 22) hi_X5_ring_X5 rfl (by decide) (List.mem_of_getElem? (i := 3) rfl) rfl rfl rfl dX5_ring_52 ?_
          refine j_bipush C 57 rfl dX5_ring_55 (v := (24 : Int32)) (by decide) ?_
          refine j_iload_n C 58 rfl 1 dX5_ring_57 rfl rfl ?_
          refine j_imul C 59 rfl dX5_ring_58 ?_
          refine j_iload_n C 60 rfl 2 dX5_ring_59 rfl rfl ?_
          refine j_iadd C 61 rfl dX5_ring_60 ?_
          refine j_aload_n C 62 rfl 0 dX5_ring_61 rfl rfl ?_
          refine j_get C 65 rfl 0 5 1 (T := TX5) (N := 22) hi_X5_ring_X5 rfl (by decide) (List.mem_of_getElem? (i := 2) rfl) rfl rfl rfl dX5_ring_62 ?_
          refine j_iload_n C 66 rfl 3 dX5_ring_65 rfl rfl ?_
          obtain ⟨k6, ek6, hk6, hw⟩ := hw
          refine j_iald C 67 rfl 1 k6 rfl ek6 hk6 (by decide) dX5_ring_66 ?_
          refine j_top (fun n7 en7 => ?_)
          have hw := hw n7 en7
          obtain ⟨k8, ek8, hk8, hw⟩ := hw
          refine j_iast C 68 rfl 2 k8 (ws' := [(a_this, .inr (5, [.int v_signs, .ref a_pad, .ref a_sort, .ref a_heir, .int v_generations, .ref a_was, .ref a_worth, .int v_toll, .ref a_rights, .ref a_ahead, .ref a_bound, .ref a_owner, .ref a_foundBound, .ref a_foundOwner, .int v_foundLeast, .int v_stops, .ref a_beside, .ref a_upward, .ref a_from, .ref a_queue, .ref a_image, .ref a_isKept])), (a_pad, gI g 60 f_pad), (a_sort, gI g 120 (upd f_sort k8 n7)), (a_heir, gI g 24 f_heir)]) rfl ek8 hk8 (by decide) rfl dX5_ring_67 ?_
          refine j_iinc C 71 rfl 2 [1, 2, 0, 3, 4] (v' := (1 : Int32)) (lv' := fun z => [(0, .ref a_this), (1, .int x1), (2, .int z), (3, .int x3), (4, .int x4)]) dX5_ring_68 rfl (by decide) (by decide) (fun _ => rfl) (fun n9 en9 => ?_)
          have hw := hw n9 en9
          refine j_iinc C 74 rfl 4 [1, 2, 3, 4, 0] (v' := (1 : Int32)) (lv' := fun z => [(0, .ref a_this), (1, .int x1), (2, .int n9), (3, .int x3), (4, .int z)]) dX5_ring_71 rfl (by decide) (by decide) (fun _ => rfl) (fun n10 en10 => ?_)
          have hw := hw n10 en10
          refine j_goto C 35 dX5_ring_74 rfl ?_
          exact hL35 _ _ _ hw
    · have hw := hw.2 c
      refine j_bipush C 19 rfl dX5_ring_17 (v := (-5 : Int32)) (by decide) ?_
      exact j_iret C R (v_signs, f_sort) rfl dX5_ring_19 rfl hw
  · have hw := hw.2 c
    refine j_iconst C 8 rfl dX5_ring_7 (v := (-1 : Int32)) (by decide) ?_
    exact j_iret C R (v_signs, f_sort) rfl dX5_ring_8 rfl hw
theorem hi_X5_keepGeneration_X5 : ∀ w ∈ wsX50, w ∈ wsX5_keepGeneration := fun _ h => List.mem_cons_of_mem _ (List.mem_append_right _ h)
set_option maxRecDepth 20000 in
set_option maxHeartbeats 4000000 in
theorem c_X5_keepGeneration (l : Launch) (g : gE) (a_this a_pad a_sort a_heir a_was a_worth a_rights a_ahead a_bound a_owner a_foundBound a_foundOwner a_beside a_upward a_from a_queue a_image a_isKept : Nat) (v_signs : Int32) (v_generations : Int32) (v_toll : Int32) (v_foundLeast : Int32) (v_stops : Int32) (f_heir : (Nat → Int32)) (f_was : (Nat → Int32))   (K : (Nat → Int32) → Prop) (hw : wp_X5_keepGeneration v_generations f_heir f_was K) : Cv l g yX5_keepGeneration wsX5_keepGeneration { frames := 0, cells := 0, slots := 0, locals := 0 } [.ref a_this] [(a_this, .inr (5, [.int v_signs, .ref a_pad, .ref a_sort, .ref a_heir, .int v_generations, .ref a_was, .ref a_worth, .int v_toll, .ref a_rights, .ref a_ahead, .ref a_bound, .ref a_owner, .ref a_foundBound, .ref a_foundOwner, .int v_foundLeast, .int v_stops, .ref a_beside, .ref a_upward, .ref a_from, .ref a_queue, .ref a_image, .ref a_isKept])), (a_heir, gI g 24 f_heir), (a_was, gI g 504 f_was)] (fun (u : (Nat → Int32)) => K u) (fun (u : (Nat → Int32)) => [(a_this, .inr (5, [.int v_signs, .ref a_pad, .ref a_sort, .ref a_heir, .int v_generations, .ref a_was, .ref a_worth, .int v_toll, .ref a_rights, .ref a_ahead, .ref a_bound, .ref a_owner, .ref a_foundBound, .ref a_foundOwner, .int v_foundLeast, .int v_stops, .ref a_beside, .ref a_upward, .ref a_from, .ref a_queue, .ref a_image, .ref a_isKept])), (a_heir, gI g 24 f_heir), (a_was, gI g 504 u)]) 0 0 := by
  refine Cv_of (cc := cX5_keepGeneration) (nL := 2) (ret := none) (own := RX5) (lv0 := [(0, .ref a_this)]) (by decide +kernel) rfl rfl (Nat.le_of_ble_eq_true rfl) rfl (fun A x C R => ?_)
  refine j_iconst C 1 rfl dX5_keepGeneration_0 (v := (0 : Int32)) (by decide) ?_
  refine j_istore_n C 2 rfl [1, 0] (lv' := [(0, .ref a_this), (1, .int (0 : Int32))]) dX5_keepGeneration_1 rfl (by decide) rfl ?_
  refine lpW2_ind (G := fun x1 f_was => J l g A x 2 0 0 2 [(0, .ref a_this), (1, .int x1)] [] [(a_this, .inr (5, [.int v_signs, .ref a_pad, .ref a_sort, .ref a_heir, .int v_generations, .ref a_was, .ref a_worth, .int v_toll, .ref a_rights, .ref a_ahead, .ref a_bound, .ref a_owner, .ref a_foundBound, .ref a_foundOwner, .int v_foundLeast, .int v_stops, .ref a_beside, .ref a_upward, .ref a_from, .ref a_queue, .ref a_image, .ref a_isKept])), (a_heir, gI g 24 f_heir), (a_was, gI g 504 f_was)]) (fun L2 x1 f_was hL2 hw => ?_) _ _ hw
  refine j_iload_n C 3 rfl 1 dX5_keepGeneration_2 rfl rfl ?_
  refine j_bipush C 5 rfl dX5_keepGeneration_3 (v := (24 : Int32)) (by decide) ?_
  refine j_icmp_ge C 8 rfl 34 dX5_keepGeneration_5 rfl (fun c => ?_) (fun c => ?_)
  · have hw := hw.1 c
    exact j_vret C R (f_was) dX5_keepGeneration_34 rfl hw
  · have hw := hw.2 c
    refine j_aload_n C 9 rfl 0 dX5_keepGeneration_8 rfl rfl ?_
    refine j_get C 12 rfl 0 5 5 (T := TX5) (N := 22) hi_X5_keepGeneration_X5 rfl (by decide) (List.mem_of_getElem? (i := 1) rfl) rfl rfl rfl dX5_keepGeneration_9 ?_
    refine j_bipush C 14 rfl dX5_keepGeneration_12 (v := (24 : Int32)) (by decide) ?_
    refine j_aload_n C 15 rfl 0 dX5_keepGeneration_14 rfl rfl ?_
    refine j_get C 18 rfl 0 5 4 (T := TX5) (N := 22) hi_X5_keepGeneration_X5 rfl (by decide) (List.mem_of_getElem? (i := 2) rfl) rfl rfl rfl dX5_keepGeneration_15 ?_
    refine j_imul C 19 rfl dX5_keepGeneration_18 ?_
    refine j_iload_n C 20 rfl 1 dX5_keepGeneration_19 rfl rfl ?_
    refine j_iadd C 21 rfl dX5_keepGeneration_20 ?_
    refine j_aload_n C 22 rfl 0 dX5_keepGeneration_21 rfl rfl ?_
    refine j_get C 25 rfl 0 5 3 (T := TX5) (N := 22) hi_X5_keepGeneration_X5 rfl (by decide) (List.mem_of_getElem? (i := 3) rfl) rfl rfl rfl dX5_keepGeneration_22 ?_
    refine j_iload_n C 26 rfl 1 dX5_keepGeneration_25 rfl rfl ?_
    obtain ⟨k1, ek1, hk1, hw⟩ := hw
    refine j_iald C 27 rfl 1 k1 rfl ek1 hk1 (by decide) dX5_keepGeneration_26 ?_
    refine j_top (fun n2 en2 => ?_)
    have hw := hw n2 en2
    obtain ⟨k3, ek3, hk3, hw⟩ := hw
    refine j_iast C 28 rfl 2 k3 (ws' := [(a_this, .inr (5, [.int v_signs, .ref a_pad, .ref a_sort, .ref a_heir, .int v_generations, .ref a_was, .ref a_worth, .int v_toll, .ref a_rights, .ref a_ahead, .ref a_bound, .ref a_owner, .ref a_foundBound, .ref a_foundOwner, .int v_foundLeast, .int v_stops, .ref a_beside, .ref a_upward, .ref a_from, .ref a_queue, .ref a_image, .ref a_isKept])), (a_heir, gI g 24 f_heir), (a_was, gI g 504 (upd f_was k3 n2))]) rfl ek3 hk3 (by decide) rfl dX5_keepGeneration_27 ?_
    refine j_iinc C 31 rfl 1 [1, 0] (v' := (1 : Int32)) (lv' := fun z => [(0, .ref a_this), (1, .int z)]) dX5_keepGeneration_28 rfl (by decide) (by decide) (fun _ => rfl) (fun n4 en4 => ?_)
    have hw := hw n4 en4
    refine j_goto C 2 dX5_keepGeneration_31 rfl ?_
    exact hL2 _ _ hw
theorem hi_X5_slices_X5 : ∀ w ∈ wsX50, w ∈ wsX5_slices := fun _ h => List.mem_cons_of_mem _ (List.mem_append_right _ h)
set_option maxRecDepth 20000 in
set_option maxHeartbeats 4000000 in
theorem c_X5_slices (l : Launch) (g : gE) (a_this a_pad a_sort a_heir a_was a_worth a_rights a_ahead a_bound a_owner a_foundBound a_foundOwner a_beside a_upward a_from a_queue a_image a_isKept : Nat) (v_signs : Int32) (v_generations : Int32) (v_toll : Int32) (v_foundLeast : Int32) (v_stops : Int32) (f_pad : (Nat → Int32)) (f_heir : (Nat → Int32)) (f_was : (Nat → Int32))   (K : Int32 → Int32 → Int32 → (Nat → Int32) → (Nat → Int32) → Prop) (hw : wp_X5_slices v_signs v_generations f_pad f_heir f_was K) : Ci l g yX5_slices wsX5_slices { frames := 3, cells := 0, slots := 0, locals := 69 } [.ref a_this] [(a_this, .inr (5, [.int v_signs, .ref a_pad, .ref a_sort, .ref a_heir, .int v_generations, .ref a_was, .ref a_worth, .int v_toll, .ref a_rights, .ref a_ahead, .ref a_bound, .ref a_owner, .ref a_foundBound, .ref a_foundOwner, .int v_foundLeast, .int v_stops, .ref a_beside, .ref a_upward, .ref a_from, .ref a_queue, .ref a_image, .ref a_isKept])), (a_pad, gI g 60 f_pad), (a_heir, gI g 24 f_heir), (a_was, gI g 504 f_was)] (fun (r : Int32) (u : Int32 × Int32 × (Nat → Int32) × (Nat → Int32)) => K r u.1 u.2.1 u.2.2.1 u.2.2.2) (fun (u : Int32 × Int32 × (Nat → Int32) × (Nat → Int32)) => [(a_this, .inr (5, [.int (u.1), .ref a_pad, .ref a_sort, .ref a_heir, .int (u.2.1), .ref a_was, .ref a_worth, .int v_toll, .ref a_rights, .ref a_ahead, .ref a_bound, .ref a_owner, .ref a_foundBound, .ref a_foundOwner, .int v_foundLeast, .int v_stops, .ref a_beside, .ref a_upward, .ref a_from, .ref a_queue, .ref a_image, .ref a_isKept])), (a_pad, gI g 60 f_pad), (a_heir, gI g 24 (u.2.2.1)), (a_was, gI g 504 (u.2.2.2))]) 0 0 := by
  refine Ci_of (cc := cX5_slices) (nL := 4) (ret := (some .int)) (own := RX5) (lv0 := [(0, .ref a_this)]) (by decide +kernel) rfl rfl (Nat.le_of_ble_eq_true rfl) rfl (fun A x C R => ?_)
  refine j_aload_n C 1 rfl 0 dX5_slices_0 rfl rfl ?_
  refine j_iconst C 2 rfl dX5_slices_1 (v := (1 : Int32)) (by decide) ?_
  refine j_ri C 5 rfl (jc_V C (c_X5_faultOf l g a_this a_pad a_sort a_heir a_was a_worth a_rights a_ahead a_bound a_owner a_foundBound a_foundOwner a_beside a_upward a_from a_queue a_image a_isKept v_signs v_generations v_toll v_foundLeast v_stops f_pad f_heir (1 : Int32) _ hw) 1 gX5_slices_X5_faultOf rfl rfl rfl hd_X5_faultOf ⟨Nat.le_of_ble_eq_true rfl, Nat.le_of_ble_eq_true rfl⟩ (j_rec C 0 5 rfl rfl) [0, 1, 2] rfl rfl (rest := []) rfl rfl (Nat.le_of_ble_eq_true rfl) dX5_slices_2 ⟨Nat.le_refl _, Nat.le_refl _⟩) [0, 1, 2] rfl (fun _ => rfl) (fun r1 _ hw => ?_)
  try dsimp only at hw
  refine j_if_lt C 8 rfl 11 dX5_slices_5 rfl (fun c => ?_) (fun c => ?_)
  · have hw := hw.1 c
    refine j_iconst C 12 rfl dX5_slices_11 (v := (0 : Int32)) (by decide) ?_
    refine j_istore_n C 13 rfl [1, 0] (lv' := [(0, .ref a_this), (1, .int (0 : Int32))]) dX5_slices_12 rfl (by decide) rfl ?_
    refine j_iconst C 14 rfl dX5_slices_13 (v := (0 : Int32)) (by decide) ?_
    refine j_istore_n C 15 rfl [1, 2, 0] (lv' := [(0, .ref a_this), (1, .int (0 : Int32)), (2, .int (0 : Int32))]) dX5_slices_14 rfl (by decide) rfl ?_
    refine lpW3_ind (G := fun x1 x2 f_heir => J l g A x 4 0 0 15 [(0, .ref a_this), (1, .int x1), (2, .int x2)] [] [(a_this, .inr (5, [.int v_signs, .ref a_pad, .ref a_sort, .ref a_heir, .int v_generations, .ref a_was, .ref a_worth, .int v_toll, .ref a_rights, .ref a_ahead, .ref a_bound, .ref a_owner, .ref a_foundBound, .ref a_foundOwner, .int v_foundLeast, .int v_stops, .ref a_beside, .ref a_upward, .ref a_from, .ref a_queue, .ref a_image, .ref a_isKept])), (a_pad, gI g 60 f_pad), (a_heir, gI g 24 f_heir), (a_was, gI g 504 f_was)]) (fun L15 x1 x2 f_heir hL15 hw => ?_) _ _ _ hw
    refine j_iload_n C 16 rfl 2 dX5_slices_15 rfl rfl ?_
    refine j_aload_n C 17 rfl 0 dX5_slices_16 rfl rfl ?_
    refine j_get C 20 rfl 0 5 0 (T := TX5) (N := 22) hi_X5_slices_X5 rfl (by decide) (List.mem_of_getElem? (i := 1) rfl) rfl rfl rfl dX5_slices_17 ?_
    refine j_icmp_ge C 23 rfl 70 dX5_slices_20 rfl (fun c => ?_) (fun c => ?_)
    · have hw := hw.1 c
      refine j_aload_n C 71 rfl 0 dX5_slices_70 rfl rfl ?_
      refine j_get C 74 rfl 0 5 0 (T := TX5) (N := 22) hi_X5_slices_X5 rfl (by decide) (List.mem_of_getElem? (i := 1) rfl) rfl rfl rfl dX5_slices_71 ?_
      refine j_iconst C 75 rfl dX5_slices_74 (v := (2 : Int32)) (by decide) ?_
      refine j_idiv C 76 rfl dX5_slices_75 (by decide) ?_
      refine j_top (fun n2 en2 => ?_)
      have hw := hw n2 en2
      refine j_istore_n C 77 rfl [1, 2, 0] (lv' := [(0, .ref a_this), (1, .int x1), (2, .int n2)]) dX5_slices_76 rfl (by decide) rfl ?_
      refine j_aload_n C 78 rfl 0 dX5_slices_77 rfl rfl ?_
      refine j_iconst C 79 rfl dX5_slices_78 (v := (0 : Int32)) (by decide) ?_
      refine j_put C 82 rfl 0 5 0 (ws' := [(a_this, .inr (5, [.int (0 : Int32), .ref a_pad, .ref a_sort, .ref a_heir, .int v_generations, .ref a_was, .ref a_worth, .int v_toll, .ref a_rights, .ref a_ahead, .ref a_bound, .ref a_owner, .ref a_foundBound, .ref a_foundOwner, .int v_foundLeast, .int v_stops, .ref a_beside, .ref a_upward, .ref a_from, .ref a_queue, .ref a_image, .ref a_isKept])), (a_pad, gI g 60 f_pad), (a_heir, gI g 24 f_heir), (a_was, gI g 504 f_was)]) (T := TX5) (N := 22) (ty := .int) tyX5_ok nmX5 hi_X5_slices_X5 rfl (by decide) (List.mem_of_getElem? (i := 1) rfl) rfl rfl rfl rfl rfl rfl (Nat.le_of_ble_eq_true rfl) rfl dX5_slices_79 ?_
      refine j_aload_n C 83 rfl 0 dX5_slices_82 rfl rfl ?_
      refine j_iconst C 84 rfl dX5_slices_83 (v := (0 : Int32)) (by decide) ?_
      refine j_put C 87 rfl 0 5 4 (ws' := [(a_this, .inr (5, [.int (0 : Int32), .ref a_pad, .ref a_sort, .ref a_heir, .int (0 : Int32), .ref a_was, .ref a_worth, .int v_toll, .ref a_rights, .ref a_ahead, .ref a_bound, .ref a_owner, .ref a_foundBound, .ref a_foundOwner, .int v_foundLeast, .int v_stops, .ref a_beside, .ref a_upward, .ref a_from, .ref a_queue, .ref a_image, .ref a_isKept])), (a_pad, gI g 60 f_pad), (a_heir, gI g 24 f_heir), (a_was, gI g 504 f_was)]) (T := TX5) (N := 22) (ty := .int) tyX5_ok nmX5 hi_X5_slices_X5 rfl (by decide) (List.mem_of_getElem? (i := 4) rfl) rfl rfl rfl rfl rfl rfl (Nat.le_of_ble_eq_true rfl) rfl dX5_slices_84 ?_
      refine j_aload_n C 88 rfl 0 dX5_slices_87 rfl rfl ?_
      refine j_rwv C 91 rfl (jc_V C (c_X5_keepGeneration l g a_this a_pad a_sort a_heir a_was a_worth a_rights a_ahead a_bound a_owner a_foundBound a_foundOwner a_beside a_upward a_from a_queue a_image a_isKept (0 : Int32) (0 : Int32) v_toll v_foundLeast v_stops f_heir f_was _ hw) 0 gX5_slices_X5_keepGeneration rfl rfl rfl hd_X5_keepGeneration ⟨Nat.le_of_ble_eq_true rfl, Nat.le_of_ble_eq_true rfl⟩ (j_rec C 0 5 rfl rfl) [0, 2, 3] rfl rfl (rest := []) rfl rfl (Nat.le_of_ble_eq_true rfl) dX5_slices_88 ⟨Nat.le_refl _, Nat.le_refl _⟩) [0, 2, 3] [1] [1, 0, 2, 3] (wr := [(a_pad, gI g 60 f_pad)]) (ws' := fun u => [(a_this, .inr (5, [.int (0 : Int32), .ref a_pad, .ref a_sort, .ref a_heir, .int (0 : Int32), .ref a_was, .ref a_worth, .int v_toll, .ref a_rights, .ref a_ahead, .ref a_bound, .ref a_owner, .ref a_foundBound, .ref a_foundOwner, .int v_foundLeast, .int v_stops, .ref a_beside, .ref a_upward, .ref a_from, .ref a_queue, .ref a_image, .ref a_isKept])), (a_pad, gI g 60 f_pad), (a_heir, gI g 24 f_heir), (a_was, gI g 504 u)]) rfl rfl rfl (by decide) rfl (fun _ => rfl) (fun u hw => ?_)
      obtain ⟨u3, eu3⟩ : ∃ z, z = u := ⟨_, rfl⟩
      subst eu3
      try dsimp only at hw
      show J l g A x 4 0 0 91 [(0, .ref a_this), (1, .int x1), (2, .int n2)] [] [(a_this, .inr (5, [.int (0 : Int32), .ref a_pad, .ref a_sort, .ref a_heir, .int (0 : Int32), .ref a_was, .ref a_worth, .int v_toll, .ref a_rights, .ref a_ahead, .ref a_bound, .ref a_owner, .ref a_foundBound, .ref a_foundOwner, .int v_foundLeast, .int v_stops, .ref a_beside, .ref a_upward, .ref a_from, .ref a_queue, .ref a_image, .ref a_isKept])), (a_pad, gI g 60 f_pad), (a_heir, gI g 24 f_heir), (a_was, gI g 504 u3)]
      refine j_iload_n C 92 rfl 2 dX5_slices_91 rfl rfl ?_
      exact j_iret C R ((0 : Int32), (0 : Int32), f_heir, u3) rfl dX5_slices_92 rfl hw
    · have hw := hw.2 c
      refine j_iconst C 24 rfl dX5_slices_23 (v := (0 : Int32)) (by decide) ?_
      refine j_istore_n C 25 rfl [1, 2, 3, 0] (lv' := [(0, .ref a_this), (1, .int x1), (2, .int x2), (3, .int (0 : Int32))]) dX5_slices_24 rfl (by decide) rfl ?_
      refine lpW3_ind (G := fun x1 x3 f_heir => J l g A x 4 0 0 25 [(0, .ref a_this), (1, .int x1), (2, .int x2), (3, .int x3)] [] [(a_this, .inr (5, [.int v_signs, .ref a_pad, .ref a_sort, .ref a_heir, .int v_generations, .ref a_was, .ref a_worth, .int v_toll, .ref a_rights, .ref a_ahead, .ref a_bound, .ref a_owner, .ref a_foundBound, .ref a_foundOwner, .int v_foundLeast, .int v_stops, .ref a_beside, .ref a_upward, .ref a_from, .ref a_queue, .ref a_image, .ref a_isKept])), (a_pad, gI g 60 f_pad), (a_heir, gI g 24 f_heir), (a_was, gI g 504 f_was)]) (fun L25 x1 x3 f_heir hL25 hw => ?_) _ _ _ hw
      refine j_iload_n C 26 rfl 3 dX5_slices_25 rfl rfl ?_
      refine j_aload_n C 27 rfl 0 dX5_slices_26 rfl rfl ?_
      refine j_get C 30 rfl 0 5 1 (T := TX5) (N := 22) hi_X5_slices_X5 rfl (by decide) (List.mem_of_getElem? (i := 2) rfl) rfl rfl rfl dX5_slices_27 ?_
      refine j_iload_n C 31 rfl 2 dX5_slices_30 rfl rfl ?_
      refine j_iconst C 32 rfl dX5_slices_31 (v := (1 : Int32)) (by decide) ?_
      refine j_iadd C 33 rfl dX5_slices_32 ?_
      obtain ⟨k4, ek4, hk4, hw⟩ := hw
      refine j_iald C 34 rfl 1 k4 rfl ek4 hk4 (by decide) dX5_slices_33 ?_
      refine j_bipush C 36 rfl dX5_slices_34 (v := (48 : Int32)) (by decide) ?_
      refine j_isub C 37 rfl dX5_slices_36 ?_
      refine j_icmp_ge C 40 rfl 64 dX5_slices_37 rfl (fun c => ?_) (fun c => ?_)
      · have hw := hw.1 c
        refine j_iinc C 67 rfl 2 [1, 2, 0, 3] (v' := (2 : Int32)) (lv' := fun z => [(0, .ref a_this), (1, .int x1), (2, .int z), (3, .int x3)]) dX5_slices_64 rfl (by decide) (by decide) (fun _ => rfl) (fun n5 en5 => ?_)
        have hw := hw n5 en5
        refine j_goto C 15 dX5_slices_67 rfl ?_
        refine j_lv [0, 1, 2] (lv' := [(0, .ref a_this), (1, .int x1), (2, .int n5)]) rfl ?_
        exact hL15 _ _ _ hw
      · have hw := hw.2 c
        refine j_aload_n C 41 rfl 0 dX5_slices_40 rfl rfl ?_
        refine j_get C 44 rfl 0 5 3 (T := TX5) (N := 22) hi_X5_slices_X5 rfl (by decide) (List.mem_of_getElem? (i := 3) rfl) rfl rfl rfl dX5_slices_41 ?_
        refine j_iload_n C 45 rfl 1 dX5_slices_44 rfl rfl ?_
        refine j_aload_n C 46 rfl 0 dX5_slices_45 rfl rfl ?_
        refine j_get C 49 rfl 0 5 1 (T := TX5) (N := 22) hi_X5_slices_X5 rfl (by decide) (List.mem_of_getElem? (i := 2) rfl) rfl rfl rfl dX5_slices_46 ?_
        refine j_iload_n C 50 rfl 2 dX5_slices_49 rfl rfl ?_
        obtain ⟨k6, ek6, hk6, hw⟩ := hw
        refine j_iald C 51 rfl 1 k6 rfl ek6 hk6 (by decide) dX5_slices_50 ?_
        refine j_bipush C 53 rfl dX5_slices_51 (v := (97 : Int32)) (by decide) ?_
        refine j_isub C 54 rfl dX5_slices_53 ?_
        refine j_top (fun n7 en7 => ?_)
        have hw := hw n7 en7
        obtain ⟨k8, ek8, hk8, hw⟩ := hw
        refine j_iast C 55 rfl 2 k8 (ws' := [(a_this, .inr (5, [.int v_signs, .ref a_pad, .ref a_sort, .ref a_heir, .int v_generations, .ref a_was, .ref a_worth, .int v_toll, .ref a_rights, .ref a_ahead, .ref a_bound, .ref a_owner, .ref a_foundBound, .ref a_foundOwner, .int v_foundLeast, .int v_stops, .ref a_beside, .ref a_upward, .ref a_from, .ref a_queue, .ref a_image, .ref a_isKept])), (a_pad, gI g 60 f_pad), (a_heir, gI g 24 (upd f_heir k8 n7)), (a_was, gI g 504 f_was)]) rfl ek8 hk8 (by decide) rfl dX5_slices_54 ?_
        refine j_iinc C 58 rfl 1 [1, 0, 2, 3] (v' := (1 : Int32)) (lv' := fun z => [(0, .ref a_this), (1, .int z), (2, .int x2), (3, .int x3)]) dX5_slices_55 rfl (by decide) (by decide) (fun _ => rfl) (fun n9 en9 => ?_)
        have hw := hw n9 en9
        refine j_iinc C 61 rfl 3 [1, 2, 3, 0] (v' := (1 : Int32)) (lv' := fun z => [(0, .ref a_this), (1, .int n9), (2, .int x2), (3, .int z)]) dX5_slices_58 rfl (by decide) (by decide) (fun _ => rfl) (fun n10 en10 => ?_)
        have hw := hw n10 en10
        refine j_goto C 25 dX5_slices_61 rfl ?_
        exact hL25 _ _ _ hw
  · have hw := hw.2 c
    refine j_bipush C 10 rfl dX5_slices_8 (v := (-5 : Int32)) (by decide) ?_
    exact j_iret C R (v_signs, v_generations, f_heir, f_was) rfl dX5_slices_10 rfl hw
theorem hi_X5_will_X5 : ∀ w ∈ wsX50, w ∈ wsX5_will := fun _ h => List.mem_cons_of_mem _ (List.mem_append_right _ h)
set_option maxRecDepth 20000 in
set_option maxHeartbeats 4000000 in
theorem c_X5_will (l : Launch) (g : gE) (a_this a_pad a_sort a_heir a_was a_worth a_rights a_ahead a_bound a_owner a_foundBound a_foundOwner a_beside a_upward a_from a_queue a_image a_isKept : Nat) (v_signs : Int32) (v_generations : Int32) (v_toll : Int32) (v_foundLeast : Int32) (v_stops : Int32) (f_pad : (Nat → Int32)) (f_heir : (Nat → Int32)) (f_was : (Nat → Int32))   (K : Int32 → Int32 → Int32 → (Nat → Int32) → (Nat → Int32) → Prop) (hw : wp_X5_will v_signs v_generations f_pad f_heir f_was K) : Ci l g yX5_will wsX5_will { frames := 3, cells := 0, slots := 0, locals := 69 } [.ref a_this] [(a_this, .inr (5, [.int v_signs, .ref a_pad, .ref a_sort, .ref a_heir, .int v_generations, .ref a_was, .ref a_worth, .int v_toll, .ref a_rights, .ref a_ahead, .ref a_bound, .ref a_owner, .ref a_foundBound, .ref a_foundOwner, .int v_foundLeast, .int v_stops, .ref a_beside, .ref a_upward, .ref a_from, .ref a_queue, .ref a_image, .ref a_isKept])), (a_pad, gI g 60 f_pad), (a_heir, gI g 24 f_heir), (a_was, gI g 504 f_was)] (fun (r : Int32) (u : Int32 × Int32 × (Nat → Int32) × (Nat → Int32)) => K r u.1 u.2.1 u.2.2.1 u.2.2.2) (fun (u : Int32 × Int32 × (Nat → Int32) × (Nat → Int32)) => [(a_this, .inr (5, [.int (u.1), .ref a_pad, .ref a_sort, .ref a_heir, .int (u.2.1), .ref a_was, .ref a_worth, .int v_toll, .ref a_rights, .ref a_ahead, .ref a_bound, .ref a_owner, .ref a_foundBound, .ref a_foundOwner, .int v_foundLeast, .int v_stops, .ref a_beside, .ref a_upward, .ref a_from, .ref a_queue, .ref a_image, .ref a_isKept])), (a_pad, gI g 60 f_pad), (a_heir, gI g 24 (u.2.2.1)), (a_was, gI g 504 (u.2.2.2))]) 0 0 := by
  refine Ci_of (cc := cX5_will) (nL := 5) (ret := (some .int)) (own := RX5) (lv0 := [(0, .ref a_this)]) (by decide +kernel) rfl rfl (Nat.le_of_ble_eq_true rfl) rfl (fun A x C R => ?_)
  refine j_aload_n C 1 rfl 0 dX5_will_0 rfl rfl ?_
  refine j_get C 4 rfl 0 5 4 (T := TX5) (N := 22) hi_X5_will_X5 rfl (by decide) (List.mem_of_getElem? (i := 1) rfl) rfl rfl rfl dX5_will_1 ?_
  refine j_bipush C 6 rfl dX5_will_4 (v := (20 : Int32)) (by decide) ?_
  refine j_icmp_ne C 9 rfl 12 dX5_will_6 rfl (fun c => ?_) (fun c => ?_)
  · have hw := hw.1 c
    refine j_aload_n C 13 rfl 0 dX5_will_12 rfl rfl ?_
    refine j_iconst C 14 rfl dX5_will_13 (v := (2 : Int32)) (by decide) ?_
    refine j_ri C 17 rfl (jc_V C (c_X5_faultOf l g a_this a_pad a_sort a_heir a_was a_worth a_rights a_ahead a_bound a_owner a_foundBound a_foundOwner a_beside a_upward a_from a_queue a_image a_isKept v_signs v_generations v_toll v_foundLeast v_stops f_pad f_heir (2 : Int32) _ hw) 1 gX5_will_X5_faultOf rfl rfl rfl hd_X5_faultOf ⟨Nat.le_of_ble_eq_true rfl, Nat.le_of_ble_eq_true rfl⟩ (j_rec C 0 5 rfl rfl) [0, 1, 2] rfl rfl (rest := []) rfl rfl (Nat.le_of_ble_eq_true rfl) dX5_will_14 ⟨Nat.le_refl _, Nat.le_refl _⟩) [0, 1, 2] rfl (fun _ => rfl) (fun r1 _ hw => ?_)
    try dsimp only at hw
    refine j_if_lt C 20 rfl 23 dX5_will_17 rfl (fun c => ?_) (fun c => ?_)
    · have hw := hw.1 c
      refine j_aload_n C 24 rfl 0 dX5_will_23 rfl rfl ?_
      refine j_get C 27 rfl 0 5 1 (T := TX5) (N := 22) hi_X5_will_X5 rfl (by decide) (List.mem_of_getElem? (i := 2) rfl) rfl rfl rfl dX5_will_24 ?_
      refine j_iconst C 28 rfl dX5_will_27 (v := (0 : Int32)) (by decide) ?_
      refine j_iald C 29 rfl 1 0 rfl (by decide) (by decide) (by decide) dX5_will_28 ?_
      refine j_bipush C 31 rfl dX5_will_29 (v := (97 : Int32)) (by decide) ?_
      refine j_isub C 32 rfl dX5_will_31 ?_
      refine j_top (fun n2 en2 => ?_)
      have hw := hw n2 en2
      refine j_istore_n C 33 rfl [1, 0] (lv' := [(0, .ref a_this), (1, .int n2)]) dX5_will_32 rfl (by decide) rfl ?_
      refine j_iconst C 34 rfl dX5_will_33 (v := (2 : Int32)) (by decide) ?_
      refine j_istore_n C 35 rfl [1, 2, 0] (lv' := [(0, .ref a_this), (1, .int n2), (2, .int (2 : Int32))]) dX5_will_34 rfl (by decide) rfl ?_
      refine j_iconst C 36 rfl dX5_will_35 (v := (0 : Int32)) (by decide) ?_
      refine j_istore_n C 37 rfl [1, 2, 3, 0] (lv' := [(0, .ref a_this), (1, .int n2), (2, .int (2 : Int32)), (3, .int (0 : Int32))]) dX5_will_36 rfl (by decide) rfl ?_
      refine j_iconst C 38 rfl dX5_will_37 (v := (0 : Int32)) (by decide) ?_
      refine j_istore C 40 rfl [1, 2, 3, 4, 0] (lv' := [(0, .ref a_this), (1, .int n2), (2, .int (2 : Int32)), (3, .int (0 : Int32)), (4, .int (0 : Int32))]) dX5_will_38 (by decide) rfl ?_
      refine lpW4_ind (G := fun x2 x3 x4 f_heir => J l g A x 5 0 0 40 [(0, .ref a_this), (1, .int n2), (2, .int x2), (3, .int x3), (4, .int x4)] [] [(a_this, .inr (5, [.int v_signs, .ref a_pad, .ref a_sort, .ref a_heir, .int v_generations, .ref a_was, .ref a_worth, .int v_toll, .ref a_rights, .ref a_ahead, .ref a_bound, .ref a_owner, .ref a_foundBound, .ref a_foundOwner, .int v_foundLeast, .int v_stops, .ref a_beside, .ref a_upward, .ref a_from, .ref a_queue, .ref a_image, .ref a_isKept])), (a_pad, gI g 60 f_pad), (a_heir, gI g 24 f_heir), (a_was, gI g 504 f_was)]) (fun L40 x2 x3 x4 f_heir hL40 hw => ?_) _ _ _ _ hw
      refine j_iload C 42 rfl 4 dX5_will_40 rfl ?_
      refine j_bipush C 44 rfl dX5_will_42 (v := (24 : Int32)) (by decide) ?_
      refine j_icmp_ge C 47 rfl 111 dX5_will_44 rfl (fun c => ?_) (fun c => ?_)
      · have hw := hw.1 c
        refine j_aload_n C 112 rfl 0 dX5_will_111 rfl rfl ?_
        refine j_iconst C 113 rfl dX5_will_112 (v := (0 : Int32)) (by decide) ?_
        refine j_put C 116 rfl 0 5 0 (ws' := [(a_this, .inr (5, [.int (0 : Int32), .ref a_pad, .ref a_sort, .ref a_heir, .int v_generations, .ref a_was, .ref a_worth, .int v_toll, .ref a_rights, .ref a_ahead, .ref a_bound, .ref a_owner, .ref a_foundBound, .ref a_foundOwner, .int v_foundLeast, .int v_stops, .ref a_beside, .ref a_upward, .ref a_from, .ref a_queue, .ref a_image, .ref a_isKept])), (a_pad, gI g 60 f_pad), (a_heir, gI g 24 f_heir), (a_was, gI g 504 f_was)]) (T := TX5) (N := 22) (ty := .int) tyX5_ok nmX5 hi_X5_will_X5 rfl (by decide) (List.mem_of_getElem? (i := 5) rfl) rfl rfl rfl rfl rfl rfl (Nat.le_of_ble_eq_true rfl) rfl dX5_will_113 ?_
        refine j_aload_n C 117 rfl 0 dX5_will_116 rfl rfl ?_
        refine j_dup C 118 rfl dX5_will_117 rfl ?_
        refine j_get C 121 rfl 0 5 4 (T := TX5) (N := 22) hi_X5_will_X5 rfl (by decide) (List.mem_of_getElem? (i := 1) rfl) rfl rfl rfl dX5_will_118 ?_
        refine j_iconst C 122 rfl dX5_will_121 (v := (1 : Int32)) (by decide) ?_
        refine j_iadd C 123 rfl dX5_will_122 ?_
        refine j_top (fun n3 en3 => ?_)
        have hw := hw n3 en3
        refine j_put C 126 rfl 0 5 4 (ws' := [(a_this, .inr (5, [.int (0 : Int32), .ref a_pad, .ref a_sort, .ref a_heir, .int n3, .ref a_was, .ref a_worth, .int v_toll, .ref a_rights, .ref a_ahead, .ref a_bound, .ref a_owner, .ref a_foundBound, .ref a_foundOwner, .int v_foundLeast, .int v_stops, .ref a_beside, .ref a_upward, .ref a_from, .ref a_queue, .ref a_image, .ref a_isKept])), (a_pad, gI g 60 f_pad), (a_heir, gI g 24 f_heir), (a_was, gI g 504 f_was)]) (T := TX5) (N := 22) (ty := .int) tyX5_ok nmX5 hi_X5_will_X5 rfl (by decide) (List.mem_of_getElem? (i := 1) rfl) rfl rfl rfl rfl rfl rfl (Nat.le_of_ble_eq_true rfl) rfl dX5_will_123 ?_
        refine j_aload_n C 127 rfl 0 dX5_will_126 rfl rfl ?_
        refine j_rwv C 130 rfl (jc_V C (c_X5_keepGeneration l g a_this a_pad a_sort a_heir a_was a_worth a_rights a_ahead a_bound a_owner a_foundBound a_foundOwner a_beside a_upward a_from a_queue a_image a_isKept (0 : Int32) n3 v_toll v_foundLeast v_stops f_heir f_was _ hw) 0 gX5_will_X5_keepGeneration rfl rfl rfl hd_X5_keepGeneration ⟨Nat.le_of_ble_eq_true rfl, Nat.le_of_ble_eq_true rfl⟩ (j_rec C 0 5 rfl rfl) [0, 2, 3] rfl rfl (rest := []) rfl rfl (Nat.le_of_ble_eq_true rfl) dX5_will_127 ⟨Nat.le_refl _, Nat.le_refl _⟩) [0, 2, 3] [1] [1, 0, 2, 3] (wr := [(a_pad, gI g 60 f_pad)]) (ws' := fun u => [(a_this, .inr (5, [.int (0 : Int32), .ref a_pad, .ref a_sort, .ref a_heir, .int n3, .ref a_was, .ref a_worth, .int v_toll, .ref a_rights, .ref a_ahead, .ref a_bound, .ref a_owner, .ref a_foundBound, .ref a_foundOwner, .int v_foundLeast, .int v_stops, .ref a_beside, .ref a_upward, .ref a_from, .ref a_queue, .ref a_image, .ref a_isKept])), (a_pad, gI g 60 f_pad), (a_heir, gI g 24 f_heir), (a_was, gI g 504 u)]) rfl rfl rfl (by decide) rfl (fun _ => rfl) (fun u hw => ?_)
        obtain ⟨u4, eu4⟩ : ∃ z, z = u := ⟨_, rfl⟩
        subst eu4
        try dsimp only at hw
        show J l g A x 5 0 0 130 [(0, .ref a_this), (1, .int n2), (2, .int x2), (3, .int x3), (4, .int x4)] [] [(a_this, .inr (5, [.int (0 : Int32), .ref a_pad, .ref a_sort, .ref a_heir, .int n3, .ref a_was, .ref a_worth, .int v_toll, .ref a_rights, .ref a_ahead, .ref a_bound, .ref a_owner, .ref a_foundBound, .ref a_foundOwner, .int v_foundLeast, .int v_stops, .ref a_beside, .ref a_upward, .ref a_from, .ref a_queue, .ref a_image, .ref a_isKept])), (a_pad, gI g 60 f_pad), (a_heir, gI g 24 f_heir), (a_was, gI g 504 u4)]
        refine j_aload_n C 131 rfl 0 dX5_will_130 rfl rfl ?_
        refine j_get C 134 rfl 0 5 4 (T := TX5) (N := 22) hi_X5_will_X5 rfl (by decide) (List.mem_of_getElem? (i := 1) rfl) rfl rfl rfl dX5_will_131 ?_
        exact j_iret C R ((0 : Int32), n3, f_heir, u4) rfl dX5_will_134 rfl hw
      · have hw := hw.2 c
        refine j_aload_n C 48 rfl 0 dX5_will_47 rfl rfl ?_
        refine j_get C 51 rfl 0 5 5 (T := TX5) (N := 22) hi_X5_will_X5 rfl (by decide) (List.mem_of_getElem? (i := 3) rfl) rfl rfl rfl dX5_will_48 ?_
        refine j_bipush C 53 rfl dX5_will_51 (v := (24 : Int32)) (by decide) ?_
        refine j_aload_n C 54 rfl 0 dX5_will_53 rfl rfl ?_
        refine j_get C 57 rfl 0 5 4 (T := TX5) (N := 22) hi_X5_will_X5 rfl (by decide) (List.mem_of_getElem? (i := 1) rfl) rfl rfl rfl dX5_will_54 ?_
        refine j_imul C 58 rfl dX5_will_57 ?_
        refine j_iload C 60 rfl 4 dX5_will_58 rfl ?_
        refine j_iadd C 61 rfl dX5_will_60 ?_
        obtain ⟨k5, ek5, hk5, hw⟩ := hw
        refine j_iald C 62 rfl 3 k5 rfl ek5 hk5 (by decide) dX5_will_61 ?_
        refine j_iload_n C 63 rfl 1 dX5_will_62 rfl rfl ?_
        refine j_icmp_ne C 66 rfl 105 dX5_will_63 rfl (fun c => ?_) (fun c => ?_)
        · have hw := hw.1 c
          refine j_iinc C 108 rfl 4 [1, 2, 3, 4, 0] (v' := (1 : Int32)) (lv' := fun z => [(0, .ref a_this), (1, .int n2), (2, .int x2), (3, .int x3), (4, .int z)]) dX5_will_105 rfl (by decide) (by decide) (fun _ => rfl) (fun n6 en6 => ?_)
          have hw := hw n6 en6
          refine j_goto C 40 dX5_will_108 rfl ?_
          exact hL40 _ _ _ _ hw
        · have hw := hw.2 c
          refine j_aload_n C 67 rfl 0 dX5_will_66 rfl rfl ?_
          refine j_get C 70 rfl 0 5 3 (T := TX5) (N := 22) hi_X5_will_X5 rfl (by decide) (List.mem_of_getElem? (i := 4) rfl) rfl rfl rfl dX5_will_67 ?_
          refine j_iload C 72 rfl 4 dX5_will_70 rfl ?_
          refine j_aload_n C 73 rfl 0 dX5_will_72 rfl rfl ?_
          refine j_get C 76 rfl 0 5 1 (T := TX5) (N := 22) hi_X5_will_X5 rfl (by decide) (List.mem_of_getElem? (i := 2) rfl) rfl rfl rfl dX5_will_73 ?_
          refine j_iload_n C 77 rfl 2 dX5_will_76 rfl rfl ?_
          obtain ⟨k7, ek7, hk7, hw⟩ := hw
          refine j_iald C 78 rfl 1 k7 rfl ek7 hk7 (by decide) dX5_will_77 ?_
          refine j_bipush C 80 rfl dX5_will_78 (v := (97 : Int32)) (by decide) ?_
          refine j_isub C 81 rfl dX5_will_80 ?_
          refine j_top (fun n8 en8 => ?_)
          have hw := hw n8 en8
          obtain ⟨k9, ek9, hk9, hw⟩ := hw
          refine j_iast C 82 rfl 2 k9 (ws' := [(a_this, .inr (5, [.int v_signs, .ref a_pad, .ref a_sort, .ref a_heir, .int v_generations, .ref a_was, .ref a_worth, .int v_toll, .ref a_rights, .ref a_ahead, .ref a_bound, .ref a_owner, .ref a_foundBound, .ref a_foundOwner, .int v_foundLeast, .int v_stops, .ref a_beside, .ref a_upward, .ref a_from, .ref a_queue, .ref a_image, .ref a_isKept])), (a_pad, gI g 60 f_pad), (a_heir, gI g 24 (upd f_heir k9 n8)), (a_was, gI g 504 f_was)]) rfl ek9 hk9 (by decide) rfl dX5_will_81 ?_
          refine j_iinc C 85 rfl 3 [1, 2, 3, 0, 4] (v' := (1 : Int32)) (lv' := fun z => [(0, .ref a_this), (1, .int n2), (2, .int x2), (3, .int z), (4, .int x4)]) dX5_will_82 rfl (by decide) (by decide) (fun _ => rfl) (fun n10 en10 => ?_)
          have hw := hw n10 en10
          refine j_iload_n C 86 rfl 3 dX5_will_85 rfl rfl ?_
          refine j_aload_n C 87 rfl 0 dX5_will_86 rfl rfl ?_
          refine j_get C 90 rfl 0 5 1 (T := TX5) (N := 22) hi_X5_will_X5 rfl (by decide) (List.mem_of_getElem? (i := 2) rfl) rfl rfl rfl dX5_will_87 ?_
          refine j_iload_n C 91 rfl 2 dX5_will_90 rfl rfl ?_
          refine j_iconst C 92 rfl dX5_will_91 (v := (1 : Int32)) (by decide) ?_
          refine j_iadd C 93 rfl dX5_will_92 ?_
          obtain ⟨k11, ek11, hk11, hw⟩ := hw
          refine j_iald C 94 rfl 1 k11 rfl ek11 hk11 (by decide) dX5_will_93 ?_
          refine j_bipush C 96 rfl dX5_will_94 (v := (48 : Int32)) (by decide) ?_
          refine j_isub C 97 rfl dX5_will_96 ?_
          refine j_icmp_ne C 100 rfl 105 dX5_will_97 rfl (fun c => ?_) (fun c => ?_)
          · have hw := hw.1 c
            refine j_iinc C 108 rfl 4 [1, 2, 3, 4, 0] (v' := (1 : Int32)) (lv' := fun z => [(0, .ref a_this), (1, .int n2), (2, .int x2), (3, .int n10), (4, .int z)]) dX5_will_105 rfl (by decide) (by decide) (fun _ => rfl) (fun n12 en12 => ?_)
            have hw := hw n12 en12
            refine j_goto C 40 dX5_will_108 rfl ?_
            exact hL40 _ _ _ _ hw
          · have hw := hw.2 c
            refine j_iinc C 103 rfl 2 [1, 2, 0, 3, 4] (v' := (2 : Int32)) (lv' := fun z => [(0, .ref a_this), (1, .int n2), (2, .int z), (3, .int n10), (4, .int x4)]) dX5_will_100 rfl (by decide) (by decide) (fun _ => rfl) (fun n13 en13 => ?_)
            have hw := hw n13 en13
            refine j_iconst C 104 rfl dX5_will_103 (v := (0 : Int32)) (by decide) ?_
            refine j_istore_n C 105 rfl [1, 2, 3, 0, 4] (lv' := [(0, .ref a_this), (1, .int n2), (2, .int n13), (3, .int (0 : Int32)), (4, .int x4)]) dX5_will_104 rfl (by decide) rfl ?_
            refine j_iinc C 108 rfl 4 [1, 2, 3, 4, 0] (v' := (1 : Int32)) (lv' := fun z => [(0, .ref a_this), (1, .int n2), (2, .int n13), (3, .int (0 : Int32)), (4, .int z)]) dX5_will_105 rfl (by decide) (by decide) (fun _ => rfl) (fun n14 en14 => ?_)
            have hw := hw n14 en14
            refine j_goto C 40 dX5_will_108 rfl ?_
            exact hL40 _ _ _ _ hw
    · have hw := hw.2 c
      refine j_bipush C 22 rfl dX5_will_20 (v := (-5 : Int32)) (by decide) ?_
      exact j_iret C R (v_signs, v_generations, f_heir, f_was) rfl dX5_will_22 rfl hw
  · have hw := hw.2 c
    refine j_bipush C 11 rfl dX5_will_9 (v := (-4 : Int32)) (by decide) ?_
    exact j_iret C R (v_signs, v_generations, f_heir, f_was) rfl dX5_will_11 rfl hw
theorem hi_X5_wedding_X5 : ∀ w ∈ wsX50, w ∈ wsX5_wedding := fun _ h => List.mem_cons_of_mem _ (List.mem_append_right _ h)
set_option maxRecDepth 20000 in
set_option maxHeartbeats 4000000 in
theorem c_X5_wedding (l : Launch) (g : gE) (a_this a_pad a_sort a_heir a_was a_worth a_rights a_ahead a_bound a_owner a_foundBound a_foundOwner a_beside a_upward a_from a_queue a_image a_isKept : Nat) (v_signs : Int32) (v_generations : Int32) (v_toll : Int32) (v_foundLeast : Int32) (v_stops : Int32) (f_heir : (Nat → Int32)) (f_was : (Nat → Int32)) (x1 : Int32) (x2 : Int32)  (K : Int32 → Int32 → (Nat → Int32) → (Nat → Int32) → Prop) (hw : wp_X5_wedding v_generations f_heir f_was x1 x2 K) : Ci l g yX5_wedding wsX5_wedding { frames := 2, cells := 0, slots := 0, locals := 42 } [.ref a_this, .int x1, .int x2] [(a_this, .inr (5, [.int v_signs, .ref a_pad, .ref a_sort, .ref a_heir, .int v_generations, .ref a_was, .ref a_worth, .int v_toll, .ref a_rights, .ref a_ahead, .ref a_bound, .ref a_owner, .ref a_foundBound, .ref a_foundOwner, .int v_foundLeast, .int v_stops, .ref a_beside, .ref a_upward, .ref a_from, .ref a_queue, .ref a_image, .ref a_isKept])), (a_heir, gI g 24 f_heir), (a_was, gI g 504 f_was)] (fun (r : Int32) (u : Int32 × (Nat → Int32) × (Nat → Int32)) => K r u.1 u.2.1 u.2.2) (fun (u : Int32 × (Nat → Int32) × (Nat → Int32)) => [(a_this, .inr (5, [.int v_signs, .ref a_pad, .ref a_sort, .ref a_heir, .int (u.1), .ref a_was, .ref a_worth, .int v_toll, .ref a_rights, .ref a_ahead, .ref a_bound, .ref a_owner, .ref a_foundBound, .ref a_foundOwner, .int v_foundLeast, .int v_stops, .ref a_beside, .ref a_upward, .ref a_from, .ref a_queue, .ref a_image, .ref a_isKept])), (a_heir, gI g 24 (u.2.1)), (a_was, gI g 504 (u.2.2))]) 0 0 := by
  refine Ci_of (cc := cX5_wedding) (nL := 4) (ret := (some .int)) (own := RX5) (lv0 := [(0, .ref a_this), (1, .int x1), (2, .int x2)]) (by decide +kernel) rfl rfl (Nat.le_of_ble_eq_true rfl) rfl (fun A x C R => ?_)
  refine j_iload_n C 1 rfl 1 dX5_wedding_0 rfl rfl ?_
  refine j_ri C 4 rfl (jc_S C (c_X5_isHeir l g x1 _ hw) 1 gX5_wedding_X5_isHeir rfl rfl rfl hd_X5_isHeir ⟨Nat.le_of_ble_eq_true rfl, Nat.le_of_ble_eq_true rfl⟩ [] rfl rfl (rest := []) rfl rfl (Nat.le_of_ble_eq_true rfl) dX5_wedding_1 ⟨Nat.le_refl _, Nat.le_refl _⟩) [] rfl (fun _ => rfl) (fun r1 _ hw => ?_)
  try dsimp only at hw
  refine j_if_eq C 7 rfl 19 dX5_wedding_4 rfl (fun c => ?_) (fun c => ?_)
  · have hw := hw.1 c
    refine j_iconst C 20 rfl dX5_wedding_19 (v := (-1 : Int32)) (by decide) ?_
    exact j_iret C R (v_generations, f_heir, f_was) rfl dX5_wedding_20 rfl hw
  · have hw := hw.2 c
    refine j_iload_n C 8 rfl 2 dX5_wedding_7 rfl rfl ?_
    refine j_ri C 11 rfl (jc_S C (c_X5_isHeir l g x2 _ hw) 1 gX5_wedding_X5_isHeir rfl rfl rfl hd_X5_isHeir ⟨Nat.le_of_ble_eq_true rfl, Nat.le_of_ble_eq_true rfl⟩ [] rfl rfl (rest := []) rfl rfl (Nat.le_of_ble_eq_true rfl) dX5_wedding_8 ⟨Nat.le_refl _, Nat.le_refl _⟩) [] rfl (fun _ => rfl) (fun r2 _ hw => ?_)
    try dsimp only at hw
    refine j_if_eq C 14 rfl 19 dX5_wedding_11 rfl (fun c => ?_) (fun c => ?_)
    · have hw := hw.1 c
      refine j_iconst C 20 rfl dX5_wedding_19 (v := (-1 : Int32)) (by decide) ?_
      exact j_iret C R (v_generations, f_heir, f_was) rfl dX5_wedding_20 rfl hw
    · have hw := hw.2 c
      refine j_iload_n C 15 rfl 1 dX5_wedding_14 rfl rfl ?_
      refine j_iload_n C 16 rfl 2 dX5_wedding_15 rfl rfl ?_
      refine j_icmp_ne C 19 rfl 21 dX5_wedding_16 rfl (fun c => ?_) (fun c => ?_)
      · have hw := hw.1 c
        refine j_aload_n C 22 rfl 0 dX5_wedding_21 rfl rfl ?_
        refine j_get C 25 rfl 0 5 4 (T := TX5) (N := 22) hi_X5_wedding_X5 rfl (by decide) (List.mem_of_getElem? (i := 1) rfl) rfl rfl rfl dX5_wedding_22 ?_
        refine j_bipush C 27 rfl dX5_wedding_25 (v := (20 : Int32)) (by decide) ?_
        refine j_icmp_ne C 30 rfl 33 dX5_wedding_27 rfl (fun c => ?_) (fun c => ?_)
        · have hw := hw.1 c
          refine j_iconst C 34 rfl dX5_wedding_33 (v := (0 : Int32)) (by decide) ?_
          refine j_istore_n C 35 rfl [1, 2, 3, 0] (lv' := [(0, .ref a_this), (1, .int x1), (2, .int x2), (3, .int (0 : Int32))]) dX5_wedding_34 rfl (by decide) rfl ?_
          refine lpW2_ind (G := fun x3 f_heir => J l g A x 4 0 0 35 [(0, .ref a_this), (1, .int x1), (2, .int x2), (3, .int x3)] [] [(a_this, .inr (5, [.int v_signs, .ref a_pad, .ref a_sort, .ref a_heir, .int v_generations, .ref a_was, .ref a_worth, .int v_toll, .ref a_rights, .ref a_ahead, .ref a_bound, .ref a_owner, .ref a_foundBound, .ref a_foundOwner, .int v_foundLeast, .int v_stops, .ref a_beside, .ref a_upward, .ref a_from, .ref a_queue, .ref a_image, .ref a_isKept])), (a_heir, gI g 24 f_heir), (a_was, gI g 504 f_was)]) (fun L35 x3 f_heir hL35 hw => ?_) _ _ hw
          refine j_iload_n C 36 rfl 3 dX5_wedding_35 rfl rfl ?_
          refine j_bipush C 38 rfl dX5_wedding_36 (v := (24 : Int32)) (by decide) ?_
          refine j_icmp_ge C 41 rfl 73 dX5_wedding_38 rfl (fun c => ?_) (fun c => ?_)
          · have hw := hw.1 c
            refine j_aload_n C 74 rfl 0 dX5_wedding_73 rfl rfl ?_
            refine j_dup C 75 rfl dX5_wedding_74 rfl ?_
            refine j_get C 78 rfl 0 5 4 (T := TX5) (N := 22) hi_X5_wedding_X5 rfl (by decide) (List.mem_of_getElem? (i := 1) rfl) rfl rfl rfl dX5_wedding_75 ?_
            refine j_iconst C 79 rfl dX5_wedding_78 (v := (1 : Int32)) (by decide) ?_
            refine j_iadd C 80 rfl dX5_wedding_79 ?_
            refine j_top (fun n3 en3 => ?_)
            have hw := hw n3 en3
            refine j_put C 83 rfl 0 5 4 (ws' := [(a_this, .inr (5, [.int v_signs, .ref a_pad, .ref a_sort, .ref a_heir, .int n3, .ref a_was, .ref a_worth, .int v_toll, .ref a_rights, .ref a_ahead, .ref a_bound, .ref a_owner, .ref a_foundBound, .ref a_foundOwner, .int v_foundLeast, .int v_stops, .ref a_beside, .ref a_upward, .ref a_from, .ref a_queue, .ref a_image, .ref a_isKept])), (a_heir, gI g 24 f_heir), (a_was, gI g 504 f_was)]) (T := TX5) (N := 22) (ty := .int) tyX5_ok nmX5 hi_X5_wedding_X5 rfl (by decide) (List.mem_of_getElem? (i := 1) rfl) rfl rfl rfl rfl rfl rfl (Nat.le_of_ble_eq_true rfl) rfl dX5_wedding_80 ?_
            refine j_aload_n C 84 rfl 0 dX5_wedding_83 rfl rfl ?_
            refine j_rwv C 87 rfl (jc_V C (c_X5_keepGeneration l g a_this a_pad a_sort a_heir a_was a_worth a_rights a_ahead a_bound a_owner a_foundBound a_foundOwner a_beside a_upward a_from a_queue a_image a_isKept v_signs n3 v_toll v_foundLeast v_stops f_heir f_was _ hw) 0 gX5_wedding_X5_keepGeneration rfl rfl rfl hd_X5_keepGeneration ⟨Nat.le_of_ble_eq_true rfl, Nat.le_of_ble_eq_true rfl⟩ (j_rec C 0 5 rfl rfl) [0, 1, 2] rfl rfl (rest := []) rfl rfl (Nat.le_of_ble_eq_true rfl) dX5_wedding_84 ⟨Nat.le_refl _, Nat.le_refl _⟩) [0, 1, 2] [] [0, 1, 2] (wr := []) (ws' := fun u => [(a_this, .inr (5, [.int v_signs, .ref a_pad, .ref a_sort, .ref a_heir, .int n3, .ref a_was, .ref a_worth, .int v_toll, .ref a_rights, .ref a_ahead, .ref a_bound, .ref a_owner, .ref a_foundBound, .ref a_foundOwner, .int v_foundLeast, .int v_stops, .ref a_beside, .ref a_upward, .ref a_from, .ref a_queue, .ref a_image, .ref a_isKept])), (a_heir, gI g 24 f_heir), (a_was, gI g 504 u)]) rfl rfl rfl (by decide) rfl (fun _ => rfl) (fun u hw => ?_)
            obtain ⟨u4, eu4⟩ : ∃ z, z = u := ⟨_, rfl⟩
            subst eu4
            try dsimp only at hw
            show J l g A x 4 0 0 87 [(0, .ref a_this), (1, .int x1), (2, .int x2), (3, .int x3)] [] [(a_this, .inr (5, [.int v_signs, .ref a_pad, .ref a_sort, .ref a_heir, .int n3, .ref a_was, .ref a_worth, .int v_toll, .ref a_rights, .ref a_ahead, .ref a_bound, .ref a_owner, .ref a_foundBound, .ref a_foundOwner, .int v_foundLeast, .int v_stops, .ref a_beside, .ref a_upward, .ref a_from, .ref a_queue, .ref a_image, .ref a_isKept])), (a_heir, gI g 24 f_heir), (a_was, gI g 504 u4)]
            refine j_aload_n C 88 rfl 0 dX5_wedding_87 rfl rfl ?_
            refine j_get C 91 rfl 0 5 4 (T := TX5) (N := 22) hi_X5_wedding_X5 rfl (by decide) (List.mem_of_getElem? (i := 1) rfl) rfl rfl rfl dX5_wedding_88 ?_
            exact j_iret C R (n3, f_heir, u4) rfl dX5_wedding_91 rfl hw
          · have hw := hw.2 c
            refine j_aload_n C 42 rfl 0 dX5_wedding_41 rfl rfl ?_
            refine j_get C 45 rfl 0 5 3 (T := TX5) (N := 22) hi_X5_wedding_X5 rfl (by decide) (List.mem_of_getElem? (i := 2) rfl) rfl rfl rfl dX5_wedding_42 ?_
            refine j_iload_n C 46 rfl 3 dX5_wedding_45 rfl rfl ?_
            refine j_aload_n C 47 rfl 0 dX5_wedding_46 rfl rfl ?_
            refine j_get C 50 rfl 0 5 3 (T := TX5) (N := 22) hi_X5_wedding_X5 rfl (by decide) (List.mem_of_getElem? (i := 2) rfl) rfl rfl rfl dX5_wedding_47 ?_
            refine j_iload_n C 51 rfl 3 dX5_wedding_50 rfl rfl ?_
            obtain ⟨k5, ek5, hk5, hw⟩ := hw
            refine j_iald C 52 rfl 1 k5 rfl ek5 hk5 (by decide) dX5_wedding_51 ?_
            refine j_iload_n C 53 rfl 2 dX5_wedding_52 rfl rfl ?_
            refine j_icmp_ne C 56 rfl 60 dX5_wedding_53 rfl (fun c => ?_) (fun c => ?_)
            · have hw := hw.1 c
              refine j_aload_n C 61 rfl 0 dX5_wedding_60 rfl rfl ?_
              refine j_get C 64 rfl 0 5 3 (T := TX5) (N := 22) hi_X5_wedding_X5 rfl (by decide) (List.mem_of_getElem? (i := 2) rfl) rfl rfl rfl dX5_wedding_61 ?_
              refine j_iload_n C 65 rfl 3 dX5_wedding_64 rfl rfl ?_
              obtain ⟨k6, ek6, hk6, hw⟩ := hw
              refine j_iald C 66 rfl 1 k6 rfl ek6 hk6 (by decide) dX5_wedding_65 ?_
              refine j_top (fun n7 en7 => ?_)
              have hw := hw n7 en7
              obtain ⟨k8, ek8, hk8, hw⟩ := hw
              refine j_iast C 67 rfl 1 k8 (ws' := [(a_this, .inr (5, [.int v_signs, .ref a_pad, .ref a_sort, .ref a_heir, .int v_generations, .ref a_was, .ref a_worth, .int v_toll, .ref a_rights, .ref a_ahead, .ref a_bound, .ref a_owner, .ref a_foundBound, .ref a_foundOwner, .int v_foundLeast, .int v_stops, .ref a_beside, .ref a_upward, .ref a_from, .ref a_queue, .ref a_image, .ref a_isKept])), (a_heir, gI g 24 (upd f_heir k8 n7)), (a_was, gI g 504 f_was)]) rfl ek8 hk8 (by decide) rfl dX5_wedding_66 ?_
              refine j_iinc C 70 rfl 3 [1, 2, 3, 0] (v' := (1 : Int32)) (lv' := fun z => [(0, .ref a_this), (1, .int x1), (2, .int x2), (3, .int z)]) dX5_wedding_67 rfl (by decide) (by decide) (fun _ => rfl) (fun n9 en9 => ?_)
              have hw := hw n9 en9
              refine j_goto C 35 dX5_wedding_70 rfl ?_
              exact hL35 _ _ hw
            · have hw := hw.2 c
              refine j_iload_n C 57 rfl 1 dX5_wedding_56 rfl rfl ?_
              refine j_goto C 66 dX5_wedding_57 rfl ?_
              obtain ⟨k10, ek10, hk10, hw⟩ := hw
              refine j_iast C 67 rfl 1 k10 (ws' := [(a_this, .inr (5, [.int v_signs, .ref a_pad, .ref a_sort, .ref a_heir, .int v_generations, .ref a_was, .ref a_worth, .int v_toll, .ref a_rights, .ref a_ahead, .ref a_bound, .ref a_owner, .ref a_foundBound, .ref a_foundOwner, .int v_foundLeast, .int v_stops, .ref a_beside, .ref a_upward, .ref a_from, .ref a_queue, .ref a_image, .ref a_isKept])), (a_heir, gI g 24 (upd f_heir k10 x1)), (a_was, gI g 504 f_was)]) rfl ek10 hk10 (by decide) rfl dX5_wedding_66 ?_
              refine j_iinc C 70 rfl 3 [1, 2, 3, 0] (v' := (1 : Int32)) (lv' := fun z => [(0, .ref a_this), (1, .int x1), (2, .int x2), (3, .int z)]) dX5_wedding_67 rfl (by decide) (by decide) (fun _ => rfl) (fun n11 en11 => ?_)
              have hw := hw n11 en11
              refine j_goto C 35 dX5_wedding_70 rfl ?_
              exact hL35 _ _ hw
        · have hw := hw.2 c
          refine j_bipush C 32 rfl dX5_wedding_30 (v := (-4 : Int32)) (by decide) ?_
          exact j_iret C R (v_generations, f_heir, f_was) rfl dX5_wedding_32 rfl hw
      · have hw := hw.2 c
        refine j_iconst C 20 rfl dX5_wedding_19 (v := (-1 : Int32)) (by decide) ?_
        exact j_iret C R (v_generations, f_heir, f_was) rfl dX5_wedding_20 rfl hw
theorem hi_X5_cell_X5 : ∀ w ∈ wsX50, w ∈ wsX5_cell := fun _ h => List.mem_cons_of_mem _ (List.mem_append_right _ h)
set_option maxRecDepth 20000 in
set_option maxHeartbeats 4000000 in
theorem c_X5_cell (l : Launch) (g : gE) (a_this a_pad a_sort a_heir a_was a_worth a_rights a_ahead a_bound a_owner a_foundBound a_foundOwner a_beside a_upward a_from a_queue a_image a_isKept : Nat) (v_signs : Int32) (v_generations : Int32) (v_toll : Int32) (v_foundLeast : Int32) (v_stops : Int32) (f_sort : (Nat → Int32)) (x1 : Int32) (x2 : Int32)  (K : Int32 → Prop) (hw : wp_X5_cell f_sort x1 x2 K) : Ci l g yX5_cell wsX5_cell { frames := 2, cells := 0, slots := 0, locals := 42 } [.ref a_this, .int x1, .int x2] [(a_this, .inr (5, [.int v_signs, .ref a_pad, .ref a_sort, .ref a_heir, .int v_generations, .ref a_was, .ref a_worth, .int v_toll, .ref a_rights, .ref a_ahead, .ref a_bound, .ref a_owner, .ref a_foundBound, .ref a_foundOwner, .int v_foundLeast, .int v_stops, .ref a_beside, .ref a_upward, .ref a_from, .ref a_queue, .ref a_image, .ref a_isKept])), (a_sort, gI g 120 f_sort)] (fun (r : Int32) (_ : Unit) => K r) (fun (_ : Unit) => [(a_this, .inr (5, [.int v_signs, .ref a_pad, .ref a_sort, .ref a_heir, .int v_generations, .ref a_was, .ref a_worth, .int v_toll, .ref a_rights, .ref a_ahead, .ref a_bound, .ref a_owner, .ref a_foundBound, .ref a_foundOwner, .int v_foundLeast, .int v_stops, .ref a_beside, .ref a_upward, .ref a_from, .ref a_queue, .ref a_image, .ref a_isKept])), (a_sort, gI g 120 f_sort)]) 0 0 := by
  refine Ci_of (cc := cX5_cell) (nL := 3) (ret := (some .int)) (own := RX5) (lv0 := [(0, .ref a_this), (1, .int x1), (2, .int x2)]) (by decide +kernel) rfl rfl (Nat.le_of_ble_eq_true rfl) rfl (fun A x C R => ?_)
  refine j_iload_n C 1 rfl 1 dX5_cell_0 rfl rfl ?_
  refine j_ri C 4 rfl (jc_S C (c_X5_isRing l g x1 _ hw) 1 gX5_cell_X5_isRing rfl rfl rfl hd_X5_isRing ⟨Nat.le_of_ble_eq_true rfl, Nat.le_of_ble_eq_true rfl⟩ [] rfl rfl (rest := []) rfl rfl (Nat.le_of_ble_eq_true rfl) dX5_cell_1 ⟨Nat.le_refl _, Nat.le_refl _⟩) [] rfl (fun _ => rfl) (fun r1 _ hw => ?_)
  try dsimp only at hw
  refine j_if_eq C 7 rfl 28 dX5_cell_4 rfl (fun c => ?_) (fun c => ?_)
  · have hw := hw.1 c
    refine j_iconst C 29 rfl dX5_cell_28 (v := (-1 : Int32)) (by decide) ?_
    exact j_iret C R () rfl dX5_cell_29 rfl hw
  · have hw := hw.2 c
    refine j_iload_n C 8 rfl 2 dX5_cell_7 rfl rfl ?_
    refine j_ri C 11 rfl (jc_S C (c_X5_isSector l g x2 _ hw) 1 gX5_cell_X5_isSector rfl rfl rfl hd_X5_isSector ⟨Nat.le_of_ble_eq_true rfl, Nat.le_of_ble_eq_true rfl⟩ [] rfl rfl (rest := []) rfl rfl (Nat.le_of_ble_eq_true rfl) dX5_cell_8 ⟨Nat.le_refl _, Nat.le_refl _⟩) [] rfl (fun _ => rfl) (fun r2 _ hw => ?_)
    try dsimp only at hw
    refine j_if_eq C 14 rfl 28 dX5_cell_11 rfl (fun c => ?_) (fun c => ?_)
    · have hw := hw.1 c
      refine j_iconst C 29 rfl dX5_cell_28 (v := (-1 : Int32)) (by decide) ?_
      exact j_iret C R () rfl dX5_cell_29 rfl hw
    · have hw := hw.2 c
      refine j_aload_n C 15 rfl 0 dX5_cell_14 rfl rfl ?_
      refine j_get C 18 rfl 0 5 2 (T := TX5) (N := 22) hi_X5_cell_X5 rfl (by decide) (List.mem_of_getElem? (i := 1) rfl) rfl rfl rfl dX5_cell_15 ?_
      refine j_bipush C 20 rfl dX5_cell_18 (v := (24 : Int32)) (by decide) ?_
      refine j_iload_n C 21 rfl 1 dX5_cell_20 rfl rfl ?_
      refine j_imul C 22 rfl dX5_cell_21 ?_
      refine j_iload_n C 23 rfl 2 dX5_cell_22 rfl rfl ?_
      refine j_iadd C 24 rfl dX5_cell_23 ?_
      obtain ⟨k3, ek3, hk3, hw⟩ := hw
      refine j_iald C 25 rfl 1 k3 rfl ek3 hk3 (by decide) dX5_cell_24 ?_
      refine j_goto C 29 dX5_cell_25 rfl ?_
      exact j_iret C R () rfl dX5_cell_29 rfl hw
theorem hi_X5_was_X5 : ∀ w ∈ wsX50, w ∈ wsX5_was := fun _ h => List.mem_cons_of_mem _ (List.mem_append_right _ h)
set_option maxRecDepth 20000 in
set_option maxHeartbeats 4000000 in
theorem c_X5_was (l : Launch) (g : gE) (a_this a_pad a_sort a_heir a_was a_worth a_rights a_ahead a_bound a_owner a_foundBound a_foundOwner a_beside a_upward a_from a_queue a_image a_isKept : Nat) (v_signs : Int32) (v_generations : Int32) (v_toll : Int32) (v_foundLeast : Int32) (v_stops : Int32) (f_was : (Nat → Int32)) (x1 : Int32) (x2 : Int32)  (K : Int32 → Prop) (hw : wp_X5_was v_generations f_was x1 x2 K) : Ci l g yX5_was wsX5_was { frames := 2, cells := 0, slots := 0, locals := 42 } [.ref a_this, .int x1, .int x2] [(a_this, .inr (5, [.int v_signs, .ref a_pad, .ref a_sort, .ref a_heir, .int v_generations, .ref a_was, .ref a_worth, .int v_toll, .ref a_rights, .ref a_ahead, .ref a_bound, .ref a_owner, .ref a_foundBound, .ref a_foundOwner, .int v_foundLeast, .int v_stops, .ref a_beside, .ref a_upward, .ref a_from, .ref a_queue, .ref a_image, .ref a_isKept])), (a_was, gI g 504 f_was)] (fun (r : Int32) (_ : Unit) => K r) (fun (_ : Unit) => [(a_this, .inr (5, [.int v_signs, .ref a_pad, .ref a_sort, .ref a_heir, .int v_generations, .ref a_was, .ref a_worth, .int v_toll, .ref a_rights, .ref a_ahead, .ref a_bound, .ref a_owner, .ref a_foundBound, .ref a_foundOwner, .int v_foundLeast, .int v_stops, .ref a_beside, .ref a_upward, .ref a_from, .ref a_queue, .ref a_image, .ref a_isKept])), (a_was, gI g 504 f_was)]) 0 0 := by
  refine Ci_of (cc := cX5_was) (nL := 3) (ret := (some .int)) (own := RX5) (lv0 := [(0, .ref a_this), (1, .int x1), (2, .int x2)]) (by decide +kernel) rfl rfl (Nat.le_of_ble_eq_true rfl) rfl (fun A x C R => ?_)
  refine j_iload_n C 1 rfl 1 dX5_was_0 rfl rfl ?_
  refine j_ri C 4 rfl (jc_S C (c_X5_isSector l g x1 _ hw) 1 gX5_was_X5_isSector rfl rfl rfl hd_X5_isSector ⟨Nat.le_of_ble_eq_true rfl, Nat.le_of_ble_eq_true rfl⟩ [] rfl rfl (rest := []) rfl rfl (Nat.le_of_ble_eq_true rfl) dX5_was_1 ⟨Nat.le_refl _, Nat.le_refl _⟩) [] rfl (fun _ => rfl) (fun r1 _ hw => ?_)
  try dsimp only at hw
  refine j_if_ne C 7 rfl 9 dX5_was_4 rfl (fun c => ?_) (fun c => ?_)
  · have hw := hw.1 c
    refine j_iload_n C 10 rfl 2 dX5_was_9 rfl rfl ?_
    refine j_iconst C 11 rfl dX5_was_10 (v := (0 : Int32)) (by decide) ?_
    refine j_aload_n C 12 rfl 0 dX5_was_11 rfl rfl ?_
    refine j_get C 15 rfl 0 5 4 (T := TX5) (N := 22) hi_X5_was_X5 rfl (by decide) (List.mem_of_getElem? (i := 1) rfl) rfl rfl rfl dX5_was_12 ?_
    refine j_ri C 18 rfl (jc_S C (c_X5_in l g x2 (0 : Int32) v_generations _ hw) 3 gX5_was_X5_in rfl rfl rfl hd_X5_in ⟨Nat.le_of_ble_eq_true rfl, Nat.le_of_ble_eq_true rfl⟩ [] rfl rfl (rest := []) rfl rfl (Nat.le_of_ble_eq_true rfl) dX5_was_15 ⟨Nat.le_refl _, Nat.le_refl _⟩) [] rfl (fun _ => rfl) (fun r2 _ hw => ?_)
    try dsimp only at hw
    refine j_if_eq C 21 rfl 35 dX5_was_18 rfl (fun c => ?_) (fun c => ?_)
    · have hw := hw.1 c
      refine j_bipush C 37 rfl dX5_was_35 (v := (-2 : Int32)) (by decide) ?_
      exact j_iret C R () rfl dX5_was_37 rfl hw
    · have hw := hw.2 c
      refine j_aload_n C 22 rfl 0 dX5_was_21 rfl rfl ?_
      refine j_get C 25 rfl 0 5 5 (T := TX5) (N := 22) hi_X5_was_X5 rfl (by decide) (List.mem_of_getElem? (i := 2) rfl) rfl rfl rfl dX5_was_22 ?_
      refine j_bipush C 27 rfl dX5_was_25 (v := (24 : Int32)) (by decide) ?_
      refine j_iload_n C 28 rfl 2 dX5_was_27 rfl rfl ?_
      refine j_imul C 29 rfl dX5_was_28 ?_
      refine j_iload_n C 30 rfl 1 dX5_was_29 rfl rfl ?_
      refine j_iadd C 31 rfl dX5_was_30 ?_
      obtain ⟨k3, ek3, hk3, hw⟩ := hw
      refine j_iald C 32 rfl 1 k3 rfl ek3 hk3 (by decide) dX5_was_31 ?_
      refine j_goto C 37 dX5_was_32 rfl ?_
      exact j_iret C R () rfl dX5_was_37 rfl hw
  · have hw := hw.2 c
    refine j_iconst C 8 rfl dX5_was_7 (v := (-1 : Int32)) (by decide) ?_
    exact j_iret C R () rfl dX5_was_8 rfl hw
theorem hi_X5_sectors_X5 : ∀ w ∈ wsX50, w ∈ wsX5_sectors := fun _ h => List.mem_cons_of_mem _ (List.mem_append_right _ h)
set_option maxRecDepth 20000 in
set_option maxHeartbeats 4000000 in
theorem c_X5_sectors (l : Launch) (g : gE) (a_this a_pad a_sort a_heir a_was a_worth a_rights a_ahead a_bound a_owner a_foundBound a_foundOwner a_beside a_upward a_from a_queue a_image a_isKept : Nat) (v_signs : Int32) (v_generations : Int32) (v_toll : Int32) (v_foundLeast : Int32) (v_stops : Int32) (f_heir : (Nat → Int32)) (x1 : Int32)  (K : Int32 → Prop) (hw : wp_X5_sectors f_heir x1 K) : Ci l g yX5_sectors wsX5_sectors { frames := 0, cells := 0, slots := 0, locals := 0 } [.ref a_this, .int x1] [(a_this, .inr (5, [.int v_signs, .ref a_pad, .ref a_sort, .ref a_heir, .int v_generations, .ref a_was, .ref a_worth, .int v_toll, .ref a_rights, .ref a_ahead, .ref a_bound, .ref a_owner, .ref a_foundBound, .ref a_foundOwner, .int v_foundLeast, .int v_stops, .ref a_beside, .ref a_upward, .ref a_from, .ref a_queue, .ref a_image, .ref a_isKept])), (a_heir, gI g 24 f_heir)] (fun (r : Int32) (_ : Unit) => K r) (fun (_ : Unit) => [(a_this, .inr (5, [.int v_signs, .ref a_pad, .ref a_sort, .ref a_heir, .int v_generations, .ref a_was, .ref a_worth, .int v_toll, .ref a_rights, .ref a_ahead, .ref a_bound, .ref a_owner, .ref a_foundBound, .ref a_foundOwner, .int v_foundLeast, .int v_stops, .ref a_beside, .ref a_upward, .ref a_from, .ref a_queue, .ref a_image, .ref a_isKept])), (a_heir, gI g 24 f_heir)]) 0 0 := by
  refine Ci_of (cc := cX5_sectors) (nL := 4) (ret := (some .int)) (own := RX5) (lv0 := [(0, .ref a_this), (1, .int x1)]) (by decide +kernel) rfl rfl (Nat.le_of_ble_eq_true rfl) rfl (fun A x C R => ?_)
  refine j_iconst C 1 rfl dX5_sectors_0 (v := (0 : Int32)) (by decide) ?_
  refine j_istore_n C 2 rfl [1, 2, 0] (lv' := [(0, .ref a_this), (1, .int x1), (2, .int (0 : Int32))]) dX5_sectors_1 rfl (by decide) rfl ?_
  refine j_iconst C 3 rfl dX5_sectors_2 (v := (0 : Int32)) (by decide) ?_
  refine j_istore_n C 4 rfl [1, 2, 3, 0] (lv' := [(0, .ref a_this), (1, .int x1), (2, .int (0 : Int32)), (3, .int (0 : Int32))]) dX5_sectors_3 rfl (by decide) rfl ?_
  refine lpW2_ind (G := fun x2 x3 => J l g A x 4 0 0 4 [(0, .ref a_this), (1, .int x1), (2, .int x2), (3, .int x3)] [] [(a_this, .inr (5, [.int v_signs, .ref a_pad, .ref a_sort, .ref a_heir, .int v_generations, .ref a_was, .ref a_worth, .int v_toll, .ref a_rights, .ref a_ahead, .ref a_bound, .ref a_owner, .ref a_foundBound, .ref a_foundOwner, .int v_foundLeast, .int v_stops, .ref a_beside, .ref a_upward, .ref a_from, .ref a_queue, .ref a_image, .ref a_isKept])), (a_heir, gI g 24 f_heir)]) (fun L4 x2 x3 hL4 hw => ?_) _ _ hw
  refine j_iload_n C 5 rfl 3 dX5_sectors_4 rfl rfl ?_
  refine j_bipush C 7 rfl dX5_sectors_5 (v := (24 : Int32)) (by decide) ?_
  refine j_icmp_ge C 10 rfl 36 dX5_sectors_7 rfl (fun c => ?_) (fun c => ?_)
  · have hw := hw.1 c
    refine j_iload_n C 37 rfl 2 dX5_sectors_36 rfl rfl ?_
    exact j_iret C R () rfl dX5_sectors_37 rfl hw
  · have hw := hw.2 c
    refine j_iload_n C 11 rfl 2 dX5_sectors_10 rfl rfl ?_
    refine j_aload_n C 12 rfl 0 dX5_sectors_11 rfl rfl ?_
    refine j_get C 15 rfl 0 5 3 (T := TX5) (N := 22) hi_X5_sectors_X5 rfl (by decide) (List.mem_of_getElem? (i := 1) rfl) rfl rfl rfl dX5_sectors_12 ?_
    refine j_iload_n C 16 rfl 3 dX5_sectors_15 rfl rfl ?_
    obtain ⟨k1, ek1, hk1, hw⟩ := hw
    refine j_iald C 17 rfl 1 k1 rfl ek1 hk1 (by decide) dX5_sectors_16 ?_
    refine j_iload_n C 18 rfl 1 dX5_sectors_17 rfl rfl ?_
    refine j_icmp_ne C 21 rfl 27 dX5_sectors_18 rfl (fun c => ?_) (fun c => ?_)
    · have hw := hw.1 c
      refine j_iconst C 28 rfl dX5_sectors_27 (v := (0 : Int32)) (by decide) ?_
      refine j_ior C 29 rfl dX5_sectors_28 ?_
      refine j_top (fun n2 en2 => ?_)
      have hw := hw n2 en2
      refine j_istore_n C 30 rfl [1, 2, 0, 3] (lv' := [(0, .ref a_this), (1, .int x1), (2, .int n2), (3, .int x3)]) dX5_sectors_29 rfl (by decide) rfl ?_
      refine j_iinc C 33 rfl 3 [1, 2, 3, 0] (v' := (1 : Int32)) (lv' := fun z => [(0, .ref a_this), (1, .int x1), (2, .int n2), (3, .int z)]) dX5_sectors_30 rfl (by decide) (by decide) (fun _ => rfl) (fun n3 en3 => ?_)
      have hw := hw n3 en3
      refine j_goto C 4 dX5_sectors_33 rfl ?_
      exact hL4 _ _ hw
    · have hw := hw.2 c
      refine j_iconst C 22 rfl dX5_sectors_21 (v := (1 : Int32)) (by decide) ?_
      refine j_iload_n C 23 rfl 3 dX5_sectors_22 rfl rfl ?_
      refine j_ishl C 24 rfl dX5_sectors_23 ?_
      refine j_goto C 28 dX5_sectors_24 rfl ?_
      refine j_ior C 29 rfl dX5_sectors_28 ?_
      refine j_top (fun n4 en4 => ?_)
      have hw := hw n4 en4
      refine j_istore_n C 30 rfl [1, 2, 0, 3] (lv' := [(0, .ref a_this), (1, .int x1), (2, .int n4), (3, .int x3)]) dX5_sectors_29 rfl (by decide) rfl ?_
      refine j_iinc C 33 rfl 3 [1, 2, 3, 0] (v' := (1 : Int32)) (lv' := fun z => [(0, .ref a_this), (1, .int x1), (2, .int n4), (3, .int z)]) dX5_sectors_30 rfl (by decide) (by decide) (fun _ => rfl) (fun n5 en5 => ?_)
      have hw := hw n5 en5
      refine j_goto C 4 dX5_sectors_33 rfl ?_
      exact hL4 _ _ hw
set_option maxRecDepth 20000 in
set_option maxHeartbeats 4000000 in
theorem c_X5_has (l : Launch) (g : gE) (a_this a_pad a_sort a_heir a_was a_worth a_rights a_ahead a_bound a_owner a_foundBound a_foundOwner a_beside a_upward a_from a_queue a_image a_isKept : Nat) (v_signs : Int32) (v_generations : Int32) (v_toll : Int32) (v_foundLeast : Int32) (v_stops : Int32) (f_heir : (Nat → Int32)) (x1 : Int32)  (K : Int32 → Prop) (hw : wp_X5_has f_heir x1 K) : Ci l g yX5_has wsX5_has { frames := 2, cells := 0, slots := 0, locals := 42 } [.ref a_this, .int x1] [(a_this, .inr (5, [.int v_signs, .ref a_pad, .ref a_sort, .ref a_heir, .int v_generations, .ref a_was, .ref a_worth, .int v_toll, .ref a_rights, .ref a_ahead, .ref a_bound, .ref a_owner, .ref a_foundBound, .ref a_foundOwner, .int v_foundLeast, .int v_stops, .ref a_beside, .ref a_upward, .ref a_from, .ref a_queue, .ref a_image, .ref a_isKept])), (a_heir, gI g 24 f_heir)] (fun (r : Int32) (_ : Unit) => K r) (fun (_ : Unit) => [(a_this, .inr (5, [.int v_signs, .ref a_pad, .ref a_sort, .ref a_heir, .int v_generations, .ref a_was, .ref a_worth, .int v_toll, .ref a_rights, .ref a_ahead, .ref a_bound, .ref a_owner, .ref a_foundBound, .ref a_foundOwner, .int v_foundLeast, .int v_stops, .ref a_beside, .ref a_upward, .ref a_from, .ref a_queue, .ref a_image, .ref a_isKept])), (a_heir, gI g 24 f_heir)]) 0 0 := by
  refine Ci_of (cc := cX5_has) (nL := 2) (ret := (some .int)) (own := RX5) (lv0 := [(0, .ref a_this), (1, .int x1)]) (by decide +kernel) rfl rfl (Nat.le_of_ble_eq_true rfl) rfl (fun A x C R => ?_)
  refine j_iload_n C 1 rfl 1 dX5_has_0 rfl rfl ?_
  refine j_ri C 4 rfl (jc_S C (c_X5_isHeir l g x1 _ hw) 1 gX5_has_X5_isHeir rfl rfl rfl hd_X5_isHeir ⟨Nat.le_of_ble_eq_true rfl, Nat.le_of_ble_eq_true rfl⟩ [] rfl rfl (rest := []) rfl rfl (Nat.le_of_ble_eq_true rfl) dX5_has_1 ⟨Nat.le_refl _, Nat.le_refl _⟩) [] rfl (fun _ => rfl) (fun r1 _ hw => ?_)
  try dsimp only at hw
  refine j_if_eq C 7 rfl 15 dX5_has_4 rfl (fun c => ?_) (fun c => ?_)
  · have hw := hw.1 c
    refine j_iconst C 16 rfl dX5_has_15 (v := (-1 : Int32)) (by decide) ?_
    exact j_iret C R () rfl dX5_has_16 rfl hw
  · have hw := hw.2 c
    refine j_aload_n C 8 rfl 0 dX5_has_7 rfl rfl ?_
    refine j_iload_n C 9 rfl 1 dX5_has_8 rfl rfl ?_
    refine j_ri C 12 rfl (jc_V C (c_X5_sectors l g a_this a_pad a_sort a_heir a_was a_worth a_rights a_ahead a_bound a_owner a_foundBound a_foundOwner a_beside a_upward a_from a_queue a_image a_isKept v_signs v_generations v_toll v_foundLeast v_stops f_heir x1 _ hw) 1 gX5_has_X5_sectors rfl rfl rfl hd_X5_sectors ⟨Nat.le_of_ble_eq_true rfl, Nat.le_of_ble_eq_true rfl⟩ (j_rec C 0 5 rfl rfl) [0, 1] rfl rfl (rest := []) rfl rfl (Nat.le_of_ble_eq_true rfl) dX5_has_9 ⟨Nat.le_refl _, Nat.le_refl _⟩) [0, 1] rfl (fun _ => rfl) (fun r2 _ hw => ?_)
    try dsimp only at hw
    refine j_goto C 16 dX5_has_12 rfl ?_
    exact j_iret C R () rfl dX5_has_16 rfl hw
theorem hi_X5_worth_X5 : ∀ w ∈ wsX50, w ∈ wsX5_worth := fun _ h => List.mem_cons_of_mem _ (List.mem_append_right _ h)
set_option maxRecDepth 20000 in
set_option maxHeartbeats 4000000 in
theorem c_X5_worth (l : Launch) (g : gE) (a_this a_pad a_sort a_heir a_was a_worth a_rights a_ahead a_bound a_owner a_foundBound a_foundOwner a_beside a_upward a_from a_queue a_image a_isKept : Nat) (v_signs : Int32) (v_generations : Int32) (v_toll : Int32) (v_foundLeast : Int32) (v_stops : Int32) (f_worth : (Nat → Int32)) (x1 : Int32) (x2 : Int32) (x3 : Int32)  (K : Int32 → (Nat → Int32) → Prop) (hw : wp_X5_worth f_worth x1 x2 x3 K) : Ci l g yX5_worth wsX5_worth { frames := 2, cells := 0, slots := 0, locals := 42 } [.ref a_this, .int x1, .int x2, .int x3] [(a_this, .inr (5, [.int v_signs, .ref a_pad, .ref a_sort, .ref a_heir, .int v_generations, .ref a_was, .ref a_worth, .int v_toll, .ref a_rights, .ref a_ahead, .ref a_bound, .ref a_owner, .ref a_foundBound, .ref a_foundOwner, .int v_foundLeast, .int v_stops, .ref a_beside, .ref a_upward, .ref a_from, .ref a_queue, .ref a_image, .ref a_isKept])), (a_worth, gI g 30 f_worth)] (fun (r : Int32) (u : (Nat → Int32)) => K r u) (fun (u : (Nat → Int32)) => [(a_this, .inr (5, [.int v_signs, .ref a_pad, .ref a_sort, .ref a_heir, .int v_generations, .ref a_was, .ref a_worth, .int v_toll, .ref a_rights, .ref a_ahead, .ref a_bound, .ref a_owner, .ref a_foundBound, .ref a_foundOwner, .int v_foundLeast, .int v_stops, .ref a_beside, .ref a_upward, .ref a_from, .ref a_queue, .ref a_image, .ref a_isKept])), (a_worth, gI g 30 u)]) 0 0 := by
  refine Ci_of (cc := cX5_worth) (nL := 5) (ret := (some .int)) (own := RX5) (lv0 := [(0, .ref a_this), (1, .int x1), (2, .int x2), (3, .int x3)]) (by decide +kernel) rfl rfl (Nat.le_of_ble_eq_true rfl) rfl (fun A x C R => ?_)
  refine j_iload_n C 1 rfl 1 dX5_worth_0 rfl rfl ?_
  refine j_ri C 4 rfl (jc_S C (c_X5_isHeir l g x1 _ hw) 1 gX5_worth_X5_isHeir rfl rfl rfl hd_X5_isHeir ⟨Nat.le_of_ble_eq_true rfl, Nat.le_of_ble_eq_true rfl⟩ [] rfl rfl (rest := []) rfl rfl (Nat.le_of_ble_eq_true rfl) dX5_worth_1 ⟨Nat.le_refl _, Nat.le_refl _⟩) [] rfl (fun _ => rfl) (fun r1 _ hw => ?_)
  try dsimp only at hw
  refine j_if_ne C 7 rfl 9 dX5_worth_4 rfl (fun c => ?_) (fun c => ?_)
  · have hw := hw.1 c
    refine j_iload_n C 10 rfl 2 dX5_worth_9 rfl rfl ?_
    refine j_ri C 13 rfl (jc_S C (c_X5_sortOf l g x2 _ hw) 1 gX5_worth_X5_sortOf rfl rfl rfl hd_X5_sortOf ⟨Nat.le_of_ble_eq_true rfl, Nat.le_of_ble_eq_true rfl⟩ [] rfl rfl (rest := []) rfl rfl (Nat.le_of_ble_eq_true rfl) dX5_worth_10 ⟨Nat.le_refl _, Nat.le_refl _⟩) [] rfl (fun _ => rfl) (fun r2 _ hw => ?_)
    try dsimp only at hw
    refine j_if_lt C 16 rfl 26 dX5_worth_13 rfl (fun c => ?_) (fun c => ?_)
    · have hw := hw.1 c
      refine j_bipush C 28 rfl dX5_worth_26 (v := (-2 : Int32)) (by decide) ?_
      exact j_iret C R (f_worth) rfl dX5_worth_28 rfl hw
    · have hw := hw.2 c
      refine j_iload_n C 17 rfl 3 dX5_worth_16 rfl rfl ?_
      refine j_iconst C 18 rfl dX5_worth_17 (v := (0 : Int32)) (by decide) ?_
      refine j_bipush C 20 rfl dX5_worth_18 (v := (99 : Int32)) (by decide) ?_
      refine j_ri C 23 rfl (jc_S C (c_X5_in l g x3 (0 : Int32) (99 : Int32) _ hw) 3 gX5_worth_X5_in rfl rfl rfl hd_X5_in ⟨Nat.le_of_ble_eq_true rfl, Nat.le_of_ble_eq_true rfl⟩ [] rfl rfl (rest := []) rfl rfl (Nat.le_of_ble_eq_true rfl) dX5_worth_20 ⟨Nat.le_refl _, Nat.le_refl _⟩) [] rfl (fun _ => rfl) (fun r3 _ hw => ?_)
      try dsimp only at hw
      refine j_if_ne C 26 rfl 29 dX5_worth_23 rfl (fun c => ?_) (fun c => ?_)
      · have hw := hw.1 c
        refine j_aload_n C 30 rfl 0 dX5_worth_29 rfl rfl ?_
        refine j_get C 33 rfl 0 5 6 (T := TX5) (N := 22) hi_X5_worth_X5 rfl (by decide) (List.mem_of_getElem? (i := 1) rfl) rfl rfl rfl dX5_worth_30 ?_
        refine j_iconst C 34 rfl dX5_worth_33 (v := (5 : Int32)) (by decide) ?_
        refine j_iload_n C 35 rfl 1 dX5_worth_34 rfl rfl ?_
        refine j_imul C 36 rfl dX5_worth_35 ?_
        refine j_iload_n C 37 rfl 2 dX5_worth_36 rfl rfl ?_
        refine j_ri C 40 rfl (jc_S C (c_X5_sortOf l g x2 _ hw) 1 gX5_worth_X5_sortOf rfl rfl rfl hd_X5_sortOf ⟨Nat.le_of_ble_eq_true rfl, Nat.le_of_ble_eq_true rfl⟩ [] rfl rfl (rest := [.int ((5 : Int32) * x1), .ref a_worth]) rfl rfl (Nat.le_of_ble_eq_true rfl) dX5_worth_37 ⟨Nat.le_refl _, Nat.le_refl _⟩) [] rfl (fun _ => rfl) (fun r4 _ hw => ?_)
        try dsimp only at hw
        refine j_iadd C 41 rfl dX5_worth_40 ?_
        obtain ⟨k5, ek5, hk5, hw⟩ := hw
        refine j_iald C 42 rfl 1 k5 rfl ek5 hk5 (by decide) dX5_worth_41 ?_
        refine j_top (fun n6 en6 => ?_)
        have hw := hw n6 en6
        refine j_istore C 44 rfl [1, 2, 3, 4, 0] (lv' := [(0, .ref a_this), (1, .int x1), (2, .int x2), (3, .int x3), (4, .int n6)]) dX5_worth_42 (by decide) rfl ?_
        refine j_aload_n C 45 rfl 0 dX5_worth_44 rfl rfl ?_
        refine j_get C 48 rfl 0 5 6 (T := TX5) (N := 22) hi_X5_worth_X5 rfl (by decide) (List.mem_of_getElem? (i := 1) rfl) rfl rfl rfl dX5_worth_45 ?_
        refine j_iconst C 49 rfl dX5_worth_48 (v := (5 : Int32)) (by decide) ?_
        refine j_iload_n C 50 rfl 1 dX5_worth_49 rfl rfl ?_
        refine j_imul C 51 rfl dX5_worth_50 ?_
        refine j_iload_n C 52 rfl 2 dX5_worth_51 rfl rfl ?_
        refine j_ri C 55 rfl (jc_S C (c_X5_sortOf l g x2 _ hw) 1 gX5_worth_X5_sortOf rfl rfl rfl hd_X5_sortOf ⟨Nat.le_of_ble_eq_true rfl, Nat.le_of_ble_eq_true rfl⟩ [] rfl rfl (rest := [.int ((5 : Int32) * x1), .ref a_worth]) rfl rfl (Nat.le_of_ble_eq_true rfl) dX5_worth_52 ⟨Nat.le_refl _, Nat.le_refl _⟩) [] rfl (fun _ => rfl) (fun r7 _ hw => ?_)
        try dsimp only at hw
        refine j_iadd C 56 rfl dX5_worth_55 ?_
        refine j_iload_n C 57 rfl 3 dX5_worth_56 rfl rfl ?_
        obtain ⟨k8, ek8, hk8, hw⟩ := hw
        refine j_iast C 58 rfl 1 k8 (ws' := [(a_this, .inr (5, [.int v_signs, .ref a_pad, .ref a_sort, .ref a_heir, .int v_generations, .ref a_was, .ref a_worth, .int v_toll, .ref a_rights, .ref a_ahead, .ref a_bound, .ref a_owner, .ref a_foundBound, .ref a_foundOwner, .int v_foundLeast, .int v_stops, .ref a_beside, .ref a_upward, .ref a_from, .ref a_queue, .ref a_image, .ref a_isKept])), (a_worth, gI g 30 (upd f_worth k8 x3))]) rfl ek8 hk8 (by decide) rfl dX5_worth_57 ?_
        refine j_iload C 60 rfl 4 dX5_worth_58 rfl ?_
        exact j_iret C R (upd f_worth k8 x3) rfl dX5_worth_60 rfl hw
      · have hw := hw.2 c
        refine j_bipush C 28 rfl dX5_worth_26 (v := (-2 : Int32)) (by decide) ?_
        exact j_iret C R (f_worth) rfl dX5_worth_28 rfl hw
  · have hw := hw.2 c
    refine j_iconst C 8 rfl dX5_worth_7 (v := (-1 : Int32)) (by decide) ?_
    exact j_iret C R (f_worth) rfl dX5_worth_8 rfl hw
theorem hi_X5_sectorWorth_X5 : ∀ w ∈ wsX50, w ∈ wsX5_sectorWorth := fun _ h => List.mem_cons_of_mem _ (List.mem_append_right _ h)
set_option maxRecDepth 20000 in
set_option maxHeartbeats 4000000 in
theorem c_X5_sectorWorth (l : Launch) (g : gE) (a_this a_pad a_sort a_heir a_was a_worth a_rights a_ahead a_bound a_owner a_foundBound a_foundOwner a_beside a_upward a_from a_queue a_image a_isKept : Nat) (v_signs : Int32) (v_generations : Int32) (v_toll : Int32) (v_foundLeast : Int32) (v_stops : Int32) (f_sort : (Nat → Int32)) (f_worth : (Nat → Int32)) (x1 : Int32) (x2 : Int32)  (K : Int32 → Prop) (hw : wp_X5_sectorWorth f_sort f_worth x1 x2 K) : Ci l g yX5_sectorWorth wsX5_sectorWorth { frames := 1, cells := 0, slots := 0, locals := 20 } [.ref a_this, .int x1, .int x2] [(a_this, .inr (5, [.int v_signs, .ref a_pad, .ref a_sort, .ref a_heir, .int v_generations, .ref a_was, .ref a_worth, .int v_toll, .ref a_rights, .ref a_ahead, .ref a_bound, .ref a_owner, .ref a_foundBound, .ref a_foundOwner, .int v_foundLeast, .int v_stops, .ref a_beside, .ref a_upward, .ref a_from, .ref a_queue, .ref a_image, .ref a_isKept])), (a_sort, gI g 120 f_sort), (a_worth, gI g 30 f_worth)] (fun (r : Int32) (_ : Unit) => K r) (fun (_ : Unit) => [(a_this, .inr (5, [.int v_signs, .ref a_pad, .ref a_sort, .ref a_heir, .int v_generations, .ref a_was, .ref a_worth, .int v_toll, .ref a_rights, .ref a_ahead, .ref a_bound, .ref a_owner, .ref a_foundBound, .ref a_foundOwner, .int v_foundLeast, .int v_stops, .ref a_beside, .ref a_upward, .ref a_from, .ref a_queue, .ref a_image, .ref a_isKept])), (a_sort, gI g 120 f_sort), (a_worth, gI g 30 f_worth)]) 0 0 := by
  refine Ci_of (cc := cX5_sectorWorth) (nL := 5) (ret := (some .int)) (own := RX5) (lv0 := [(0, .ref a_this), (1, .int x1), (2, .int x2)]) (by decide +kernel) rfl rfl (Nat.le_of_ble_eq_true rfl) rfl (fun A x C R => ?_)
  refine j_iconst C 1 rfl dX5_sectorWorth_0 (v := (0 : Int32)) (by decide) ?_
  refine j_istore_n C 2 rfl [1, 2, 3, 0] (lv' := [(0, .ref a_this), (1, .int x1), (2, .int x2), (3, .int (0 : Int32))]) dX5_sectorWorth_1 rfl (by decide) rfl ?_
  refine j_iconst C 3 rfl dX5_sectorWorth_2 (v := (0 : Int32)) (by decide) ?_
  refine j_istore C 5 rfl [1, 2, 3, 4, 0] (lv' := [(0, .ref a_this), (1, .int x1), (2, .int x2), (3, .int (0 : Int32)), (4, .int (0 : Int32))]) dX5_sectorWorth_3 (by decide) rfl ?_
  refine lpW2_ind (G := fun x3 x4 => J l g A x 5 0 0 5 [(0, .ref a_this), (1, .int x1), (2, .int x2), (3, .int x3), (4, .int x4)] [] [(a_this, .inr (5, [.int v_signs, .ref a_pad, .ref a_sort, .ref a_heir, .int v_generations, .ref a_was, .ref a_worth, .int v_toll, .ref a_rights, .ref a_ahead, .ref a_bound, .ref a_owner, .ref a_foundBound, .ref a_foundOwner, .int v_foundLeast, .int v_stops, .ref a_beside, .ref a_upward, .ref a_from, .ref a_queue, .ref a_image, .ref a_isKept])), (a_sort, gI g 120 f_sort), (a_worth, gI g 30 f_worth)]) (fun L5 x3 x4 hL5 hw => ?_) _ _ hw
  refine j_iload C 7 rfl 4 dX5_sectorWorth_5 rfl ?_
  refine j_iconst C 8 rfl dX5_sectorWorth_7 (v := (5 : Int32)) (by decide) ?_
  refine j_icmp_ge C 11 rfl 44 dX5_sectorWorth_8 rfl (fun c => ?_) (fun c => ?_)
  · have hw := hw.1 c
    refine j_iload_n C 45 rfl 3 dX5_sectorWorth_44 rfl rfl ?_
    exact j_iret C R () rfl dX5_sectorWorth_45 rfl hw
  · have hw := hw.2 c
    refine j_iload_n C 12 rfl 3 dX5_sectorWorth_11 rfl rfl ?_
    refine j_aload_n C 13 rfl 0 dX5_sectorWorth_12 rfl rfl ?_
    refine j_get C 16 rfl 0 5 6 (T := TX5) (N := 22) hi_X5_sectorWorth_X5 rfl (by decide) (List.mem_of_getElem? (i := 1) rfl) rfl rfl rfl dX5_sectorWorth_13 ?_
    refine j_iconst C 17 rfl dX5_sectorWorth_16 (v := (5 : Int32)) (by decide) ?_
    refine j_iload_n C 18 rfl 1 dX5_sectorWorth_17 rfl rfl ?_
    refine j_imul C 19 rfl dX5_sectorWorth_18 ?_
    refine j_aload_n C 20 rfl 0 dX5_sectorWorth_19 rfl rfl ?_
    refine j_get C 23 rfl 0 5 2 (T := TX5) (N := 22) hi_X5_sectorWorth_X5 rfl (by decide) (List.mem_of_getElem? (i := 2) rfl) rfl rfl rfl dX5_sectorWorth_20 ?_
    refine j_bipush C 25 rfl dX5_sectorWorth_23 (v := (24 : Int32)) (by decide) ?_
    refine j_iload C 27 rfl 4 dX5_sectorWorth_25 rfl ?_
    refine j_imul C 28 rfl dX5_sectorWorth_27 ?_
    refine j_iload_n C 29 rfl 2 dX5_sectorWorth_28 rfl rfl ?_
    refine j_iadd C 30 rfl dX5_sectorWorth_29 ?_
    obtain ⟨k1, ek1, hk1, hw⟩ := hw
    refine j_iald C 31 rfl 1 k1 rfl ek1 hk1 (by decide) dX5_sectorWorth_30 ?_
    refine j_top (fun n2 en2 => ?_)
    have hw := hw n2 en2
    refine j_ri C 34 rfl (jc_S C (c_X5_sortOf l g n2 _ hw) 1 gX5_sectorWorth_X5_sortOf rfl rfl rfl hd_X5_sortOf ⟨Nat.le_of_ble_eq_true rfl, Nat.le_of_ble_eq_true rfl⟩ [] rfl rfl (rest := [.int ((5 : Int32) * x1), .ref a_worth, .int x3]) rfl rfl (Nat.le_of_ble_eq_true rfl) dX5_sectorWorth_31 ⟨Nat.le_refl _, Nat.le_refl _⟩) [] rfl (fun _ => rfl) (fun r3 _ hw => ?_)
    try dsimp only at hw
    refine j_iadd C 35 rfl dX5_sectorWorth_34 ?_
    obtain ⟨k4, ek4, hk4, hw⟩ := hw
    refine j_iald C 36 rfl 2 k4 rfl ek4 hk4 (by decide) dX5_sectorWorth_35 ?_
    refine j_iadd C 37 rfl dX5_sectorWorth_36 ?_
    refine j_top (fun n5 en5 => ?_)
    have hw := hw n5 en5
    refine j_istore_n C 38 rfl [1, 2, 3, 0, 4] (lv' := [(0, .ref a_this), (1, .int x1), (2, .int x2), (3, .int n5), (4, .int x4)]) dX5_sectorWorth_37 rfl (by decide) rfl ?_
    refine j_iinc C 41 rfl 4 [1, 2, 3, 4, 0] (v' := (1 : Int32)) (lv' := fun z => [(0, .ref a_this), (1, .int x1), (2, .int x2), (3, .int n5), (4, .int z)]) dX5_sectorWorth_38 rfl (by decide) (by decide) (fun _ => rfl) (fun n6 en6 => ?_)
    have hw := hw n6 en6
    refine j_goto C 5 dX5_sectorWorth_41 rfl ?_
    exact hL5 _ _ hw
set_option maxRecDepth 20000 in
set_option maxHeartbeats 4000000 in
theorem c_X5_shareOf (l : Launch) (g : gE) (a_this a_pad a_sort a_heir a_was a_worth a_rights a_ahead a_bound a_owner a_foundBound a_foundOwner a_beside a_upward a_from a_queue a_image a_isKept : Nat) (v_signs : Int32) (v_generations : Int32) (v_toll : Int32) (v_foundLeast : Int32) (v_stops : Int32) (f_sort : (Nat → Int32)) (f_worth : (Nat → Int32)) (x1 : Int32) (x2 : Int32)  (K : Int32 → Prop) (hw : wp_X5_shareOf f_sort f_worth x1 x2 K) : Ci l g yX5_shareOf wsX5_shareOf { frames := 2, cells := 0, slots := 0, locals := 44 } [.ref a_this, .int x1, .int x2] [(a_this, .inr (5, [.int v_signs, .ref a_pad, .ref a_sort, .ref a_heir, .int v_generations, .ref a_was, .ref a_worth, .int v_toll, .ref a_rights, .ref a_ahead, .ref a_bound, .ref a_owner, .ref a_foundBound, .ref a_foundOwner, .int v_foundLeast, .int v_stops, .ref a_beside, .ref a_upward, .ref a_from, .ref a_queue, .ref a_image, .ref a_isKept])), (a_sort, gI g 120 f_sort), (a_worth, gI g 30 f_worth)] (fun (r : Int32) (_ : Unit) => K r) (fun (_ : Unit) => [(a_this, .inr (5, [.int v_signs, .ref a_pad, .ref a_sort, .ref a_heir, .int v_generations, .ref a_was, .ref a_worth, .int v_toll, .ref a_rights, .ref a_ahead, .ref a_bound, .ref a_owner, .ref a_foundBound, .ref a_foundOwner, .int v_foundLeast, .int v_stops, .ref a_beside, .ref a_upward, .ref a_from, .ref a_queue, .ref a_image, .ref a_isKept])), (a_sort, gI g 120 f_sort), (a_worth, gI g 30 f_worth)]) 0 0 := by
  refine Ci_of (cc := cX5_shareOf) (nL := 5) (ret := (some .int)) (own := RX5) (lv0 := [(0, .ref a_this), (1, .int x1), (2, .int x2)]) (by decide +kernel) rfl rfl (Nat.le_of_ble_eq_true rfl) rfl (fun A x C R => ?_)
  refine j_iconst C 1 rfl dX5_shareOf_0 (v := (0 : Int32)) (by decide) ?_
  refine j_istore_n C 2 rfl [1, 2, 3, 0] (lv' := [(0, .ref a_this), (1, .int x1), (2, .int x2), (3, .int (0 : Int32))]) dX5_shareOf_1 rfl (by decide) rfl ?_
  refine j_iconst C 3 rfl dX5_shareOf_2 (v := (0 : Int32)) (by decide) ?_
  refine j_istore C 5 rfl [1, 2, 3, 4, 0] (lv' := [(0, .ref a_this), (1, .int x1), (2, .int x2), (3, .int (0 : Int32)), (4, .int (0 : Int32))]) dX5_shareOf_3 (by decide) rfl ?_
  refine lpW2_ind (G := fun x3 x4 => J l g A x 5 0 0 5 [(0, .ref a_this), (1, .int x1), (2, .int x2), (3, .int x3), (4, .int x4)] [] [(a_this, .inr (5, [.int v_signs, .ref a_pad, .ref a_sort, .ref a_heir, .int v_generations, .ref a_was, .ref a_worth, .int v_toll, .ref a_rights, .ref a_ahead, .ref a_bound, .ref a_owner, .ref a_foundBound, .ref a_foundOwner, .int v_foundLeast, .int v_stops, .ref a_beside, .ref a_upward, .ref a_from, .ref a_queue, .ref a_image, .ref a_isKept])), (a_sort, gI g 120 f_sort), (a_worth, gI g 30 f_worth)]) (fun L5 x3 x4 hL5 hw => ?_) _ _ hw
  refine j_iload C 7 rfl 4 dX5_shareOf_5 rfl ?_
  refine j_bipush C 9 rfl dX5_shareOf_7 (v := (24 : Int32)) (by decide) ?_
  refine j_icmp_ge C 12 rfl 41 dX5_shareOf_9 rfl (fun c => ?_) (fun c => ?_)
  · have hw := hw.1 c
    refine j_iload_n C 42 rfl 3 dX5_shareOf_41 rfl rfl ?_
    exact j_iret C R () rfl dX5_shareOf_42 rfl hw
  · have hw := hw.2 c
    refine j_iload_n C 13 rfl 3 dX5_shareOf_12 rfl rfl ?_
    refine j_iload_n C 14 rfl 2 dX5_shareOf_13 rfl rfl ?_
    refine j_iload C 16 rfl 4 dX5_shareOf_14 rfl ?_
    refine j_ri C 19 rfl (jc_S C (c_X5_hasBit l g x2 x4 _ hw) 2 gX5_shareOf_X5_hasBit rfl rfl rfl hd_X5_hasBit ⟨Nat.le_of_ble_eq_true rfl, Nat.le_of_ble_eq_true rfl⟩ [] rfl rfl (rest := [.int x3]) rfl rfl (Nat.le_of_ble_eq_true rfl) dX5_shareOf_16 ⟨Nat.le_refl _, Nat.le_refl _⟩) [] rfl (fun _ => rfl) (fun r1 _ hw => ?_)
    try dsimp only at hw
    refine j_if_eq C 22 rfl 32 dX5_shareOf_19 rfl (fun c => ?_) (fun c => ?_)
    · have hw := hw.1 c
      refine j_iconst C 33 rfl dX5_shareOf_32 (v := (0 : Int32)) (by decide) ?_
      refine j_iadd C 34 rfl dX5_shareOf_33 ?_
      refine j_top (fun n2 en2 => ?_)
      have hw := hw n2 en2
      refine j_istore_n C 35 rfl [1, 2, 3, 0, 4] (lv' := [(0, .ref a_this), (1, .int x1), (2, .int x2), (3, .int n2), (4, .int x4)]) dX5_shareOf_34 rfl (by decide) rfl ?_
      refine j_iinc C 38 rfl 4 [1, 2, 3, 4, 0] (v' := (1 : Int32)) (lv' := fun z => [(0, .ref a_this), (1, .int x1), (2, .int x2), (3, .int n2), (4, .int z)]) dX5_shareOf_35 rfl (by decide) (by decide) (fun _ => rfl) (fun n3 en3 => ?_)
      have hw := hw n3 en3
      refine j_goto C 5 dX5_shareOf_38 rfl ?_
      exact hL5 _ _ hw
    · have hw := hw.2 c
      refine j_aload_n C 23 rfl 0 dX5_shareOf_22 rfl rfl ?_
      refine j_iload_n C 24 rfl 1 dX5_shareOf_23 rfl rfl ?_
      refine j_iload C 26 rfl 4 dX5_shareOf_24 rfl ?_
      refine j_ri C 29 rfl (jc_V C (c_X5_sectorWorth l g a_this a_pad a_sort a_heir a_was a_worth a_rights a_ahead a_bound a_owner a_foundBound a_foundOwner a_beside a_upward a_from a_queue a_image a_isKept v_signs v_generations v_toll v_foundLeast v_stops f_sort f_worth x1 x4 _ hw) 2 gX5_shareOf_X5_sectorWorth rfl rfl rfl hd_X5_sectorWorth ⟨Nat.le_of_ble_eq_true rfl, Nat.le_of_ble_eq_true rfl⟩ (j_rec C 0 5 rfl rfl) [0, 1, 2] rfl rfl (rest := [.int x3]) rfl rfl (Nat.le_of_ble_eq_true rfl) dX5_shareOf_26 ⟨Nat.le_refl _, Nat.le_refl _⟩) [0, 1, 2] rfl (fun _ => rfl) (fun r4 _ hw => ?_)
      try dsimp only at hw
      refine j_goto C 33 dX5_shareOf_29 rfl ?_
      refine j_iadd C 34 rfl dX5_shareOf_33 ?_
      refine j_top (fun n5 en5 => ?_)
      have hw := hw n5 en5
      refine j_istore_n C 35 rfl [1, 2, 3, 0, 4] (lv' := [(0, .ref a_this), (1, .int x1), (2, .int x2), (3, .int n5), (4, .int x4)]) dX5_shareOf_34 rfl (by decide) rfl ?_
      refine j_iinc C 38 rfl 4 [1, 2, 3, 4, 0] (v' := (1 : Int32)) (lv' := fun z => [(0, .ref a_this), (1, .int x1), (2, .int x2), (3, .int n5), (4, .int z)]) dX5_shareOf_35 rfl (by decide) (by decide) (fun _ => rfl) (fun n6 en6 => ?_)
      have hw := hw n6 en6
      refine j_goto C 5 dX5_shareOf_38 rfl ?_
      exact hL5 _ _ hw
set_option maxRecDepth 20000 in
set_option maxHeartbeats 4000000 in
theorem c_X5_share (l : Launch) (g : gE) (a_this a_pad a_sort a_heir a_was a_worth a_rights a_ahead a_bound a_owner a_foundBound a_foundOwner a_beside a_upward a_from a_queue a_image a_isKept : Nat) (v_signs : Int32) (v_generations : Int32) (v_toll : Int32) (v_foundLeast : Int32) (v_stops : Int32) (f_sort : (Nat → Int32)) (f_worth : (Nat → Int32)) (x1 : Int32) (x2 : Int32)  (K : Int32 → Prop) (hw : wp_X5_share f_sort f_worth x1 x2 K) : Ci l g yX5_share wsX5_share { frames := 3, cells := 0, slots := 0, locals := 68 } [.ref a_this, .int x1, .int x2] [(a_this, .inr (5, [.int v_signs, .ref a_pad, .ref a_sort, .ref a_heir, .int v_generations, .ref a_was, .ref a_worth, .int v_toll, .ref a_rights, .ref a_ahead, .ref a_bound, .ref a_owner, .ref a_foundBound, .ref a_foundOwner, .int v_foundLeast, .int v_stops, .ref a_beside, .ref a_upward, .ref a_from, .ref a_queue, .ref a_image, .ref a_isKept])), (a_sort, gI g 120 f_sort), (a_worth, gI g 30 f_worth)] (fun (r : Int32) (_ : Unit) => K r) (fun (_ : Unit) => [(a_this, .inr (5, [.int v_signs, .ref a_pad, .ref a_sort, .ref a_heir, .int v_generations, .ref a_was, .ref a_worth, .int v_toll, .ref a_rights, .ref a_ahead, .ref a_bound, .ref a_owner, .ref a_foundBound, .ref a_foundOwner, .int v_foundLeast, .int v_stops, .ref a_beside, .ref a_upward, .ref a_from, .ref a_queue, .ref a_image, .ref a_isKept])), (a_sort, gI g 120 f_sort), (a_worth, gI g 30 f_worth)]) 0 0 := by
  refine Ci_of (cc := cX5_share) (nL := 3) (ret := (some .int)) (own := RX5) (lv0 := [(0, .ref a_this), (1, .int x1), (2, .int x2)]) (by decide +kernel) rfl rfl (Nat.le_of_ble_eq_true rfl) rfl (fun A x C R => ?_)
  refine j_iload_n C 1 rfl 1 dX5_share_0 rfl rfl ?_
  refine j_ri C 4 rfl (jc_S C (c_X5_isHeir l g x1 _ hw) 1 gX5_share_X5_isHeir rfl rfl rfl hd_X5_isHeir ⟨Nat.le_of_ble_eq_true rfl, Nat.le_of_ble_eq_true rfl⟩ [] rfl rfl (rest := []) rfl rfl (Nat.le_of_ble_eq_true rfl) dX5_share_1 ⟨Nat.le_refl _, Nat.le_refl _⟩) [] rfl (fun _ => rfl) (fun r1 _ hw => ?_)
  try dsimp only at hw
  refine j_if_ne C 7 rfl 9 dX5_share_4 rfl (fun c => ?_) (fun c => ?_)
  · have hw := hw.1 c
    refine j_iload_n C 10 rfl 2 dX5_share_9 rfl rfl ?_
    refine j_iconst C 11 rfl dX5_share_10 (v := (0 : Int32)) (by decide) ?_
    refine j_ldc C 13 rfl (v := (16777215 : Int32)) (List.mem_of_getElem? (i := 1) rfl) dX5_share_11 ?_
    refine j_ri C 16 rfl (jc_S C (c_X5_in l g x2 (0 : Int32) (16777215 : Int32) _ hw) 3 gX5_share_X5_in rfl rfl rfl hd_X5_in ⟨Nat.le_of_ble_eq_true rfl, Nat.le_of_ble_eq_true rfl⟩ [] rfl rfl (rest := []) rfl rfl (Nat.le_of_ble_eq_true rfl) dX5_share_13 ⟨Nat.le_refl _, Nat.le_refl _⟩) [] rfl (fun _ => rfl) (fun r2 _ hw => ?_)
    try dsimp only at hw
    refine j_if_eq C 19 rfl 28 dX5_share_16 rfl (fun c => ?_) (fun c => ?_)
    · have hw := hw.1 c
      refine j_bipush C 30 rfl dX5_share_28 (v := (-2 : Int32)) (by decide) ?_
      exact j_iret C R () rfl dX5_share_30 rfl hw
    · have hw := hw.2 c
      refine j_aload_n C 20 rfl 0 dX5_share_19 rfl rfl ?_
      refine j_iload_n C 21 rfl 1 dX5_share_20 rfl rfl ?_
      refine j_iload_n C 22 rfl 2 dX5_share_21 rfl rfl ?_
      refine j_ri C 25 rfl (jc_V C (c_X5_shareOf l g a_this a_pad a_sort a_heir a_was a_worth a_rights a_ahead a_bound a_owner a_foundBound a_foundOwner a_beside a_upward a_from a_queue a_image a_isKept v_signs v_generations v_toll v_foundLeast v_stops f_sort f_worth x1 x2 _ hw) 2 gX5_share_X5_shareOf rfl rfl rfl hd_X5_shareOf ⟨Nat.le_of_ble_eq_true rfl, Nat.le_of_ble_eq_true rfl⟩ (j_rec C 0 5 rfl rfl) [0, 1, 2] rfl rfl (rest := []) rfl rfl (Nat.le_of_ble_eq_true rfl) dX5_share_22 ⟨Nat.le_refl _, Nat.le_refl _⟩) [0, 1, 2] rfl (fun _ => rfl) (fun r3 _ hw => ?_)
      try dsimp only at hw
      refine j_goto C 30 dX5_share_25 rfl ?_
      exact j_iret C R () rfl dX5_share_30 rfl hw
  · have hw := hw.2 c
    refine j_iconst C 8 rfl dX5_share_7 (v := (-1 : Int32)) (by decide) ?_
    exact j_iret C R () rfl dX5_share_8 rfl hw
set_option maxRecDepth 20000 in
set_option maxHeartbeats 4000000 in
theorem c_X5_envies (l : Launch) (g : gE) (a_this a_pad a_sort a_heir a_was a_worth a_rights a_ahead a_bound a_owner a_foundBound a_foundOwner a_beside a_upward a_from a_queue a_image a_isKept : Nat) (v_signs : Int32) (v_generations : Int32) (v_toll : Int32) (v_foundLeast : Int32) (v_stops : Int32) (f_sort : (Nat → Int32)) (f_heir : (Nat → Int32)) (f_worth : (Nat → Int32)) (x1 : Int32)  (K : Int32 → Prop) (hw : wp_X5_envies f_sort f_heir f_worth x1 K) : Ci l g yX5_envies wsX5_envies { frames := 3, cells := 0, slots := 0, locals := 68 } [.ref a_this, .int x1] [(a_this, .inr (5, [.int v_signs, .ref a_pad, .ref a_sort, .ref a_heir, .int v_generations, .ref a_was, .ref a_worth, .int v_toll, .ref a_rights, .ref a_ahead, .ref a_bound, .ref a_owner, .ref a_foundBound, .ref a_foundOwner, .int v_foundLeast, .int v_stops, .ref a_beside, .ref a_upward, .ref a_from, .ref a_queue, .ref a_image, .ref a_isKept])), (a_sort, gI g 120 f_sort), (a_heir, gI g 24 f_heir), (a_worth, gI g 30 f_worth)] (fun (r : Int32) (_ : Unit) => K r) (fun (_ : Unit) => [(a_this, .inr (5, [.int v_signs, .ref a_pad, .ref a_sort, .ref a_heir, .int v_generations, .ref a_was, .ref a_worth, .int v_toll, .ref a_rights, .ref a_ahead, .ref a_bound, .ref a_owner, .ref a_foundBound, .ref a_foundOwner, .int v_foundLeast, .int v_stops, .ref a_beside, .ref a_upward, .ref a_from, .ref a_queue, .ref a_image, .ref a_isKept])), (a_sort, gI g 120 f_sort), (a_heir, gI g 24 f_heir), (a_worth, gI g 30 f_worth)]) 0 0 := by
  refine Ci_of (cc := cX5_envies) (nL := 5) (ret := (some .int)) (own := RX5) (lv0 := [(0, .ref a_this), (1, .int x1)]) (by decide +kernel) rfl rfl (Nat.le_of_ble_eq_true rfl) rfl (fun A x C R => ?_)
  refine j_iload_n C 1 rfl 1 dX5_envies_0 rfl rfl ?_
  refine j_ri C 4 rfl (jc_S C (c_X5_isHeir l g x1 _ hw) 1 gX5_envies_X5_isHeir rfl rfl rfl hd_X5_isHeir ⟨Nat.le_of_ble_eq_true rfl, Nat.le_of_ble_eq_true rfl⟩ [] rfl rfl (rest := []) rfl rfl (Nat.le_of_ble_eq_true rfl) dX5_envies_1 ⟨Nat.le_refl _, Nat.le_refl _⟩) [] rfl (fun _ => rfl) (fun r1 _ hw => ?_)
  try dsimp only at hw
  refine j_if_ne C 7 rfl 9 dX5_envies_4 rfl (fun c => ?_) (fun c => ?_)
  · have hw := hw.1 c
    refine j_aload_n C 10 rfl 0 dX5_envies_9 rfl rfl ?_
    refine j_iload_n C 11 rfl 1 dX5_envies_10 rfl rfl ?_
    refine j_aload_n C 12 rfl 0 dX5_envies_11 rfl rfl ?_
    refine j_iload_n C 13 rfl 1 dX5_envies_12 rfl rfl ?_
    refine j_ri C 16 rfl (jc_V C (c_X5_sectors l g a_this a_pad a_sort a_heir a_was a_worth a_rights a_ahead a_bound a_owner a_foundBound a_foundOwner a_beside a_upward a_from a_queue a_image a_isKept v_signs v_generations v_toll v_foundLeast v_stops f_heir x1 _ hw) 1 gX5_envies_X5_sectors rfl rfl rfl hd_X5_sectors ⟨Nat.le_of_ble_eq_true rfl, Nat.le_of_ble_eq_true rfl⟩ (j_rec C 0 5 rfl rfl) [0, 2] rfl rfl (rest := [.int x1, .ref a_this]) rfl rfl (Nat.le_of_ble_eq_true rfl) dX5_envies_13 ⟨Nat.le_refl _, Nat.le_refl _⟩) [0, 2] rfl (fun _ => rfl) (fun r2 _ hw => ?_)
    try dsimp only at hw
    refine j_ri C 19 rfl (jc_V C (c_X5_shareOf l g a_this a_pad a_sort a_heir a_was a_worth a_rights a_ahead a_bound a_owner a_foundBound a_foundOwner a_beside a_upward a_from a_queue a_image a_isKept v_signs v_generations v_toll v_foundLeast v_stops f_sort f_worth x1 r2 _ hw) 2 gX5_envies_X5_shareOf rfl rfl rfl hd_X5_shareOf ⟨Nat.le_of_ble_eq_true rfl, Nat.le_of_ble_eq_true rfl⟩ (j_rec C 0 5 rfl rfl) [0, 1, 3] rfl rfl (rest := []) rfl rfl (Nat.le_of_ble_eq_true rfl) dX5_envies_16 ⟨Nat.le_refl _, Nat.le_refl _⟩) [0, 1, 3] rfl (fun _ => rfl) (fun r3 _ hw => ?_)
    try dsimp only at hw
    refine j_istore_n C 20 rfl [1, 2, 0] (lv' := [(0, .ref a_this), (1, .int x1), (2, .int r3)]) dX5_envies_19 rfl (by decide) rfl ?_
    refine j_iconst C 21 rfl dX5_envies_20 (v := (0 : Int32)) (by decide) ?_
    refine j_istore_n C 22 rfl [1, 2, 3, 0] (lv' := [(0, .ref a_this), (1, .int x1), (2, .int r3), (3, .int (0 : Int32))]) dX5_envies_21 rfl (by decide) rfl ?_
    refine j_iconst C 23 rfl dX5_envies_22 (v := (0 : Int32)) (by decide) ?_
    refine j_istore C 25 rfl [1, 2, 3, 4, 0] (lv' := [(0, .ref a_this), (1, .int x1), (2, .int r3), (3, .int (0 : Int32)), (4, .int (0 : Int32))]) dX5_envies_23 (by decide) rfl ?_
    refine lpW2_ind (G := fun x3 x4 => J l g A x 5 0 0 25 [(0, .ref a_this), (1, .int x1), (2, .int r3), (3, .int x3), (4, .int x4)] [] [(a_this, .inr (5, [.int v_signs, .ref a_pad, .ref a_sort, .ref a_heir, .int v_generations, .ref a_was, .ref a_worth, .int v_toll, .ref a_rights, .ref a_ahead, .ref a_bound, .ref a_owner, .ref a_foundBound, .ref a_foundOwner, .int v_foundLeast, .int v_stops, .ref a_beside, .ref a_upward, .ref a_from, .ref a_queue, .ref a_image, .ref a_isKept])), (a_sort, gI g 120 f_sort), (a_heir, gI g 24 f_heir), (a_worth, gI g 30 f_worth)]) (fun L25 x3 x4 hL25 hw => ?_) _ _ hw
    refine j_iload C 27 rfl 4 dX5_envies_25 rfl ?_
    refine j_bipush C 29 rfl dX5_envies_27 (v := (6 : Int32)) (by decide) ?_
    refine j_icmp_ge C 32 rfl 70 dX5_envies_29 rfl (fun c => ?_) (fun c => ?_)
    · have hw := hw.1 c
      refine j_iload_n C 71 rfl 3 dX5_envies_70 rfl rfl ?_
      exact j_iret C R () rfl dX5_envies_71 rfl hw
    · have hw := hw.2 c
      refine j_iload_n C 33 rfl 3 dX5_envies_32 rfl rfl ?_
      refine j_iload C 35 rfl 4 dX5_envies_33 rfl ?_
      refine j_iload_n C 36 rfl 1 dX5_envies_35 rfl rfl ?_
      refine j_icmp_eq C 39 rfl 61 dX5_envies_36 rfl (fun c => ?_) (fun c => ?_)
      · have hw := hw.1 c
        refine j_iconst C 62 rfl dX5_envies_61 (v := (0 : Int32)) (by decide) ?_
        refine j_ior C 63 rfl dX5_envies_62 ?_
        refine j_top (fun n4 en4 => ?_)
        have hw := hw n4 en4
        refine j_istore_n C 64 rfl [1, 2, 3, 0, 4] (lv' := [(0, .ref a_this), (1, .int x1), (2, .int r3), (3, .int n4), (4, .int x4)]) dX5_envies_63 rfl (by decide) rfl ?_
        refine j_iinc C 67 rfl 4 [1, 2, 3, 4, 0] (v' := (1 : Int32)) (lv' := fun z => [(0, .ref a_this), (1, .int x1), (2, .int r3), (3, .int n4), (4, .int z)]) dX5_envies_64 rfl (by decide) (by decide) (fun _ => rfl) (fun n5 en5 => ?_)
        have hw := hw n5 en5
        refine j_goto C 25 dX5_envies_67 rfl ?_
        exact hL25 _ _ hw
      · have hw := hw.2 c
        refine j_aload_n C 40 rfl 0 dX5_envies_39 rfl rfl ?_
        refine j_iload_n C 41 rfl 1 dX5_envies_40 rfl rfl ?_
        refine j_aload_n C 42 rfl 0 dX5_envies_41 rfl rfl ?_
        refine j_iload C 44 rfl 4 dX5_envies_42 rfl ?_
        refine j_ri C 47 rfl (jc_V C (c_X5_sectors l g a_this a_pad a_sort a_heir a_was a_worth a_rights a_ahead a_bound a_owner a_foundBound a_foundOwner a_beside a_upward a_from a_queue a_image a_isKept v_signs v_generations v_toll v_foundLeast v_stops f_heir x4 _ hw) 1 gX5_envies_X5_sectors rfl rfl rfl hd_X5_sectors ⟨Nat.le_of_ble_eq_true rfl, Nat.le_of_ble_eq_true rfl⟩ (j_rec C 0 5 rfl rfl) [0, 2] rfl rfl (rest := [.int x1, .ref a_this, .int x3]) rfl rfl (Nat.le_of_ble_eq_true rfl) dX5_envies_44 ⟨Nat.le_refl _, Nat.le_refl _⟩) [0, 2] rfl (fun _ => rfl) (fun r6 _ hw => ?_)
        try dsimp only at hw
        refine j_ri C 50 rfl (jc_V C (c_X5_shareOf l g a_this a_pad a_sort a_heir a_was a_worth a_rights a_ahead a_bound a_owner a_foundBound a_foundOwner a_beside a_upward a_from a_queue a_image a_isKept v_signs v_generations v_toll v_foundLeast v_stops f_sort f_worth x1 r6 _ hw) 2 gX5_envies_X5_shareOf rfl rfl rfl hd_X5_shareOf ⟨Nat.le_of_ble_eq_true rfl, Nat.le_of_ble_eq_true rfl⟩ (j_rec C 0 5 rfl rfl) [0, 1, 3] rfl rfl (rest := [.int x3]) rfl rfl (Nat.le_of_ble_eq_true rfl) dX5_envies_47 ⟨Nat.le_refl _, Nat.le_refl _⟩) [0, 1, 3] rfl (fun _ => rfl) (fun r7 _ hw => ?_)
        try dsimp only at hw
        refine j_iload_n C 51 rfl 2 dX5_envies_50 rfl rfl ?_
        refine j_icmp_le C 54 rfl 61 dX5_envies_51 rfl (fun c => ?_) (fun c => ?_)
        · have hw := hw.1 c
          refine j_iconst C 62 rfl dX5_envies_61 (v := (0 : Int32)) (by decide) ?_
          refine j_ior C 63 rfl dX5_envies_62 ?_
          refine j_top (fun n8 en8 => ?_)
          have hw := hw n8 en8
          refine j_istore_n C 64 rfl [1, 2, 3, 0, 4] (lv' := [(0, .ref a_this), (1, .int x1), (2, .int r3), (3, .int n8), (4, .int x4)]) dX5_envies_63 rfl (by decide) rfl ?_
          refine j_iinc C 67 rfl 4 [1, 2, 3, 4, 0] (v' := (1 : Int32)) (lv' := fun z => [(0, .ref a_this), (1, .int x1), (2, .int r3), (3, .int n8), (4, .int z)]) dX5_envies_64 rfl (by decide) (by decide) (fun _ => rfl) (fun n9 en9 => ?_)
          have hw := hw n9 en9
          refine j_goto C 25 dX5_envies_67 rfl ?_
          exact hL25 _ _ hw
        · have hw := hw.2 c
          refine j_iconst C 55 rfl dX5_envies_54 (v := (1 : Int32)) (by decide) ?_
          refine j_iload C 57 rfl 4 dX5_envies_55 rfl ?_
          refine j_ishl C 58 rfl dX5_envies_57 ?_
          refine j_goto C 62 dX5_envies_58 rfl ?_
          refine j_ior C 63 rfl dX5_envies_62 ?_
          refine j_top (fun n10 en10 => ?_)
          have hw := hw n10 en10
          refine j_istore_n C 64 rfl [1, 2, 3, 0, 4] (lv' := [(0, .ref a_this), (1, .int x1), (2, .int r3), (3, .int n10), (4, .int x4)]) dX5_envies_63 rfl (by decide) rfl ?_
          refine j_iinc C 67 rfl 4 [1, 2, 3, 4, 0] (v' := (1 : Int32)) (lv' := fun z => [(0, .ref a_this), (1, .int x1), (2, .int r3), (3, .int n10), (4, .int z)]) dX5_envies_64 rfl (by decide) (by decide) (fun _ => rfl) (fun n11 en11 => ?_)
          have hw := hw n11 en11
          refine j_goto C 25 dX5_envies_67 rfl ?_
          exact hL25 _ _ hw
  · have hw := hw.2 c
    refine j_iconst C 8 rfl dX5_envies_7 (v := (-1 : Int32)) (by decide) ?_
    exact j_iret C R () rfl dX5_envies_8 rfl hw
theorem hi_X5_layAhead_X5 : ∀ w ∈ wsX50, w ∈ wsX5_layAhead := fun _ h => List.mem_cons_of_mem _ (List.mem_append_right _ h)
set_option maxRecDepth 20000 in
set_option maxHeartbeats 4000000 in
theorem c_X5_layAhead (l : Launch) (g : gE) (a_this a_pad a_sort a_heir a_was a_worth a_rights a_ahead a_bound a_owner a_foundBound a_foundOwner a_beside a_upward a_from a_queue a_image a_isKept : Nat) (v_signs : Int32) (v_generations : Int32) (v_toll : Int32) (v_foundLeast : Int32) (v_stops : Int32) (f_sort : (Nat → Int32)) (f_worth : (Nat → Int32)) (f_ahead : (Nat → Int32))   (K : (Nat → Int32) → Prop) (hw : wp_X5_layAhead f_sort f_worth f_ahead K) : Cv l g yX5_layAhead wsX5_layAhead { frames := 2, cells := 0, slots := 0, locals := 44 } [.ref a_this] [(a_this, .inr (5, [.int v_signs, .ref a_pad, .ref a_sort, .ref a_heir, .int v_generations, .ref a_was, .ref a_worth, .int v_toll, .ref a_rights, .ref a_ahead, .ref a_bound, .ref a_owner, .ref a_foundBound, .ref a_foundOwner, .int v_foundLeast, .int v_stops, .ref a_beside, .ref a_upward, .ref a_from, .ref a_queue, .ref a_image, .ref a_isKept])), (a_sort, gI g 120 f_sort), (a_worth, gI g 30 f_worth), (a_ahead, gI g 100 f_ahead)] (fun (u : (Nat → Int32)) => K u) (fun (u : (Nat → Int32)) => [(a_this, .inr (5, [.int v_signs, .ref a_pad, .ref a_sort, .ref a_heir, .int v_generations, .ref a_was, .ref a_worth, .int v_toll, .ref a_rights, .ref a_ahead, .ref a_bound, .ref a_owner, .ref a_foundBound, .ref a_foundOwner, .int v_foundLeast, .int v_stops, .ref a_beside, .ref a_upward, .ref a_from, .ref a_queue, .ref a_image, .ref a_isKept])), (a_sort, gI g 120 f_sort), (a_worth, gI g 30 f_worth), (a_ahead, gI g 100 u)]) 0 0 := by
  refine Cv_of (cc := cX5_layAhead) (nL := 3) (ret := none) (own := RX5) (lv0 := [(0, .ref a_this)]) (by decide +kernel) rfl rfl (Nat.le_of_ble_eq_true rfl) rfl (fun A x C R => ?_)
  refine j_iconst C 1 rfl dX5_layAhead_0 (v := (0 : Int32)) (by decide) ?_
  refine j_istore_n C 2 rfl [1, 0] (lv' := [(0, .ref a_this), (1, .int (0 : Int32))]) dX5_layAhead_1 rfl (by decide) rfl ?_
  refine lpW2_ind (G := fun x1 f_ahead => J l g A x 3 0 0 2 [(0, .ref a_this), (1, .int x1)] [] [(a_this, .inr (5, [.int v_signs, .ref a_pad, .ref a_sort, .ref a_heir, .int v_generations, .ref a_was, .ref a_worth, .int v_toll, .ref a_rights, .ref a_ahead, .ref a_bound, .ref a_owner, .ref a_foundBound, .ref a_foundOwner, .int v_foundLeast, .int v_stops, .ref a_beside, .ref a_upward, .ref a_from, .ref a_queue, .ref a_image, .ref a_isKept])), (a_sort, gI g 120 f_sort), (a_worth, gI g 30 f_worth), (a_ahead, gI g 100 f_ahead)]) (fun L2 x1 f_ahead hL2 hw => ?_) _ _ hw
  refine j_iload_n C 3 rfl 1 dX5_layAhead_2 rfl rfl ?_
  refine j_iconst C 4 rfl dX5_layAhead_3 (v := (4 : Int32)) (by decide) ?_
  refine j_icmp_ge C 7 rfl 68 dX5_layAhead_4 rfl (fun c => ?_) (fun c => ?_)
  · have hw := hw.1 c
    exact j_vret C R (f_ahead) dX5_layAhead_68 rfl hw
  · have hw := hw.2 c
    refine j_aload_n C 8 rfl 0 dX5_layAhead_7 rfl rfl ?_
    refine j_get C 11 rfl 0 5 9 (T := TX5) (N := 22) hi_X5_layAhead_X5 rfl (by decide) (List.mem_of_getElem? (i := 1) rfl) rfl rfl rfl dX5_layAhead_8 ?_
    refine j_bipush C 13 rfl dX5_layAhead_11 (v := (25 : Int32)) (by decide) ?_
    refine j_iload_n C 14 rfl 1 dX5_layAhead_13 rfl rfl ?_
    refine j_imul C 15 rfl dX5_layAhead_14 ?_
    refine j_iconst C 16 rfl dX5_layAhead_15 (v := (0 : Int32)) (by decide) ?_
    obtain ⟨k1, ek1, hk1, hw⟩ := hw
    refine j_iast C 17 rfl 3 k1 (ws' := [(a_this, .inr (5, [.int v_signs, .ref a_pad, .ref a_sort, .ref a_heir, .int v_generations, .ref a_was, .ref a_worth, .int v_toll, .ref a_rights, .ref a_ahead, .ref a_bound, .ref a_owner, .ref a_foundBound, .ref a_foundOwner, .int v_foundLeast, .int v_stops, .ref a_beside, .ref a_upward, .ref a_from, .ref a_queue, .ref a_image, .ref a_isKept])), (a_sort, gI g 120 f_sort), (a_worth, gI g 30 f_worth), (a_ahead, gI g 100 (upd f_ahead k1 (0 : Int32)))]) rfl ek1 hk1 (by decide) rfl dX5_layAhead_16 ?_
    refine j_iconst C 18 rfl dX5_layAhead_17 (v := (0 : Int32)) (by decide) ?_
    refine j_istore_n C 19 rfl [1, 2, 0] (lv' := [(0, .ref a_this), (1, .int x1), (2, .int (0 : Int32))]) dX5_layAhead_18 rfl (by decide) rfl ?_
    refine lpW2_ind (G := fun x2 f_ahead => J l g A x 3 0 0 19 [(0, .ref a_this), (1, .int x1), (2, .int x2)] [] [(a_this, .inr (5, [.int v_signs, .ref a_pad, .ref a_sort, .ref a_heir, .int v_generations, .ref a_was, .ref a_worth, .int v_toll, .ref a_rights, .ref a_ahead, .ref a_bound, .ref a_owner, .ref a_foundBound, .ref a_foundOwner, .int v_foundLeast, .int v_stops, .ref a_beside, .ref a_upward, .ref a_from, .ref a_queue, .ref a_image, .ref a_isKept])), (a_sort, gI g 120 f_sort), (a_worth, gI g 30 f_worth), (a_ahead, gI g 100 f_ahead)]) (fun L19 x2 f_ahead hL19 hw => ?_) _ _ hw
    refine j_iload_n C 20 rfl 2 dX5_layAhead_19 rfl rfl ?_
    refine j_bipush C 22 rfl dX5_layAhead_20 (v := (24 : Int32)) (by decide) ?_
    refine j_icmp_ge C 25 rfl 62 dX5_layAhead_22 rfl (fun c => ?_) (fun c => ?_)
    · have hw := hw.1 c
      refine j_iinc C 65 rfl 1 [1, 0, 2] (v' := (1 : Int32)) (lv' := fun z => [(0, .ref a_this), (1, .int z), (2, .int x2)]) dX5_layAhead_62 rfl (by decide) (by decide) (fun _ => rfl) (fun n2 en2 => ?_)
      have hw := hw n2 en2
      refine j_goto C 2 dX5_layAhead_65 rfl ?_
      refine j_lv [0, 1] (lv' := [(0, .ref a_this), (1, .int n2)]) rfl ?_
      exact hL2 _ _ hw
    · have hw := hw.2 c
      refine j_aload_n C 26 rfl 0 dX5_layAhead_25 rfl rfl ?_
      refine j_get C 29 rfl 0 5 9 (T := TX5) (N := 22) hi_X5_layAhead_X5 rfl (by decide) (List.mem_of_getElem? (i := 1) rfl) rfl rfl rfl dX5_layAhead_26 ?_
      refine j_bipush C 31 rfl dX5_layAhead_29 (v := (25 : Int32)) (by decide) ?_
      refine j_iload_n C 32 rfl 1 dX5_layAhead_31 rfl rfl ?_
      refine j_imul C 33 rfl dX5_layAhead_32 ?_
      refine j_iload_n C 34 rfl 2 dX5_layAhead_33 rfl rfl ?_
      refine j_iadd C 35 rfl dX5_layAhead_34 ?_
      refine j_iconst C 36 rfl dX5_layAhead_35 (v := (1 : Int32)) (by decide) ?_
      refine j_iadd C 37 rfl dX5_layAhead_36 ?_
      refine j_aload_n C 38 rfl 0 dX5_layAhead_37 rfl rfl ?_
      refine j_get C 41 rfl 0 5 9 (T := TX5) (N := 22) hi_X5_layAhead_X5 rfl (by decide) (List.mem_of_getElem? (i := 1) rfl) rfl rfl rfl dX5_layAhead_38 ?_
      refine j_bipush C 43 rfl dX5_layAhead_41 (v := (25 : Int32)) (by decide) ?_
      refine j_iload_n C 44 rfl 1 dX5_layAhead_43 rfl rfl ?_
      refine j_imul C 45 rfl dX5_layAhead_44 ?_
      refine j_iload_n C 46 rfl 2 dX5_layAhead_45 rfl rfl ?_
      refine j_iadd C 47 rfl dX5_layAhead_46 ?_
      obtain ⟨k3, ek3, hk3, hw⟩ := hw
      refine j_iald C 48 rfl 3 k3 rfl ek3 hk3 (by decide) dX5_layAhead_47 ?_
      refine j_aload_n C 49 rfl 0 dX5_layAhead_48 rfl rfl ?_
      refine j_iload_n C 50 rfl 1 dX5_layAhead_49 rfl rfl ?_
      refine j_iload_n C 51 rfl 2 dX5_layAhead_50 rfl rfl ?_
      refine j_ri C 54 rfl (jc_V C (c_X5_sectorWorth l g a_this a_pad a_sort a_heir a_was a_worth a_rights a_ahead a_bound a_owner a_foundBound a_foundOwner a_beside a_upward a_from a_queue a_image a_isKept v_signs v_generations v_toll v_foundLeast v_stops f_sort f_worth x1 x2 _ hw) 2 gX5_layAhead_X5_sectorWorth rfl rfl rfl hd_X5_sectorWorth ⟨Nat.le_of_ble_eq_true rfl, Nat.le_of_ble_eq_true rfl⟩ (j_rec C 0 5 rfl rfl) [0, 1, 2] rfl rfl (rest := [.int (f_ahead k3), .int ((((25 : Int32) * x1) + x2) + (1 : Int32)), .ref a_ahead]) rfl rfl (Nat.le_of_ble_eq_true rfl) dX5_layAhead_51 ⟨Nat.le_refl _, Nat.le_refl _⟩) [0, 1, 2] rfl (fun _ => rfl) (fun r4 _ hw => ?_)
      try dsimp only at hw
      refine j_iadd C 55 rfl dX5_layAhead_54 ?_
      refine j_top (fun n5 en5 => ?_)
      have hw := hw n5 en5
      obtain ⟨k6, ek6, hk6, hw⟩ := hw
      refine j_iast C 56 rfl 3 k6 (ws' := [(a_this, .inr (5, [.int v_signs, .ref a_pad, .ref a_sort, .ref a_heir, .int v_generations, .ref a_was, .ref a_worth, .int v_toll, .ref a_rights, .ref a_ahead, .ref a_bound, .ref a_owner, .ref a_foundBound, .ref a_foundOwner, .int v_foundLeast, .int v_stops, .ref a_beside, .ref a_upward, .ref a_from, .ref a_queue, .ref a_image, .ref a_isKept])), (a_sort, gI g 120 f_sort), (a_worth, gI g 30 f_worth), (a_ahead, gI g 100 (upd f_ahead k6 n5))]) rfl ek6 hk6 (by decide) rfl dX5_layAhead_55 ?_
      refine j_iinc C 59 rfl 2 [1, 2, 0] (v' := (1 : Int32)) (lv' := fun z => [(0, .ref a_this), (1, .int x1), (2, .int z)]) dX5_layAhead_56 rfl (by decide) (by decide) (fun _ => rfl) (fun n7 en7 => ?_)
      have hw := hw n7 en7
      refine j_goto C 19 dX5_layAhead_59 rfl ?_
      exact hL19 _ _ hw
theorem hi_X5_arcWorth_X5 : ∀ w ∈ wsX50, w ∈ wsX5_arcWorth := fun _ h => List.mem_cons_of_mem _ (List.mem_append_right _ h)
set_option maxRecDepth 20000 in
set_option maxHeartbeats 4000000 in
theorem c_X5_arcWorth (l : Launch) (g : gE) (a_this a_pad a_sort a_heir a_was a_worth a_rights a_ahead a_bound a_owner a_foundBound a_foundOwner a_beside a_upward a_from a_queue a_image a_isKept : Nat) (v_signs : Int32) (v_generations : Int32) (v_toll : Int32) (v_foundLeast : Int32) (v_stops : Int32) (f_ahead : (Nat → Int32)) (f_bound : (Nat → Int32)) (x1 : Int32) (x2 : Int32) (x3 : Int32)  (K : Int32 → Prop) (hw : wp_X5_arcWorth f_ahead f_bound x1 x2 x3 K) : Ci l g yX5_arcWorth wsX5_arcWorth { frames := 0, cells := 0, slots := 0, locals := 0 } [.ref a_this, .int x1, .int x2, .int x3] [(a_this, .inr (5, [.int v_signs, .ref a_pad, .ref a_sort, .ref a_heir, .int v_generations, .ref a_was, .ref a_worth, .int v_toll, .ref a_rights, .ref a_ahead, .ref a_bound, .ref a_owner, .ref a_foundBound, .ref a_foundOwner, .int v_foundLeast, .int v_stops, .ref a_beside, .ref a_upward, .ref a_from, .ref a_queue, .ref a_image, .ref a_isKept])), (a_ahead, gI g 100 f_ahead), (a_bound, gI g 4 f_bound)] (fun (r : Int32) (_ : Unit) => K r) (fun (_ : Unit) => [(a_this, .inr (5, [.int v_signs, .ref a_pad, .ref a_sort, .ref a_heir, .int v_generations, .ref a_was, .ref a_worth, .int v_toll, .ref a_rights, .ref a_ahead, .ref a_bound, .ref a_owner, .ref a_foundBound, .ref a_foundOwner, .int v_foundLeast, .int v_stops, .ref a_beside, .ref a_upward, .ref a_from, .ref a_queue, .ref a_image, .ref a_isKept])), (a_ahead, gI g 100 f_ahead), (a_bound, gI g 4 f_bound)]) 0 0 := by
  refine Ci_of (cc := cX5_arcWorth) (nL := 7) (ret := (some .int)) (own := RX5) (lv0 := [(0, .ref a_this), (1, .int x1), (2, .int x2), (3, .int x3)]) (by decide +kernel) rfl rfl (Nat.le_of_ble_eq_true rfl) rfl (fun A x C R => ?_)
  refine j_aload_n C 1 rfl 0 dX5_arcWorth_0 rfl rfl ?_
  refine j_get C 4 rfl 0 5 10 (T := TX5) (N := 22) hi_X5_arcWorth_X5 rfl (by decide) (List.mem_of_getElem? (i := 1) rfl) rfl rfl rfl dX5_arcWorth_1 ?_
  refine j_iload_n C 5 rfl 2 dX5_arcWorth_4 rfl rfl ?_
  obtain ⟨k1, ek1, hk1, hw⟩ := hw
  refine j_iald C 6 rfl 2 k1 rfl ek1 hk1 (by decide) dX5_arcWorth_5 ?_
  refine j_top (fun n2 en2 => ?_)
  have hw := hw n2 en2
  refine j_istore C 8 rfl [1, 2, 3, 4, 0] (lv' := [(0, .ref a_this), (1, .int x1), (2, .int x2), (3, .int x3), (4, .int n2)]) dX5_arcWorth_6 (by decide) rfl ?_
  refine j_aload_n C 9 rfl 0 dX5_arcWorth_8 rfl rfl ?_
  refine j_get C 12 rfl 0 5 10 (T := TX5) (N := 22) hi_X5_arcWorth_X5 rfl (by decide) (List.mem_of_getElem? (i := 1) rfl) rfl rfl rfl dX5_arcWorth_9 ?_
  refine j_iload_n C 13 rfl 2 dX5_arcWorth_12 rfl rfl ?_
  refine j_iconst C 14 rfl dX5_arcWorth_13 (v := (1 : Int32)) (by decide) ?_
  refine j_iadd C 15 rfl dX5_arcWorth_14 ?_
  refine j_iload_n C 16 rfl 3 dX5_arcWorth_15 rfl rfl ?_
  obtain ⟨hz3, hw⟩ := hw
  refine j_irem C 17 rfl dX5_arcWorth_16 hz3 ?_
  obtain ⟨k4, ek4, hk4, hw⟩ := hw
  refine j_iald C 18 rfl 2 k4 rfl ek4 hk4 (by decide) dX5_arcWorth_17 ?_
  refine j_top (fun n5 en5 => ?_)
  have hw := hw n5 en5
  refine j_istore C 20 rfl [1, 2, 3, 4, 5, 0] (lv' := [(0, .ref a_this), (1, .int x1), (2, .int x2), (3, .int x3), (4, .int n2), (5, .int n5)]) dX5_arcWorth_18 (by decide) rfl ?_
  refine j_aload_n C 21 rfl 0 dX5_arcWorth_20 rfl rfl ?_
  refine j_get C 24 rfl 0 5 9 (T := TX5) (N := 22) hi_X5_arcWorth_X5 rfl (by decide) (List.mem_of_getElem? (i := 2) rfl) rfl rfl rfl dX5_arcWorth_21 ?_
  refine j_bipush C 26 rfl dX5_arcWorth_24 (v := (25 : Int32)) (by decide) ?_
  refine j_iload_n C 27 rfl 1 dX5_arcWorth_26 rfl rfl ?_
  refine j_imul C 28 rfl dX5_arcWorth_27 ?_
  refine j_iload C 30 rfl 5 dX5_arcWorth_28 rfl ?_
  refine j_iadd C 31 rfl dX5_arcWorth_30 ?_
  obtain ⟨k6, ek6, hk6, hw⟩ := hw
  refine j_iald C 32 rfl 1 k6 rfl ek6 hk6 (by decide) dX5_arcWorth_31 ?_
  refine j_aload_n C 33 rfl 0 dX5_arcWorth_32 rfl rfl ?_
  refine j_get C 36 rfl 0 5 9 (T := TX5) (N := 22) hi_X5_arcWorth_X5 rfl (by decide) (List.mem_of_getElem? (i := 2) rfl) rfl rfl rfl dX5_arcWorth_33 ?_
  refine j_bipush C 38 rfl dX5_arcWorth_36 (v := (25 : Int32)) (by decide) ?_
  refine j_iload_n C 39 rfl 1 dX5_arcWorth_38 rfl rfl ?_
  refine j_imul C 40 rfl dX5_arcWorth_39 ?_
  refine j_iload C 42 rfl 4 dX5_arcWorth_40 rfl ?_
  refine j_iadd C 43 rfl dX5_arcWorth_42 ?_
  obtain ⟨k7, ek7, hk7, hw⟩ := hw
  refine j_iald C 44 rfl 1 k7 rfl ek7 hk7 (by decide) dX5_arcWorth_43 ?_
  refine j_isub C 45 rfl dX5_arcWorth_44 ?_
  refine j_top (fun n8 en8 => ?_)
  have hw := hw n8 en8
  refine j_istore C 47 rfl [1, 2, 3, 4, 5, 6, 0] (lv' := [(0, .ref a_this), (1, .int x1), (2, .int x2), (3, .int x3), (4, .int n2), (5, .int n5), (6, .int n8)]) dX5_arcWorth_45 (by decide) rfl ?_
  refine j_iload_n C 48 rfl 2 dX5_arcWorth_47 rfl rfl ?_
  refine j_iload_n C 49 rfl 3 dX5_arcWorth_48 rfl rfl ?_
  refine j_iconst C 50 rfl dX5_arcWorth_49 (v := (1 : Int32)) (by decide) ?_
  refine j_isub C 51 rfl dX5_arcWorth_50 ?_
  refine j_icmp_ne C 54 rfl 72 dX5_arcWorth_51 rfl (fun c => ?_) (fun c => ?_)
  · have hw := hw.1 c
    refine j_iload C 74 rfl 6 dX5_arcWorth_72 rfl ?_
    exact j_iret C R () rfl dX5_arcWorth_74 rfl hw
  · have hw := hw.2 c
    refine j_iload C 56 rfl 6 dX5_arcWorth_54 rfl ?_
    refine j_aload_n C 57 rfl 0 dX5_arcWorth_56 rfl rfl ?_
    refine j_get C 60 rfl 0 5 9 (T := TX5) (N := 22) hi_X5_arcWorth_X5 rfl (by decide) (List.mem_of_getElem? (i := 2) rfl) rfl rfl rfl dX5_arcWorth_57 ?_
    refine j_bipush C 62 rfl dX5_arcWorth_60 (v := (25 : Int32)) (by decide) ?_
    refine j_iload_n C 63 rfl 1 dX5_arcWorth_62 rfl rfl ?_
    refine j_imul C 64 rfl dX5_arcWorth_63 ?_
    refine j_bipush C 66 rfl dX5_arcWorth_64 (v := (24 : Int32)) (by decide) ?_
    refine j_iadd C 67 rfl dX5_arcWorth_66 ?_
    obtain ⟨k9, ek9, hk9, hw⟩ := hw
    refine j_iald C 68 rfl 1 k9 rfl ek9 hk9 (by decide) dX5_arcWorth_67 ?_
    refine j_iadd C 69 rfl dX5_arcWorth_68 ?_
    refine j_goto C 74 dX5_arcWorth_69 rfl ?_
    exact j_iret C R () rfl dX5_arcWorth_74 rfl hw
theorem hi_X5_isFair_X5 : ∀ w ∈ wsX50, w ∈ wsX5_isFair := fun _ h => List.mem_cons_of_mem _ (List.mem_append_right _ h)
set_option maxRecDepth 20000 in
set_option maxHeartbeats 4000000 in
theorem c_X5_isFair (l : Launch) (g : gE) (a_this a_pad a_sort a_heir a_was a_worth a_rights a_ahead a_bound a_owner a_foundBound a_foundOwner a_beside a_upward a_from a_queue a_image a_isKept : Nat) (v_signs : Int32) (v_generations : Int32) (v_toll : Int32) (v_foundLeast : Int32) (v_stops : Int32) (f_ahead : (Nat → Int32)) (f_bound : (Nat → Int32)) (f_owner : (Nat → Int32)) (x1 : Int32)  (K : Int32 → Prop) (hw : wp_X5_isFair f_ahead f_bound f_owner x1 K) : Ci l g yX5_isFair wsX5_isFair { frames := 1, cells := 0, slots := 0, locals := 26 } [.ref a_this, .int x1] [(a_this, .inr (5, [.int v_signs, .ref a_pad, .ref a_sort, .ref a_heir, .int v_generations, .ref a_was, .ref a_worth, .int v_toll, .ref a_rights, .ref a_ahead, .ref a_bound, .ref a_owner, .ref a_foundBound, .ref a_foundOwner, .int v_foundLeast, .int v_stops, .ref a_beside, .ref a_upward, .ref a_from, .ref a_queue, .ref a_image, .ref a_isKept])), (a_ahead, gI g 100 f_ahead), (a_bound, gI g 4 f_bound), (a_owner, gI g 4 f_owner)] (fun (r : Int32) (_ : Unit) => K r) (fun (_ : Unit) => [(a_this, .inr (5, [.int v_signs, .ref a_pad, .ref a_sort, .ref a_heir, .int v_generations, .ref a_was, .ref a_worth, .int v_toll, .ref a_rights, .ref a_ahead, .ref a_bound, .ref a_owner, .ref a_foundBound, .ref a_foundOwner, .int v_foundLeast, .int v_stops, .ref a_beside, .ref a_upward, .ref a_from, .ref a_queue, .ref a_image, .ref a_isKept])), (a_ahead, gI g 100 f_ahead), (a_bound, gI g 4 f_bound), (a_owner, gI g 4 f_owner)]) 0 0 := by
  refine Ci_of (cc := cX5_isFair) (nL := 5) (ret := (some .boolean)) (own := RX5) (lv0 := [(0, .ref a_this), (1, .int x1)]) (by decide +kernel) rfl rfl (Nat.le_of_ble_eq_true rfl) rfl (fun A x C R => ?_)
  refine j_iconst C 1 rfl dX5_isFair_0 (v := (1 : Int32)) (by decide) ?_
  refine j_istore_n C 2 rfl [1, 2, 0] (lv' := [(0, .ref a_this), (1, .int x1), (2, .int (1 : Int32))]) dX5_isFair_1 rfl (by decide) rfl ?_
  refine j_iconst C 3 rfl dX5_isFair_2 (v := (0 : Int32)) (by decide) ?_
  refine j_istore_n C 4 rfl [1, 2, 3, 0] (lv' := [(0, .ref a_this), (1, .int x1), (2, .int (1 : Int32)), (3, .int (0 : Int32))]) dX5_isFair_3 rfl (by decide) rfl ?_
  refine lpW2_ind (G := fun x2 x3 => J l g A x 5 0 0 4 [(0, .ref a_this), (1, .int x1), (2, .int x2), (3, .int x3)] [] [(a_this, .inr (5, [.int v_signs, .ref a_pad, .ref a_sort, .ref a_heir, .int v_generations, .ref a_was, .ref a_worth, .int v_toll, .ref a_rights, .ref a_ahead, .ref a_bound, .ref a_owner, .ref a_foundBound, .ref a_foundOwner, .int v_foundLeast, .int v_stops, .ref a_beside, .ref a_upward, .ref a_from, .ref a_queue, .ref a_image, .ref a_isKept])), (a_ahead, gI g 100 f_ahead), (a_bound, gI g 4 f_bound), (a_owner, gI g 4 f_owner)]) (fun L4 x2 x3 hL4 hw => ?_) _ _ hw
  refine j_iload_n C 5 rfl 3 dX5_isFair_4 rfl rfl ?_
  refine j_iload_n C 6 rfl 1 dX5_isFair_5 rfl rfl ?_
  refine j_icmp_ge C 9 rfl 72 dX5_isFair_6 rfl (fun c => ?_) (fun c => ?_)
  · have hw := hw.1 c
    refine j_iload_n C 73 rfl 2 dX5_isFair_72 rfl rfl ?_
    obtain ⟨hn, hw⟩ := hw
    exact j_iret C R () hn dX5_isFair_73 rfl hw
  · have hw := hw.2 c
    refine j_iload_n C 10 rfl 2 dX5_isFair_9 rfl rfl ?_
    refine j_if_eq C 13 rfl 72 dX5_isFair_10 rfl (fun c => ?_) (fun c => ?_)
    · have hw := hw.1 c
      refine j_iload_n C 73 rfl 2 dX5_isFair_72 rfl rfl ?_
      obtain ⟨hn, hw⟩ := hw
      exact j_iret C R () hn dX5_isFair_73 rfl hw
    · have hw := hw.2 c
      refine j_iconst C 14 rfl dX5_isFair_13 (v := (0 : Int32)) (by decide) ?_
      refine j_istore C 16 rfl [1, 2, 3, 4, 0] (lv' := [(0, .ref a_this), (1, .int x1), (2, .int x2), (3, .int x3), (4, .int (0 : Int32))]) dX5_isFair_14 (by decide) rfl ?_
      refine lpW2_ind (G := fun x2 x4 => J l g A x 5 0 0 16 [(0, .ref a_this), (1, .int x1), (2, .int x2), (3, .int x3), (4, .int x4)] [] [(a_this, .inr (5, [.int v_signs, .ref a_pad, .ref a_sort, .ref a_heir, .int v_generations, .ref a_was, .ref a_worth, .int v_toll, .ref a_rights, .ref a_ahead, .ref a_bound, .ref a_owner, .ref a_foundBound, .ref a_foundOwner, .int v_foundLeast, .int v_stops, .ref a_beside, .ref a_upward, .ref a_from, .ref a_queue, .ref a_image, .ref a_isKept])), (a_ahead, gI g 100 f_ahead), (a_bound, gI g 4 f_bound), (a_owner, gI g 4 f_owner)]) (fun L16 x2 x4 hL16 hw => ?_) _ _ hw
      refine j_iload C 18 rfl 4 dX5_isFair_16 rfl ?_
      refine j_iload_n C 19 rfl 1 dX5_isFair_18 rfl rfl ?_
      refine j_icmp_ge C 22 rfl 66 dX5_isFair_19 rfl (fun c => ?_) (fun c => ?_)
      · have hw := hw.1 c
        refine j_iinc C 69 rfl 3 [1, 2, 3, 0, 4] (v' := (1 : Int32)) (lv' := fun z => [(0, .ref a_this), (1, .int x1), (2, .int x2), (3, .int z), (4, .int x4)]) dX5_isFair_66 rfl (by decide) (by decide) (fun _ => rfl) (fun n1 en1 => ?_)
        have hw := hw n1 en1
        refine j_goto C 4 dX5_isFair_69 rfl ?_
        refine j_lv [0, 1, 2, 3] (lv' := [(0, .ref a_this), (1, .int x1), (2, .int x2), (3, .int n1)]) rfl ?_
        exact hL4 _ _ hw
      · have hw := hw.2 c
        refine j_iload_n C 23 rfl 2 dX5_isFair_22 rfl rfl ?_
        refine j_if_eq C 26 rfl 58 dX5_isFair_23 rfl (fun c => ?_) (fun c => ?_)
        · have hw := hw.1 c
          refine j_iconst C 59 rfl dX5_isFair_58 (v := (0 : Int32)) (by decide) ?_
          refine j_istore_n C 60 rfl [1, 2, 0, 3, 4] (lv' := [(0, .ref a_this), (1, .int x1), (2, .int (0 : Int32)), (3, .int x3), (4, .int x4)]) dX5_isFair_59 rfl (by decide) rfl ?_
          refine j_iinc C 63 rfl 4 [1, 2, 3, 4, 0] (v' := (1 : Int32)) (lv' := fun z => [(0, .ref a_this), (1, .int x1), (2, .int (0 : Int32)), (3, .int x3), (4, .int z)]) dX5_isFair_60 rfl (by decide) (by decide) (fun _ => rfl) (fun n2 en2 => ?_)
          have hw := hw n2 en2
          refine j_goto C 16 dX5_isFair_63 rfl ?_
          exact hL16 _ _ hw
        · have hw := hw.2 c
          refine j_aload_n C 27 rfl 0 dX5_isFair_26 rfl rfl ?_
          refine j_aload_n C 28 rfl 0 dX5_isFair_27 rfl rfl ?_
          refine j_get C 31 rfl 0 5 11 (T := TX5) (N := 22) hi_X5_isFair_X5 rfl (by decide) (List.mem_of_getElem? (i := 1) rfl) rfl rfl rfl dX5_isFair_28 ?_
          refine j_iload_n C 32 rfl 3 dX5_isFair_31 rfl rfl ?_
          obtain ⟨k3, ek3, hk3, hw⟩ := hw
          refine j_iald C 33 rfl 3 k3 rfl ek3 hk3 (by decide) dX5_isFair_32 ?_
          refine j_iload C 35 rfl 4 dX5_isFair_33 rfl ?_
          refine j_iload_n C 36 rfl 1 dX5_isFair_35 rfl rfl ?_
          refine j_nm2 (fun n4 en4 => ?_)
          have hw := hw n4 en4
          refine j_ri C 39 rfl (jc_V C (c_X5_arcWorth l g a_this a_pad a_sort a_heir a_was a_worth a_rights a_ahead a_bound a_owner a_foundBound a_foundOwner a_beside a_upward a_from a_queue a_image a_isKept v_signs v_generations v_toll v_foundLeast v_stops f_ahead f_bound n4 x4 x1 _ hw) 3 gX5_isFair_X5_arcWorth rfl rfl rfl hd_X5_arcWorth ⟨Nat.le_of_ble_eq_true rfl, Nat.le_of_ble_eq_true rfl⟩ (j_rec C 0 5 rfl rfl) [0, 1, 2] rfl rfl (rest := []) rfl rfl (Nat.le_of_ble_eq_true rfl) dX5_isFair_36 ⟨Nat.le_refl _, Nat.le_refl _⟩) [0, 1, 2] rfl (fun _ => rfl) (fun r5 _ hw => ?_)
          try dsimp only at hw
          refine j_aload_n C 40 rfl 0 dX5_isFair_39 rfl rfl ?_
          refine j_aload_n C 41 rfl 0 dX5_isFair_40 rfl rfl ?_
          refine j_get C 44 rfl 0 5 11 (T := TX5) (N := 22) hi_X5_isFair_X5 rfl (by decide) (List.mem_of_getElem? (i := 1) rfl) rfl rfl rfl dX5_isFair_41 ?_
          refine j_iload_n C 45 rfl 3 dX5_isFair_44 rfl rfl ?_
          obtain ⟨k6, ek6, hk6, hw⟩ := hw
          refine j_iald C 46 rfl 3 k6 rfl ek6 hk6 (by decide) dX5_isFair_45 ?_
          refine j_iload_n C 47 rfl 3 dX5_isFair_46 rfl rfl ?_
          refine j_iload_n C 48 rfl 1 dX5_isFair_47 rfl rfl ?_
          refine j_nm2 (fun n7 en7 => ?_)
          have hw := hw n7 en7
          refine j_ri C 51 rfl (jc_V C (c_X5_arcWorth l g a_this a_pad a_sort a_heir a_was a_worth a_rights a_ahead a_bound a_owner a_foundBound a_foundOwner a_beside a_upward a_from a_queue a_image a_isKept v_signs v_generations v_toll v_foundLeast v_stops f_ahead f_bound n7 x3 x1 _ hw) 3 gX5_isFair_X5_arcWorth rfl rfl rfl hd_X5_arcWorth ⟨Nat.le_of_ble_eq_true rfl, Nat.le_of_ble_eq_true rfl⟩ (j_rec C 0 5 rfl rfl) [0, 1, 2] rfl rfl (rest := [.int r5]) rfl rfl (Nat.le_of_ble_eq_true rfl) dX5_isFair_48 ⟨Nat.le_refl _, Nat.le_refl _⟩) [0, 1, 2] rfl (fun _ => rfl) (fun r8 _ hw => ?_)
          try dsimp only at hw
          refine j_icmp_gt C 54 rfl 58 dX5_isFair_51 rfl (fun c => ?_) (fun c => ?_)
          · have hw := hw.1 c
            refine j_iconst C 59 rfl dX5_isFair_58 (v := (0 : Int32)) (by decide) ?_
            refine j_istore_n C 60 rfl [1, 2, 0, 3, 4] (lv' := [(0, .ref a_this), (1, .int x1), (2, .int (0 : Int32)), (3, .int x3), (4, .int x4)]) dX5_isFair_59 rfl (by decide) rfl ?_
            refine j_iinc C 63 rfl 4 [1, 2, 3, 4, 0] (v' := (1 : Int32)) (lv' := fun z => [(0, .ref a_this), (1, .int x1), (2, .int (0 : Int32)), (3, .int x3), (4, .int z)]) dX5_isFair_60 rfl (by decide) (by decide) (fun _ => rfl) (fun n9 en9 => ?_)
            have hw := hw n9 en9
            refine j_goto C 16 dX5_isFair_63 rfl ?_
            exact hL16 _ _ hw
          · have hw := hw.2 c
            refine j_iconst C 55 rfl dX5_isFair_54 (v := (1 : Int32)) (by decide) ?_
            refine j_goto C 59 dX5_isFair_55 rfl ?_
            refine j_istore_n C 60 rfl [1, 2, 0, 3, 4] (lv' := [(0, .ref a_this), (1, .int x1), (2, .int (1 : Int32)), (3, .int x3), (4, .int x4)]) dX5_isFair_59 rfl (by decide) rfl ?_
            refine j_iinc C 63 rfl 4 [1, 2, 3, 4, 0] (v' := (1 : Int32)) (lv' := fun z => [(0, .ref a_this), (1, .int x1), (2, .int (1 : Int32)), (3, .int x3), (4, .int z)]) dX5_isFair_60 rfl (by decide) (by decide) (fun _ => rfl) (fun n10 en10 => ?_)
            have hw := hw n10 en10
            refine j_goto C 16 dX5_isFair_63 rfl ?_
            exact hL16 _ _ hw
theorem hi_X5_leastShare_X5 : ∀ w ∈ wsX50, w ∈ wsX5_leastShare := fun _ h => List.mem_cons_of_mem _ (List.mem_append_right _ h)
set_option maxRecDepth 20000 in
set_option maxHeartbeats 4000000 in
theorem c_X5_leastShare (l : Launch) (g : gE) (a_this a_pad a_sort a_heir a_was a_worth a_rights a_ahead a_bound a_owner a_foundBound a_foundOwner a_beside a_upward a_from a_queue a_image a_isKept : Nat) (v_signs : Int32) (v_generations : Int32) (v_toll : Int32) (v_foundLeast : Int32) (v_stops : Int32) (f_ahead : (Nat → Int32)) (f_bound : (Nat → Int32)) (f_owner : (Nat → Int32)) (x1 : Int32)  (K : Int32 → Prop) (hw : wp_X5_leastShare f_ahead f_bound f_owner x1 K) : Ci l g yX5_leastShare wsX5_leastShare { frames := 1, cells := 0, slots := 0, locals := 26 } [.ref a_this, .int x1] [(a_this, .inr (5, [.int v_signs, .ref a_pad, .ref a_sort, .ref a_heir, .int v_generations, .ref a_was, .ref a_worth, .int v_toll, .ref a_rights, .ref a_ahead, .ref a_bound, .ref a_owner, .ref a_foundBound, .ref a_foundOwner, .int v_foundLeast, .int v_stops, .ref a_beside, .ref a_upward, .ref a_from, .ref a_queue, .ref a_image, .ref a_isKept])), (a_ahead, gI g 100 f_ahead), (a_bound, gI g 4 f_bound), (a_owner, gI g 4 f_owner)] (fun (r : Int32) (_ : Unit) => K r) (fun (_ : Unit) => [(a_this, .inr (5, [.int v_signs, .ref a_pad, .ref a_sort, .ref a_heir, .int v_generations, .ref a_was, .ref a_worth, .int v_toll, .ref a_rights, .ref a_ahead, .ref a_bound, .ref a_owner, .ref a_foundBound, .ref a_foundOwner, .int v_foundLeast, .int v_stops, .ref a_beside, .ref a_upward, .ref a_from, .ref a_queue, .ref a_image, .ref a_isKept])), (a_ahead, gI g 100 f_ahead), (a_bound, gI g 4 f_bound), (a_owner, gI g 4 f_owner)]) 0 0 := by
  refine Ci_of (cc := cX5_leastShare) (nL := 5) (ret := (some .int)) (own := RX5) (lv0 := [(0, .ref a_this), (1, .int x1)]) (by decide +kernel) rfl rfl (Nat.le_of_ble_eq_true rfl) rfl (fun A x C R => ?_)
  refine j_aload_n C 1 rfl 0 dX5_leastShare_0 rfl rfl ?_
  refine j_aload_n C 2 rfl 0 dX5_leastShare_1 rfl rfl ?_
  refine j_get C 5 rfl 0 5 11 (T := TX5) (N := 22) hi_X5_leastShare_X5 rfl (by decide) (List.mem_of_getElem? (i := 1) rfl) rfl rfl rfl dX5_leastShare_2 ?_
  refine j_iconst C 6 rfl dX5_leastShare_5 (v := (0 : Int32)) (by decide) ?_
  refine j_iald C 7 rfl 3 0 rfl (by decide) (by decide) (by decide) dX5_leastShare_6 ?_
  refine j_iconst C 8 rfl dX5_leastShare_7 (v := (0 : Int32)) (by decide) ?_
  refine j_iload_n C 9 rfl 1 dX5_leastShare_8 rfl rfl ?_
  refine j_nm2 (fun n1 en1 => ?_)
  have hw := hw n1 en1
  refine j_ri C 12 rfl (jc_V C (c_X5_arcWorth l g a_this a_pad a_sort a_heir a_was a_worth a_rights a_ahead a_bound a_owner a_foundBound a_foundOwner a_beside a_upward a_from a_queue a_image a_isKept v_signs v_generations v_toll v_foundLeast v_stops f_ahead f_bound n1 (0 : Int32) x1 _ hw) 3 gX5_leastShare_X5_arcWorth rfl rfl rfl hd_X5_arcWorth ⟨Nat.le_of_ble_eq_true rfl, Nat.le_of_ble_eq_true rfl⟩ (j_rec C 0 5 rfl rfl) [0, 1, 2] rfl rfl (rest := []) rfl rfl (Nat.le_of_ble_eq_true rfl) dX5_leastShare_9 ⟨Nat.le_refl _, Nat.le_refl _⟩) [0, 1, 2] rfl (fun _ => rfl) (fun r2 _ hw => ?_)
  try dsimp only at hw
  refine j_istore_n C 13 rfl [1, 2, 0] (lv' := [(0, .ref a_this), (1, .int x1), (2, .int r2)]) dX5_leastShare_12 rfl (by decide) rfl ?_
  refine j_iconst C 14 rfl dX5_leastShare_13 (v := (1 : Int32)) (by decide) ?_
  refine j_istore_n C 15 rfl [1, 2, 3, 0] (lv' := [(0, .ref a_this), (1, .int x1), (2, .int r2), (3, .int (1 : Int32))]) dX5_leastShare_14 rfl (by decide) rfl ?_
  refine lpW2_ind (G := fun x2 x3 => J l g A x 5 0 0 15 [(0, .ref a_this), (1, .int x1), (2, .int x2), (3, .int x3)] [] [(a_this, .inr (5, [.int v_signs, .ref a_pad, .ref a_sort, .ref a_heir, .int v_generations, .ref a_was, .ref a_worth, .int v_toll, .ref a_rights, .ref a_ahead, .ref a_bound, .ref a_owner, .ref a_foundBound, .ref a_foundOwner, .int v_foundLeast, .int v_stops, .ref a_beside, .ref a_upward, .ref a_from, .ref a_queue, .ref a_image, .ref a_isKept])), (a_ahead, gI g 100 f_ahead), (a_bound, gI g 4 f_bound), (a_owner, gI g 4 f_owner)]) (fun L15 x2 x3 hL15 hw => ?_) _ _ hw
  refine j_iload_n C 16 rfl 3 dX5_leastShare_15 rfl rfl ?_
  refine j_iload_n C 17 rfl 1 dX5_leastShare_16 rfl rfl ?_
  refine j_icmp_ge C 20 rfl 53 dX5_leastShare_17 rfl (fun c => ?_) (fun c => ?_)
  · have hw := hw.1 c
    refine j_iload_n C 54 rfl 2 dX5_leastShare_53 rfl rfl ?_
    exact j_iret C R () rfl dX5_leastShare_54 rfl hw
  · have hw := hw.2 c
    refine j_aload_n C 21 rfl 0 dX5_leastShare_20 rfl rfl ?_
    refine j_aload_n C 22 rfl 0 dX5_leastShare_21 rfl rfl ?_
    refine j_get C 25 rfl 0 5 11 (T := TX5) (N := 22) hi_X5_leastShare_X5 rfl (by decide) (List.mem_of_getElem? (i := 1) rfl) rfl rfl rfl dX5_leastShare_22 ?_
    refine j_iload_n C 26 rfl 3 dX5_leastShare_25 rfl rfl ?_
    obtain ⟨k3, ek3, hk3, hw⟩ := hw
    refine j_iald C 27 rfl 3 k3 rfl ek3 hk3 (by decide) dX5_leastShare_26 ?_
    refine j_iload_n C 28 rfl 3 dX5_leastShare_27 rfl rfl ?_
    refine j_iload_n C 29 rfl 1 dX5_leastShare_28 rfl rfl ?_
    refine j_nm2 (fun n4 en4 => ?_)
    have hw := hw n4 en4
    refine j_ri C 32 rfl (jc_V C (c_X5_arcWorth l g a_this a_pad a_sort a_heir a_was a_worth a_rights a_ahead a_bound a_owner a_foundBound a_foundOwner a_beside a_upward a_from a_queue a_image a_isKept v_signs v_generations v_toll v_foundLeast v_stops f_ahead f_bound n4 x3 x1 _ hw) 3 gX5_leastShare_X5_arcWorth rfl rfl rfl hd_X5_arcWorth ⟨Nat.le_of_ble_eq_true rfl, Nat.le_of_ble_eq_true rfl⟩ (j_rec C 0 5 rfl rfl) [0, 1, 2] rfl rfl (rest := []) rfl rfl (Nat.le_of_ble_eq_true rfl) dX5_leastShare_29 ⟨Nat.le_refl _, Nat.le_refl _⟩) [0, 1, 2] rfl (fun _ => rfl) (fun r5 _ hw => ?_)
    try dsimp only at hw
    refine j_istore C 34 rfl [1, 2, 3, 4, 0] (lv' := [(0, .ref a_this), (1, .int x1), (2, .int x2), (3, .int x3), (4, .int r5)]) dX5_leastShare_32 (by decide) rfl ?_
    refine j_iload C 36 rfl 4 dX5_leastShare_34 rfl ?_
    refine j_iload_n C 37 rfl 2 dX5_leastShare_36 rfl rfl ?_
    refine j_icmp_ge C 40 rfl 45 dX5_leastShare_37 rfl (fun c => ?_) (fun c => ?_)
    · have hw := hw.1 c
      refine j_iload_n C 46 rfl 2 dX5_leastShare_45 rfl rfl ?_
      refine j_istore_n C 47 rfl [1, 2, 0, 3, 4] (lv' := [(0, .ref a_this), (1, .int x1), (2, .int x2), (3, .int x3), (4, .int r5)]) dX5_leastShare_46 rfl (by decide) rfl ?_
      refine j_iinc C 50 rfl 3 [1, 2, 3, 0, 4] (v' := (1 : Int32)) (lv' := fun z => [(0, .ref a_this), (1, .int x1), (2, .int x2), (3, .int z), (4, .int r5)]) dX5_leastShare_47 rfl (by decide) (by decide) (fun _ => rfl) (fun n6 en6 => ?_)
      have hw := hw n6 en6
      refine j_goto C 15 dX5_leastShare_50 rfl ?_
      refine j_lv [0, 1, 2, 3] (lv' := [(0, .ref a_this), (1, .int x1), (2, .int x2), (3, .int n6)]) rfl ?_
      exact hL15 _ _ hw
    · have hw := hw.2 c
      refine j_iload C 42 rfl 4 dX5_leastShare_40 rfl ?_
      refine j_goto C 46 dX5_leastShare_42 rfl ?_
      refine j_istore_n C 47 rfl [1, 2, 0, 3, 4] (lv' := [(0, .ref a_this), (1, .int x1), (2, .int r5), (3, .int x3), (4, .int r5)]) dX5_leastShare_46 rfl (by decide) rfl ?_
      refine j_iinc C 50 rfl 3 [1, 2, 3, 0, 4] (v' := (1 : Int32)) (lv' := fun z => [(0, .ref a_this), (1, .int x1), (2, .int r5), (3, .int z), (4, .int r5)]) dX5_leastShare_47 rfl (by decide) (by decide) (fun _ => rfl) (fun n7 en7 => ?_)
      have hw := hw n7 en7
      refine j_goto C 15 dX5_leastShare_50 rfl ?_
      refine j_lv [0, 1, 2, 3] (lv' := [(0, .ref a_this), (1, .int x1), (2, .int r5), (3, .int n7)]) rfl ?_
      exact hL15 _ _ hw
theorem hi_X5_nextBounds_X5 : ∀ w ∈ wsX50, w ∈ wsX5_nextBounds := fun _ h => List.mem_cons_of_mem _ (List.mem_append_right _ h)
set_option maxRecDepth 20000 in
set_option maxHeartbeats 4000000 in
theorem c_X5_nextBounds (l : Launch) (g : gE) (a_this a_pad a_sort a_heir a_was a_worth a_rights a_ahead a_bound a_owner a_foundBound a_foundOwner a_beside a_upward a_from a_queue a_image a_isKept : Nat) (v_signs : Int32) (v_generations : Int32) (v_toll : Int32) (v_foundLeast : Int32) (v_stops : Int32) (f_bound : (Nat → Int32)) (x1 : Int32)  (K : Int32 → (Nat → Int32) → Prop) (hw : wp_X5_nextBounds f_bound x1 K) : Ci l g yX5_nextBounds wsX5_nextBounds { frames := 0, cells := 0, slots := 0, locals := 0 } [.ref a_this, .int x1] [(a_this, .inr (5, [.int v_signs, .ref a_pad, .ref a_sort, .ref a_heir, .int v_generations, .ref a_was, .ref a_worth, .int v_toll, .ref a_rights, .ref a_ahead, .ref a_bound, .ref a_owner, .ref a_foundBound, .ref a_foundOwner, .int v_foundLeast, .int v_stops, .ref a_beside, .ref a_upward, .ref a_from, .ref a_queue, .ref a_image, .ref a_isKept])), (a_bound, gI g 4 f_bound)] (fun (r : Int32) (u : (Nat → Int32)) => K r u) (fun (u : (Nat → Int32)) => [(a_this, .inr (5, [.int v_signs, .ref a_pad, .ref a_sort, .ref a_heir, .int v_generations, .ref a_was, .ref a_worth, .int v_toll, .ref a_rights, .ref a_ahead, .ref a_bound, .ref a_owner, .ref a_foundBound, .ref a_foundOwner, .int v_foundLeast, .int v_stops, .ref a_beside, .ref a_upward, .ref a_from, .ref a_queue, .ref a_image, .ref a_isKept])), (a_bound, gI g 4 u)]) 0 0 := by
  refine Ci_of (cc := cX5_nextBounds) (nL := 4) (ret := (some .boolean)) (own := RX5) (lv0 := [(0, .ref a_this), (1, .int x1)]) (by decide +kernel) rfl rfl (Nat.le_of_ble_eq_true rfl) rfl (fun A x C R => ?_)
  have hj29 : ∀ (x2 : Int32) (f_bound : (Nat → Int32)), wj_X5_nextBounds_29 f_bound x1 x2 K → J l g A x 4 0 0 29 [(0, .ref a_this), (1, .int x1), (2, .int x2)] [] [(a_this, .inr (5, [.int v_signs, .ref a_pad, .ref a_sort, .ref a_heir, .int v_generations, .ref a_was, .ref a_worth, .int v_toll, .ref a_rights, .ref a_ahead, .ref a_bound, .ref a_owner, .ref a_foundBound, .ref a_foundOwner, .int v_foundLeast, .int v_stops, .ref a_beside, .ref a_upward, .ref a_from, .ref a_queue, .ref a_image, .ref a_isKept])), (a_bound, gI g 4 f_bound)] := by
    intro x2 f_bound hw
    refine j_iload_n C 30 rfl 2 dX5_nextBounds_29 rfl rfl ?_
    refine j_if_ge C 33 rfl 35 dX5_nextBounds_30 rfl (fun c => ?_) (fun c => ?_)
    · have hw := hw.1 c
      refine j_aload_n C 36 rfl 0 dX5_nextBounds_35 rfl rfl ?_
      refine j_get C 39 rfl 0 5 10 (T := TX5) (N := 22) hi_X5_nextBounds_X5 rfl (by decide) (List.mem_of_getElem? (i := 1) rfl) rfl rfl rfl dX5_nextBounds_36 ?_
      refine j_iload_n C 40 rfl 2 dX5_nextBounds_39 rfl rfl ?_
      refine j_dup2 C 41 rfl dX5_nextBounds_40 rfl rfl ?_
      obtain ⟨k1, ek1, hk1, hw⟩ := hw
      refine j_iald C 42 rfl 1 k1 rfl ek1 hk1 (by decide) dX5_nextBounds_41 ?_
      refine j_iconst C 43 rfl dX5_nextBounds_42 (v := (1 : Int32)) (by decide) ?_
      refine j_iadd C 44 rfl dX5_nextBounds_43 ?_
      refine j_top (fun n2 en2 => ?_)
      have hw := hw n2 en2
      obtain ⟨k3, ek3, hk3, hw⟩ := hw
      refine j_iast C 45 rfl 1 k3 (ws' := [(a_this, .inr (5, [.int v_signs, .ref a_pad, .ref a_sort, .ref a_heir, .int v_generations, .ref a_was, .ref a_worth, .int v_toll, .ref a_rights, .ref a_ahead, .ref a_bound, .ref a_owner, .ref a_foundBound, .ref a_foundOwner, .int v_foundLeast, .int v_stops, .ref a_beside, .ref a_upward, .ref a_from, .ref a_queue, .ref a_image, .ref a_isKept])), (a_bound, gI g 4 (upd f_bound k3 n2))]) rfl ek3 hk3 (by decide) rfl dX5_nextBounds_44 ?_
      refine j_iload_n C 46 rfl 2 dX5_nextBounds_45 rfl rfl ?_
      refine j_iconst C 47 rfl dX5_nextBounds_46 (v := (1 : Int32)) (by decide) ?_
      refine j_iadd C 48 rfl dX5_nextBounds_47 ?_
      refine j_top (fun n4 en4 => ?_)
      have hw := hw n4 en4
      refine j_istore_n C 49 rfl [1, 2, 3, 0] (lv' := [(0, .ref a_this), (1, .int x1), (2, .int x2), (3, .int n4)]) dX5_nextBounds_48 rfl (by decide) rfl ?_
      refine j_lv [0, 1, 3] (lv' := [(0, .ref a_this), (1, .int x1), (3, .int n4)]) rfl ?_
      refine lpW2_ind (G := fun x3 f_bound => J l g A x 4 0 0 49 [(0, .ref a_this), (1, .int x1), (3, .int x3)] [] [(a_this, .inr (5, [.int v_signs, .ref a_pad, .ref a_sort, .ref a_heir, .int v_generations, .ref a_was, .ref a_worth, .int v_toll, .ref a_rights, .ref a_ahead, .ref a_bound, .ref a_owner, .ref a_foundBound, .ref a_foundOwner, .int v_foundLeast, .int v_stops, .ref a_beside, .ref a_upward, .ref a_from, .ref a_queue, .ref a_image, .ref a_isKept])), (a_bound, gI g 4 f_bound)]) (fun L49 x3 f_bound hL49 hw => ?_) _ _ hw
      refine j_iload_n C 50 rfl 2 dX5_nextBounds_49 rfl rfl ?_
      refine j_iload_n C 51 rfl 1 dX5_nextBounds_50 rfl rfl ?_
      refine j_icmp_ge C 54 rfl 76 dX5_nextBounds_51 rfl (fun c => ?_) (fun c => ?_)
      · have hw := hw.1 c
        refine j_iconst C 77 rfl dX5_nextBounds_76 (v := (1 : Int32)) (by decide) ?_
        exact j_iret C R (f_bound) rfl dX5_nextBounds_77 rfl hw
      · have hw := hw.2 c
        refine j_aload_n C 55 rfl 0 dX5_nextBounds_54 rfl rfl ?_
        refine j_get C 58 rfl 0 5 10 (T := TX5) (N := 22) hi_X5_nextBounds_X5 rfl (by decide) (List.mem_of_getElem? (i := 1) rfl) rfl rfl rfl dX5_nextBounds_55 ?_
        refine j_iload_n C 59 rfl 2 dX5_nextBounds_58 rfl rfl ?_
        refine j_aload_n C 60 rfl 0 dX5_nextBounds_59 rfl rfl ?_
        refine j_get C 63 rfl 0 5 10 (T := TX5) (N := 22) hi_X5_nextBounds_X5 rfl (by decide) (List.mem_of_getElem? (i := 1) rfl) rfl rfl rfl dX5_nextBounds_60 ?_
        refine j_iload_n C 64 rfl 2 dX5_nextBounds_63 rfl rfl ?_
        refine j_iconst C 65 rfl dX5_nextBounds_64 (v := (1 : Int32)) (by decide) ?_
        refine j_isub C 66 rfl dX5_nextBounds_65 ?_
        obtain ⟨k5, ek5, hk5, hw⟩ := hw
        refine j_iald C 67 rfl 1 k5 rfl ek5 hk5 (by decide) dX5_nextBounds_66 ?_
        refine j_iconst C 68 rfl dX5_nextBounds_67 (v := (1 : Int32)) (by decide) ?_
        refine j_iadd C 69 rfl dX5_nextBounds_68 ?_
        refine j_top (fun n6 en6 => ?_)
        have hw := hw n6 en6
        obtain ⟨k7, ek7, hk7, hw⟩ := hw
        refine j_iast C 70 rfl 1 k7 (ws' := [(a_this, .inr (5, [.int v_signs, .ref a_pad, .ref a_sort, .ref a_heir, .int v_generations, .ref a_was, .ref a_worth, .int v_toll, .ref a_rights, .ref a_ahead, .ref a_bound, .ref a_owner, .ref a_foundBound, .ref a_foundOwner, .int v_foundLeast, .int v_stops, .ref a_beside, .ref a_upward, .ref a_from, .ref a_queue, .ref a_image, .ref a_isKept])), (a_bound, gI g 4 (upd f_bound k7 n6))]) rfl ek7 hk7 (by decide) rfl dX5_nextBounds_69 ?_
        refine j_iinc C 73 rfl 2 [1, 2, 0] (v' := (1 : Int32)) (lv' := fun z => [(0, .ref a_this), (1, .int x1), (3, .int z)]) dX5_nextBounds_70 rfl (by decide) (by decide) (fun _ => rfl) (fun n8 en8 => ?_)
        have hw := hw n8 en8
        refine j_goto C 49 dX5_nextBounds_73 rfl ?_
        exact hL49 _ _ hw
    · have hw := hw.2 c
      refine j_iconst C 34 rfl dX5_nextBounds_33 (v := (0 : Int32)) (by decide) ?_
      exact j_iret C R (f_bound) rfl dX5_nextBounds_34 rfl hw
  refine j_iload_n C 1 rfl 1 dX5_nextBounds_0 rfl rfl ?_
  refine j_iconst C 2 rfl dX5_nextBounds_1 (v := (1 : Int32)) (by decide) ?_
  refine j_isub C 3 rfl dX5_nextBounds_2 ?_
  refine j_top (fun n9 en9 => ?_)
  have hw := hw n9 en9
  refine j_istore_n C 4 rfl [1, 2, 0] (lv' := [(0, .ref a_this), (1, .int x1), (2, .int n9)]) dX5_nextBounds_3 rfl (by decide) rfl ?_
  refine lpW1_ind (G := fun x2 => J l g A x 4 0 0 4 [(0, .ref a_this), (1, .int x1), (2, .int x2)] [] [(a_this, .inr (5, [.int v_signs, .ref a_pad, .ref a_sort, .ref a_heir, .int v_generations, .ref a_was, .ref a_worth, .int v_toll, .ref a_rights, .ref a_ahead, .ref a_bound, .ref a_owner, .ref a_foundBound, .ref a_foundOwner, .int v_foundLeast, .int v_stops, .ref a_beside, .ref a_upward, .ref a_from, .ref a_queue, .ref a_image, .ref a_isKept])), (a_bound, gI g 4 f_bound)]) (fun L4 x2 hL4 hw => ?_) _ hw
  refine j_iload_n C 5 rfl 2 dX5_nextBounds_4 rfl rfl ?_
  refine j_if_lt C 8 rfl 29 dX5_nextBounds_5 rfl (fun c => ?_) (fun c => ?_)
  · have hw := hw.1 c
    exact hj29 _ _ hw
  · have hw := hw.2 c
    refine j_aload_n C 9 rfl 0 dX5_nextBounds_8 rfl rfl ?_
    refine j_get C 12 rfl 0 5 10 (T := TX5) (N := 22) hi_X5_nextBounds_X5 rfl (by decide) (List.mem_of_getElem? (i := 1) rfl) rfl rfl rfl dX5_nextBounds_9 ?_
    refine j_iload_n C 13 rfl 2 dX5_nextBounds_12 rfl rfl ?_
    obtain ⟨k10, ek10, hk10, hw⟩ := hw
    refine j_iald C 14 rfl 1 k10 rfl ek10 hk10 (by decide) dX5_nextBounds_13 ?_
    refine j_bipush C 16 rfl dX5_nextBounds_14 (v := (24 : Int32)) (by decide) ?_
    refine j_iload_n C 17 rfl 1 dX5_nextBounds_16 rfl rfl ?_
    refine j_isub C 18 rfl dX5_nextBounds_17 ?_
    refine j_iload_n C 19 rfl 2 dX5_nextBounds_18 rfl rfl ?_
    refine j_iadd C 20 rfl dX5_nextBounds_19 ?_
    refine j_icmp_ne C 23 rfl 29 dX5_nextBounds_20 rfl (fun c => ?_) (fun c => ?_)
    · have hw := hw.1 c
      exact hj29 _ _ hw
    · have hw := hw.2 c
      refine j_iinc C 26 rfl 2 [1, 2, 0] (v' := (-1 : Int32)) (lv' := fun z => [(0, .ref a_this), (1, .int x1), (2, .int z)]) dX5_nextBounds_23 rfl (by decide) (by decide) (fun _ => rfl) (fun n11 en11 => ?_)
      have hw := hw n11 en11
      refine j_goto C 4 dX5_nextBounds_26 rfl ?_
      exact hL4 _ hw
theorem hi_X5_layOwners_X5 : ∀ w ∈ wsX50, w ∈ wsX5_layOwners := fun _ h => List.mem_cons_of_mem _ (List.mem_append_right _ h)
set_option maxRecDepth 20000 in
set_option maxHeartbeats 4000000 in
theorem c_X5_layOwners (l : Launch) (g : gE) (a_this a_pad a_sort a_heir a_was a_worth a_rights a_ahead a_bound a_owner a_foundBound a_foundOwner a_beside a_upward a_from a_queue a_image a_isKept : Nat) (v_signs : Int32) (v_generations : Int32) (v_toll : Int32) (v_foundLeast : Int32) (v_stops : Int32) (f_owner : (Nat → Int32)) (x1 : Int32) (x2 : Int32)  (K : Int32 → (Nat → Int32) → Prop) (hw : wp_X5_layOwners f_owner x1 x2 K) : Ci l g yX5_layOwners wsX5_layOwners { frames := 0, cells := 0, slots := 0, locals := 0 } [.ref a_this, .int x1, .int x2] [(a_this, .inr (5, [.int v_signs, .ref a_pad, .ref a_sort, .ref a_heir, .int v_generations, .ref a_was, .ref a_worth, .int v_toll, .ref a_rights, .ref a_ahead, .ref a_bound, .ref a_owner, .ref a_foundBound, .ref a_foundOwner, .int v_foundLeast, .int v_stops, .ref a_beside, .ref a_upward, .ref a_from, .ref a_queue, .ref a_image, .ref a_isKept])), (a_owner, gI g 4 f_owner)] (fun (r : Int32) (u : (Nat → Int32)) => K r u) (fun (u : (Nat → Int32)) => [(a_this, .inr (5, [.int v_signs, .ref a_pad, .ref a_sort, .ref a_heir, .int v_generations, .ref a_was, .ref a_worth, .int v_toll, .ref a_rights, .ref a_ahead, .ref a_bound, .ref a_owner, .ref a_foundBound, .ref a_foundOwner, .int v_foundLeast, .int v_stops, .ref a_beside, .ref a_upward, .ref a_from, .ref a_queue, .ref a_image, .ref a_isKept])), (a_owner, gI g 4 u)]) 0 0 := by
  refine Ci_of (cc := cX5_layOwners) (nL := 6) (ret := (some .boolean)) (own := RX5) (lv0 := [(0, .ref a_this), (1, .int x1), (2, .int x2)]) (by decide +kernel) rfl rfl (Nat.le_of_ble_eq_true rfl) rfl (fun A x C R => ?_)
  refine j_iload_n C 1 rfl 1 dX5_layOwners_0 rfl rfl ?_
  refine j_istore_n C 2 rfl [1, 2, 3, 0] (lv' := [(0, .ref a_this), (1, .int x1), (2, .int x2), (3, .int x1)]) dX5_layOwners_1 rfl (by decide) rfl ?_
  refine j_iconst C 3 rfl dX5_layOwners_2 (v := (0 : Int32)) (by decide) ?_
  refine j_istore C 5 rfl [1, 2, 3, 4, 0] (lv' := [(0, .ref a_this), (1, .int x1), (2, .int x2), (3, .int x1), (4, .int (0 : Int32))]) dX5_layOwners_3 (by decide) rfl ?_
  refine j_iload_n C 6 rfl 2 dX5_layOwners_5 rfl rfl ?_
  refine j_iconst C 7 rfl dX5_layOwners_6 (v := (1 : Int32)) (by decide) ?_
  refine j_isub C 8 rfl dX5_layOwners_7 ?_
  refine j_top (fun n1 en1 => ?_)
  have hw := hw n1 en1
  refine j_istore C 10 rfl [1, 2, 3, 4, 5, 0] (lv' := [(0, .ref a_this), (1, .int x1), (2, .int x2), (3, .int x1), (4, .int (0 : Int32)), (5, .int n1)]) dX5_layOwners_8 (by decide) rfl ?_
  refine j_lv [0, 2, 3, 4, 5] (lv' := [(0, .ref a_this), (2, .int x2), (3, .int x1), (4, .int (0 : Int32)), (5, .int n1)]) rfl ?_
  refine lpW4_ind (G := fun x3 x4 x5 f_owner => J l g A x 6 0 0 10 [(0, .ref a_this), (2, .int x2), (3, .int x3), (4, .int x4), (5, .int x5)] [] [(a_this, .inr (5, [.int v_signs, .ref a_pad, .ref a_sort, .ref a_heir, .int v_generations, .ref a_was, .ref a_worth, .int v_toll, .ref a_rights, .ref a_ahead, .ref a_bound, .ref a_owner, .ref a_foundBound, .ref a_foundOwner, .int v_foundLeast, .int v_stops, .ref a_beside, .ref a_upward, .ref a_from, .ref a_queue, .ref a_image, .ref a_isKept])), (a_owner, gI g 4 f_owner)]) (fun L10 x3 x4 x5 f_owner hL10 hw => ?_) _ _ _ _ hw
  refine j_iload C 12 rfl 4 dX5_layOwners_10 rfl ?_
  refine j_if_lt C 15 rfl 49 dX5_layOwners_12 rfl (fun c => ?_) (fun c => ?_)
  · have hw := hw.1 c
    refine j_iload C 51 rfl 3 dX5_layOwners_49 rfl ?_
    refine j_iconst C 52 rfl dX5_layOwners_51 (v := (1 : Int32)) (by decide) ?_
    refine j_iload_n C 53 rfl 1 dX5_layOwners_52 rfl rfl ?_
    refine j_ishl C 54 rfl dX5_layOwners_53 ?_
    refine j_iconst C 55 rfl dX5_layOwners_54 (v := (1 : Int32)) (by decide) ?_
    refine j_isub C 56 rfl dX5_layOwners_55 ?_
    refine j_icmp_ne C 59 rfl 63 dX5_layOwners_56 rfl (fun c => ?_) (fun c => ?_)
    · have hw := hw.1 c
      refine j_iconst C 64 rfl dX5_layOwners_63 (v := (0 : Int32)) (by decide) ?_
      exact j_iret C R (f_owner) rfl dX5_layOwners_64 rfl hw
    · have hw := hw.2 c
      refine j_iconst C 60 rfl dX5_layOwners_59 (v := (1 : Int32)) (by decide) ?_
      refine j_goto C 64 dX5_layOwners_60 rfl ?_
      exact j_iret C R (f_owner) rfl dX5_layOwners_64 rfl hw
  · have hw := hw.2 c
    refine j_aload_n C 16 rfl 0 dX5_layOwners_15 rfl rfl ?_
    refine j_get C 19 rfl 0 5 11 (T := TX5) (N := 22) hi_X5_layOwners_X5 rfl (by decide) (List.mem_of_getElem? (i := 1) rfl) rfl rfl rfl dX5_layOwners_16 ?_
    refine j_iload C 21 rfl 4 dX5_layOwners_19 rfl ?_
    refine j_iload_n C 22 rfl 2 dX5_layOwners_21 rfl rfl ?_
    refine j_iload_n C 23 rfl 1 dX5_layOwners_22 rfl rfl ?_
    obtain ⟨hz2, hw⟩ := hw
    refine j_irem C 24 rfl dX5_layOwners_23 hz2 ?_
    refine j_top (fun n3 en3 => ?_)
    have hw := hw n3 en3
    obtain ⟨k4, ek4, hk4, hw⟩ := hw
    refine j_iast C 25 rfl 1 k4 (ws' := [(a_this, .inr (5, [.int v_signs, .ref a_pad, .ref a_sort, .ref a_heir, .int v_generations, .ref a_was, .ref a_worth, .int v_toll, .ref a_rights, .ref a_ahead, .ref a_bound, .ref a_owner, .ref a_foundBound, .ref a_foundOwner, .int v_foundLeast, .int v_stops, .ref a_beside, .ref a_upward, .ref a_from, .ref a_queue, .ref a_image, .ref a_isKept])), (a_owner, gI g 4 (upd f_owner k4 n3))]) rfl ek4 hk4 (by decide) rfl dX5_layOwners_24 ?_
    refine j_iload_n C 26 rfl 2 dX5_layOwners_25 rfl rfl ?_
    refine j_iload_n C 27 rfl 1 dX5_layOwners_26 rfl rfl ?_
    obtain ⟨hz5, hw⟩ := hw
    refine j_idiv C 28 rfl dX5_layOwners_27 hz5 ?_
    refine j_top (fun n6 en6 => ?_)
    have hw := hw n6 en6
    refine j_istore_n C 29 rfl [1, 2, 0, 3, 4] (lv' := [(0, .ref a_this), (2, .int x2), (3, .int n6), (4, .int x4), (5, .int x5)]) dX5_layOwners_28 rfl (by decide) rfl ?_
    refine j_iload C 31 rfl 3 dX5_layOwners_29 rfl ?_
    refine j_iconst C 32 rfl dX5_layOwners_31 (v := (1 : Int32)) (by decide) ?_
    refine j_aload_n C 33 rfl 0 dX5_layOwners_32 rfl rfl ?_
    refine j_get C 36 rfl 0 5 11 (T := TX5) (N := 22) hi_X5_layOwners_X5 rfl (by decide) (List.mem_of_getElem? (i := 1) rfl) rfl rfl rfl dX5_layOwners_33 ?_
    refine j_iload C 38 rfl 4 dX5_layOwners_36 rfl ?_
    obtain ⟨k7, ek7, hk7, hw⟩ := hw
    refine j_iald C 39 rfl 1 k7 rfl ek7 hk7 (by decide) dX5_layOwners_38 ?_
    refine j_ishl C 40 rfl dX5_layOwners_39 ?_
    refine j_ior C 41 rfl dX5_layOwners_40 ?_
    refine j_top (fun n8 en8 => ?_)
    have hw := hw n8 en8
    refine j_istore C 43 rfl [1, 2, 3, 0, 4] (lv' := [(0, .ref a_this), (2, .int x2), (3, .int n6), (4, .int n8), (5, .int x5)]) dX5_layOwners_41 (by decide) rfl ?_
    refine j_iinc C 46 rfl 4 [1, 2, 3, 4, 0] (v' := (-1 : Int32)) (lv' := fun z => [(0, .ref a_this), (2, .int x2), (3, .int n6), (4, .int n8), (5, .int z)]) dX5_layOwners_43 rfl (by decide) (by decide) (fun _ => rfl) (fun n9 en9 => ?_)
    have hw := hw n9 en9
    refine j_goto C 10 dX5_layOwners_46 rfl ?_
    exact hL10 _ _ _ _ hw
theorem hi_X5_keepCut_X5 : ∀ w ∈ wsX50, w ∈ wsX5_keepCut := fun _ h => List.mem_cons_of_mem _ (List.mem_append_right _ h)
set_option maxRecDepth 20000 in
set_option maxHeartbeats 4000000 in
theorem c_X5_keepCut (l : Launch) (g : gE) (a_this a_pad a_sort a_heir a_was a_worth a_rights a_ahead a_bound a_owner a_foundBound a_foundOwner a_beside a_upward a_from a_queue a_image a_isKept : Nat) (v_signs : Int32) (v_generations : Int32) (v_toll : Int32) (v_foundLeast : Int32) (v_stops : Int32) (f_bound : (Nat → Int32)) (f_owner : (Nat → Int32)) (f_foundBound : (Nat → Int32)) (f_foundOwner : (Nat → Int32)) (x1 : Int32)  (K : (Nat → Int32) → (Nat → Int32) → Prop) (hw : wp_X5_keepCut f_bound f_owner f_foundBound f_foundOwner x1 K) : Cv l g yX5_keepCut wsX5_keepCut { frames := 0, cells := 0, slots := 0, locals := 0 } [.ref a_this, .int x1] [(a_this, .inr (5, [.int v_signs, .ref a_pad, .ref a_sort, .ref a_heir, .int v_generations, .ref a_was, .ref a_worth, .int v_toll, .ref a_rights, .ref a_ahead, .ref a_bound, .ref a_owner, .ref a_foundBound, .ref a_foundOwner, .int v_foundLeast, .int v_stops, .ref a_beside, .ref a_upward, .ref a_from, .ref a_queue, .ref a_image, .ref a_isKept])), (a_bound, gI g 4 f_bound), (a_owner, gI g 4 f_owner), (a_foundBound, gI g 4 f_foundBound), (a_foundOwner, gI g 4 f_foundOwner)] (fun (u : (Nat → Int32) × (Nat → Int32)) => K u.1 u.2) (fun (u : (Nat → Int32) × (Nat → Int32)) => [(a_this, .inr (5, [.int v_signs, .ref a_pad, .ref a_sort, .ref a_heir, .int v_generations, .ref a_was, .ref a_worth, .int v_toll, .ref a_rights, .ref a_ahead, .ref a_bound, .ref a_owner, .ref a_foundBound, .ref a_foundOwner, .int v_foundLeast, .int v_stops, .ref a_beside, .ref a_upward, .ref a_from, .ref a_queue, .ref a_image, .ref a_isKept])), (a_bound, gI g 4 f_bound), (a_owner, gI g 4 f_owner), (a_foundBound, gI g 4 (u.1)), (a_foundOwner, gI g 4 (u.2))]) 0 0 := by
  refine Cv_of (cc := cX5_keepCut) (nL := 3) (ret := none) (own := RX5) (lv0 := [(0, .ref a_this), (1, .int x1)]) (by decide +kernel) rfl rfl (Nat.le_of_ble_eq_true rfl) rfl (fun A x C R => ?_)
  refine j_iconst C 1 rfl dX5_keepCut_0 (v := (0 : Int32)) (by decide) ?_
  refine j_istore_n C 2 rfl [1, 2, 0] (lv' := [(0, .ref a_this), (1, .int x1), (2, .int (0 : Int32))]) dX5_keepCut_1 rfl (by decide) rfl ?_
  refine lpW3_ind (G := fun x2 f_foundBound f_foundOwner => J l g A x 3 0 0 2 [(0, .ref a_this), (1, .int x1), (2, .int x2)] [] [(a_this, .inr (5, [.int v_signs, .ref a_pad, .ref a_sort, .ref a_heir, .int v_generations, .ref a_was, .ref a_worth, .int v_toll, .ref a_rights, .ref a_ahead, .ref a_bound, .ref a_owner, .ref a_foundBound, .ref a_foundOwner, .int v_foundLeast, .int v_stops, .ref a_beside, .ref a_upward, .ref a_from, .ref a_queue, .ref a_image, .ref a_isKept])), (a_bound, gI g 4 f_bound), (a_owner, gI g 4 f_owner), (a_foundBound, gI g 4 f_foundBound), (a_foundOwner, gI g 4 f_foundOwner)]) (fun L2 x2 f_foundBound f_foundOwner hL2 hw => ?_) _ _ _ hw
  refine j_iload_n C 3 rfl 2 dX5_keepCut_2 rfl rfl ?_
  refine j_iload_n C 4 rfl 1 dX5_keepCut_3 rfl rfl ?_
  refine j_icmp_ge C 7 rfl 37 dX5_keepCut_4 rfl (fun c => ?_) (fun c => ?_)
  · have hw := hw.1 c
    exact j_vret C R (f_foundBound, f_foundOwner) dX5_keepCut_37 rfl hw
  · have hw := hw.2 c
    refine j_aload_n C 8 rfl 0 dX5_keepCut_7 rfl rfl ?_
    refine j_get C 11 rfl 0 5 12 (T := TX5) (N := 22) hi_X5_keepCut_X5 rfl (by decide) (List.mem_of_getElem? (i := 1) rfl) rfl rfl rfl dX5_keepCut_8 ?_
    refine j_iload_n C 12 rfl 2 dX5_keepCut_11 rfl rfl ?_
    refine j_aload_n C 13 rfl 0 dX5_keepCut_12 rfl rfl ?_
    refine j_get C 16 rfl 0 5 10 (T := TX5) (N := 22) hi_X5_keepCut_X5 rfl (by decide) (List.mem_of_getElem? (i := 2) rfl) rfl rfl rfl dX5_keepCut_13 ?_
    refine j_iload_n C 17 rfl 2 dX5_keepCut_16 rfl rfl ?_
    obtain ⟨k1, ek1, hk1, hw⟩ := hw
    refine j_iald C 18 rfl 1 k1 rfl ek1 hk1 (by decide) dX5_keepCut_17 ?_
    refine j_top (fun n2 en2 => ?_)
    have hw := hw n2 en2
    obtain ⟨k3, ek3, hk3, hw⟩ := hw
    refine j_iast C 19 rfl 3 k3 (ws' := [(a_this, .inr (5, [.int v_signs, .ref a_pad, .ref a_sort, .ref a_heir, .int v_generations, .ref a_was, .ref a_worth, .int v_toll, .ref a_rights, .ref a_ahead, .ref a_bound, .ref a_owner, .ref a_foundBound, .ref a_foundOwner, .int v_foundLeast, .int v_stops, .ref a_beside, .ref a_upward, .ref a_from, .ref a_queue, .ref a_image, .ref a_isKept])), (a_bound, gI g 4 f_bound), (a_owner, gI g 4 f_owner), (a_foundBound, gI g 4 (upd f_foundBound k3 n2)), (a_foundOwner, gI g 4 f_foundOwner)]) rfl ek3 hk3 (by decide) rfl dX5_keepCut_18 ?_
    refine j_aload_n C 20 rfl 0 dX5_keepCut_19 rfl rfl ?_
    refine j_get C 23 rfl 0 5 13 (T := TX5) (N := 22) hi_X5_keepCut_X5 rfl (by decide) (List.mem_of_getElem? (i := 3) rfl) rfl rfl rfl dX5_keepCut_20 ?_
    refine j_iload_n C 24 rfl 2 dX5_keepCut_23 rfl rfl ?_
    refine j_aload_n C 25 rfl 0 dX5_keepCut_24 rfl rfl ?_
    refine j_get C 28 rfl 0 5 11 (T := TX5) (N := 22) hi_X5_keepCut_X5 rfl (by decide) (List.mem_of_getElem? (i := 4) rfl) rfl rfl rfl dX5_keepCut_25 ?_
    refine j_iload_n C 29 rfl 2 dX5_keepCut_28 rfl rfl ?_
    obtain ⟨k4, ek4, hk4, hw⟩ := hw
    refine j_iald C 30 rfl 2 k4 rfl ek4 hk4 (by decide) dX5_keepCut_29 ?_
    refine j_top (fun n5 en5 => ?_)
    have hw := hw n5 en5
    obtain ⟨k6, ek6, hk6, hw⟩ := hw
    refine j_iast C 31 rfl 4 k6 (ws' := [(a_this, .inr (5, [.int v_signs, .ref a_pad, .ref a_sort, .ref a_heir, .int v_generations, .ref a_was, .ref a_worth, .int v_toll, .ref a_rights, .ref a_ahead, .ref a_bound, .ref a_owner, .ref a_foundBound, .ref a_foundOwner, .int v_foundLeast, .int v_stops, .ref a_beside, .ref a_upward, .ref a_from, .ref a_queue, .ref a_image, .ref a_isKept])), (a_bound, gI g 4 f_bound), (a_owner, gI g 4 f_owner), (a_foundBound, gI g 4 (upd f_foundBound k3 n2)), (a_foundOwner, gI g 4 (upd f_foundOwner k6 n5))]) rfl ek6 hk6 (by decide) rfl dX5_keepCut_30 ?_
    refine j_iinc C 34 rfl 2 [1, 2, 0] (v' := (1 : Int32)) (lv' := fun z => [(0, .ref a_this), (1, .int x1), (2, .int z)]) dX5_keepCut_31 rfl (by decide) (by decide) (fun _ => rfl) (fun n7 en7 => ?_)
    have hw := hw n7 en7
    refine j_goto C 2 dX5_keepCut_34 rfl ?_
    exact hL2 _ _ _ hw
theorem hi_X5_layCut_X5 : ∀ w ∈ wsX50, w ∈ wsX5_layCut := fun _ h => List.mem_cons_of_mem _ (List.mem_append_right _ h)
set_option maxRecDepth 20000 in
set_option maxHeartbeats 4000000 in
theorem c_X5_layCut (l : Launch) (g : gE) (a_this a_pad a_sort a_heir a_was a_worth a_rights a_ahead a_bound a_owner a_foundBound a_foundOwner a_beside a_upward a_from a_queue a_image a_isKept : Nat) (v_signs : Int32) (v_generations : Int32) (v_toll : Int32) (v_foundLeast : Int32) (v_stops : Int32) (f_sort : (Nat → Int32)) (f_worth : (Nat → Int32)) (f_ahead : (Nat → Int32)) (f_bound : (Nat → Int32)) (f_owner : (Nat → Int32)) (f_foundBound : (Nat → Int32)) (f_foundOwner : (Nat → Int32)) (x1 : Int32) (x2 : Int32)  (K : Int32 → Int32 → (Nat → Int32) → (Nat → Int32) → (Nat → Int32) → (Nat → Int32) → (Nat → Int32) → Prop) (hw : wp_X5_layCut v_foundLeast f_sort f_worth f_ahead f_bound f_owner f_foundBound f_foundOwner x1 x2 K) : Ci l g yX5_layCut wsX5_layCut { frames := 3, cells := 0, slots := 0, locals := 66 } [.ref a_this, .int x1, .int x2] [(a_this, .inr (5, [.int v_signs, .ref a_pad, .ref a_sort, .ref a_heir, .int v_generations, .ref a_was, .ref a_worth, .int v_toll, .ref a_rights, .ref a_ahead, .ref a_bound, .ref a_owner, .ref a_foundBound, .ref a_foundOwner, .int v_foundLeast, .int v_stops, .ref a_beside, .ref a_upward, .ref a_from, .ref a_queue, .ref a_image, .ref a_isKept])), (a_sort, gI g 120 f_sort), (a_worth, gI g 30 f_worth), (a_ahead, gI g 100 f_ahead), (a_bound, gI g 4 f_bound), (a_owner, gI g 4 f_owner), (a_foundBound, gI g 4 f_foundBound), (a_foundOwner, gI g 4 f_foundOwner)] (fun (r : Int32) (u : Int32 × (Nat → Int32) × (Nat → Int32) × (Nat → Int32) × (Nat → Int32) × (Nat → Int32)) => K r u.1 u.2.1 u.2.2.1 u.2.2.2.1 u.2.2.2.2.1 u.2.2.2.2.2) (fun (u : Int32 × (Nat → Int32) × (Nat → Int32) × (Nat → Int32) × (Nat → Int32) × (Nat → Int32)) => [(a_this, .inr (5, [.int v_signs, .ref a_pad, .ref a_sort, .ref a_heir, .int v_generations, .ref a_was, .ref a_worth, .int v_toll, .ref a_rights, .ref a_ahead, .ref a_bound, .ref a_owner, .ref a_foundBound, .ref a_foundOwner, .int (u.1), .int v_stops, .ref a_beside, .ref a_upward, .ref a_from, .ref a_queue, .ref a_image, .ref a_isKept])), (a_sort, gI g 120 f_sort), (a_worth, gI g 30 f_worth), (a_ahead, gI g 100 (u.2.1)), (a_bound, gI g 4 (u.2.2.1)), (a_owner, gI g 4 (u.2.2.2.1)), (a_foundBound, gI g 4 (u.2.2.2.2.1)), (a_foundOwner, gI g 4 (u.2.2.2.2.2))]) 0 0 := by
  refine Ci_of (cc := cX5_layCut) (nL := 8) (ret := (some .boolean)) (own := RX5) (lv0 := [(0, .ref a_this), (1, .int x1), (2, .int x2)]) (by decide +kernel) rfl rfl (Nat.le_of_ble_eq_true rfl) rfl (fun A x C R => ?_)
  refine j_aload_n C 1 rfl 0 dX5_layCut_0 rfl rfl ?_
  refine j_rwv C 4 rfl (jc_V C (c_X5_layAhead l g a_this a_pad a_sort a_heir a_was a_worth a_rights a_ahead a_bound a_owner a_foundBound a_foundOwner a_beside a_upward a_from a_queue a_image a_isKept v_signs v_generations v_toll v_foundLeast v_stops f_sort f_worth f_ahead _ hw) 0 gX5_layCut_X5_layAhead rfl rfl rfl hd_X5_layAhead ⟨Nat.le_of_ble_eq_true rfl, Nat.le_of_ble_eq_true rfl⟩ (j_rec C 0 5 rfl rfl) [0, 1, 2, 3] rfl rfl (rest := []) rfl rfl (Nat.le_of_ble_eq_true rfl) dX5_layCut_1 ⟨Nat.le_refl _, Nat.le_refl _⟩) [0, 1, 2, 3] [4, 5, 6, 7] [4, 5, 6, 7, 0, 1, 2, 3] (wr := [(a_bound, gI g 4 f_bound), (a_owner, gI g 4 f_owner), (a_foundBound, gI g 4 f_foundBound), (a_foundOwner, gI g 4 f_foundOwner)]) (ws' := fun u => [(a_this, .inr (5, [.int v_signs, .ref a_pad, .ref a_sort, .ref a_heir, .int v_generations, .ref a_was, .ref a_worth, .int v_toll, .ref a_rights, .ref a_ahead, .ref a_bound, .ref a_owner, .ref a_foundBound, .ref a_foundOwner, .int v_foundLeast, .int v_stops, .ref a_beside, .ref a_upward, .ref a_from, .ref a_queue, .ref a_image, .ref a_isKept])), (a_sort, gI g 120 f_sort), (a_worth, gI g 30 f_worth), (a_ahead, gI g 100 u), (a_bound, gI g 4 f_bound), (a_owner, gI g 4 f_owner), (a_foundBound, gI g 4 f_foundBound), (a_foundOwner, gI g 4 f_foundOwner)]) rfl rfl rfl (by decide) rfl (fun _ => rfl) (fun u hw => ?_)
  obtain ⟨u1, eu1⟩ : ∃ z, z = u := ⟨_, rfl⟩
  subst eu1
  try dsimp only at hw
  show J l g A x 8 0 0 4 [(0, .ref a_this), (1, .int x1), (2, .int x2)] [] [(a_this, .inr (5, [.int v_signs, .ref a_pad, .ref a_sort, .ref a_heir, .int v_generations, .ref a_was, .ref a_worth, .int v_toll, .ref a_rights, .ref a_ahead, .ref a_bound, .ref a_owner, .ref a_foundBound, .ref a_foundOwner, .int v_foundLeast, .int v_stops, .ref a_beside, .ref a_upward, .ref a_from, .ref a_queue, .ref a_image, .ref a_isKept])), (a_sort, gI g 120 f_sort), (a_worth, gI g 30 f_worth), (a_ahead, gI g 100 u1), (a_bound, gI g 4 f_bound), (a_owner, gI g 4 f_owner), (a_foundBound, gI g 4 f_foundBound), (a_foundOwner, gI g 4 f_foundOwner)]
  refine j_iconst C 5 rfl dX5_layCut_4 (v := (1 : Int32)) (by decide) ?_
  refine j_istore_n C 6 rfl [1, 2, 3, 0] (lv' := [(0, .ref a_this), (1, .int x1), (2, .int x2), (3, .int (1 : Int32))]) dX5_layCut_5 rfl (by decide) rfl ?_
  refine j_iconst C 7 rfl dX5_layCut_6 (v := (0 : Int32)) (by decide) ?_
  refine j_istore C 9 rfl [1, 2, 3, 4, 0] (lv' := [(0, .ref a_this), (1, .int x1), (2, .int x2), (3, .int (1 : Int32)), (4, .int (0 : Int32))]) dX5_layCut_7 (by decide) rfl ?_
  refine lpW3_ind (G := fun x3 x4 f_bound => J l g A x 8 0 0 9 [(0, .ref a_this), (1, .int x1), (2, .int x2), (3, .int x3), (4, .int x4)] [] [(a_this, .inr (5, [.int v_signs, .ref a_pad, .ref a_sort, .ref a_heir, .int v_generations, .ref a_was, .ref a_worth, .int v_toll, .ref a_rights, .ref a_ahead, .ref a_bound, .ref a_owner, .ref a_foundBound, .ref a_foundOwner, .int v_foundLeast, .int v_stops, .ref a_beside, .ref a_upward, .ref a_from, .ref a_queue, .ref a_image, .ref a_isKept])), (a_sort, gI g 120 f_sort), (a_worth, gI g 30 f_worth), (a_ahead, gI g 100 u1), (a_bound, gI g 4 f_bound), (a_owner, gI g 4 f_owner), (a_foundBound, gI g 4 f_foundBound), (a_foundOwner, gI g 4 f_foundOwner)]) (fun L9 x3 x4 f_bound hL9 hw => ?_) _ _ _ hw
  refine j_iload C 11 rfl 4 dX5_layCut_9 rfl ?_
  refine j_iload_n C 12 rfl 1 dX5_layCut_11 rfl rfl ?_
  refine j_icmp_ge C 15 rfl 34 dX5_layCut_12 rfl (fun c => ?_) (fun c => ?_)
  · have hw := hw.1 c
    refine j_iconst C 35 rfl dX5_layCut_34 (v := (0 : Int32)) (by decide) ?_
    refine j_istore C 37 rfl [1, 2, 3, 4, 0] (lv' := [(0, .ref a_this), (1, .int x1), (2, .int x2), (3, .int x3), (4, .int (0 : Int32))]) dX5_layCut_35 (by decide) rfl ?_
    refine j_iconst C 38 rfl dX5_layCut_37 (v := (1 : Int32)) (by decide) ?_
    refine j_istore C 40 rfl [1, 2, 3, 4, 5, 0] (lv' := [(0, .ref a_this), (1, .int x1), (2, .int x2), (3, .int x3), (4, .int (0 : Int32)), (5, .int (1 : Int32))]) dX5_layCut_38 (by decide) rfl ?_
    refine lpW7_ind (G := fun x4 x5 v_foundLeast f_bound f_owner f_foundBound f_foundOwner => J l g A x 8 0 0 40 [(0, .ref a_this), (1, .int x1), (2, .int x2), (3, .int x3), (4, .int x4), (5, .int x5)] [] [(a_this, .inr (5, [.int v_signs, .ref a_pad, .ref a_sort, .ref a_heir, .int v_generations, .ref a_was, .ref a_worth, .int v_toll, .ref a_rights, .ref a_ahead, .ref a_bound, .ref a_owner, .ref a_foundBound, .ref a_foundOwner, .int v_foundLeast, .int v_stops, .ref a_beside, .ref a_upward, .ref a_from, .ref a_queue, .ref a_image, .ref a_isKept])), (a_sort, gI g 120 f_sort), (a_worth, gI g 30 f_worth), (a_ahead, gI g 100 u1), (a_bound, gI g 4 f_bound), (a_owner, gI g 4 f_owner), (a_foundBound, gI g 4 f_foundBound), (a_foundOwner, gI g 4 f_foundOwner)]) (fun L40 x4 x5 v_foundLeast f_bound f_owner f_foundBound f_foundOwner hL40 hw => ?_) _ _ _ _ _ _ _ hw
    refine j_iload C 42 rfl 5 dX5_layCut_40 rfl ?_
    refine j_if_eq C 45 rfl 148 dX5_layCut_42 rfl (fun c => ?_) (fun c => ?_)
    · have hw := hw.1 c
      refine j_iload C 150 rfl 4 dX5_layCut_148 rfl ?_
      obtain ⟨hn, hw⟩ := hw
      exact j_iret C R (v_foundLeast, u1, f_bound, f_owner, f_foundBound, f_foundOwner) hn dX5_layCut_150 rfl hw
    · have hw := hw.2 c
      refine j_iload_n C 46 rfl 2 dX5_layCut_45 rfl rfl ?_
      refine j_if_eq C 49 rfl 54 dX5_layCut_46 rfl (fun c => ?_) (fun c => ?_)
      · have hw := hw.1 c
        refine j_iconst C 55 rfl dX5_layCut_54 (v := (0 : Int32)) (by decide) ?_
        refine j_istore C 57 rfl [1, 2, 3, 4, 5, 6, 0] (lv' := [(0, .ref a_this), (1, .int x1), (2, .int x2), (3, .int x3), (4, .int x4), (5, .int x5), (6, .int (0 : Int32))]) dX5_layCut_55 (by decide) rfl ?_
        refine j_lv [0, 1, 2, 3, 4, 6] (lv' := [(0, .ref a_this), (1, .int x1), (2, .int x2), (3, .int x3), (4, .int x4), (6, .int (0 : Int32))]) rfl ?_
        refine lpW6_ind (G := fun x4 x6 v_foundLeast f_owner f_foundBound f_foundOwner => J l g A x 8 0 0 57 [(0, .ref a_this), (1, .int x1), (2, .int x2), (3, .int x3), (4, .int x4), (6, .int x6)] [] [(a_this, .inr (5, [.int v_signs, .ref a_pad, .ref a_sort, .ref a_heir, .int v_generations, .ref a_was, .ref a_worth, .int v_toll, .ref a_rights, .ref a_ahead, .ref a_bound, .ref a_owner, .ref a_foundBound, .ref a_foundOwner, .int v_foundLeast, .int v_stops, .ref a_beside, .ref a_upward, .ref a_from, .ref a_queue, .ref a_image, .ref a_isKept])), (a_sort, gI g 120 f_sort), (a_worth, gI g 30 f_worth), (a_ahead, gI g 100 u1), (a_bound, gI g 4 f_bound), (a_owner, gI g 4 f_owner), (a_foundBound, gI g 4 f_foundBound), (a_foundOwner, gI g 4 f_foundOwner)]) (fun L57 x4 x6 v_foundLeast f_owner f_foundBound f_foundOwner hL57 hw => ?_) _ _ _ _ _ _ hw
        have hj118 : ∀ (x6 : Int32) (x7 : Int32) (v_foundLeast : Int32) (f_owner : (Nat → Int32)) (f_foundBound : (Nat → Int32)) (f_foundOwner : (Nat → Int32)), wj_X5_layCut_118 f_bound f_owner f_foundBound f_foundOwner x1 x6 x7 L57 → J l g A x 8 0 0 118 [(0, .ref a_this), (1, .int x1), (2, .int x2), (3, .int x3), (6, .int x6), (7, .int x7)] [] [(a_this, .inr (5, [.int v_signs, .ref a_pad, .ref a_sort, .ref a_heir, .int v_generations, .ref a_was, .ref a_worth, .int v_toll, .ref a_rights, .ref a_ahead, .ref a_bound, .ref a_owner, .ref a_foundBound, .ref a_foundOwner, .int v_foundLeast, .int v_stops, .ref a_beside, .ref a_upward, .ref a_from, .ref a_queue, .ref a_image, .ref a_isKept])), (a_sort, gI g 120 f_sort), (a_worth, gI g 30 f_worth), (a_ahead, gI g 100 u1), (a_bound, gI g 4 f_bound), (a_owner, gI g 4 f_owner), (a_foundBound, gI g 4 f_foundBound), (a_foundOwner, gI g 4 f_foundOwner)] := by
          intro x6 x7 v_foundLeast f_owner f_foundBound f_foundOwner hw
          refine j_iconst C 119 rfl dX5_layCut_118 (v := (1 : Int32)) (by decide) ?_
          refine j_istore C 121 rfl [1, 2, 3, 4, 0, 5, 6] (lv' := [(0, .ref a_this), (1, .int x1), (2, .int x2), (3, .int x3), (4, .int (1 : Int32)), (6, .int x6), (7, .int x7)]) dX5_layCut_119 (by decide) rfl ?_
          refine j_aload_n C 122 rfl 0 dX5_layCut_121 rfl rfl ?_
          refine j_iload C 124 rfl 6 dX5_layCut_122 rfl ?_
          refine j_put C 127 rfl 0 5 14 (ws' := [(a_this, .inr (5, [.int v_signs, .ref a_pad, .ref a_sort, .ref a_heir, .int v_generations, .ref a_was, .ref a_worth, .int v_toll, .ref a_rights, .ref a_ahead, .ref a_bound, .ref a_owner, .ref a_foundBound, .ref a_foundOwner, .int x7, .int v_stops, .ref a_beside, .ref a_upward, .ref a_from, .ref a_queue, .ref a_image, .ref a_isKept])), (a_sort, gI g 120 f_sort), (a_worth, gI g 30 f_worth), (a_ahead, gI g 100 u1), (a_bound, gI g 4 f_bound), (a_owner, gI g 4 f_owner), (a_foundBound, gI g 4 f_foundBound), (a_foundOwner, gI g 4 f_foundOwner)]) (T := TX5) (N := 22) (ty := .int) tyX5_ok nmX5 hi_X5_layCut_X5 rfl (by decide) (List.mem_of_getElem? (i := 2) rfl) rfl rfl rfl rfl rfl rfl (Nat.le_of_ble_eq_true rfl) rfl dX5_layCut_124 ?_
          refine j_aload_n C 128 rfl 0 dX5_layCut_127 rfl rfl ?_
          refine j_iload_n C 129 rfl 1 dX5_layCut_128 rfl rfl ?_
          refine j_rwv C 132 rfl (jc_V C (c_X5_keepCut l g a_this a_pad a_sort a_heir a_was a_worth a_rights a_ahead a_bound a_owner a_foundBound a_foundOwner a_beside a_upward a_from a_queue a_image a_isKept v_signs v_generations v_toll x7 v_stops f_bound f_owner f_foundBound f_foundOwner x1 _ hw) 1 gX5_layCut_X5_keepCut rfl rfl rfl hd_X5_keepCut ⟨Nat.le_of_ble_eq_true rfl, Nat.le_of_ble_eq_true rfl⟩ (j_rec C 0 5 rfl rfl) [0, 4, 5, 6, 7] rfl rfl (rest := []) rfl rfl (Nat.le_of_ble_eq_true rfl) dX5_layCut_129 ⟨Nat.le_refl _, Nat.le_refl _⟩) [0, 4, 5, 6, 7] [1, 2, 3] [3, 0, 1, 2, 4, 5, 6, 7] (wr := [(a_sort, gI g 120 f_sort), (a_worth, gI g 30 f_worth), (a_ahead, gI g 100 u1)]) (ws' := fun u => [(a_this, .inr (5, [.int v_signs, .ref a_pad, .ref a_sort, .ref a_heir, .int v_generations, .ref a_was, .ref a_worth, .int v_toll, .ref a_rights, .ref a_ahead, .ref a_bound, .ref a_owner, .ref a_foundBound, .ref a_foundOwner, .int x7, .int v_stops, .ref a_beside, .ref a_upward, .ref a_from, .ref a_queue, .ref a_image, .ref a_isKept])), (a_sort, gI g 120 f_sort), (a_worth, gI g 30 f_worth), (a_ahead, gI g 100 u1), (a_bound, gI g 4 f_bound), (a_owner, gI g 4 f_owner), (a_foundBound, gI g 4 (u.1)), (a_foundOwner, gI g 4 (u.2))]) rfl rfl rfl (by decide) rfl (fun _ => rfl) (fun u hw => ?_)
          obtain ⟨u2, u3⟩ := u
          try dsimp only at hw
          show J l g A x 8 0 0 132 [(0, .ref a_this), (1, .int x1), (2, .int x2), (3, .int x3), (4, .int (1 : Int32)), (6, .int x6), (7, .int x7)] [] [(a_this, .inr (5, [.int v_signs, .ref a_pad, .ref a_sort, .ref a_heir, .int v_generations, .ref a_was, .ref a_worth, .int v_toll, .ref a_rights, .ref a_ahead, .ref a_bound, .ref a_owner, .ref a_foundBound, .ref a_foundOwner, .int x7, .int v_stops, .ref a_beside, .ref a_upward, .ref a_from, .ref a_queue, .ref a_image, .ref a_isKept])), (a_sort, gI g 120 f_sort), (a_worth, gI g 30 f_worth), (a_ahead, gI g 100 u1), (a_bound, gI g 4 f_bound), (a_owner, gI g 4 f_owner), (a_foundBound, gI g 4 u2), (a_foundOwner, gI g 4 u3)]
          refine j_iinc C 135 rfl 5 [1, 2, 3, 4, 5, 0, 6] (v' := (1 : Int32)) (lv' := fun z => [(0, .ref a_this), (1, .int x1), (2, .int x2), (3, .int x3), (4, .int (1 : Int32)), (6, .int z), (7, .int x7)]) dX5_layCut_132 rfl (by decide) (by decide) (fun _ => rfl) (fun n4 en4 => ?_)
          have hw := hw n4 en4
          refine j_goto C 57 dX5_layCut_135 rfl ?_
          refine j_lv [0, 1, 2, 3, 4, 5] (lv' := [(0, .ref a_this), (1, .int x1), (2, .int x2), (3, .int x3), (4, .int (1 : Int32)), (6, .int n4)]) rfl ?_
          exact hL57 _ _ _ _ _ _ hw
        have hj72 : ∀ (x4 : Int32) (x6 : Int32) (v_foundLeast : Int32) (f_owner : (Nat → Int32)) (f_foundBound : (Nat → Int32)) (f_foundOwner : (Nat → Int32)), wj_X5_layCut_72 v_foundLeast u1 f_bound f_owner f_foundBound f_foundOwner x1 x2 x4 x6 L57 → J l g A x 8 0 0 72 [(0, .ref a_this), (1, .int x1), (2, .int x2), (3, .int x3), (4, .int x4), (6, .int x6)] [] [(a_this, .inr (5, [.int v_signs, .ref a_pad, .ref a_sort, .ref a_heir, .int v_generations, .ref a_was, .ref a_worth, .int v_toll, .ref a_rights, .ref a_ahead, .ref a_bound, .ref a_owner, .ref a_foundBound, .ref a_foundOwner, .int v_foundLeast, .int v_stops, .ref a_beside, .ref a_upward, .ref a_from, .ref a_queue, .ref a_image, .ref a_isKept])), (a_sort, gI g 120 f_sort), (a_worth, gI g 30 f_worth), (a_ahead, gI g 100 u1), (a_bound, gI g 4 f_bound), (a_owner, gI g 4 f_owner), (a_foundBound, gI g 4 f_foundBound), (a_foundOwner, gI g 4 f_foundOwner)] := by
          intro x4 x6 v_foundLeast f_owner f_foundBound f_foundOwner hw
          refine j_aload_n C 73 rfl 0 dX5_layCut_72 rfl rfl ?_
          refine j_iload C 75 rfl 5 dX5_layCut_73 rfl ?_
          refine j_iload_n C 76 rfl 1 dX5_layCut_75 rfl rfl ?_
          refine j_rwi C 79 rfl (jc_V C (c_X5_layOwners l g a_this a_pad a_sort a_heir a_was a_worth a_rights a_ahead a_bound a_owner a_foundBound a_foundOwner a_beside a_upward a_from a_queue a_image a_isKept v_signs v_generations v_toll v_foundLeast v_stops f_owner x6 x1 _ hw) 2 gX5_layCut_X5_layOwners rfl rfl rfl hd_X5_layOwners ⟨Nat.le_of_ble_eq_true rfl, Nat.le_of_ble_eq_true rfl⟩ (j_rec C 0 5 rfl rfl) [0, 5] rfl rfl (rest := []) rfl rfl (Nat.le_of_ble_eq_true rfl) dX5_layCut_76 ⟨Nat.le_refl _, Nat.le_refl _⟩) [0, 5] [1, 2, 3, 4, 6, 7] [6, 0, 1, 2, 3, 7, 4, 5] (wr := [(a_sort, gI g 120 f_sort), (a_worth, gI g 30 f_worth), (a_ahead, gI g 100 u1), (a_bound, gI g 4 f_bound), (a_foundBound, gI g 4 f_foundBound), (a_foundOwner, gI g 4 f_foundOwner)]) (ws' := fun u => [(a_this, .inr (5, [.int v_signs, .ref a_pad, .ref a_sort, .ref a_heir, .int v_generations, .ref a_was, .ref a_worth, .int v_toll, .ref a_rights, .ref a_ahead, .ref a_bound, .ref a_owner, .ref a_foundBound, .ref a_foundOwner, .int v_foundLeast, .int v_stops, .ref a_beside, .ref a_upward, .ref a_from, .ref a_queue, .ref a_image, .ref a_isKept])), (a_sort, gI g 120 f_sort), (a_worth, gI g 30 f_worth), (a_ahead, gI g 100 u1), (a_bound, gI g 4 f_bound), (a_owner, gI g 4 u), (a_foundBound, gI g 4 f_foundBound), (a_foundOwner, gI g 4 f_foundOwner)]) rfl rfl rfl (by decide) rfl (fun _ => rfl) (fun r5 u hw => ?_)
          obtain ⟨u6, eu6⟩ : ∃ z, z = u := ⟨_, rfl⟩
          subst eu6
          try dsimp only at hw
          show J l g A x 8 0 0 79 [(0, .ref a_this), (1, .int x1), (2, .int x2), (3, .int x3), (4, .int x4), (6, .int x6)] [.int r5] [(a_this, .inr (5, [.int v_signs, .ref a_pad, .ref a_sort, .ref a_heir, .int v_generations, .ref a_was, .ref a_worth, .int v_toll, .ref a_rights, .ref a_ahead, .ref a_bound, .ref a_owner, .ref a_foundBound, .ref a_foundOwner, .int v_foundLeast, .int v_stops, .ref a_beside, .ref a_upward, .ref a_from, .ref a_queue, .ref a_image, .ref a_isKept])), (a_sort, gI g 120 f_sort), (a_worth, gI g 30 f_worth), (a_ahead, gI g 100 u1), (a_bound, gI g 4 f_bound), (a_owner, gI g 4 u6), (a_foundBound, gI g 4 f_foundBound), (a_foundOwner, gI g 4 f_foundOwner)]
          refine j_if_eq C 82 rfl 132 dX5_layCut_79 rfl (fun c => ?_) (fun c => ?_)
          · have hw := hw.1 c
            refine j_iinc C 135 rfl 5 [1, 2, 3, 4, 5, 0] (v' := (1 : Int32)) (lv' := fun z => [(0, .ref a_this), (1, .int x1), (2, .int x2), (3, .int x3), (4, .int x4), (6, .int z)]) dX5_layCut_132 rfl (by decide) (by decide) (fun _ => rfl) (fun n7 en7 => ?_)
            have hw := hw n7 en7
            refine j_goto C 57 dX5_layCut_135 rfl ?_
            exact hL57 _ _ _ _ _ _ hw
          · have hw := hw.2 c
            refine j_aload_n C 83 rfl 0 dX5_layCut_82 rfl rfl ?_
            refine j_iload_n C 84 rfl 1 dX5_layCut_83 rfl rfl ?_
            refine j_ri C 87 rfl (jc_V C (c_X5_leastShare l g a_this a_pad a_sort a_heir a_was a_worth a_rights a_ahead a_bound a_owner a_foundBound a_foundOwner a_beside a_upward a_from a_queue a_image a_isKept v_signs v_generations v_toll v_foundLeast v_stops u1 f_bound u6 x1 _ hw) 1 gX5_layCut_X5_leastShare rfl rfl rfl hd_X5_leastShare ⟨Nat.le_of_ble_eq_true rfl, Nat.le_of_ble_eq_true rfl⟩ (j_rec C 0 5 rfl rfl) [0, 3, 4, 5] rfl rfl (rest := []) rfl rfl (Nat.le_of_ble_eq_true rfl) dX5_layCut_84 ⟨Nat.le_refl _, Nat.le_refl _⟩) [0, 3, 4, 5] rfl (fun _ => rfl) (fun r8 _ hw => ?_)
            try dsimp only at hw
            refine j_istore C 89 rfl [1, 2, 3, 4, 5, 6, 0] (lv' := [(0, .ref a_this), (1, .int x1), (2, .int x2), (3, .int x3), (4, .int x4), (6, .int x6), (7, .int r8)]) dX5_layCut_87 (by decide) rfl ?_
            refine j_iload_n C 90 rfl 2 dX5_layCut_89 rfl rfl ?_
            refine j_if_eq C 93 rfl 104 dX5_layCut_90 rfl (fun c => ?_) (fun c => ?_)
            · have hw := hw.1 c
              refine j_iload C 106 rfl 4 dX5_layCut_104 rfl ?_
              refine j_if_eq C 109 rfl 118 dX5_layCut_106 rfl (fun c => ?_) (fun c => ?_)
              · have hw := hw.1 c
                refine j_lv [0, 1, 2, 3, 5, 6] (lv' := [(0, .ref a_this), (1, .int x1), (2, .int x2), (3, .int x3), (6, .int x6), (7, .int r8)]) rfl ?_
                exact hj118 _ _ _ _ _ _ hw
              · have hw := hw.2 c
                refine j_iload C 111 rfl 6 dX5_layCut_109 rfl ?_
                refine j_aload_n C 112 rfl 0 dX5_layCut_111 rfl rfl ?_
                refine j_get C 115 rfl 0 5 14 (T := TX5) (N := 22) hi_X5_layCut_X5 rfl (by decide) (List.mem_of_getElem? (i := 2) rfl) rfl rfl rfl dX5_layCut_112 ?_
                refine j_icmp_le C 118 rfl 132 dX5_layCut_115 rfl (fun c => ?_) (fun c => ?_)
                · have hw := hw.1 c
                  refine j_iinc C 135 rfl 5 [1, 2, 3, 4, 5, 0, 6] (v' := (1 : Int32)) (lv' := fun z => [(0, .ref a_this), (1, .int x1), (2, .int x2), (3, .int x3), (4, .int x4), (6, .int z), (7, .int r8)]) dX5_layCut_132 rfl (by decide) (by decide) (fun _ => rfl) (fun n9 en9 => ?_)
                  have hw := hw n9 en9
                  refine j_goto C 57 dX5_layCut_135 rfl ?_
                  refine j_lv [0, 1, 2, 3, 4, 5] (lv' := [(0, .ref a_this), (1, .int x1), (2, .int x2), (3, .int x3), (4, .int x4), (6, .int n9)]) rfl ?_
                  exact hL57 _ _ _ _ _ _ hw
                · have hw := hw.2 c
                  refine j_lv [0, 1, 2, 3, 5, 6] (lv' := [(0, .ref a_this), (1, .int x1), (2, .int x2), (3, .int x3), (6, .int x6), (7, .int r8)]) rfl ?_
                  exact hj118 _ _ _ _ _ _ hw
            · have hw := hw.2 c
              refine j_aload_n C 94 rfl 0 dX5_layCut_93 rfl rfl ?_
              refine j_iload_n C 95 rfl 1 dX5_layCut_94 rfl rfl ?_
              refine j_ri C 98 rfl (jc_V C (c_X5_isFair l g a_this a_pad a_sort a_heir a_was a_worth a_rights a_ahead a_bound a_owner a_foundBound a_foundOwner a_beside a_upward a_from a_queue a_image a_isKept v_signs v_generations v_toll v_foundLeast v_stops u1 f_bound u6 x1 _ hw) 1 gX5_layCut_X5_isFair rfl rfl rfl hd_X5_isFair ⟨Nat.le_of_ble_eq_true rfl, Nat.le_of_ble_eq_true rfl⟩ (j_rec C 0 5 rfl rfl) [0, 3, 4, 5] rfl rfl (rest := []) rfl rfl (Nat.le_of_ble_eq_true rfl) dX5_layCut_95 ⟨Nat.le_refl _, Nat.le_refl _⟩) [0, 3, 4, 5] rfl (fun _ => rfl) (fun r10 _ hw => ?_)
              try dsimp only at hw
              refine j_if_eq C 101 rfl 132 dX5_layCut_98 rfl (fun c => ?_) (fun c => ?_)
              · have hw := hw.1 c
                refine j_iinc C 135 rfl 5 [1, 2, 3, 4, 5, 0, 6] (v' := (1 : Int32)) (lv' := fun z => [(0, .ref a_this), (1, .int x1), (2, .int x2), (3, .int x3), (4, .int x4), (6, .int z), (7, .int r8)]) dX5_layCut_132 rfl (by decide) (by decide) (fun _ => rfl) (fun n11 en11 => ?_)
                have hw := hw n11 en11
                refine j_goto C 57 dX5_layCut_135 rfl ?_
                refine j_lv [0, 1, 2, 3, 4, 5] (lv' := [(0, .ref a_this), (1, .int x1), (2, .int x2), (3, .int x3), (4, .int x4), (6, .int n11)]) rfl ?_
                exact hL57 _ _ _ _ _ _ hw
              · have hw := hw.2 c
                refine j_goto C 118 dX5_layCut_101 rfl ?_
                refine j_lv [0, 1, 2, 3, 5, 6] (lv' := [(0, .ref a_this), (1, .int x1), (2, .int x2), (3, .int x3), (6, .int x6), (7, .int r8)]) rfl ?_
                exact hj118 _ _ _ _ _ _ hw
        refine j_iload C 59 rfl 5 dX5_layCut_57 rfl ?_
        refine j_iload_n C 60 rfl 3 dX5_layCut_59 rfl rfl ?_
        refine j_icmp_ge C 63 rfl 138 dX5_layCut_60 rfl (fun c => ?_) (fun c => ?_)
        · have hw := hw.1 c
          refine j_aload_n C 139 rfl 0 dX5_layCut_138 rfl rfl ?_
          refine j_iload_n C 140 rfl 1 dX5_layCut_139 rfl rfl ?_
          refine j_rwi C 143 rfl (jc_V C (c_X5_nextBounds l g a_this a_pad a_sort a_heir a_was a_worth a_rights a_ahead a_bound a_owner a_foundBound a_foundOwner a_beside a_upward a_from a_queue a_image a_isKept v_signs v_generations v_toll v_foundLeast v_stops f_bound x1 _ hw) 1 gX5_layCut_X5_nextBounds rfl rfl rfl hd_X5_nextBounds ⟨Nat.le_of_ble_eq_true rfl, Nat.le_of_ble_eq_true rfl⟩ (j_rec C 0 5 rfl rfl) [0, 4] rfl rfl (rest := []) rfl rfl (Nat.le_of_ble_eq_true rfl) dX5_layCut_140 ⟨Nat.le_refl _, Nat.le_refl _⟩) [0, 4] [1, 2, 3, 5, 6, 7] [6, 0, 1, 2, 7, 3, 4, 5] (wr := [(a_sort, gI g 120 f_sort), (a_worth, gI g 30 f_worth), (a_ahead, gI g 100 u1), (a_owner, gI g 4 f_owner), (a_foundBound, gI g 4 f_foundBound), (a_foundOwner, gI g 4 f_foundOwner)]) (ws' := fun u => [(a_this, .inr (5, [.int v_signs, .ref a_pad, .ref a_sort, .ref a_heir, .int v_generations, .ref a_was, .ref a_worth, .int v_toll, .ref a_rights, .ref a_ahead, .ref a_bound, .ref a_owner, .ref a_foundBound, .ref a_foundOwner, .int v_foundLeast, .int v_stops, .ref a_beside, .ref a_upward, .ref a_from, .ref a_queue, .ref a_image, .ref a_isKept])), (a_sort, gI g 120 f_sort), (a_worth, gI g 30 f_worth), (a_ahead, gI g 100 u1), (a_bound, gI g 4 u), (a_owner, gI g 4 f_owner), (a_foundBound, gI g 4 f_foundBound), (a_foundOwner, gI g 4 f_foundOwner)]) rfl rfl rfl (by decide) rfl (fun _ => rfl) (fun r12 u hw => ?_)
          obtain ⟨u13, eu13⟩ : ∃ z, z = u := ⟨_, rfl⟩
          subst eu13
          try dsimp only at hw
          show J l g A x 8 0 0 143 [(0, .ref a_this), (1, .int x1), (2, .int x2), (3, .int x3), (4, .int x4), (6, .int x6)] [.int r12] [(a_this, .inr (5, [.int v_signs, .ref a_pad, .ref a_sort, .ref a_heir, .int v_generations, .ref a_was, .ref a_worth, .int v_toll, .ref a_rights, .ref a_ahead, .ref a_bound, .ref a_owner, .ref a_foundBound, .ref a_foundOwner, .int v_foundLeast, .int v_stops, .ref a_beside, .ref a_upward, .ref a_from, .ref a_queue, .ref a_image, .ref a_isKept])), (a_sort, gI g 120 f_sort), (a_worth, gI g 30 f_worth), (a_ahead, gI g 100 u1), (a_bound, gI g 4 u13), (a_owner, gI g 4 f_owner), (a_foundBound, gI g 4 f_foundBound), (a_foundOwner, gI g 4 f_foundOwner)]
          refine j_istore C 145 rfl [1, 2, 3, 4, 5, 0, 6] (lv' := [(0, .ref a_this), (1, .int x1), (2, .int x2), (3, .int x3), (4, .int x4), (5, .int r12), (6, .int x6)]) dX5_layCut_143 (by decide) rfl ?_
          refine j_goto C 40 dX5_layCut_145 rfl ?_
          refine j_lv [0, 1, 2, 3, 4, 5] (lv' := [(0, .ref a_this), (1, .int x1), (2, .int x2), (3, .int x3), (4, .int x4), (5, .int r12)]) rfl ?_
          exact hL40 _ _ _ _ _ _ _ hw
        · have hw := hw.2 c
          refine j_iload_n C 64 rfl 2 dX5_layCut_63 rfl rfl ?_
          refine j_if_eq C 67 rfl 72 dX5_layCut_64 rfl (fun c => ?_) (fun c => ?_)
          · have hw := hw.1 c
            exact hj72 _ _ _ _ _ _ hw
          · have hw := hw.2 c
            refine j_iload C 69 rfl 4 dX5_layCut_67 rfl ?_
            refine j_if_ne C 72 rfl 138 dX5_layCut_69 rfl (fun c => ?_) (fun c => ?_)
            · have hw := hw.1 c
              refine j_aload_n C 139 rfl 0 dX5_layCut_138 rfl rfl ?_
              refine j_iload_n C 140 rfl 1 dX5_layCut_139 rfl rfl ?_
              refine j_rwi C 143 rfl (jc_V C (c_X5_nextBounds l g a_this a_pad a_sort a_heir a_was a_worth a_rights a_ahead a_bound a_owner a_foundBound a_foundOwner a_beside a_upward a_from a_queue a_image a_isKept v_signs v_generations v_toll v_foundLeast v_stops f_bound x1 _ hw) 1 gX5_layCut_X5_nextBounds rfl rfl rfl hd_X5_nextBounds ⟨Nat.le_of_ble_eq_true rfl, Nat.le_of_ble_eq_true rfl⟩ (j_rec C 0 5 rfl rfl) [0, 4] rfl rfl (rest := []) rfl rfl (Nat.le_of_ble_eq_true rfl) dX5_layCut_140 ⟨Nat.le_refl _, Nat.le_refl _⟩) [0, 4] [1, 2, 3, 5, 6, 7] [6, 0, 1, 2, 7, 3, 4, 5] (wr := [(a_sort, gI g 120 f_sort), (a_worth, gI g 30 f_worth), (a_ahead, gI g 100 u1), (a_owner, gI g 4 f_owner), (a_foundBound, gI g 4 f_foundBound), (a_foundOwner, gI g 4 f_foundOwner)]) (ws' := fun u => [(a_this, .inr (5, [.int v_signs, .ref a_pad, .ref a_sort, .ref a_heir, .int v_generations, .ref a_was, .ref a_worth, .int v_toll, .ref a_rights, .ref a_ahead, .ref a_bound, .ref a_owner, .ref a_foundBound, .ref a_foundOwner, .int v_foundLeast, .int v_stops, .ref a_beside, .ref a_upward, .ref a_from, .ref a_queue, .ref a_image, .ref a_isKept])), (a_sort, gI g 120 f_sort), (a_worth, gI g 30 f_worth), (a_ahead, gI g 100 u1), (a_bound, gI g 4 u), (a_owner, gI g 4 f_owner), (a_foundBound, gI g 4 f_foundBound), (a_foundOwner, gI g 4 f_foundOwner)]) rfl rfl rfl (by decide) rfl (fun _ => rfl) (fun r14 u hw => ?_)
              obtain ⟨u15, eu15⟩ : ∃ z, z = u := ⟨_, rfl⟩
              subst eu15
              try dsimp only at hw
              show J l g A x 8 0 0 143 [(0, .ref a_this), (1, .int x1), (2, .int x2), (3, .int x3), (4, .int x4), (6, .int x6)] [.int r14] [(a_this, .inr (5, [.int v_signs, .ref a_pad, .ref a_sort, .ref a_heir, .int v_generations, .ref a_was, .ref a_worth, .int v_toll, .ref a_rights, .ref a_ahead, .ref a_bound, .ref a_owner, .ref a_foundBound, .ref a_foundOwner, .int v_foundLeast, .int v_stops, .ref a_beside, .ref a_upward, .ref a_from, .ref a_queue, .ref a_image, .ref a_isKept])), (a_sort, gI g 120 f_sort), (a_worth, gI g 30 f_worth), (a_ahead, gI g 100 u1), (a_bound, gI g 4 u15), (a_owner, gI g 4 f_owner), (a_foundBound, gI g 4 f_foundBound), (a_foundOwner, gI g 4 f_foundOwner)]
              refine j_istore C 145 rfl [1, 2, 3, 4, 5, 0, 6] (lv' := [(0, .ref a_this), (1, .int x1), (2, .int x2), (3, .int x3), (4, .int x4), (5, .int r14), (6, .int x6)]) dX5_layCut_143 (by decide) rfl ?_
              refine j_goto C 40 dX5_layCut_145 rfl ?_
              refine j_lv [0, 1, 2, 3, 4, 5] (lv' := [(0, .ref a_this), (1, .int x1), (2, .int x2), (3, .int x3), (4, .int x4), (5, .int r14)]) rfl ?_
              exact hL40 _ _ _ _ _ _ _ hw
            · have hw := hw.2 c
              exact hj72 _ _ _ _ _ _ hw
      · have hw := hw.2 c
        refine j_iload C 51 rfl 4 dX5_layCut_49 rfl ?_
        refine j_if_ne C 54 rfl 148 dX5_layCut_51 rfl (fun c => ?_) (fun c => ?_)
        · have hw := hw.1 c
          refine j_iload C 150 rfl 4 dX5_layCut_148 rfl ?_
          obtain ⟨hn, hw⟩ := hw
          exact j_iret C R (v_foundLeast, u1, f_bound, f_owner, f_foundBound, f_foundOwner) hn dX5_layCut_150 rfl hw
        · have hw := hw.2 c
          refine j_iconst C 55 rfl dX5_layCut_54 (v := (0 : Int32)) (by decide) ?_
          refine j_istore C 57 rfl [1, 2, 3, 4, 5, 6, 0] (lv' := [(0, .ref a_this), (1, .int x1), (2, .int x2), (3, .int x3), (4, .int x4), (5, .int x5), (6, .int (0 : Int32))]) dX5_layCut_55 (by decide) rfl ?_
          refine j_lv [0, 1, 2, 3, 4, 6] (lv' := [(0, .ref a_this), (1, .int x1), (2, .int x2), (3, .int x3), (4, .int x4), (6, .int (0 : Int32))]) rfl ?_
          refine lpW6_ind (G := fun x4 x6 v_foundLeast f_owner f_foundBound f_foundOwner => J l g A x 8 0 0 57 [(0, .ref a_this), (1, .int x1), (2, .int x2), (3, .int x3), (4, .int x4), (6, .int x6)] [] [(a_this, .inr (5, [.int v_signs, .ref a_pad, .ref a_sort, .ref a_heir, .int v_generations, .ref a_was, .ref a_worth, .int v_toll, .ref a_rights, .ref a_ahead, .ref a_bound, .ref a_owner, .ref a_foundBound, .ref a_foundOwner, .int v_foundLeast, .int v_stops, .ref a_beside, .ref a_upward, .ref a_from, .ref a_queue, .ref a_image, .ref a_isKept])), (a_sort, gI g 120 f_sort), (a_worth, gI g 30 f_worth), (a_ahead, gI g 100 u1), (a_bound, gI g 4 f_bound), (a_owner, gI g 4 f_owner), (a_foundBound, gI g 4 f_foundBound), (a_foundOwner, gI g 4 f_foundOwner)]) (fun L57 x4 x6 v_foundLeast f_owner f_foundBound f_foundOwner hL57 hw => ?_) _ _ _ _ _ _ hw
          have hj118 : ∀ (x6 : Int32) (x7 : Int32) (v_foundLeast : Int32) (f_owner : (Nat → Int32)) (f_foundBound : (Nat → Int32)) (f_foundOwner : (Nat → Int32)), wj_X5_layCut_118 f_bound f_owner f_foundBound f_foundOwner x1 x6 x7 L57 → J l g A x 8 0 0 118 [(0, .ref a_this), (1, .int x1), (2, .int x2), (3, .int x3), (6, .int x6), (7, .int x7)] [] [(a_this, .inr (5, [.int v_signs, .ref a_pad, .ref a_sort, .ref a_heir, .int v_generations, .ref a_was, .ref a_worth, .int v_toll, .ref a_rights, .ref a_ahead, .ref a_bound, .ref a_owner, .ref a_foundBound, .ref a_foundOwner, .int v_foundLeast, .int v_stops, .ref a_beside, .ref a_upward, .ref a_from, .ref a_queue, .ref a_image, .ref a_isKept])), (a_sort, gI g 120 f_sort), (a_worth, gI g 30 f_worth), (a_ahead, gI g 100 u1), (a_bound, gI g 4 f_bound), (a_owner, gI g 4 f_owner), (a_foundBound, gI g 4 f_foundBound), (a_foundOwner, gI g 4 f_foundOwner)] := by
            intro x6 x7 v_foundLeast f_owner f_foundBound f_foundOwner hw
            refine j_iconst C 119 rfl dX5_layCut_118 (v := (1 : Int32)) (by decide) ?_
            refine j_istore C 121 rfl [1, 2, 3, 4, 0, 5, 6] (lv' := [(0, .ref a_this), (1, .int x1), (2, .int x2), (3, .int x3), (4, .int (1 : Int32)), (6, .int x6), (7, .int x7)]) dX5_layCut_119 (by decide) rfl ?_
            refine j_aload_n C 122 rfl 0 dX5_layCut_121 rfl rfl ?_
            refine j_iload C 124 rfl 6 dX5_layCut_122 rfl ?_
            refine j_put C 127 rfl 0 5 14 (ws' := [(a_this, .inr (5, [.int v_signs, .ref a_pad, .ref a_sort, .ref a_heir, .int v_generations, .ref a_was, .ref a_worth, .int v_toll, .ref a_rights, .ref a_ahead, .ref a_bound, .ref a_owner, .ref a_foundBound, .ref a_foundOwner, .int x7, .int v_stops, .ref a_beside, .ref a_upward, .ref a_from, .ref a_queue, .ref a_image, .ref a_isKept])), (a_sort, gI g 120 f_sort), (a_worth, gI g 30 f_worth), (a_ahead, gI g 100 u1), (a_bound, gI g 4 f_bound), (a_owner, gI g 4 f_owner), (a_foundBound, gI g 4 f_foundBound), (a_foundOwner, gI g 4 f_foundOwner)]) (T := TX5) (N := 22) (ty := .int) tyX5_ok nmX5 hi_X5_layCut_X5 rfl (by decide) (List.mem_of_getElem? (i := 2) rfl) rfl rfl rfl rfl rfl rfl (Nat.le_of_ble_eq_true rfl) rfl dX5_layCut_124 ?_
            refine j_aload_n C 128 rfl 0 dX5_layCut_127 rfl rfl ?_
            refine j_iload_n C 129 rfl 1 dX5_layCut_128 rfl rfl ?_
            refine j_rwv C 132 rfl (jc_V C (c_X5_keepCut l g a_this a_pad a_sort a_heir a_was a_worth a_rights a_ahead a_bound a_owner a_foundBound a_foundOwner a_beside a_upward a_from a_queue a_image a_isKept v_signs v_generations v_toll x7 v_stops f_bound f_owner f_foundBound f_foundOwner x1 _ hw) 1 gX5_layCut_X5_keepCut rfl rfl rfl hd_X5_keepCut ⟨Nat.le_of_ble_eq_true rfl, Nat.le_of_ble_eq_true rfl⟩ (j_rec C 0 5 rfl rfl) [0, 4, 5, 6, 7] rfl rfl (rest := []) rfl rfl (Nat.le_of_ble_eq_true rfl) dX5_layCut_129 ⟨Nat.le_refl _, Nat.le_refl _⟩) [0, 4, 5, 6, 7] [1, 2, 3] [3, 0, 1, 2, 4, 5, 6, 7] (wr := [(a_sort, gI g 120 f_sort), (a_worth, gI g 30 f_worth), (a_ahead, gI g 100 u1)]) (ws' := fun u => [(a_this, .inr (5, [.int v_signs, .ref a_pad, .ref a_sort, .ref a_heir, .int v_generations, .ref a_was, .ref a_worth, .int v_toll, .ref a_rights, .ref a_ahead, .ref a_bound, .ref a_owner, .ref a_foundBound, .ref a_foundOwner, .int x7, .int v_stops, .ref a_beside, .ref a_upward, .ref a_from, .ref a_queue, .ref a_image, .ref a_isKept])), (a_sort, gI g 120 f_sort), (a_worth, gI g 30 f_worth), (a_ahead, gI g 100 u1), (a_bound, gI g 4 f_bound), (a_owner, gI g 4 f_owner), (a_foundBound, gI g 4 (u.1)), (a_foundOwner, gI g 4 (u.2))]) rfl rfl rfl (by decide) rfl (fun _ => rfl) (fun u hw => ?_)
            obtain ⟨u16, u17⟩ := u
            try dsimp only at hw
            show J l g A x 8 0 0 132 [(0, .ref a_this), (1, .int x1), (2, .int x2), (3, .int x3), (4, .int (1 : Int32)), (6, .int x6), (7, .int x7)] [] [(a_this, .inr (5, [.int v_signs, .ref a_pad, .ref a_sort, .ref a_heir, .int v_generations, .ref a_was, .ref a_worth, .int v_toll, .ref a_rights, .ref a_ahead, .ref a_bound, .ref a_owner, .ref a_foundBound, .ref a_foundOwner, .int x7, .int v_stops, .ref a_beside, .ref a_upward, .ref a_from, .ref a_queue, .ref a_image, .ref a_isKept])), (a_sort, gI g 120 f_sort), (a_worth, gI g 30 f_worth), (a_ahead, gI g 100 u1), (a_bound, gI g 4 f_bound), (a_owner, gI g 4 f_owner), (a_foundBound, gI g 4 u16), (a_foundOwner, gI g 4 u17)]
            refine j_iinc C 135 rfl 5 [1, 2, 3, 4, 5, 0, 6] (v' := (1 : Int32)) (lv' := fun z => [(0, .ref a_this), (1, .int x1), (2, .int x2), (3, .int x3), (4, .int (1 : Int32)), (6, .int z), (7, .int x7)]) dX5_layCut_132 rfl (by decide) (by decide) (fun _ => rfl) (fun n18 en18 => ?_)
            have hw := hw n18 en18
            refine j_goto C 57 dX5_layCut_135 rfl ?_
            refine j_lv [0, 1, 2, 3, 4, 5] (lv' := [(0, .ref a_this), (1, .int x1), (2, .int x2), (3, .int x3), (4, .int (1 : Int32)), (6, .int n18)]) rfl ?_
            exact hL57 _ _ _ _ _ _ hw
          have hj72 : ∀ (x4 : Int32) (x6 : Int32) (v_foundLeast : Int32) (f_owner : (Nat → Int32)) (f_foundBound : (Nat → Int32)) (f_foundOwner : (Nat → Int32)), wj_X5_layCut_72 v_foundLeast u1 f_bound f_owner f_foundBound f_foundOwner x1 x2 x4 x6 L57 → J l g A x 8 0 0 72 [(0, .ref a_this), (1, .int x1), (2, .int x2), (3, .int x3), (4, .int x4), (6, .int x6)] [] [(a_this, .inr (5, [.int v_signs, .ref a_pad, .ref a_sort, .ref a_heir, .int v_generations, .ref a_was, .ref a_worth, .int v_toll, .ref a_rights, .ref a_ahead, .ref a_bound, .ref a_owner, .ref a_foundBound, .ref a_foundOwner, .int v_foundLeast, .int v_stops, .ref a_beside, .ref a_upward, .ref a_from, .ref a_queue, .ref a_image, .ref a_isKept])), (a_sort, gI g 120 f_sort), (a_worth, gI g 30 f_worth), (a_ahead, gI g 100 u1), (a_bound, gI g 4 f_bound), (a_owner, gI g 4 f_owner), (a_foundBound, gI g 4 f_foundBound), (a_foundOwner, gI g 4 f_foundOwner)] := by
            intro x4 x6 v_foundLeast f_owner f_foundBound f_foundOwner hw
            refine j_aload_n C 73 rfl 0 dX5_layCut_72 rfl rfl ?_
            refine j_iload C 75 rfl 5 dX5_layCut_73 rfl ?_
            refine j_iload_n C 76 rfl 1 dX5_layCut_75 rfl rfl ?_
            refine j_rwi C 79 rfl (jc_V C (c_X5_layOwners l g a_this a_pad a_sort a_heir a_was a_worth a_rights a_ahead a_bound a_owner a_foundBound a_foundOwner a_beside a_upward a_from a_queue a_image a_isKept v_signs v_generations v_toll v_foundLeast v_stops f_owner x6 x1 _ hw) 2 gX5_layCut_X5_layOwners rfl rfl rfl hd_X5_layOwners ⟨Nat.le_of_ble_eq_true rfl, Nat.le_of_ble_eq_true rfl⟩ (j_rec C 0 5 rfl rfl) [0, 5] rfl rfl (rest := []) rfl rfl (Nat.le_of_ble_eq_true rfl) dX5_layCut_76 ⟨Nat.le_refl _, Nat.le_refl _⟩) [0, 5] [1, 2, 3, 4, 6, 7] [6, 0, 1, 2, 3, 7, 4, 5] (wr := [(a_sort, gI g 120 f_sort), (a_worth, gI g 30 f_worth), (a_ahead, gI g 100 u1), (a_bound, gI g 4 f_bound), (a_foundBound, gI g 4 f_foundBound), (a_foundOwner, gI g 4 f_foundOwner)]) (ws' := fun u => [(a_this, .inr (5, [.int v_signs, .ref a_pad, .ref a_sort, .ref a_heir, .int v_generations, .ref a_was, .ref a_worth, .int v_toll, .ref a_rights, .ref a_ahead, .ref a_bound, .ref a_owner, .ref a_foundBound, .ref a_foundOwner, .int v_foundLeast, .int v_stops, .ref a_beside, .ref a_upward, .ref a_from, .ref a_queue, .ref a_image, .ref a_isKept])), (a_sort, gI g 120 f_sort), (a_worth, gI g 30 f_worth), (a_ahead, gI g 100 u1), (a_bound, gI g 4 f_bound), (a_owner, gI g 4 u), (a_foundBound, gI g 4 f_foundBound), (a_foundOwner, gI g 4 f_foundOwner)]) rfl rfl rfl (by decide) rfl (fun _ => rfl) (fun r19 u hw => ?_)
            obtain ⟨u20, eu20⟩ : ∃ z, z = u := ⟨_, rfl⟩
            subst eu20
            try dsimp only at hw
            show J l g A x 8 0 0 79 [(0, .ref a_this), (1, .int x1), (2, .int x2), (3, .int x3), (4, .int x4), (6, .int x6)] [.int r19] [(a_this, .inr (5, [.int v_signs, .ref a_pad, .ref a_sort, .ref a_heir, .int v_generations, .ref a_was, .ref a_worth, .int v_toll, .ref a_rights, .ref a_ahead, .ref a_bound, .ref a_owner, .ref a_foundBound, .ref a_foundOwner, .int v_foundLeast, .int v_stops, .ref a_beside, .ref a_upward, .ref a_from, .ref a_queue, .ref a_image, .ref a_isKept])), (a_sort, gI g 120 f_sort), (a_worth, gI g 30 f_worth), (a_ahead, gI g 100 u1), (a_bound, gI g 4 f_bound), (a_owner, gI g 4 u20), (a_foundBound, gI g 4 f_foundBound), (a_foundOwner, gI g 4 f_foundOwner)]
            refine j_if_eq C 82 rfl 132 dX5_layCut_79 rfl (fun c => ?_) (fun c => ?_)
            · have hw := hw.1 c
              refine j_iinc C 135 rfl 5 [1, 2, 3, 4, 5, 0] (v' := (1 : Int32)) (lv' := fun z => [(0, .ref a_this), (1, .int x1), (2, .int x2), (3, .int x3), (4, .int x4), (6, .int z)]) dX5_layCut_132 rfl (by decide) (by decide) (fun _ => rfl) (fun n21 en21 => ?_)
              have hw := hw n21 en21
              refine j_goto C 57 dX5_layCut_135 rfl ?_
              exact hL57 _ _ _ _ _ _ hw
            · have hw := hw.2 c
              refine j_aload_n C 83 rfl 0 dX5_layCut_82 rfl rfl ?_
              refine j_iload_n C 84 rfl 1 dX5_layCut_83 rfl rfl ?_
              refine j_ri C 87 rfl (jc_V C (c_X5_leastShare l g a_this a_pad a_sort a_heir a_was a_worth a_rights a_ahead a_bound a_owner a_foundBound a_foundOwner a_beside a_upward a_from a_queue a_image a_isKept v_signs v_generations v_toll v_foundLeast v_stops u1 f_bound u20 x1 _ hw) 1 gX5_layCut_X5_leastShare rfl rfl rfl hd_X5_leastShare ⟨Nat.le_of_ble_eq_true rfl, Nat.le_of_ble_eq_true rfl⟩ (j_rec C 0 5 rfl rfl) [0, 3, 4, 5] rfl rfl (rest := []) rfl rfl (Nat.le_of_ble_eq_true rfl) dX5_layCut_84 ⟨Nat.le_refl _, Nat.le_refl _⟩) [0, 3, 4, 5] rfl (fun _ => rfl) (fun r22 _ hw => ?_)
              try dsimp only at hw
              refine j_istore C 89 rfl [1, 2, 3, 4, 5, 6, 0] (lv' := [(0, .ref a_this), (1, .int x1), (2, .int x2), (3, .int x3), (4, .int x4), (6, .int x6), (7, .int r22)]) dX5_layCut_87 (by decide) rfl ?_
              refine j_iload_n C 90 rfl 2 dX5_layCut_89 rfl rfl ?_
              refine j_if_eq C 93 rfl 104 dX5_layCut_90 rfl (fun c => ?_) (fun c => ?_)
              · have hw := hw.1 c
                refine j_iload C 106 rfl 4 dX5_layCut_104 rfl ?_
                refine j_if_eq C 109 rfl 118 dX5_layCut_106 rfl (fun c => ?_) (fun c => ?_)
                · have hw := hw.1 c
                  refine j_lv [0, 1, 2, 3, 5, 6] (lv' := [(0, .ref a_this), (1, .int x1), (2, .int x2), (3, .int x3), (6, .int x6), (7, .int r22)]) rfl ?_
                  exact hj118 _ _ _ _ _ _ hw
                · have hw := hw.2 c
                  refine j_iload C 111 rfl 6 dX5_layCut_109 rfl ?_
                  refine j_aload_n C 112 rfl 0 dX5_layCut_111 rfl rfl ?_
                  refine j_get C 115 rfl 0 5 14 (T := TX5) (N := 22) hi_X5_layCut_X5 rfl (by decide) (List.mem_of_getElem? (i := 2) rfl) rfl rfl rfl dX5_layCut_112 ?_
                  refine j_icmp_le C 118 rfl 132 dX5_layCut_115 rfl (fun c => ?_) (fun c => ?_)
                  · have hw := hw.1 c
                    refine j_iinc C 135 rfl 5 [1, 2, 3, 4, 5, 0, 6] (v' := (1 : Int32)) (lv' := fun z => [(0, .ref a_this), (1, .int x1), (2, .int x2), (3, .int x3), (4, .int x4), (6, .int z), (7, .int r22)]) dX5_layCut_132 rfl (by decide) (by decide) (fun _ => rfl) (fun n23 en23 => ?_)
                    have hw := hw n23 en23
                    refine j_goto C 57 dX5_layCut_135 rfl ?_
                    refine j_lv [0, 1, 2, 3, 4, 5] (lv' := [(0, .ref a_this), (1, .int x1), (2, .int x2), (3, .int x3), (4, .int x4), (6, .int n23)]) rfl ?_
                    exact hL57 _ _ _ _ _ _ hw
                  · have hw := hw.2 c
                    refine j_lv [0, 1, 2, 3, 5, 6] (lv' := [(0, .ref a_this), (1, .int x1), (2, .int x2), (3, .int x3), (6, .int x6), (7, .int r22)]) rfl ?_
                    exact hj118 _ _ _ _ _ _ hw
              · have hw := hw.2 c
                refine j_aload_n C 94 rfl 0 dX5_layCut_93 rfl rfl ?_
                refine j_iload_n C 95 rfl 1 dX5_layCut_94 rfl rfl ?_
                refine j_ri C 98 rfl (jc_V C (c_X5_isFair l g a_this a_pad a_sort a_heir a_was a_worth a_rights a_ahead a_bound a_owner a_foundBound a_foundOwner a_beside a_upward a_from a_queue a_image a_isKept v_signs v_generations v_toll v_foundLeast v_stops u1 f_bound u20 x1 _ hw) 1 gX5_layCut_X5_isFair rfl rfl rfl hd_X5_isFair ⟨Nat.le_of_ble_eq_true rfl, Nat.le_of_ble_eq_true rfl⟩ (j_rec C 0 5 rfl rfl) [0, 3, 4, 5] rfl rfl (rest := []) rfl rfl (Nat.le_of_ble_eq_true rfl) dX5_layCut_95 ⟨Nat.le_refl _, Nat.le_refl _⟩) [0, 3, 4, 5] rfl (fun _ => rfl) (fun r24 _ hw => ?_)
                try dsimp only at hw
                refine j_if_eq C 101 rfl 132 dX5_layCut_98 rfl (fun c => ?_) (fun c => ?_)
                · have hw := hw.1 c
                  refine j_iinc C 135 rfl 5 [1, 2, 3, 4, 5, 0, 6] (v' := (1 : Int32)) (lv' := fun z => [(0, .ref a_this), (1, .int x1), (2, .int x2), (3, .int x3), (4, .int x4), (6, .int z), (7, .int r22)]) dX5_layCut_132 rfl (by decide) (by decide) (fun _ => rfl) (fun n25 en25 => ?_)
                  have hw := hw n25 en25
                  refine j_goto C 57 dX5_layCut_135 rfl ?_
                  refine j_lv [0, 1, 2, 3, 4, 5] (lv' := [(0, .ref a_this), (1, .int x1), (2, .int x2), (3, .int x3), (4, .int x4), (6, .int n25)]) rfl ?_
                  exact hL57 _ _ _ _ _ _ hw
                · have hw := hw.2 c
                  refine j_goto C 118 dX5_layCut_101 rfl ?_
                  refine j_lv [0, 1, 2, 3, 5, 6] (lv' := [(0, .ref a_this), (1, .int x1), (2, .int x2), (3, .int x3), (6, .int x6), (7, .int r22)]) rfl ?_
                  exact hj118 _ _ _ _ _ _ hw
          refine j_iload C 59 rfl 5 dX5_layCut_57 rfl ?_
          refine j_iload_n C 60 rfl 3 dX5_layCut_59 rfl rfl ?_
          refine j_icmp_ge C 63 rfl 138 dX5_layCut_60 rfl (fun c => ?_) (fun c => ?_)
          · have hw := hw.1 c
            refine j_aload_n C 139 rfl 0 dX5_layCut_138 rfl rfl ?_
            refine j_iload_n C 140 rfl 1 dX5_layCut_139 rfl rfl ?_
            refine j_rwi C 143 rfl (jc_V C (c_X5_nextBounds l g a_this a_pad a_sort a_heir a_was a_worth a_rights a_ahead a_bound a_owner a_foundBound a_foundOwner a_beside a_upward a_from a_queue a_image a_isKept v_signs v_generations v_toll v_foundLeast v_stops f_bound x1 _ hw) 1 gX5_layCut_X5_nextBounds rfl rfl rfl hd_X5_nextBounds ⟨Nat.le_of_ble_eq_true rfl, Nat.le_of_ble_eq_true rfl⟩ (j_rec C 0 5 rfl rfl) [0, 4] rfl rfl (rest := []) rfl rfl (Nat.le_of_ble_eq_true rfl) dX5_layCut_140 ⟨Nat.le_refl _, Nat.le_refl _⟩) [0, 4] [1, 2, 3, 5, 6, 7] [6, 0, 1, 2, 7, 3, 4, 5] (wr := [(a_sort, gI g 120 f_sort), (a_worth, gI g 30 f_worth), (a_ahead, gI g 100 u1), (a_owner, gI g 4 f_owner), (a_foundBound, gI g 4 f_foundBound), (a_foundOwner, gI g 4 f_foundOwner)]) (ws' := fun u => [(a_this, .inr (5, [.int v_signs, .ref a_pad, .ref a_sort, .ref a_heir, .int v_generations, .ref a_was, .ref a_worth, .int v_toll, .ref a_rights, .ref a_ahead, .ref a_bound, .ref a_owner, .ref a_foundBound, .ref a_foundOwner, .int v_foundLeast, .int v_stops, .ref a_beside, .ref a_upward, .ref a_from, .ref a_queue, .ref a_image, .ref a_isKept])), (a_sort, gI g 120 f_sort), (a_worth, gI g 30 f_worth), (a_ahead, gI g 100 u1), (a_bound, gI g 4 u), (a_owner, gI g 4 f_owner), (a_foundBound, gI g 4 f_foundBound), (a_foundOwner, gI g 4 f_foundOwner)]) rfl rfl rfl (by decide) rfl (fun _ => rfl) (fun r26 u hw => ?_)
            obtain ⟨u27, eu27⟩ : ∃ z, z = u := ⟨_, rfl⟩
            subst eu27
            try dsimp only at hw
            show J l g A x 8 0 0 143 [(0, .ref a_this), (1, .int x1), (2, .int x2), (3, .int x3), (4, .int x4), (6, .int x6)] [.int r26] [(a_this, .inr (5, [.int v_signs, .ref a_pad, .ref a_sort, .ref a_heir, .int v_generations, .ref a_was, .ref a_worth, .int v_toll, .ref a_rights, .ref a_ahead, .ref a_bound, .ref a_owner, .ref a_foundBound, .ref a_foundOwner, .int v_foundLeast, .int v_stops, .ref a_beside, .ref a_upward, .ref a_from, .ref a_queue, .ref a_image, .ref a_isKept])), (a_sort, gI g 120 f_sort), (a_worth, gI g 30 f_worth), (a_ahead, gI g 100 u1), (a_bound, gI g 4 u27), (a_owner, gI g 4 f_owner), (a_foundBound, gI g 4 f_foundBound), (a_foundOwner, gI g 4 f_foundOwner)]
            refine j_istore C 145 rfl [1, 2, 3, 4, 5, 0, 6] (lv' := [(0, .ref a_this), (1, .int x1), (2, .int x2), (3, .int x3), (4, .int x4), (5, .int r26), (6, .int x6)]) dX5_layCut_143 (by decide) rfl ?_
            refine j_goto C 40 dX5_layCut_145 rfl ?_
            refine j_lv [0, 1, 2, 3, 4, 5] (lv' := [(0, .ref a_this), (1, .int x1), (2, .int x2), (3, .int x3), (4, .int x4), (5, .int r26)]) rfl ?_
            exact hL40 _ _ _ _ _ _ _ hw
          · have hw := hw.2 c
            refine j_iload_n C 64 rfl 2 dX5_layCut_63 rfl rfl ?_
            refine j_if_eq C 67 rfl 72 dX5_layCut_64 rfl (fun c => ?_) (fun c => ?_)
            · have hw := hw.1 c
              exact hj72 _ _ _ _ _ _ hw
            · have hw := hw.2 c
              refine j_iload C 69 rfl 4 dX5_layCut_67 rfl ?_
              refine j_if_ne C 72 rfl 138 dX5_layCut_69 rfl (fun c => ?_) (fun c => ?_)
              · have hw := hw.1 c
                refine j_aload_n C 139 rfl 0 dX5_layCut_138 rfl rfl ?_
                refine j_iload_n C 140 rfl 1 dX5_layCut_139 rfl rfl ?_
                refine j_rwi C 143 rfl (jc_V C (c_X5_nextBounds l g a_this a_pad a_sort a_heir a_was a_worth a_rights a_ahead a_bound a_owner a_foundBound a_foundOwner a_beside a_upward a_from a_queue a_image a_isKept v_signs v_generations v_toll v_foundLeast v_stops f_bound x1 _ hw) 1 gX5_layCut_X5_nextBounds rfl rfl rfl hd_X5_nextBounds ⟨Nat.le_of_ble_eq_true rfl, Nat.le_of_ble_eq_true rfl⟩ (j_rec C 0 5 rfl rfl) [0, 4] rfl rfl (rest := []) rfl rfl (Nat.le_of_ble_eq_true rfl) dX5_layCut_140 ⟨Nat.le_refl _, Nat.le_refl _⟩) [0, 4] [1, 2, 3, 5, 6, 7] [6, 0, 1, 2, 7, 3, 4, 5] (wr := [(a_sort, gI g 120 f_sort), (a_worth, gI g 30 f_worth), (a_ahead, gI g 100 u1), (a_owner, gI g 4 f_owner), (a_foundBound, gI g 4 f_foundBound), (a_foundOwner, gI g 4 f_foundOwner)]) (ws' := fun u => [(a_this, .inr (5, [.int v_signs, .ref a_pad, .ref a_sort, .ref a_heir, .int v_generations, .ref a_was, .ref a_worth, .int v_toll, .ref a_rights, .ref a_ahead, .ref a_bound, .ref a_owner, .ref a_foundBound, .ref a_foundOwner, .int v_foundLeast, .int v_stops, .ref a_beside, .ref a_upward, .ref a_from, .ref a_queue, .ref a_image, .ref a_isKept])), (a_sort, gI g 120 f_sort), (a_worth, gI g 30 f_worth), (a_ahead, gI g 100 u1), (a_bound, gI g 4 u), (a_owner, gI g 4 f_owner), (a_foundBound, gI g 4 f_foundBound), (a_foundOwner, gI g 4 f_foundOwner)]) rfl rfl rfl (by decide) rfl (fun _ => rfl) (fun r28 u hw => ?_)
                obtain ⟨u29, eu29⟩ : ∃ z, z = u := ⟨_, rfl⟩
                subst eu29
                try dsimp only at hw
                show J l g A x 8 0 0 143 [(0, .ref a_this), (1, .int x1), (2, .int x2), (3, .int x3), (4, .int x4), (6, .int x6)] [.int r28] [(a_this, .inr (5, [.int v_signs, .ref a_pad, .ref a_sort, .ref a_heir, .int v_generations, .ref a_was, .ref a_worth, .int v_toll, .ref a_rights, .ref a_ahead, .ref a_bound, .ref a_owner, .ref a_foundBound, .ref a_foundOwner, .int v_foundLeast, .int v_stops, .ref a_beside, .ref a_upward, .ref a_from, .ref a_queue, .ref a_image, .ref a_isKept])), (a_sort, gI g 120 f_sort), (a_worth, gI g 30 f_worth), (a_ahead, gI g 100 u1), (a_bound, gI g 4 u29), (a_owner, gI g 4 f_owner), (a_foundBound, gI g 4 f_foundBound), (a_foundOwner, gI g 4 f_foundOwner)]
                refine j_istore C 145 rfl [1, 2, 3, 4, 5, 0, 6] (lv' := [(0, .ref a_this), (1, .int x1), (2, .int x2), (3, .int x3), (4, .int x4), (5, .int r28), (6, .int x6)]) dX5_layCut_143 (by decide) rfl ?_
                refine j_goto C 40 dX5_layCut_145 rfl ?_
                refine j_lv [0, 1, 2, 3, 4, 5] (lv' := [(0, .ref a_this), (1, .int x1), (2, .int x2), (3, .int x3), (4, .int x4), (5, .int r28)]) rfl ?_
                exact hL40 _ _ _ _ _ _ _ hw
              · have hw := hw.2 c
                exact hj72 _ _ _ _ _ _ hw
  · have hw := hw.2 c
    refine j_aload_n C 16 rfl 0 dX5_layCut_15 rfl rfl ?_
    refine j_get C 19 rfl 0 5 10 (T := TX5) (N := 22) hi_X5_layCut_X5 rfl (by decide) (List.mem_of_getElem? (i := 1) rfl) rfl rfl rfl dX5_layCut_16 ?_
    refine j_iload C 21 rfl 4 dX5_layCut_19 rfl ?_
    refine j_iload C 23 rfl 4 dX5_layCut_21 rfl ?_
    obtain ⟨k30, ek30, hk30, hw⟩ := hw
    refine j_iast C 24 rfl 4 k30 (ws' := [(a_this, .inr (5, [.int v_signs, .ref a_pad, .ref a_sort, .ref a_heir, .int v_generations, .ref a_was, .ref a_worth, .int v_toll, .ref a_rights, .ref a_ahead, .ref a_bound, .ref a_owner, .ref a_foundBound, .ref a_foundOwner, .int v_foundLeast, .int v_stops, .ref a_beside, .ref a_upward, .ref a_from, .ref a_queue, .ref a_image, .ref a_isKept])), (a_sort, gI g 120 f_sort), (a_worth, gI g 30 f_worth), (a_ahead, gI g 100 u1), (a_bound, gI g 4 (upd f_bound k30 x4)), (a_owner, gI g 4 f_owner), (a_foundBound, gI g 4 f_foundBound), (a_foundOwner, gI g 4 f_foundOwner)]) rfl ek30 hk30 (by decide) rfl dX5_layCut_23 ?_
    refine j_iload_n C 25 rfl 3 dX5_layCut_24 rfl rfl ?_
    refine j_iload_n C 26 rfl 1 dX5_layCut_25 rfl rfl ?_
    refine j_imul C 27 rfl dX5_layCut_26 ?_
    refine j_top (fun n31 en31 => ?_)
    have hw := hw n31 en31
    refine j_istore_n C 28 rfl [1, 2, 3, 0, 4] (lv' := [(0, .ref a_this), (1, .int x1), (2, .int x2), (3, .int n31), (4, .int x4)]) dX5_layCut_27 rfl (by decide) rfl ?_
    refine j_iinc C 31 rfl 4 [1, 2, 3, 4, 0] (v' := (1 : Int32)) (lv' := fun z => [(0, .ref a_this), (1, .int x1), (2, .int x2), (3, .int n31), (4, .int z)]) dX5_layCut_28 rfl (by decide) (by decide) (fun _ => rfl) (fun n32 en32 => ?_)
    have hw := hw n32 en32
    refine j_goto C 9 dX5_layCut_31 rfl ?_
    exact hL9 _ _ _ hw
theorem hi_X5_toldCut_X5 : ∀ w ∈ wsX50, w ∈ wsX5_toldCut := fun _ h => List.mem_cons_of_mem _ (List.mem_append_right _ h)
set_option maxRecDepth 20000 in
set_option maxHeartbeats 4000000 in
theorem c_X5_toldCut (l : Launch) (g : gE) (a_this a_pad a_sort a_heir a_was a_worth a_rights a_ahead a_bound a_owner a_foundBound a_foundOwner a_beside a_upward a_from a_queue a_image a_isKept : Nat) (v_signs : Int32) (v_generations : Int32) (v_toll : Int32) (v_foundLeast : Int32) (v_stops : Int32) (f_foundBound : (Nat → Int32)) (f_foundOwner : (Nat → Int32)) (x1 : Int32) (x2 : Int32) (x3 : Int32) (x4 : Int32)  (K : Int32 → Prop) (hw : wp_X5_toldCut f_foundBound f_foundOwner x1 x2 x3 x4 K) : Ci l g yX5_toldCut wsX5_toldCut { frames := 1, cells := 0, slots := 0, locals := 22 } [.ref a_this, .int x1, .int x2, .int x3, .int x4] [(a_this, .inr (5, [.int v_signs, .ref a_pad, .ref a_sort, .ref a_heir, .int v_generations, .ref a_was, .ref a_worth, .int v_toll, .ref a_rights, .ref a_ahead, .ref a_bound, .ref a_owner, .ref a_foundBound, .ref a_foundOwner, .int v_foundLeast, .int v_stops, .ref a_beside, .ref a_upward, .ref a_from, .ref a_queue, .ref a_image, .ref a_isKept])), (a_foundBound, gI g 4 f_foundBound), (a_foundOwner, gI g 4 f_foundOwner)] (fun (r : Int32) (_ : Unit) => K r) (fun (_ : Unit) => [(a_this, .inr (5, [.int v_signs, .ref a_pad, .ref a_sort, .ref a_heir, .int v_generations, .ref a_was, .ref a_worth, .int v_toll, .ref a_rights, .ref a_ahead, .ref a_bound, .ref a_owner, .ref a_foundBound, .ref a_foundOwner, .int v_foundLeast, .int v_stops, .ref a_beside, .ref a_upward, .ref a_from, .ref a_queue, .ref a_image, .ref a_isKept])), (a_foundBound, gI g 4 f_foundBound), (a_foundOwner, gI g 4 f_foundOwner)]) 0 0 := by
  refine Ci_of (cc := cX5_toldCut) (nL := 5) (ret := (some .int)) (own := RX5) (lv0 := [(0, .ref a_this), (1, .int x1), (2, .int x2), (3, .int x3), (4, .int x4)]) (by decide +kernel) rfl rfl (Nat.le_of_ble_eq_true rfl) rfl (fun A x C R => ?_)
  refine j_iload_n C 1 rfl 3 dX5_toldCut_0 rfl rfl ?_
  refine j_if_ne C 4 rfl 7 dX5_toldCut_1 rfl (fun c => ?_) (fun c => ?_)
  · have hw := hw.1 c
    refine j_iload_n C 8 rfl 2 dX5_toldCut_7 rfl rfl ?_
    refine j_iconst C 9 rfl dX5_toldCut_8 (v := (-1 : Int32)) (by decide) ?_
    refine j_icmp_ne C 12 rfl 17 dX5_toldCut_9 rfl (fun c => ?_) (fun c => ?_)
    · have hw := hw.1 c
      refine j_iload_n C 18 rfl 2 dX5_toldCut_17 rfl rfl ?_
      refine j_iconst C 19 rfl dX5_toldCut_18 (v := (0 : Int32)) (by decide) ?_
      refine j_iload_n C 20 rfl 1 dX5_toldCut_19 rfl rfl ?_
      refine j_iconst C 21 rfl dX5_toldCut_20 (v := (1 : Int32)) (by decide) ?_
      refine j_isub C 22 rfl dX5_toldCut_21 ?_
      refine j_top (fun n1 en1 => ?_)
      have hw := hw n1 en1
      refine j_ri C 25 rfl (jc_S C (c_X5_in l g x2 (0 : Int32) n1 _ hw) 3 gX5_toldCut_X5_in rfl rfl rfl hd_X5_in ⟨Nat.le_of_ble_eq_true rfl, Nat.le_of_ble_eq_true rfl⟩ [] rfl rfl (rest := []) rfl rfl (Nat.le_of_ble_eq_true rfl) dX5_toldCut_22 ⟨Nat.le_refl _, Nat.le_refl _⟩) [] rfl (fun _ => rfl) (fun r2 _ hw => ?_)
      try dsimp only at hw
      refine j_if_eq C 28 rfl 37 dX5_toldCut_25 rfl (fun c => ?_) (fun c => ?_)
      · have hw := hw.1 c
        refine j_iload_n C 38 rfl 2 dX5_toldCut_37 rfl rfl ?_
        refine j_bipush C 40 rfl dX5_toldCut_38 (v := (10 : Int32)) (by decide) ?_
        refine j_bipush C 42 rfl dX5_toldCut_40 (v := (9 : Int32)) (by decide) ?_
        refine j_iload_n C 43 rfl 1 dX5_toldCut_42 rfl rfl ?_
        refine j_iadd C 44 rfl dX5_toldCut_43 ?_
        refine j_top (fun n3 en3 => ?_)
        have hw := hw n3 en3
        refine j_ri C 47 rfl (jc_S C (c_X5_in l g x2 (10 : Int32) n3 _ hw) 3 gX5_toldCut_X5_in rfl rfl rfl hd_X5_in ⟨Nat.le_of_ble_eq_true rfl, Nat.le_of_ble_eq_true rfl⟩ [] rfl rfl (rest := []) rfl rfl (Nat.le_of_ble_eq_true rfl) dX5_toldCut_44 ⟨Nat.le_refl _, Nat.le_refl _⟩) [] rfl (fun _ => rfl) (fun r4 _ hw => ?_)
        try dsimp only at hw
        refine j_if_eq C 50 rfl 62 dX5_toldCut_47 rfl (fun c => ?_) (fun c => ?_)
        · have hw := hw.1 c
          refine j_bipush C 64 rfl dX5_toldCut_62 (v := (-6 : Int32)) (by decide) ?_
          exact j_iret C R () rfl dX5_toldCut_64 rfl hw
        · have hw := hw.2 c
          refine j_aload_n C 51 rfl 0 dX5_toldCut_50 rfl rfl ?_
          refine j_get C 54 rfl 0 5 13 (T := TX5) (N := 22) hi_X5_toldCut_X5 rfl (by decide) (List.mem_of_getElem? (i := 2) rfl) rfl rfl rfl dX5_toldCut_51 ?_
          refine j_iload_n C 55 rfl 2 dX5_toldCut_54 rfl rfl ?_
          refine j_bipush C 57 rfl dX5_toldCut_55 (v := (10 : Int32)) (by decide) ?_
          refine j_isub C 58 rfl dX5_toldCut_57 ?_
          obtain ⟨k5, ek5, hk5, hw⟩ := hw
          refine j_iald C 59 rfl 2 k5 rfl ek5 hk5 (by decide) dX5_toldCut_58 ?_
          refine j_goto C 64 dX5_toldCut_59 rfl ?_
          exact j_iret C R () rfl dX5_toldCut_64 rfl hw
      · have hw := hw.2 c
        refine j_aload_n C 29 rfl 0 dX5_toldCut_28 rfl rfl ?_
        refine j_get C 32 rfl 0 5 12 (T := TX5) (N := 22) hi_X5_toldCut_X5 rfl (by decide) (List.mem_of_getElem? (i := 1) rfl) rfl rfl rfl dX5_toldCut_29 ?_
        refine j_iload_n C 33 rfl 2 dX5_toldCut_32 rfl rfl ?_
        obtain ⟨k6, ek6, hk6, hw⟩ := hw
        refine j_iald C 34 rfl 1 k6 rfl ek6 hk6 (by decide) dX5_toldCut_33 ?_
        refine j_goto C 64 dX5_toldCut_34 rfl ?_
        exact j_iret C R () rfl dX5_toldCut_64 rfl hw
    · have hw := hw.2 c
      refine j_iload C 14 rfl 4 dX5_toldCut_12 rfl ?_
      refine j_goto C 64 dX5_toldCut_14 rfl ?_
      exact j_iret C R () rfl dX5_toldCut_64 rfl hw
  · have hw := hw.2 c
    refine j_bipush C 6 rfl dX5_toldCut_4 (v := (-6 : Int32)) (by decide) ?_
    exact j_iret C R () rfl dX5_toldCut_6 rfl hw
set_option maxRecDepth 20000 in
set_option maxHeartbeats 4000000 in
theorem c_X5_fair (l : Launch) (g : gE) (a_this a_pad a_sort a_heir a_was a_worth a_rights a_ahead a_bound a_owner a_foundBound a_foundOwner a_beside a_upward a_from a_queue a_image a_isKept : Nat) (v_signs : Int32) (v_generations : Int32) (v_toll : Int32) (v_foundLeast : Int32) (v_stops : Int32) (f_sort : (Nat → Int32)) (f_worth : (Nat → Int32)) (f_ahead : (Nat → Int32)) (f_bound : (Nat → Int32)) (f_owner : (Nat → Int32)) (f_foundBound : (Nat → Int32)) (f_foundOwner : (Nat → Int32)) (x1 : Int32) (x2 : Int32)  (K : Int32 → Int32 → (Nat → Int32) → (Nat → Int32) → (Nat → Int32) → (Nat → Int32) → (Nat → Int32) → Prop) (hw : wp_X5_fair v_foundLeast f_sort f_worth f_ahead f_bound f_owner f_foundBound f_foundOwner x1 x2 K) : Ci l g yX5_fair wsX5_fair { frames := 4, cells := 0, slots := 0, locals := 93 } [.ref a_this, .int x1, .int x2] [(a_this, .inr (5, [.int v_signs, .ref a_pad, .ref a_sort, .ref a_heir, .int v_generations, .ref a_was, .ref a_worth, .int v_toll, .ref a_rights, .ref a_ahead, .ref a_bound, .ref a_owner, .ref a_foundBound, .ref a_foundOwner, .int v_foundLeast, .int v_stops, .ref a_beside, .ref a_upward, .ref a_from, .ref a_queue, .ref a_image, .ref a_isKept])), (a_sort, gI g 120 f_sort), (a_worth, gI g 30 f_worth), (a_ahead, gI g 100 f_ahead), (a_bound, gI g 4 f_bound), (a_owner, gI g 4 f_owner), (a_foundBound, gI g 4 f_foundBound), (a_foundOwner, gI g 4 f_foundOwner)] (fun (r : Int32) (u : Int32 × (Nat → Int32) × (Nat → Int32) × (Nat → Int32) × (Nat → Int32) × (Nat → Int32)) => K r u.1 u.2.1 u.2.2.1 u.2.2.2.1 u.2.2.2.2.1 u.2.2.2.2.2) (fun (u : Int32 × (Nat → Int32) × (Nat → Int32) × (Nat → Int32) × (Nat → Int32) × (Nat → Int32)) => [(a_this, .inr (5, [.int v_signs, .ref a_pad, .ref a_sort, .ref a_heir, .int v_generations, .ref a_was, .ref a_worth, .int v_toll, .ref a_rights, .ref a_ahead, .ref a_bound, .ref a_owner, .ref a_foundBound, .ref a_foundOwner, .int (u.1), .int v_stops, .ref a_beside, .ref a_upward, .ref a_from, .ref a_queue, .ref a_image, .ref a_isKept])), (a_sort, gI g 120 f_sort), (a_worth, gI g 30 f_worth), (a_ahead, gI g 100 (u.2.1)), (a_bound, gI g 4 (u.2.2.1)), (a_owner, gI g 4 (u.2.2.2.1)), (a_foundBound, gI g 4 (u.2.2.2.2.1)), (a_foundOwner, gI g 4 (u.2.2.2.2.2))]) 0 0 := by
  refine Ci_of (cc := cX5_fair) (nL := 3) (ret := (some .int)) (own := RX5) (lv0 := [(0, .ref a_this), (1, .int x1), (2, .int x2)]) (by decide +kernel) rfl rfl (Nat.le_of_ble_eq_true rfl) rfl (fun A x C R => ?_)
  refine j_iload_n C 1 rfl 1 dX5_fair_0 rfl rfl ?_
  refine j_iconst C 2 rfl dX5_fair_1 (v := (2 : Int32)) (by decide) ?_
  refine j_iconst C 3 rfl dX5_fair_2 (v := (4 : Int32)) (by decide) ?_
  refine j_ri C 6 rfl (jc_S C (c_X5_in l g x1 (2 : Int32) (4 : Int32) _ hw) 3 gX5_fair_X5_in rfl rfl rfl hd_X5_in ⟨Nat.le_of_ble_eq_true rfl, Nat.le_of_ble_eq_true rfl⟩ [] rfl rfl (rest := []) rfl rfl (Nat.le_of_ble_eq_true rfl) dX5_fair_3 ⟨Nat.le_refl _, Nat.le_refl _⟩) [] rfl (fun _ => rfl) (fun r1 _ hw => ?_)
  try dsimp only at hw
  refine j_if_eq C 9 rfl 25 dX5_fair_6 rfl (fun c => ?_) (fun c => ?_)
  · have hw := hw.1 c
    refine j_bipush C 27 rfl dX5_fair_25 (v := (-2 : Int32)) (by decide) ?_
    exact j_iret C R (v_foundLeast, f_ahead, f_bound, f_owner, f_foundBound, f_foundOwner) rfl dX5_fair_27 rfl hw
  · have hw := hw.2 c
    refine j_aload_n C 10 rfl 0 dX5_fair_9 rfl rfl ?_
    refine j_iload_n C 11 rfl 1 dX5_fair_10 rfl rfl ?_
    refine j_iload_n C 12 rfl 2 dX5_fair_11 rfl rfl ?_
    refine j_aload_n C 13 rfl 0 dX5_fair_12 rfl rfl ?_
    refine j_iload_n C 14 rfl 1 dX5_fair_13 rfl rfl ?_
    refine j_iconst C 15 rfl dX5_fair_14 (v := (1 : Int32)) (by decide) ?_
    refine j_rwi C 18 rfl (jc_V C (c_X5_layCut l g a_this a_pad a_sort a_heir a_was a_worth a_rights a_ahead a_bound a_owner a_foundBound a_foundOwner a_beside a_upward a_from a_queue a_image a_isKept v_signs v_generations v_toll v_foundLeast v_stops f_sort f_worth f_ahead f_bound f_owner f_foundBound f_foundOwner x1 (1 : Int32) _ hw) 2 gX5_fair_X5_layCut rfl rfl rfl hd_X5_layCut ⟨Nat.le_of_ble_eq_true rfl, Nat.le_of_ble_eq_true rfl⟩ (j_rec C 0 5 rfl rfl) [0, 1, 2, 3, 4, 5, 6, 7] rfl rfl (rest := [.int x2, .int x1, .ref a_this]) rfl rfl (Nat.le_of_ble_eq_true rfl) dX5_fair_15 ⟨Nat.le_refl _, Nat.le_refl _⟩) [0, 1, 2, 3, 4, 5, 6, 7] [] [0, 1, 2, 3, 4, 5, 6, 7] (wr := []) (ws' := fun u => [(a_this, .inr (5, [.int v_signs, .ref a_pad, .ref a_sort, .ref a_heir, .int v_generations, .ref a_was, .ref a_worth, .int v_toll, .ref a_rights, .ref a_ahead, .ref a_bound, .ref a_owner, .ref a_foundBound, .ref a_foundOwner, .int (u.1), .int v_stops, .ref a_beside, .ref a_upward, .ref a_from, .ref a_queue, .ref a_image, .ref a_isKept])), (a_sort, gI g 120 f_sort), (a_worth, gI g 30 f_worth), (a_ahead, gI g 100 (u.2.1)), (a_bound, gI g 4 (u.2.2.1)), (a_owner, gI g 4 (u.2.2.2.1)), (a_foundBound, gI g 4 (u.2.2.2.2.1)), (a_foundOwner, gI g 4 (u.2.2.2.2.2))]) rfl rfl rfl (by decide) rfl (fun _ => rfl) (fun r2 u hw => ?_)
    obtain ⟨u3, u4, u5, u6, u7, u8⟩ := u
    try dsimp only at hw
    show J l g A x 3 0 0 18 [(0, .ref a_this), (1, .int x1), (2, .int x2)] [.int r2, .int x2, .int x1, .ref a_this] [(a_this, .inr (5, [.int v_signs, .ref a_pad, .ref a_sort, .ref a_heir, .int v_generations, .ref a_was, .ref a_worth, .int v_toll, .ref a_rights, .ref a_ahead, .ref a_bound, .ref a_owner, .ref a_foundBound, .ref a_foundOwner, .int u3, .int v_stops, .ref a_beside, .ref a_upward, .ref a_from, .ref a_queue, .ref a_image, .ref a_isKept])), (a_sort, gI g 120 f_sort), (a_worth, gI g 30 f_worth), (a_ahead, gI g 100 u4), (a_bound, gI g 4 u5), (a_owner, gI g 4 u6), (a_foundBound, gI g 4 u7), (a_foundOwner, gI g 4 u8)]
    refine j_iconst C 19 rfl dX5_fair_18 (v := (1 : Int32)) (by decide) ?_
    refine j_ri C 22 rfl (jc_V C (c_X5_toldCut l g a_this a_pad a_sort a_heir a_was a_worth a_rights a_ahead a_bound a_owner a_foundBound a_foundOwner a_beside a_upward a_from a_queue a_image a_isKept v_signs v_generations v_toll u3 v_stops u7 u8 x1 x2 r2 (1 : Int32) _ hw) 4 gX5_fair_X5_toldCut rfl rfl rfl hd_X5_toldCut ⟨Nat.le_of_ble_eq_true rfl, Nat.le_of_ble_eq_true rfl⟩ (j_rec C 0 5 rfl rfl) [0, 6, 7] rfl rfl (rest := []) rfl rfl (Nat.le_of_ble_eq_true rfl) dX5_fair_19 ⟨Nat.le_refl _, Nat.le_refl _⟩) [0, 6, 7] rfl (fun _ => rfl) (fun r9 _ hw => ?_)
    try dsimp only at hw
    refine j_goto C 27 dX5_fair_22 rfl ?_
    exact j_iret C R (u3, u4, u5, u6, u7, u8) rfl dX5_fair_27 rfl hw
theorem hi_X5_best_X5 : ∀ w ∈ wsX50, w ∈ wsX5_best := fun _ h => List.mem_cons_of_mem _ (List.mem_append_right _ h)
set_option maxRecDepth 20000 in
set_option maxHeartbeats 4000000 in
theorem c_X5_best (l : Launch) (g : gE) (a_this a_pad a_sort a_heir a_was a_worth a_rights a_ahead a_bound a_owner a_foundBound a_foundOwner a_beside a_upward a_from a_queue a_image a_isKept : Nat) (v_signs : Int32) (v_generations : Int32) (v_toll : Int32) (v_foundLeast : Int32) (v_stops : Int32) (f_sort : (Nat → Int32)) (f_worth : (Nat → Int32)) (f_ahead : (Nat → Int32)) (f_bound : (Nat → Int32)) (f_owner : (Nat → Int32)) (f_foundBound : (Nat → Int32)) (f_foundOwner : (Nat → Int32)) (x1 : Int32) (x2 : Int32)  (K : Int32 → Int32 → (Nat → Int32) → (Nat → Int32) → (Nat → Int32) → (Nat → Int32) → (Nat → Int32) → Prop) (hw : wp_X5_best v_foundLeast f_sort f_worth f_ahead f_bound f_owner f_foundBound f_foundOwner x1 x2 K) : Ci l g yX5_best wsX5_best { frames := 4, cells := 0, slots := 0, locals := 93 } [.ref a_this, .int x1, .int x2] [(a_this, .inr (5, [.int v_signs, .ref a_pad, .ref a_sort, .ref a_heir, .int v_generations, .ref a_was, .ref a_worth, .int v_toll, .ref a_rights, .ref a_ahead, .ref a_bound, .ref a_owner, .ref a_foundBound, .ref a_foundOwner, .int v_foundLeast, .int v_stops, .ref a_beside, .ref a_upward, .ref a_from, .ref a_queue, .ref a_image, .ref a_isKept])), (a_sort, gI g 120 f_sort), (a_worth, gI g 30 f_worth), (a_ahead, gI g 100 f_ahead), (a_bound, gI g 4 f_bound), (a_owner, gI g 4 f_owner), (a_foundBound, gI g 4 f_foundBound), (a_foundOwner, gI g 4 f_foundOwner)] (fun (r : Int32) (u : Int32 × (Nat → Int32) × (Nat → Int32) × (Nat → Int32) × (Nat → Int32) × (Nat → Int32)) => K r u.1 u.2.1 u.2.2.1 u.2.2.2.1 u.2.2.2.2.1 u.2.2.2.2.2) (fun (u : Int32 × (Nat → Int32) × (Nat → Int32) × (Nat → Int32) × (Nat → Int32) × (Nat → Int32)) => [(a_this, .inr (5, [.int v_signs, .ref a_pad, .ref a_sort, .ref a_heir, .int v_generations, .ref a_was, .ref a_worth, .int v_toll, .ref a_rights, .ref a_ahead, .ref a_bound, .ref a_owner, .ref a_foundBound, .ref a_foundOwner, .int (u.1), .int v_stops, .ref a_beside, .ref a_upward, .ref a_from, .ref a_queue, .ref a_image, .ref a_isKept])), (a_sort, gI g 120 f_sort), (a_worth, gI g 30 f_worth), (a_ahead, gI g 100 (u.2.1)), (a_bound, gI g 4 (u.2.2.1)), (a_owner, gI g 4 (u.2.2.2.1)), (a_foundBound, gI g 4 (u.2.2.2.2.1)), (a_foundOwner, gI g 4 (u.2.2.2.2.2))]) 0 0 := by
  refine Ci_of (cc := cX5_best) (nL := 4) (ret := (some .int)) (own := RX5) (lv0 := [(0, .ref a_this), (1, .int x1), (2, .int x2)]) (by decide +kernel) rfl rfl (Nat.le_of_ble_eq_true rfl) rfl (fun A x C R => ?_)
  refine j_iload_n C 1 rfl 1 dX5_best_0 rfl rfl ?_
  refine j_iconst C 2 rfl dX5_best_1 (v := (2 : Int32)) (by decide) ?_
  refine j_iconst C 3 rfl dX5_best_2 (v := (4 : Int32)) (by decide) ?_
  refine j_ri C 6 rfl (jc_S C (c_X5_in l g x1 (2 : Int32) (4 : Int32) _ hw) 3 gX5_best_X5_in rfl rfl rfl hd_X5_in ⟨Nat.le_of_ble_eq_true rfl, Nat.le_of_ble_eq_true rfl⟩ [] rfl rfl (rest := []) rfl rfl (Nat.le_of_ble_eq_true rfl) dX5_best_3 ⟨Nat.le_refl _, Nat.le_refl _⟩) [] rfl (fun _ => rfl) (fun r1 _ hw => ?_)
  try dsimp only at hw
  refine j_if_ne C 9 rfl 12 dX5_best_6 rfl (fun c => ?_) (fun c => ?_)
  · have hw := hw.1 c
    refine j_aload_n C 13 rfl 0 dX5_best_12 rfl rfl ?_
    refine j_iload_n C 14 rfl 1 dX5_best_13 rfl rfl ?_
    refine j_iconst C 15 rfl dX5_best_14 (v := (0 : Int32)) (by decide) ?_
    refine j_rwi C 18 rfl (jc_V C (c_X5_layCut l g a_this a_pad a_sort a_heir a_was a_worth a_rights a_ahead a_bound a_owner a_foundBound a_foundOwner a_beside a_upward a_from a_queue a_image a_isKept v_signs v_generations v_toll v_foundLeast v_stops f_sort f_worth f_ahead f_bound f_owner f_foundBound f_foundOwner x1 (0 : Int32) _ hw) 2 gX5_best_X5_layCut rfl rfl rfl hd_X5_layCut ⟨Nat.le_of_ble_eq_true rfl, Nat.le_of_ble_eq_true rfl⟩ (j_rec C 0 5 rfl rfl) [0, 1, 2, 3, 4, 5, 6, 7] rfl rfl (rest := []) rfl rfl (Nat.le_of_ble_eq_true rfl) dX5_best_15 ⟨Nat.le_refl _, Nat.le_refl _⟩) [0, 1, 2, 3, 4, 5, 6, 7] [] [0, 1, 2, 3, 4, 5, 6, 7] (wr := []) (ws' := fun u => [(a_this, .inr (5, [.int v_signs, .ref a_pad, .ref a_sort, .ref a_heir, .int v_generations, .ref a_was, .ref a_worth, .int v_toll, .ref a_rights, .ref a_ahead, .ref a_bound, .ref a_owner, .ref a_foundBound, .ref a_foundOwner, .int (u.1), .int v_stops, .ref a_beside, .ref a_upward, .ref a_from, .ref a_queue, .ref a_image, .ref a_isKept])), (a_sort, gI g 120 f_sort), (a_worth, gI g 30 f_worth), (a_ahead, gI g 100 (u.2.1)), (a_bound, gI g 4 (u.2.2.1)), (a_owner, gI g 4 (u.2.2.2.1)), (a_foundBound, gI g 4 (u.2.2.2.2.1)), (a_foundOwner, gI g 4 (u.2.2.2.2.2))]) rfl rfl rfl (by decide) rfl (fun _ => rfl) (fun r2 u hw => ?_)
    obtain ⟨u3, u4, u5, u6, u7, u8⟩ := u
    try dsimp only at hw
    show J l g A x 4 0 0 18 [(0, .ref a_this), (1, .int x1), (2, .int x2)] [.int r2] [(a_this, .inr (5, [.int v_signs, .ref a_pad, .ref a_sort, .ref a_heir, .int v_generations, .ref a_was, .ref a_worth, .int v_toll, .ref a_rights, .ref a_ahead, .ref a_bound, .ref a_owner, .ref a_foundBound, .ref a_foundOwner, .int u3, .int v_stops, .ref a_beside, .ref a_upward, .ref a_from, .ref a_queue, .ref a_image, .ref a_isKept])), (a_sort, gI g 120 f_sort), (a_worth, gI g 30 f_worth), (a_ahead, gI g 100 u4), (a_bound, gI g 4 u5), (a_owner, gI g 4 u6), (a_foundBound, gI g 4 u7), (a_foundOwner, gI g 4 u8)]
    refine j_istore_n C 19 rfl [1, 2, 3, 0] (lv' := [(0, .ref a_this), (1, .int x1), (2, .int x2), (3, .int r2)]) dX5_best_18 rfl (by decide) rfl ?_
    refine j_aload_n C 20 rfl 0 dX5_best_19 rfl rfl ?_
    refine j_iload_n C 21 rfl 1 dX5_best_20 rfl rfl ?_
    refine j_iload_n C 22 rfl 2 dX5_best_21 rfl rfl ?_
    refine j_iload_n C 23 rfl 3 dX5_best_22 rfl rfl ?_
    refine j_aload_n C 24 rfl 0 dX5_best_23 rfl rfl ?_
    refine j_get C 27 rfl 0 5 14 (T := TX5) (N := 22) hi_X5_best_X5 rfl (by decide) (List.mem_of_getElem? (i := 1) rfl) rfl rfl rfl dX5_best_24 ?_
    refine j_ri C 30 rfl (jc_V C (c_X5_toldCut l g a_this a_pad a_sort a_heir a_was a_worth a_rights a_ahead a_bound a_owner a_foundBound a_foundOwner a_beside a_upward a_from a_queue a_image a_isKept v_signs v_generations v_toll u3 v_stops u7 u8 x1 x2 r2 u3 _ hw) 4 gX5_best_X5_toldCut rfl rfl rfl hd_X5_toldCut ⟨Nat.le_of_ble_eq_true rfl, Nat.le_of_ble_eq_true rfl⟩ (j_rec C 0 5 rfl rfl) [0, 6, 7] rfl rfl (rest := []) rfl rfl (Nat.le_of_ble_eq_true rfl) dX5_best_27 ⟨Nat.le_refl _, Nat.le_refl _⟩) [0, 6, 7] rfl (fun _ => rfl) (fun r9 _ hw => ?_)
    try dsimp only at hw
    exact j_iret C R (u3, u4, u5, u6, u7, u8) rfl dX5_best_30 rfl hw
  · have hw := hw.2 c
    refine j_bipush C 11 rfl dX5_best_9 (v := (-2 : Int32)) (by decide) ?_
    exact j_iret C R (v_foundLeast, f_ahead, f_bound, f_owner, f_foundBound, f_foundOwner) rfl dX5_best_11 rfl hw
theorem hi_X5_toll_X5 : ∀ w ∈ wsX50, w ∈ wsX5_toll := fun _ h => List.mem_cons_of_mem _ (List.mem_append_right _ h)
set_option maxRecDepth 20000 in
set_option maxHeartbeats 4000000 in
theorem c_X5_toll (l : Launch) (g : gE) (a_this a_pad a_sort a_heir a_was a_worth a_rights a_ahead a_bound a_owner a_foundBound a_foundOwner a_beside a_upward a_from a_queue a_image a_isKept : Nat) (v_signs : Int32) (v_generations : Int32) (v_toll : Int32) (v_foundLeast : Int32) (v_stops : Int32) (x1 : Int32)  (K : Int32 → Int32 → Prop) (hw : wp_X5_toll v_toll x1 K) : Ci l g yX5_toll wsX5_toll { frames := 1, cells := 0, slots := 0, locals := 22 } [.ref a_this, .int x1] [(a_this, .inr (5, [.int v_signs, .ref a_pad, .ref a_sort, .ref a_heir, .int v_generations, .ref a_was, .ref a_worth, .int v_toll, .ref a_rights, .ref a_ahead, .ref a_bound, .ref a_owner, .ref a_foundBound, .ref a_foundOwner, .int v_foundLeast, .int v_stops, .ref a_beside, .ref a_upward, .ref a_from, .ref a_queue, .ref a_image, .ref a_isKept]))] (fun (r : Int32) (u : Int32) => K r u) (fun (u : Int32) => [(a_this, .inr (5, [.int v_signs, .ref a_pad, .ref a_sort, .ref a_heir, .int v_generations, .ref a_was, .ref a_worth, .int u, .ref a_rights, .ref a_ahead, .ref a_bound, .ref a_owner, .ref a_foundBound, .ref a_foundOwner, .int v_foundLeast, .int v_stops, .ref a_beside, .ref a_upward, .ref a_from, .ref a_queue, .ref a_image, .ref a_isKept]))]) 0 0 := by
  refine Ci_of (cc := cX5_toll) (nL := 3) (ret := (some .int)) (own := RX5) (lv0 := [(0, .ref a_this), (1, .int x1)]) (by decide +kernel) rfl rfl (Nat.le_of_ble_eq_true rfl) rfl (fun A x C R => ?_)
  refine j_iload_n C 1 rfl 1 dX5_toll_0 rfl rfl ?_
  refine j_iconst C 2 rfl dX5_toll_1 (v := (0 : Int32)) (by decide) ?_
  refine j_bipush C 4 rfl dX5_toll_2 (v := (99 : Int32)) (by decide) ?_
  refine j_ri C 7 rfl (jc_S C (c_X5_in l g x1 (0 : Int32) (99 : Int32) _ hw) 3 gX5_toll_X5_in rfl rfl rfl hd_X5_in ⟨Nat.le_of_ble_eq_true rfl, Nat.le_of_ble_eq_true rfl⟩ [] rfl rfl (rest := []) rfl rfl (Nat.le_of_ble_eq_true rfl) dX5_toll_4 ⟨Nat.le_refl _, Nat.le_refl _⟩) [] rfl (fun _ => rfl) (fun r1 _ hw => ?_)
  try dsimp only at hw
  refine j_if_ne C 10 rfl 13 dX5_toll_7 rfl (fun c => ?_) (fun c => ?_)
  · have hw := hw.1 c
    refine j_aload_n C 14 rfl 0 dX5_toll_13 rfl rfl ?_
    refine j_get C 17 rfl 0 5 7 (T := TX5) (N := 22) hi_X5_toll_X5 rfl (by decide) (List.mem_of_getElem? (i := 1) rfl) rfl rfl rfl dX5_toll_14 ?_
    refine j_istore_n C 18 rfl [1, 2, 0] (lv' := [(0, .ref a_this), (1, .int x1), (2, .int v_toll)]) dX5_toll_17 rfl (by decide) rfl ?_
    refine j_aload_n C 19 rfl 0 dX5_toll_18 rfl rfl ?_
    refine j_iload_n C 20 rfl 1 dX5_toll_19 rfl rfl ?_
    refine j_put C 23 rfl 0 5 7 (ws' := [(a_this, .inr (5, [.int v_signs, .ref a_pad, .ref a_sort, .ref a_heir, .int v_generations, .ref a_was, .ref a_worth, .int x1, .ref a_rights, .ref a_ahead, .ref a_bound, .ref a_owner, .ref a_foundBound, .ref a_foundOwner, .int v_foundLeast, .int v_stops, .ref a_beside, .ref a_upward, .ref a_from, .ref a_queue, .ref a_image, .ref a_isKept]))]) (T := TX5) (N := 22) (ty := .int) tyX5_ok nmX5 hi_X5_toll_X5 rfl (by decide) (List.mem_of_getElem? (i := 1) rfl) rfl rfl rfl rfl rfl rfl (Nat.le_of_ble_eq_true rfl) rfl dX5_toll_20 ?_
    refine j_iload_n C 24 rfl 2 dX5_toll_23 rfl rfl ?_
    exact j_iret C R (x1) rfl dX5_toll_24 rfl hw
  · have hw := hw.2 c
    refine j_bipush C 12 rfl dX5_toll_10 (v := (-2 : Int32)) (by decide) ?_
    exact j_iret C R (v_toll) rfl dX5_toll_12 rfl hw
theorem hi_X5_right_X5 : ∀ w ∈ wsX50, w ∈ wsX5_right := fun _ h => List.mem_cons_of_mem _ (List.mem_append_right _ h)
set_option maxRecDepth 20000 in
set_option maxHeartbeats 4000000 in
theorem c_X5_right (l : Launch) (g : gE) (a_this a_pad a_sort a_heir a_was a_worth a_rights a_ahead a_bound a_owner a_foundBound a_foundOwner a_beside a_upward a_from a_queue a_image a_isKept : Nat) (v_signs : Int32) (v_generations : Int32) (v_toll : Int32) (v_foundLeast : Int32) (v_stops : Int32) (f_rights : (Nat → Int32)) (x1 : Int32) (x2 : Int32) (x3 : Int32)  (K : Int32 → (Nat → Int32) → Prop) (hw : wp_X5_right f_rights x1 x2 x3 K) : Ci l g yX5_right wsX5_right { frames := 2, cells := 0, slots := 0, locals := 42 } [.ref a_this, .int x1, .int x2, .int x3] [(a_this, .inr (5, [.int v_signs, .ref a_pad, .ref a_sort, .ref a_heir, .int v_generations, .ref a_was, .ref a_worth, .int v_toll, .ref a_rights, .ref a_ahead, .ref a_bound, .ref a_owner, .ref a_foundBound, .ref a_foundOwner, .int v_foundLeast, .int v_stops, .ref a_beside, .ref a_upward, .ref a_from, .ref a_queue, .ref a_image, .ref a_isKept])), (a_rights, gI g 6 f_rights)] (fun (r : Int32) (u : (Nat → Int32)) => K r u) (fun (u : (Nat → Int32)) => [(a_this, .inr (5, [.int v_signs, .ref a_pad, .ref a_sort, .ref a_heir, .int v_generations, .ref a_was, .ref a_worth, .int v_toll, .ref a_rights, .ref a_ahead, .ref a_bound, .ref a_owner, .ref a_foundBound, .ref a_foundOwner, .int v_foundLeast, .int v_stops, .ref a_beside, .ref a_upward, .ref a_from, .ref a_queue, .ref a_image, .ref a_isKept])), (a_rights, gI g 6 u)]) 0 0 := by
  refine Ci_of (cc := cX5_right) (nL := 5) (ret := (some .int)) (own := RX5) (lv0 := [(0, .ref a_this), (1, .int x1), (2, .int x2), (3, .int x3)]) (by decide +kernel) rfl rfl (Nat.le_of_ble_eq_true rfl) rfl (fun A x C R => ?_)
  refine j_iload_n C 1 rfl 1 dX5_right_0 rfl rfl ?_
  refine j_ri C 4 rfl (jc_S C (c_X5_isHeir l g x1 _ hw) 1 gX5_right_X5_isHeir rfl rfl rfl hd_X5_isHeir ⟨Nat.le_of_ble_eq_true rfl, Nat.le_of_ble_eq_true rfl⟩ [] rfl rfl (rest := []) rfl rfl (Nat.le_of_ble_eq_true rfl) dX5_right_1 ⟨Nat.le_refl _, Nat.le_refl _⟩) [] rfl (fun _ => rfl) (fun r1 _ hw => ?_)
  try dsimp only at hw
  refine j_if_eq C 7 rfl 19 dX5_right_4 rfl (fun c => ?_) (fun c => ?_)
  · have hw := hw.1 c
    refine j_iconst C 20 rfl dX5_right_19 (v := (-1 : Int32)) (by decide) ?_
    exact j_iret C R (f_rights) rfl dX5_right_20 rfl hw
  · have hw := hw.2 c
    refine j_iload_n C 8 rfl 2 dX5_right_7 rfl rfl ?_
    refine j_ri C 11 rfl (jc_S C (c_X5_isHeir l g x2 _ hw) 1 gX5_right_X5_isHeir rfl rfl rfl hd_X5_isHeir ⟨Nat.le_of_ble_eq_true rfl, Nat.le_of_ble_eq_true rfl⟩ [] rfl rfl (rest := []) rfl rfl (Nat.le_of_ble_eq_true rfl) dX5_right_8 ⟨Nat.le_refl _, Nat.le_refl _⟩) [] rfl (fun _ => rfl) (fun r2 _ hw => ?_)
    try dsimp only at hw
    refine j_if_eq C 14 rfl 19 dX5_right_11 rfl (fun c => ?_) (fun c => ?_)
    · have hw := hw.1 c
      refine j_iconst C 20 rfl dX5_right_19 (v := (-1 : Int32)) (by decide) ?_
      exact j_iret C R (f_rights) rfl dX5_right_20 rfl hw
    · have hw := hw.2 c
      refine j_iload_n C 15 rfl 1 dX5_right_14 rfl rfl ?_
      refine j_iload_n C 16 rfl 2 dX5_right_15 rfl rfl ?_
      refine j_icmp_ne C 19 rfl 21 dX5_right_16 rfl (fun c => ?_) (fun c => ?_)
      · have hw := hw.1 c
        refine j_aload_n C 22 rfl 0 dX5_right_21 rfl rfl ?_
        refine j_get C 25 rfl 0 5 8 (T := TX5) (N := 22) hi_X5_right_X5 rfl (by decide) (List.mem_of_getElem? (i := 1) rfl) rfl rfl rfl dX5_right_22 ?_
        refine j_iload_n C 26 rfl 1 dX5_right_25 rfl rfl ?_
        obtain ⟨k3, ek3, hk3, hw⟩ := hw
        refine j_iald C 27 rfl 1 k3 rfl ek3 hk3 (by decide) dX5_right_26 ?_
        refine j_iload_n C 28 rfl 2 dX5_right_27 rfl rfl ?_
        refine j_ishr C 29 rfl dX5_right_28 ?_
        refine j_iconst C 30 rfl dX5_right_29 (v := (1 : Int32)) (by decide) ?_
        refine j_iand C 31 rfl dX5_right_30 ?_
        refine j_top (fun n4 en4 => ?_)
        have hw := hw n4 en4
        refine j_istore C 33 rfl [1, 2, 3, 4, 0] (lv' := [(0, .ref a_this), (1, .int x1), (2, .int x2), (3, .int x3), (4, .int n4)]) dX5_right_31 (by decide) rfl ?_
        refine j_aload_n C 34 rfl 0 dX5_right_33 rfl rfl ?_
        refine j_get C 37 rfl 0 5 8 (T := TX5) (N := 22) hi_X5_right_X5 rfl (by decide) (List.mem_of_getElem? (i := 1) rfl) rfl rfl rfl dX5_right_34 ?_
        refine j_iload_n C 38 rfl 1 dX5_right_37 rfl rfl ?_
        refine j_iload_n C 39 rfl 3 dX5_right_38 rfl rfl ?_
        refine j_if_eq C 42 rfl 55 dX5_right_39 rfl (fun c => ?_) (fun c => ?_)
        · have hw := hw.1 c
          refine j_aload_n C 56 rfl 0 dX5_right_55 rfl rfl ?_
          refine j_get C 59 rfl 0 5 8 (T := TX5) (N := 22) hi_X5_right_X5 rfl (by decide) (List.mem_of_getElem? (i := 1) rfl) rfl rfl rfl dX5_right_56 ?_
          refine j_iload_n C 60 rfl 1 dX5_right_59 rfl rfl ?_
          obtain ⟨k5, ek5, hk5, hw⟩ := hw
          refine j_iald C 61 rfl 1 k5 rfl ek5 hk5 (by decide) dX5_right_60 ?_
          refine j_iconst C 62 rfl dX5_right_61 (v := (1 : Int32)) (by decide) ?_
          refine j_iload_n C 63 rfl 2 dX5_right_62 rfl rfl ?_
          refine j_ishl C 64 rfl dX5_right_63 ?_
          refine j_iconst C 65 rfl dX5_right_64 (v := (-1 : Int32)) (by decide) ?_
          refine j_ixor C 66 rfl dX5_right_65 ?_
          refine j_iand C 67 rfl dX5_right_66 ?_
          refine j_top (fun n6 en6 => ?_)
          have hw := hw n6 en6
          obtain ⟨k7, ek7, hk7, hw⟩ := hw
          refine j_iast C 68 rfl 1 k7 (ws' := [(a_this, .inr (5, [.int v_signs, .ref a_pad, .ref a_sort, .ref a_heir, .int v_generations, .ref a_was, .ref a_worth, .int v_toll, .ref a_rights, .ref a_ahead, .ref a_bound, .ref a_owner, .ref a_foundBound, .ref a_foundOwner, .int v_foundLeast, .int v_stops, .ref a_beside, .ref a_upward, .ref a_from, .ref a_queue, .ref a_image, .ref a_isKept])), (a_rights, gI g 6 (upd f_rights k7 n6))]) rfl ek7 hk7 (by decide) rfl dX5_right_67 ?_
          refine j_iload C 70 rfl 4 dX5_right_68 rfl ?_
          exact j_iret C R (upd f_rights k7 n6) rfl dX5_right_70 rfl hw
        · have hw := hw.2 c
          refine j_aload_n C 43 rfl 0 dX5_right_42 rfl rfl ?_
          refine j_get C 46 rfl 0 5 8 (T := TX5) (N := 22) hi_X5_right_X5 rfl (by decide) (List.mem_of_getElem? (i := 1) rfl) rfl rfl rfl dX5_right_43 ?_
          refine j_iload_n C 47 rfl 1 dX5_right_46 rfl rfl ?_
          obtain ⟨k8, ek8, hk8, hw⟩ := hw
          refine j_iald C 48 rfl 1 k8 rfl ek8 hk8 (by decide) dX5_right_47 ?_
          refine j_iconst C 49 rfl dX5_right_48 (v := (1 : Int32)) (by decide) ?_
          refine j_iload_n C 50 rfl 2 dX5_right_49 rfl rfl ?_
          refine j_ishl C 51 rfl dX5_right_50 ?_
          refine j_ior C 52 rfl dX5_right_51 ?_
          refine j_goto C 67 dX5_right_52 rfl ?_
          refine j_top (fun n9 en9 => ?_)
          have hw := hw n9 en9
          obtain ⟨k10, ek10, hk10, hw⟩ := hw
          refine j_iast C 68 rfl 1 k10 (ws' := [(a_this, .inr (5, [.int v_signs, .ref a_pad, .ref a_sort, .ref a_heir, .int v_generations, .ref a_was, .ref a_worth, .int v_toll, .ref a_rights, .ref a_ahead, .ref a_bound, .ref a_owner, .ref a_foundBound, .ref a_foundOwner, .int v_foundLeast, .int v_stops, .ref a_beside, .ref a_upward, .ref a_from, .ref a_queue, .ref a_image, .ref a_isKept])), (a_rights, gI g 6 (upd f_rights k10 n9))]) rfl ek10 hk10 (by decide) rfl dX5_right_67 ?_
          refine j_iload C 70 rfl 4 dX5_right_68 rfl ?_
          exact j_iret C R (upd f_rights k10 n9) rfl dX5_right_70 rfl hw
      · have hw := hw.2 c
        refine j_iconst C 20 rfl dX5_right_19 (v := (-1 : Int32)) (by decide) ?_
        exact j_iret C R (f_rights) rfl dX5_right_20 rfl hw
theorem hi_X5_wayCost_X5 : ∀ w ∈ wsX50, w ∈ wsX5_wayCost := fun _ h => List.mem_cons_of_mem _ (List.mem_append_right _ h)
set_option maxRecDepth 20000 in
set_option maxHeartbeats 4000000 in
theorem c_X5_wayCost (l : Launch) (g : gE) (a_this a_pad a_sort a_heir a_was a_worth a_rights a_ahead a_bound a_owner a_foundBound a_foundOwner a_beside a_upward a_from a_queue a_image a_isKept : Nat) (v_signs : Int32) (v_generations : Int32) (v_toll : Int32) (v_foundLeast : Int32) (v_stops : Int32) (f_heir : (Nat → Int32)) (f_rights : (Nat → Int32)) (x1 : Int32) (x2 : Int32) (x3 : Int32) (x4 : Int32) (x5 : Int32)  (K : Int32 → Prop) (hw : wp_X5_wayCost v_toll f_heir f_rights x1 x2 x3 x4 x5 K) : Ci l g yX5_wayCost wsX5_wayCost { frames := 1, cells := 0, slots := 0, locals := 21 } [.ref a_this, .int x1, .int x2, .int x3, .int x4, .int x5] [(a_this, .inr (5, [.int v_signs, .ref a_pad, .ref a_sort, .ref a_heir, .int v_generations, .ref a_was, .ref a_worth, .int v_toll, .ref a_rights, .ref a_ahead, .ref a_bound, .ref a_owner, .ref a_foundBound, .ref a_foundOwner, .int v_foundLeast, .int v_stops, .ref a_beside, .ref a_upward, .ref a_from, .ref a_queue, .ref a_image, .ref a_isKept])), (a_heir, gI g 24 f_heir), (a_rights, gI g 6 f_rights)] (fun (r : Int32) (_ : Unit) => K r) (fun (_ : Unit) => [(a_this, .inr (5, [.int v_signs, .ref a_pad, .ref a_sort, .ref a_heir, .int v_generations, .ref a_was, .ref a_worth, .int v_toll, .ref a_rights, .ref a_ahead, .ref a_bound, .ref a_owner, .ref a_foundBound, .ref a_foundOwner, .int v_foundLeast, .int v_stops, .ref a_beside, .ref a_upward, .ref a_from, .ref a_queue, .ref a_image, .ref a_isKept])), (a_heir, gI g 24 f_heir), (a_rights, gI g 6 f_rights)]) 0 0 := by
  refine Ci_of (cc := cX5_wayCost) (nL := 9) (ret := (some .int)) (own := RX5) (lv0 := [(0, .ref a_this), (1, .int x1), (2, .int x2), (3, .int x3), (4, .int x4), (5, .int x5)]) (by decide +kernel) rfl rfl (Nat.le_of_ble_eq_true rfl) rfl (fun A x C R => ?_)
  refine j_iconst C 1 rfl dX5_wayCost_0 (v := (4 : Int32)) (by decide) ?_
  refine j_iload C 3 rfl 4 dX5_wayCost_1 rfl ?_
  refine j_imul C 4 rfl dX5_wayCost_3 ?_
  refine j_top (fun n1 en1 => ?_)
  have hw := hw n1 en1
  refine j_istore C 6 rfl [1, 2, 3, 4, 5, 6, 0] (lv' := [(0, .ref a_this), (1, .int x1), (2, .int x2), (3, .int x3), (4, .int x4), (5, .int x5), (6, .int n1)]) dX5_wayCost_4 (by decide) rfl ?_
  refine j_iload_n C 7 rfl 2 dX5_wayCost_6 rfl rfl ?_
  refine j_istore C 9 rfl [1, 2, 3, 4, 5, 6, 7, 0] (lv' := [(0, .ref a_this), (1, .int x1), (2, .int x2), (3, .int x3), (4, .int x4), (5, .int x5), (6, .int n1), (7, .int x2)]) dX5_wayCost_7 (by decide) rfl ?_
  refine j_lv [0, 1, 3, 4, 5, 6, 7] (lv' := [(0, .ref a_this), (1, .int x1), (3, .int x3), (4, .int x4), (5, .int x5), (6, .int n1), (7, .int x2)]) rfl ?_
  refine lpW2_ind (G := fun x6 x7 => J l g A x 9 0 0 9 [(0, .ref a_this), (1, .int x1), (3, .int x3), (4, .int x4), (5, .int x5), (6, .int x6), (7, .int x7)] [] [(a_this, .inr (5, [.int v_signs, .ref a_pad, .ref a_sort, .ref a_heir, .int v_generations, .ref a_was, .ref a_worth, .int v_toll, .ref a_rights, .ref a_ahead, .ref a_bound, .ref a_owner, .ref a_foundBound, .ref a_foundOwner, .int v_foundLeast, .int v_stops, .ref a_beside, .ref a_upward, .ref a_from, .ref a_queue, .ref a_image, .ref a_isKept])), (a_heir, gI g 24 f_heir), (a_rights, gI g 6 f_rights)]) (fun L9 x6 x7 hL9 hw => ?_) _ _ hw
  have hj70 : ∀ (x6 : Int32) (x7 : Int32) (s0 : Int32), wj_X5_wayCost_70 v_toll x4 x6 x7 s0 L9 → J l g A x 9 0 0 70 [(0, .ref a_this), (1, .int x1), (3, .int x3), (4, .int x4), (5, .int x5), (6, .int x6), (7, .int x7)] [.int s0] [(a_this, .inr (5, [.int v_signs, .ref a_pad, .ref a_sort, .ref a_heir, .int v_generations, .ref a_was, .ref a_worth, .int v_toll, .ref a_rights, .ref a_ahead, .ref a_bound, .ref a_owner, .ref a_foundBound, .ref a_foundOwner, .int v_foundLeast, .int v_stops, .ref a_beside, .ref a_upward, .ref a_from, .ref a_queue, .ref a_image, .ref a_isKept])), (a_heir, gI g 24 f_heir), (a_rights, gI g 6 f_rights)] := by
    intro x6 x7 s0 hw
    refine j_istore C 72 rfl [1, 2, 3, 4, 5, 6, 7, 0] (lv' := [(0, .ref a_this), (1, .int x1), (3, .int x3), (4, .int x4), (5, .int x5), (6, .int x6), (7, .int x7), (8, .int s0)]) dX5_wayCost_70 (by decide) rfl ?_
    refine j_iload C 74 rfl 5 dX5_wayCost_72 rfl ?_
    refine j_bipush C 76 rfl dX5_wayCost_74 (v := (6 : Int32)) (by decide) ?_
    refine j_iload C 78 rfl 3 dX5_wayCost_76 rfl ?_
    refine j_isub C 79 rfl dX5_wayCost_78 ?_
    refine j_iload C 81 rfl 7 dX5_wayCost_79 rfl ?_
    refine j_if_eq C 84 rfl 88 dX5_wayCost_81 rfl (fun c => ?_) (fun c => ?_)
    · have hw := hw.1 c
      refine j_aload_n C 89 rfl 0 dX5_wayCost_88 rfl rfl ?_
      refine j_get C 92 rfl 0 5 7 (T := TX5) (N := 22) hi_X5_wayCost_X5 rfl (by decide) (List.mem_of_getElem? (i := 3) rfl) rfl rfl rfl dX5_wayCost_89 ?_
      refine j_iadd C 93 rfl dX5_wayCost_92 ?_
      refine j_iadd C 94 rfl dX5_wayCost_93 ?_
      refine j_top (fun n2 en2 => ?_)
      have hw := hw n2 en2
      refine j_istore C 96 rfl [1, 2, 3, 4, 5, 0, 6, 7] (lv' := [(0, .ref a_this), (1, .int x1), (3, .int x3), (4, .int x4), (5, .int x5), (6, .int n2), (7, .int x7), (8, .int s0)]) dX5_wayCost_94 (by decide) rfl ?_
      refine j_goto C 9 dX5_wayCost_96 rfl ?_
      refine j_lv [0, 1, 2, 3, 4, 5, 6] (lv' := [(0, .ref a_this), (1, .int x1), (3, .int x3), (4, .int x4), (5, .int x5), (6, .int n2), (7, .int x7)]) rfl ?_
      exact hL9 _ _ hw
    · have hw := hw.2 c
      refine j_iconst C 85 rfl dX5_wayCost_84 (v := (0 : Int32)) (by decide) ?_
      refine j_goto C 92 dX5_wayCost_85 rfl ?_
      refine j_iadd C 93 rfl dX5_wayCost_92 ?_
      refine j_iadd C 94 rfl dX5_wayCost_93 ?_
      refine j_top (fun n3 en3 => ?_)
      have hw := hw n3 en3
      refine j_istore C 96 rfl [1, 2, 3, 4, 5, 0, 6, 7] (lv' := [(0, .ref a_this), (1, .int x1), (3, .int x3), (4, .int x4), (5, .int x5), (6, .int n3), (7, .int x7), (8, .int s0)]) dX5_wayCost_94 (by decide) rfl ?_
      refine j_goto C 9 dX5_wayCost_96 rfl ?_
      refine j_lv [0, 1, 2, 3, 4, 5, 6] (lv' := [(0, .ref a_this), (1, .int x1), (3, .int x3), (4, .int x4), (5, .int x5), (6, .int n3), (7, .int x7)]) rfl ?_
      exact hL9 _ _ hw
  have hj33 : ∀ (x6 : Int32) (s0 : Int32), wj_X5_wayCost_33 v_toll f_heir f_rights x1 x4 x6 s0 L9 → J l g A x 9 0 0 33 [(0, .ref a_this), (1, .int x1), (3, .int x3), (4, .int x4), (5, .int x5), (6, .int x6)] [.int s0] [(a_this, .inr (5, [.int v_signs, .ref a_pad, .ref a_sort, .ref a_heir, .int v_generations, .ref a_was, .ref a_worth, .int v_toll, .ref a_rights, .ref a_ahead, .ref a_bound, .ref a_owner, .ref a_foundBound, .ref a_foundOwner, .int v_foundLeast, .int v_stops, .ref a_beside, .ref a_upward, .ref a_from, .ref a_queue, .ref a_image, .ref a_isKept])), (a_heir, gI g 24 f_heir), (a_rights, gI g 6 f_rights)] := by
    intro x6 s0 hw
    refine j_istore C 35 rfl [1, 2, 3, 4, 5, 6, 0] (lv' := [(0, .ref a_this), (1, .int x1), (3, .int x3), (4, .int x4), (5, .int x5), (6, .int x6), (7, .int s0)]) dX5_wayCost_33 (by decide) rfl ?_
    refine j_aload_n C 36 rfl 0 dX5_wayCost_35 rfl rfl ?_
    refine j_get C 39 rfl 0 5 3 (T := TX5) (N := 22) hi_X5_wayCost_X5 rfl (by decide) (List.mem_of_getElem? (i := 1) rfl) rfl rfl rfl dX5_wayCost_36 ?_
    refine j_iload C 41 rfl 6 dX5_wayCost_39 rfl ?_
    obtain ⟨k4, ek4, hk4, hw⟩ := hw
    refine j_iald C 42 rfl 1 k4 rfl ek4 hk4 (by decide) dX5_wayCost_41 ?_
    refine j_iload_n C 43 rfl 1 dX5_wayCost_42 rfl rfl ?_
    refine j_icmp_eq C 46 rfl 65 dX5_wayCost_43 rfl (fun c => ?_) (fun c => ?_)
    · have hw := hw.1 c
      refine j_iconst C 66 rfl dX5_wayCost_65 (v := (1 : Int32)) (by decide) ?_
      refine j_goto C 70 dX5_wayCost_66 rfl ?_
      exact hj70 _ _ _ hw
    · have hw := hw.2 c
      refine j_aload_n C 47 rfl 0 dX5_wayCost_46 rfl rfl ?_
      refine j_get C 50 rfl 0 5 8 (T := TX5) (N := 22) hi_X5_wayCost_X5 rfl (by decide) (List.mem_of_getElem? (i := 2) rfl) rfl rfl rfl dX5_wayCost_47 ?_
      refine j_aload_n C 51 rfl 0 dX5_wayCost_50 rfl rfl ?_
      refine j_get C 54 rfl 0 5 3 (T := TX5) (N := 22) hi_X5_wayCost_X5 rfl (by decide) (List.mem_of_getElem? (i := 1) rfl) rfl rfl rfl dX5_wayCost_51 ?_
      refine j_iload C 56 rfl 6 dX5_wayCost_54 rfl ?_
      obtain ⟨k5, ek5, hk5, hw⟩ := hw
      refine j_iald C 57 rfl 1 k5 rfl ek5 hk5 (by decide) dX5_wayCost_56 ?_
      obtain ⟨k6, ek6, hk6, hw⟩ := hw
      refine j_iald C 58 rfl 2 k6 rfl ek6 hk6 (by decide) dX5_wayCost_57 ?_
      refine j_iload_n C 59 rfl 1 dX5_wayCost_58 rfl rfl ?_
      refine j_nm1 (fun n7 en7 => ?_)
      have hw := hw n7 en7
      refine j_ri C 62 rfl (jc_S C (c_X5_hasBit l g n7 x1 _ hw) 2 gX5_wayCost_X5_hasBit rfl rfl rfl hd_X5_hasBit ⟨Nat.le_of_ble_eq_true rfl, Nat.le_of_ble_eq_true rfl⟩ [] rfl rfl (rest := []) rfl rfl (Nat.le_of_ble_eq_true rfl) dX5_wayCost_59 ⟨Nat.le_refl _, Nat.le_refl _⟩) [] rfl (fun _ => rfl) (fun r8 _ hw => ?_)
      try dsimp only at hw
      refine j_if_eq C 65 rfl 69 dX5_wayCost_62 rfl (fun c => ?_) (fun c => ?_)
      · have hw := hw.1 c
        refine j_iconst C 70 rfl dX5_wayCost_69 (v := (0 : Int32)) (by decide) ?_
        exact hj70 _ _ _ hw
      · have hw := hw.2 c
        refine j_iconst C 66 rfl dX5_wayCost_65 (v := (1 : Int32)) (by decide) ?_
        refine j_goto C 70 dX5_wayCost_66 rfl ?_
        exact hj70 _ _ _ hw
  refine j_iload C 11 rfl 6 dX5_wayCost_9 rfl ?_
  refine j_iload_n C 12 rfl 2 dX5_wayCost_11 rfl rfl ?_
  refine j_icmp_eq C 15 rfl 99 dX5_wayCost_12 rfl (fun c => ?_) (fun c => ?_)
  · have hw := hw.1 c
    refine j_iload C 101 rfl 5 dX5_wayCost_99 rfl ?_
    exact j_iret C R () rfl dX5_wayCost_101 rfl hw
  · have hw := hw.2 c
    refine j_iload C 17 rfl 4 dX5_wayCost_15 rfl ?_
    refine j_if_eq C 20 rfl 28 dX5_wayCost_17 rfl (fun c => ?_) (fun c => ?_)
    · have hw := hw.1 c
      refine j_iload C 30 rfl 6 dX5_wayCost_28 rfl ?_
      refine j_ri C 33 rfl (jc_S C (c_X5_before l g x7 _ hw) 1 gX5_wayCost_X5_before rfl rfl rfl hd_X5_before ⟨Nat.le_of_ble_eq_true rfl, Nat.le_of_ble_eq_true rfl⟩ [] rfl rfl (rest := []) rfl rfl (Nat.le_of_ble_eq_true rfl) dX5_wayCost_30 ⟨Nat.le_refl _, Nat.le_refl _⟩) [] rfl (fun _ => rfl) (fun r9 _ hw => ?_)
      try dsimp only at hw
      refine j_lv [0, 1, 2, 3, 4, 5] (lv' := [(0, .ref a_this), (1, .int x1), (3, .int x3), (4, .int x4), (5, .int x5), (6, .int x6)]) rfl ?_
      exact hj33 _ _ hw
    · have hw := hw.2 c
      refine j_iload C 22 rfl 6 dX5_wayCost_20 rfl ?_
      refine j_ri C 25 rfl (jc_S C (c_X5_next l g x7 _ hw) 1 gX5_wayCost_X5_next rfl rfl rfl hd_X5_next ⟨Nat.le_of_ble_eq_true rfl, Nat.le_of_ble_eq_true rfl⟩ [] rfl rfl (rest := []) rfl rfl (Nat.le_of_ble_eq_true rfl) dX5_wayCost_22 ⟨Nat.le_refl _, Nat.le_refl _⟩) [] rfl (fun _ => rfl) (fun r10 _ hw => ?_)
      try dsimp only at hw
      refine j_goto C 33 dX5_wayCost_25 rfl ?_
      refine j_lv [0, 1, 2, 3, 4, 5] (lv' := [(0, .ref a_this), (1, .int x1), (3, .int x3), (4, .int x4), (5, .int x5), (6, .int x6)]) rfl ?_
      exact hj33 _ _ hw
set_option maxRecDepth 20000 in
set_option maxHeartbeats 4000000 in
theorem c_X5_way (l : Launch) (g : gE) (a_this a_pad a_sort a_heir a_was a_worth a_rights a_ahead a_bound a_owner a_foundBound a_foundOwner a_beside a_upward a_from a_queue a_image a_isKept : Nat) (v_signs : Int32) (v_generations : Int32) (v_toll : Int32) (v_foundLeast : Int32) (v_stops : Int32) (f_heir : (Nat → Int32)) (f_rights : (Nat → Int32)) (x1 : Int32) (x2 : Int32) (x3 : Int32) (x4 : Int32)  (K : Int32 → Prop) (hw : wp_X5_way v_toll f_heir f_rights x1 x2 x3 x4 K) : Ci l g yX5_way wsX5_way { frames := 2, cells := 0, slots := 0, locals := 49 } [.ref a_this, .int x1, .int x2, .int x3, .int x4] [(a_this, .inr (5, [.int v_signs, .ref a_pad, .ref a_sort, .ref a_heir, .int v_generations, .ref a_was, .ref a_worth, .int v_toll, .ref a_rights, .ref a_ahead, .ref a_bound, .ref a_owner, .ref a_foundBound, .ref a_foundOwner, .int v_foundLeast, .int v_stops, .ref a_beside, .ref a_upward, .ref a_from, .ref a_queue, .ref a_image, .ref a_isKept])), (a_heir, gI g 24 f_heir), (a_rights, gI g 6 f_rights)] (fun (r : Int32) (_ : Unit) => K r) (fun (_ : Unit) => [(a_this, .inr (5, [.int v_signs, .ref a_pad, .ref a_sort, .ref a_heir, .int v_generations, .ref a_was, .ref a_worth, .int v_toll, .ref a_rights, .ref a_ahead, .ref a_bound, .ref a_owner, .ref a_foundBound, .ref a_foundOwner, .int v_foundLeast, .int v_stops, .ref a_beside, .ref a_upward, .ref a_from, .ref a_queue, .ref a_image, .ref a_isKept])), (a_heir, gI g 24 f_heir), (a_rights, gI g 6 f_rights)]) 0 0 := by
  refine Ci_of (cc := cX5_way) (nL := 9) (ret := (some .int)) (own := RX5) (lv0 := [(0, .ref a_this), (1, .int x1), (2, .int x2), (3, .int x3), (4, .int x4)]) (by decide +kernel) rfl rfl (Nat.le_of_ble_eq_true rfl) rfl (fun A x C R => ?_)
  refine j_iload_n C 1 rfl 1 dX5_way_0 rfl rfl ?_
  refine j_ri C 4 rfl (jc_S C (c_X5_isHeir l g x1 _ hw) 1 gX5_way_X5_isHeir rfl rfl rfl hd_X5_isHeir ⟨Nat.le_of_ble_eq_true rfl, Nat.le_of_ble_eq_true rfl⟩ [] rfl rfl (rest := []) rfl rfl (Nat.le_of_ble_eq_true rfl) dX5_way_1 ⟨Nat.le_refl _, Nat.le_refl _⟩) [] rfl (fun _ => rfl) (fun r1 _ hw => ?_)
  try dsimp only at hw
  refine j_if_eq C 7 rfl 21 dX5_way_4 rfl (fun c => ?_) (fun c => ?_)
  · have hw := hw.1 c
    refine j_iconst C 22 rfl dX5_way_21 (v := (-1 : Int32)) (by decide) ?_
    exact j_iret C R () rfl dX5_way_22 rfl hw
  · have hw := hw.2 c
    refine j_iload_n C 8 rfl 2 dX5_way_7 rfl rfl ?_
    refine j_ri C 11 rfl (jc_S C (c_X5_isSector l g x2 _ hw) 1 gX5_way_X5_isSector rfl rfl rfl hd_X5_isSector ⟨Nat.le_of_ble_eq_true rfl, Nat.le_of_ble_eq_true rfl⟩ [] rfl rfl (rest := []) rfl rfl (Nat.le_of_ble_eq_true rfl) dX5_way_8 ⟨Nat.le_refl _, Nat.le_refl _⟩) [] rfl (fun _ => rfl) (fun r2 _ hw => ?_)
    try dsimp only at hw
    refine j_if_eq C 14 rfl 21 dX5_way_11 rfl (fun c => ?_) (fun c => ?_)
    · have hw := hw.1 c
      refine j_iconst C 22 rfl dX5_way_21 (v := (-1 : Int32)) (by decide) ?_
      exact j_iret C R () rfl dX5_way_22 rfl hw
    · have hw := hw.2 c
      refine j_iload_n C 15 rfl 3 dX5_way_14 rfl rfl ?_
      refine j_ri C 18 rfl (jc_S C (c_X5_isSector l g x3 _ hw) 1 gX5_way_X5_isSector rfl rfl rfl hd_X5_isSector ⟨Nat.le_of_ble_eq_true rfl, Nat.le_of_ble_eq_true rfl⟩ [] rfl rfl (rest := []) rfl rfl (Nat.le_of_ble_eq_true rfl) dX5_way_15 ⟨Nat.le_refl _, Nat.le_refl _⟩) [] rfl (fun _ => rfl) (fun r3 _ hw => ?_)
      try dsimp only at hw
      refine j_if_ne C 21 rfl 23 dX5_way_18 rfl (fun c => ?_) (fun c => ?_)
      · have hw := hw.1 c
        refine j_iload C 25 rfl 4 dX5_way_23 rfl ?_
        refine j_iconst C 26 rfl dX5_way_25 (v := (0 : Int32)) (by decide) ?_
        refine j_iconst C 27 rfl dX5_way_26 (v := (2 : Int32)) (by decide) ?_
        refine j_ri C 30 rfl (jc_S C (c_X5_in l g x4 (0 : Int32) (2 : Int32) _ hw) 3 gX5_way_X5_in rfl rfl rfl hd_X5_in ⟨Nat.le_of_ble_eq_true rfl, Nat.le_of_ble_eq_true rfl⟩ [] rfl rfl (rest := []) rfl rfl (Nat.le_of_ble_eq_true rfl) dX5_way_27 ⟨Nat.le_refl _, Nat.le_refl _⟩) [] rfl (fun _ => rfl) (fun r4 _ hw => ?_)
        try dsimp only at hw
        refine j_if_ne C 33 rfl 36 dX5_way_30 rfl (fun c => ?_) (fun c => ?_)
        · have hw := hw.1 c
          refine j_bipush C 38 rfl dX5_way_36 (v := (-6 : Int32)) (by decide) ?_
          refine j_istore C 40 rfl [1, 2, 3, 4, 5, 0] (lv' := [(0, .ref a_this), (1, .int x1), (2, .int x2), (3, .int x3), (4, .int x4), (5, .int (-6 : Int32))]) dX5_way_38 (by decide) rfl ?_
          refine j_iconst C 41 rfl dX5_way_40 (v := (0 : Int32)) (by decide) ?_
          refine j_istore C 43 rfl [1, 2, 3, 4, 5, 6, 0] (lv' := [(0, .ref a_this), (1, .int x1), (2, .int x2), (3, .int x3), (4, .int x4), (5, .int (-6 : Int32)), (6, .int (0 : Int32))]) dX5_way_41 (by decide) rfl ?_
          refine j_iconst C 44 rfl dX5_way_43 (v := (0 : Int32)) (by decide) ?_
          refine j_istore C 46 rfl [1, 2, 3, 4, 5, 6, 7, 0] (lv' := [(0, .ref a_this), (1, .int x1), (2, .int x2), (3, .int x3), (4, .int x4), (5, .int (-6 : Int32)), (6, .int (0 : Int32)), (7, .int (0 : Int32))]) dX5_way_44 (by decide) rfl ?_
          refine lpW3_ind (G := fun x5 x6 x7 => J l g A x 9 0 0 46 [(0, .ref a_this), (1, .int x1), (2, .int x2), (3, .int x3), (4, .int x4), (5, .int x5), (6, .int x6), (7, .int x7)] [] [(a_this, .inr (5, [.int v_signs, .ref a_pad, .ref a_sort, .ref a_heir, .int v_generations, .ref a_was, .ref a_worth, .int v_toll, .ref a_rights, .ref a_ahead, .ref a_bound, .ref a_owner, .ref a_foundBound, .ref a_foundOwner, .int v_foundLeast, .int v_stops, .ref a_beside, .ref a_upward, .ref a_from, .ref a_queue, .ref a_image, .ref a_isKept])), (a_heir, gI g 24 f_heir), (a_rights, gI g 6 f_rights)]) (fun L46 x5 x6 x7 hL46 hw => ?_) _ _ _ hw
          have hj73 : ∀ (x5 : Int32) (x6 : Int32) (x7 : Int32) (s1 : Int32) (s2 : Int32) (s3 : Int32) (s4 : Int32) (s5 : Int32), wj_X5_way_73 v_toll f_heir f_rights x5 x6 x7 s1 s2 s3 s4 s5 L46 → J l g A x 9 0 0 73 [(0, .ref a_this), (1, .int x1), (2, .int x2), (3, .int x3), (4, .int x4), (5, .int x5), (6, .int x6), (7, .int x7)] [.int s5, .int s4, .int s3, .int s2, .int s1, .ref a_this] [(a_this, .inr (5, [.int v_signs, .ref a_pad, .ref a_sort, .ref a_heir, .int v_generations, .ref a_was, .ref a_worth, .int v_toll, .ref a_rights, .ref a_ahead, .ref a_bound, .ref a_owner, .ref a_foundBound, .ref a_foundOwner, .int v_foundLeast, .int v_stops, .ref a_beside, .ref a_upward, .ref a_from, .ref a_queue, .ref a_image, .ref a_isKept])), (a_heir, gI g 24 f_heir), (a_rights, gI g 6 f_rights)] := by
            intro x5 x6 x7 s1 s2 s3 s4 s5 hw
            refine j_ri C 76 rfl (jc_V C (c_X5_wayCost l g a_this a_pad a_sort a_heir a_was a_worth a_rights a_ahead a_bound a_owner a_foundBound a_foundOwner a_beside a_upward a_from a_queue a_image a_isKept v_signs v_generations v_toll v_foundLeast v_stops f_heir f_rights s1 s2 s3 s4 s5 _ hw) 5 gX5_way_X5_wayCost rfl rfl rfl hd_X5_wayCost ⟨Nat.le_of_ble_eq_true rfl, Nat.le_of_ble_eq_true rfl⟩ (j_rec C 0 5 rfl rfl) [0, 1, 2] rfl rfl (rest := []) rfl rfl (Nat.le_of_ble_eq_true rfl) dX5_way_73 ⟨Nat.le_refl _, Nat.le_refl _⟩) [0, 1, 2] rfl (fun _ => rfl) (fun r5 _ hw => ?_)
            try dsimp only at hw
            refine j_istore C 78 rfl [1, 2, 3, 4, 5, 6, 7, 8, 0] (lv' := [(0, .ref a_this), (1, .int x1), (2, .int x2), (3, .int x3), (4, .int x4), (5, .int x5), (6, .int x6), (7, .int x7), (8, .int r5)]) dX5_way_76 (by decide) rfl ?_
            refine j_iload C 80 rfl 5 dX5_way_78 rfl ?_
            refine j_if_lt C 83 rfl 90 dX5_way_80 rfl (fun c => ?_) (fun c => ?_)
            · have hw := hw.1 c
              refine j_iload C 92 rfl 8 dX5_way_90 rfl ?_
              refine j_istore C 94 rfl [1, 2, 3, 4, 5, 0, 6, 7, 8] (lv' := [(0, .ref a_this), (1, .int x1), (2, .int x2), (3, .int x3), (4, .int x4), (5, .int r5), (6, .int x6), (7, .int x7), (8, .int r5)]) dX5_way_92 (by decide) rfl ?_
              refine j_iload C 96 rfl 7 dX5_way_94 rfl ?_
              refine j_istore C 98 rfl [1, 2, 3, 4, 5, 6, 0, 7, 8] (lv' := [(0, .ref a_this), (1, .int x1), (2, .int x2), (3, .int x3), (4, .int x4), (5, .int r5), (6, .int x7), (7, .int x7), (8, .int r5)]) dX5_way_96 (by decide) rfl ?_
              refine j_iinc C 101 rfl 7 [1, 2, 3, 4, 5, 6, 7, 0, 8] (v' := (1 : Int32)) (lv' := fun z => [(0, .ref a_this), (1, .int x1), (2, .int x2), (3, .int x3), (4, .int x4), (5, .int r5), (6, .int x7), (7, .int z), (8, .int r5)]) dX5_way_98 rfl (by decide) (by decide) (fun _ => rfl) (fun n6 en6 => ?_)
              have hw := hw n6 en6
              refine j_goto C 46 dX5_way_101 rfl ?_
              refine j_lv [0, 1, 2, 3, 4, 5, 6, 7] (lv' := [(0, .ref a_this), (1, .int x1), (2, .int x2), (3, .int x3), (4, .int x4), (5, .int r5), (6, .int x7), (7, .int n6)]) rfl ?_
              exact hL46 _ _ _ hw
            · have hw := hw.2 c
              refine j_iload C 85 rfl 8 dX5_way_83 rfl ?_
              refine j_iload C 87 rfl 5 dX5_way_85 rfl ?_
              refine j_icmp_ge C 90 rfl 98 dX5_way_87 rfl (fun c => ?_) (fun c => ?_)
              · have hw := hw.1 c
                refine j_iinc C 101 rfl 7 [1, 2, 3, 4, 5, 6, 7, 0, 8] (v' := (1 : Int32)) (lv' := fun z => [(0, .ref a_this), (1, .int x1), (2, .int x2), (3, .int x3), (4, .int x4), (5, .int x5), (6, .int x6), (7, .int z), (8, .int r5)]) dX5_way_98 rfl (by decide) (by decide) (fun _ => rfl) (fun n7 en7 => ?_)
                have hw := hw n7 en7
                refine j_goto C 46 dX5_way_101 rfl ?_
                refine j_lv [0, 1, 2, 3, 4, 5, 6, 7] (lv' := [(0, .ref a_this), (1, .int x1), (2, .int x2), (3, .int x3), (4, .int x4), (5, .int x5), (6, .int x6), (7, .int n7)]) rfl ?_
                exact hL46 _ _ _ hw
              · have hw := hw.2 c
                refine j_iload C 92 rfl 8 dX5_way_90 rfl ?_
                refine j_istore C 94 rfl [1, 2, 3, 4, 5, 0, 6, 7, 8] (lv' := [(0, .ref a_this), (1, .int x1), (2, .int x2), (3, .int x3), (4, .int x4), (5, .int r5), (6, .int x6), (7, .int x7), (8, .int r5)]) dX5_way_92 (by decide) rfl ?_
                refine j_iload C 96 rfl 7 dX5_way_94 rfl ?_
                refine j_istore C 98 rfl [1, 2, 3, 4, 5, 6, 0, 7, 8] (lv' := [(0, .ref a_this), (1, .int x1), (2, .int x2), (3, .int x3), (4, .int x4), (5, .int r5), (6, .int x7), (7, .int x7), (8, .int r5)]) dX5_way_96 (by decide) rfl ?_
                refine j_iinc C 101 rfl 7 [1, 2, 3, 4, 5, 6, 7, 0, 8] (v' := (1 : Int32)) (lv' := fun z => [(0, .ref a_this), (1, .int x1), (2, .int x2), (3, .int x3), (4, .int x4), (5, .int r5), (6, .int x7), (7, .int z), (8, .int r5)]) dX5_way_98 rfl (by decide) (by decide) (fun _ => rfl) (fun n8 en8 => ?_)
                have hw := hw n8 en8
                refine j_goto C 46 dX5_way_101 rfl ?_
                refine j_lv [0, 1, 2, 3, 4, 5, 6, 7] (lv' := [(0, .ref a_this), (1, .int x1), (2, .int x2), (3, .int x3), (4, .int x4), (5, .int r5), (6, .int x7), (7, .int n8)]) rfl ?_
                exact hL46 _ _ _ hw
          refine j_iload C 48 rfl 7 dX5_way_46 rfl ?_
          refine j_bipush C 50 rfl dX5_way_48 (v := (10 : Int32)) (by decide) ?_
          refine j_icmp_ge C 53 rfl 104 dX5_way_50 rfl (fun c => ?_) (fun c => ?_)
          · have hw := hw.1 c
            refine j_iload C 106 rfl 4 dX5_way_104 rfl ?_
            refine j_if_ne C 109 rfl 114 dX5_way_106 rfl (fun c => ?_) (fun c => ?_)
            · have hw := hw.1 c
              refine j_iload C 116 rfl 4 dX5_way_114 rfl ?_
              refine j_iconst C 117 rfl dX5_way_116 (v := (1 : Int32)) (by decide) ?_
              refine j_icmp_ne C 120 rfl 127 dX5_way_117 rfl (fun c => ?_) (fun c => ?_)
              · have hw := hw.1 c
                refine j_iconst C 128 rfl dX5_way_127 (v := (1 : Int32)) (by decide) ?_
                refine j_iload C 130 rfl 6 dX5_way_128 rfl ?_
                refine j_iconst C 131 rfl dX5_way_130 (v := (2 : Int32)) (by decide) ?_
                refine j_irem C 132 rfl dX5_way_131 (by decide) ?_
                refine j_isub C 133 rfl dX5_way_132 ?_
                exact j_iret C R () rfl dX5_way_133 rfl hw
              · have hw := hw.2 c
                refine j_iload C 122 rfl 6 dX5_way_120 rfl ?_
                refine j_iconst C 123 rfl dX5_way_122 (v := (2 : Int32)) (by decide) ?_
                refine j_idiv C 124 rfl dX5_way_123 (by decide) ?_
                refine j_goto C 133 dX5_way_124 rfl ?_
                exact j_iret C R () rfl dX5_way_133 rfl hw
            · have hw := hw.2 c
              refine j_iload C 111 rfl 5 dX5_way_109 rfl ?_
              refine j_goto C 133 dX5_way_111 rfl ?_
              exact j_iret C R () rfl dX5_way_133 rfl hw
          · have hw := hw.2 c
            refine j_aload_n C 54 rfl 0 dX5_way_53 rfl rfl ?_
            refine j_iload_n C 55 rfl 1 dX5_way_54 rfl rfl ?_
            refine j_iload_n C 56 rfl 2 dX5_way_55 rfl rfl ?_
            refine j_iload_n C 57 rfl 3 dX5_way_56 rfl rfl ?_
            refine j_iload C 59 rfl 7 dX5_way_57 rfl ?_
            refine j_iconst C 60 rfl dX5_way_59 (v := (2 : Int32)) (by decide) ?_
            refine j_idiv C 61 rfl dX5_way_60 (by decide) ?_
            refine j_iload C 63 rfl 7 dX5_way_61 rfl ?_
            refine j_iconst C 64 rfl dX5_way_63 (v := (2 : Int32)) (by decide) ?_
            refine j_irem C 65 rfl dX5_way_64 (by decide) ?_
            refine j_if_ne C 68 rfl 72 dX5_way_65 rfl (fun c => ?_) (fun c => ?_)
            · have hw := hw.1 c
              refine j_iconst C 73 rfl dX5_way_72 (v := (0 : Int32)) (by decide) ?_
              exact hj73 _ _ _ _ _ _ _ _ hw
            · have hw := hw.2 c
              refine j_iconst C 69 rfl dX5_way_68 (v := (1 : Int32)) (by decide) ?_
              refine j_goto C 73 dX5_way_69 rfl ?_
              exact hj73 _ _ _ _ _ _ _ _ hw
        · have hw := hw.2 c
          refine j_bipush C 35 rfl dX5_way_33 (v := (-2 : Int32)) (by decide) ?_
          exact j_iret C R () rfl dX5_way_35 rfl hw
      · have hw := hw.2 c
        refine j_iconst C 22 rfl dX5_way_21 (v := (-1 : Int32)) (by decide) ?_
        exact j_iret C R () rfl dX5_way_22 rfl hw
theorem hi_X5_hitBy_X5 : ∀ w ∈ wsX50, w ∈ wsX5_hitBy := fun _ h => List.mem_cons_of_mem _ (List.mem_append_right _ h)
set_option maxRecDepth 20000 in
set_option maxHeartbeats 4000000 in
theorem c_X5_hitBy (l : Launch) (g : gE) (a_this a_pad a_sort a_heir a_was a_worth a_rights a_ahead a_bound a_owner a_foundBound a_foundOwner a_beside a_upward a_from a_queue a_image a_isKept : Nat) (v_signs : Int32) (v_generations : Int32) (v_toll : Int32) (v_foundLeast : Int32) (v_stops : Int32) (f_sort : (Nat → Int32)) (f_heir : (Nat → Int32)) (x1 : Int32) (x2 : Int32)  (K : Int32 → Int32 → Prop) (hw : wp_X5_hitBy v_stops f_sort f_heir x1 x2 K) : Ci l g yX5_hitBy wsX5_hitBy { frames := 1, cells := 0, slots := 0, locals := 20 } [.ref a_this, .int x1, .int x2] [(a_this, .inr (5, [.int v_signs, .ref a_pad, .ref a_sort, .ref a_heir, .int v_generations, .ref a_was, .ref a_worth, .int v_toll, .ref a_rights, .ref a_ahead, .ref a_bound, .ref a_owner, .ref a_foundBound, .ref a_foundOwner, .int v_foundLeast, .int v_stops, .ref a_beside, .ref a_upward, .ref a_from, .ref a_queue, .ref a_image, .ref a_isKept])), (a_sort, gI g 120 f_sort), (a_heir, gI g 24 f_heir)] (fun (r : Int32) (u : Int32) => K r u) (fun (u : Int32) => [(a_this, .inr (5, [.int v_signs, .ref a_pad, .ref a_sort, .ref a_heir, .int v_generations, .ref a_was, .ref a_worth, .int v_toll, .ref a_rights, .ref a_ahead, .ref a_bound, .ref a_owner, .ref a_foundBound, .ref a_foundOwner, .int v_foundLeast, .int u, .ref a_beside, .ref a_upward, .ref a_from, .ref a_queue, .ref a_image, .ref a_isKept])), (a_sort, gI g 120 f_sort), (a_heir, gI g 24 f_heir)]) 0 0 := by
  refine Ci_of (cc := cX5_hitBy) (nL := 8) (ret := (some .int)) (own := RX5) (lv0 := [(0, .ref a_this), (1, .int x1), (2, .int x2)]) (by decide +kernel) rfl rfl (Nat.le_of_ble_eq_true rfl) rfl (fun A x C R => ?_)
  refine j_iconst C 1 rfl dX5_hitBy_0 (v := (0 : Int32)) (by decide) ?_
  refine j_istore_n C 2 rfl [1, 2, 3, 0] (lv' := [(0, .ref a_this), (1, .int x1), (2, .int x2), (3, .int (0 : Int32))]) dX5_hitBy_1 rfl (by decide) rfl ?_
  refine j_iload_n C 3 rfl 1 dX5_hitBy_2 rfl rfl ?_
  refine j_istore C 5 rfl [1, 2, 3, 4, 0] (lv' := [(0, .ref a_this), (1, .int x1), (2, .int x2), (3, .int (0 : Int32)), (4, .int x1)]) dX5_hitBy_3 (by decide) rfl ?_
  refine j_iload_n C 6 rfl 2 dX5_hitBy_5 rfl rfl ?_
  refine j_istore C 8 rfl [1, 2, 3, 4, 5, 0] (lv' := [(0, .ref a_this), (1, .int x1), (2, .int x2), (3, .int (0 : Int32)), (4, .int x1), (5, .int x2)]) dX5_hitBy_6 (by decide) rfl ?_
  refine j_aload_n C 9 rfl 0 dX5_hitBy_8 rfl rfl ?_
  refine j_bipush C 11 rfl dX5_hitBy_9 (v := (-6 : Int32)) (by decide) ?_
  refine j_put C 14 rfl 0 5 15 (ws' := [(a_this, .inr (5, [.int v_signs, .ref a_pad, .ref a_sort, .ref a_heir, .int v_generations, .ref a_was, .ref a_worth, .int v_toll, .ref a_rights, .ref a_ahead, .ref a_bound, .ref a_owner, .ref a_foundBound, .ref a_foundOwner, .int v_foundLeast, .int (-6 : Int32), .ref a_beside, .ref a_upward, .ref a_from, .ref a_queue, .ref a_image, .ref a_isKept])), (a_sort, gI g 120 f_sort), (a_heir, gI g 24 f_heir)]) (T := TX5) (N := 22) (ty := .int) tyX5_ok nmX5 hi_X5_hitBy_X5 rfl (by decide) (List.mem_of_getElem? (i := 1) rfl) rfl rfl rfl rfl rfl rfl (Nat.le_of_ble_eq_true rfl) rfl dX5_hitBy_11 ?_
  refine j_iconst C 15 rfl dX5_hitBy_14 (v := (1 : Int32)) (by decide) ?_
  refine j_istore C 17 rfl [1, 2, 3, 4, 5, 6, 0] (lv' := [(0, .ref a_this), (1, .int x1), (2, .int x2), (3, .int (0 : Int32)), (4, .int x1), (5, .int x2), (6, .int (1 : Int32))]) dX5_hitBy_15 (by decide) rfl ?_
  refine j_lv [0, 3, 4, 5, 6] (lv' := [(0, .ref a_this), (3, .int (0 : Int32)), (4, .int x1), (5, .int x2), (6, .int (1 : Int32))]) rfl ?_
  refine lpW5_ind (G := fun x3 x4 x5 x6 v_stops => J l g A x 8 0 0 17 [(0, .ref a_this), (3, .int x3), (4, .int x4), (5, .int x5), (6, .int x6)] [] [(a_this, .inr (5, [.int v_signs, .ref a_pad, .ref a_sort, .ref a_heir, .int v_generations, .ref a_was, .ref a_worth, .int v_toll, .ref a_rights, .ref a_ahead, .ref a_bound, .ref a_owner, .ref a_foundBound, .ref a_foundOwner, .int v_foundLeast, .int v_stops, .ref a_beside, .ref a_upward, .ref a_from, .ref a_queue, .ref a_image, .ref a_isKept])), (a_sort, gI g 120 f_sort), (a_heir, gI g 24 f_heir)]) (fun L17 x3 x4 x5 x6 v_stops hL17 hw => ?_) _ _ _ _ _ hw
  have hj88 : ∀ (x3 : Int32) (x4 : Int32) (x5 : Int32) (s0 : Int32) (v_stops : Int32), wj_X5_hitBy_88 v_stops f_heir x3 x4 x5 s0 L17 → J l g A x 8 0 0 88 [(0, .ref a_this), (3, .int x3), (4, .int x4), (5, .int x5)] [.int s0] [(a_this, .inr (5, [.int v_signs, .ref a_pad, .ref a_sort, .ref a_heir, .int v_generations, .ref a_was, .ref a_worth, .int v_toll, .ref a_rights, .ref a_ahead, .ref a_bound, .ref a_owner, .ref a_foundBound, .ref a_foundOwner, .int v_foundLeast, .int v_stops, .ref a_beside, .ref a_upward, .ref a_from, .ref a_queue, .ref a_image, .ref a_isKept])), (a_sort, gI g 120 f_sort), (a_heir, gI g 24 f_heir)] := by
    intro x3 x4 x5 s0 v_stops hw
    refine j_istore C 90 rfl [1, 2, 3, 4, 0] (lv' := [(0, .ref a_this), (3, .int x3), (4, .int x4), (5, .int x5), (6, .int s0)]) dX5_hitBy_88 (by decide) rfl ?_
    refine j_iload_n C 91 rfl 1 dX5_hitBy_90 rfl rfl ?_
    refine j_iload C 93 rfl 4 dX5_hitBy_91 rfl ?_
    refine j_if_eq C 96 rfl 108 dX5_hitBy_93 rfl (fun c => ?_) (fun c => ?_)
    · have hw := hw.1 c
      refine j_iconst C 109 rfl dX5_hitBy_108 (v := (0 : Int32)) (by decide) ?_
      refine j_ior C 110 rfl dX5_hitBy_109 ?_
      refine j_top (fun n1 en1 => ?_)
      have hw := hw n1 en1
      refine j_istore_n C 111 rfl [1, 0, 2, 3, 4] (lv' := [(0, .ref a_this), (3, .int n1), (4, .int x4), (5, .int x5), (6, .int s0)]) dX5_hitBy_110 rfl (by decide) rfl ?_
      refine j_goto C 17 dX5_hitBy_111 rfl ?_
      exact hL17 _ _ _ _ _ hw
    · have hw := hw.2 c
      refine j_iconst C 97 rfl dX5_hitBy_96 (v := (1 : Int32)) (by decide) ?_
      refine j_aload_n C 98 rfl 0 dX5_hitBy_97 rfl rfl ?_
      refine j_get C 101 rfl 0 5 3 (T := TX5) (N := 22) hi_X5_hitBy_X5 rfl (by decide) (List.mem_of_getElem? (i := 3) rfl) rfl rfl rfl dX5_hitBy_98 ?_
      refine j_iload C 103 rfl 3 dX5_hitBy_101 rfl ?_
      obtain ⟨k2, ek2, hk2, hw⟩ := hw
      refine j_iald C 104 rfl 2 k2 rfl ek2 hk2 (by decide) dX5_hitBy_103 ?_
      refine j_ishl C 105 rfl dX5_hitBy_104 ?_
      refine j_goto C 109 dX5_hitBy_105 rfl ?_
      refine j_ior C 110 rfl dX5_hitBy_109 ?_
      refine j_top (fun n3 en3 => ?_)
      have hw := hw n3 en3
      refine j_istore_n C 111 rfl [1, 0, 2, 3, 4] (lv' := [(0, .ref a_this), (3, .int n3), (4, .int x4), (5, .int x5), (6, .int s0)]) dX5_hitBy_110 rfl (by decide) rfl ?_
      refine j_goto C 17 dX5_hitBy_111 rfl ?_
      exact hL17 _ _ _ _ _ hw
  refine j_iload C 19 rfl 4 dX5_hitBy_17 rfl ?_
  refine j_if_eq C 22 rfl 114 dX5_hitBy_19 rfl (fun c => ?_) (fun c => ?_)
  · have hw := hw.1 c
    refine j_iload_n C 115 rfl 1 dX5_hitBy_114 rfl rfl ?_
    exact j_iret C R (v_stops) rfl dX5_hitBy_115 rfl hw
  · have hw := hw.2 c
    refine j_aload_n C 23 rfl 0 dX5_hitBy_22 rfl rfl ?_
    refine j_get C 26 rfl 0 5 2 (T := TX5) (N := 22) hi_X5_hitBy_X5 rfl (by decide) (List.mem_of_getElem? (i := 2) rfl) rfl rfl rfl dX5_hitBy_23 ?_
    refine j_bipush C 28 rfl dX5_hitBy_26 (v := (24 : Int32)) (by decide) ?_
    refine j_iload C 30 rfl 2 dX5_hitBy_28 rfl ?_
    refine j_imul C 31 rfl dX5_hitBy_30 ?_
    refine j_iload C 33 rfl 3 dX5_hitBy_31 rfl ?_
    refine j_iadd C 34 rfl dX5_hitBy_33 ?_
    obtain ⟨k4, ek4, hk4, hw⟩ := hw
    refine j_iald C 35 rfl 1 k4 rfl ek4 hk4 (by decide) dX5_hitBy_34 ?_
    refine j_top (fun n5 en5 => ?_)
    have hw := hw n5 en5
    refine j_istore C 37 rfl [1, 2, 3, 4, 5, 0] (lv' := [(0, .ref a_this), (3, .int x3), (4, .int x4), (5, .int x5), (6, .int x6), (7, .int n5)]) dX5_hitBy_35 (by decide) rfl ?_
    refine j_iload C 39 rfl 5 dX5_hitBy_37 rfl ?_
    refine j_bipush C 41 rfl dX5_hitBy_39 (v := (119 : Int32)) (by decide) ?_
    refine j_icmp_ne C 44 rfl 56 dX5_hitBy_41 rfl (fun c => ?_) (fun c => ?_)
    · have hw := hw.1 c
      refine j_iload C 58 rfl 5 dX5_hitBy_56 rfl ?_
      refine j_bipush C 60 rfl dX5_hitBy_58 (v := (114 : Int32)) (by decide) ?_
      refine j_icmp_ne C 63 rfl 71 dX5_hitBy_60 rfl (fun c => ?_) (fun c => ?_)
      · have hw := hw.1 c
        refine j_iload C 73 rfl 3 dX5_hitBy_71 rfl ?_
        refine j_istore C 75 rfl [1, 2, 3, 0, 4, 5] (lv' := [(0, .ref a_this), (3, .int x3), (4, .int x4), (5, .int x5), (6, .int x6), (7, .int n5)]) dX5_hitBy_73 (by decide) rfl ?_
        refine j_iinc C 78 rfl 2 [1, 2, 0, 3, 4, 5] (v' := (-1 : Int32)) (lv' := fun z => [(0, .ref a_this), (3, .int x3), (4, .int z), (5, .int x5), (6, .int x6), (7, .int n5)]) dX5_hitBy_75 rfl (by decide) (by decide) (fun _ => rfl) (fun n6 en6 => ?_)
        have hw := hw n6 en6
        refine j_iload C 80 rfl 2 dX5_hitBy_78 rfl ?_
        refine j_if_lt C 83 rfl 87 dX5_hitBy_80 rfl (fun c => ?_) (fun c => ?_)
        · have hw := hw.1 c
          refine j_iconst C 88 rfl dX5_hitBy_87 (v := (0 : Int32)) (by decide) ?_
          refine j_lv [0, 1, 2, 3] (lv' := [(0, .ref a_this), (3, .int x3), (4, .int n6), (5, .int x5)]) rfl ?_
          exact hj88 _ _ _ _ _ hw
        · have hw := hw.2 c
          refine j_iconst C 84 rfl dX5_hitBy_83 (v := (1 : Int32)) (by decide) ?_
          refine j_goto C 88 dX5_hitBy_84 rfl ?_
          refine j_lv [0, 1, 2, 3] (lv' := [(0, .ref a_this), (3, .int x3), (4, .int n6), (5, .int x5)]) rfl ?_
          exact hj88 _ _ _ _ _ hw
      · have hw := hw.2 c
        refine j_iload C 65 rfl 3 dX5_hitBy_63 rfl ?_
        refine j_ri C 68 rfl (jc_S C (c_X5_next l g x5 _ hw) 1 gX5_hitBy_X5_next rfl rfl rfl hd_X5_next ⟨Nat.le_of_ble_eq_true rfl, Nat.le_of_ble_eq_true rfl⟩ [] rfl rfl (rest := []) rfl rfl (Nat.le_of_ble_eq_true rfl) dX5_hitBy_65 ⟨Nat.le_refl _, Nat.le_refl _⟩) [] rfl (fun _ => rfl) (fun r7 _ hw => ?_)
        try dsimp only at hw
        refine j_goto C 73 dX5_hitBy_68 rfl ?_
        refine j_istore C 75 rfl [1, 2, 3, 0, 4, 5] (lv' := [(0, .ref a_this), (3, .int x3), (4, .int x4), (5, .int r7), (6, .int x6), (7, .int n5)]) dX5_hitBy_73 (by decide) rfl ?_
        refine j_iinc C 78 rfl 2 [1, 2, 0, 3, 4, 5] (v' := (-1 : Int32)) (lv' := fun z => [(0, .ref a_this), (3, .int x3), (4, .int z), (5, .int r7), (6, .int x6), (7, .int n5)]) dX5_hitBy_75 rfl (by decide) (by decide) (fun _ => rfl) (fun n8 en8 => ?_)
        have hw := hw n8 en8
        refine j_iload C 80 rfl 2 dX5_hitBy_78 rfl ?_
        refine j_if_lt C 83 rfl 87 dX5_hitBy_80 rfl (fun c => ?_) (fun c => ?_)
        · have hw := hw.1 c
          refine j_iconst C 88 rfl dX5_hitBy_87 (v := (0 : Int32)) (by decide) ?_
          refine j_lv [0, 1, 2, 3] (lv' := [(0, .ref a_this), (3, .int x3), (4, .int n8), (5, .int r7)]) rfl ?_
          exact hj88 _ _ _ _ _ hw
        · have hw := hw.2 c
          refine j_iconst C 84 rfl dX5_hitBy_83 (v := (1 : Int32)) (by decide) ?_
          refine j_goto C 88 dX5_hitBy_84 rfl ?_
          refine j_lv [0, 1, 2, 3] (lv' := [(0, .ref a_this), (3, .int x3), (4, .int n8), (5, .int r7)]) rfl ?_
          exact hj88 _ _ _ _ _ hw
    · have hw := hw.2 c
      refine j_aload_n C 45 rfl 0 dX5_hitBy_44 rfl rfl ?_
      refine j_iload C 47 rfl 3 dX5_hitBy_45 rfl ?_
      refine j_put C 50 rfl 0 5 15 (ws' := [(a_this, .inr (5, [.int v_signs, .ref a_pad, .ref a_sort, .ref a_heir, .int v_generations, .ref a_was, .ref a_worth, .int v_toll, .ref a_rights, .ref a_ahead, .ref a_bound, .ref a_owner, .ref a_foundBound, .ref a_foundOwner, .int v_foundLeast, .int x5, .ref a_beside, .ref a_upward, .ref a_from, .ref a_queue, .ref a_image, .ref a_isKept])), (a_sort, gI g 120 f_sort), (a_heir, gI g 24 f_heir)]) (T := TX5) (N := 22) (ty := .int) tyX5_ok nmX5 hi_X5_hitBy_X5 rfl (by decide) (List.mem_of_getElem? (i := 1) rfl) rfl rfl rfl rfl rfl rfl (Nat.le_of_ble_eq_true rfl) rfl dX5_hitBy_47 ?_
      refine j_iconst C 51 rfl dX5_hitBy_50 (v := (0 : Int32)) (by decide) ?_
      refine j_istore C 53 rfl [1, 2, 3, 4, 0, 5] (lv' := [(0, .ref a_this), (3, .int x3), (4, .int x4), (5, .int x5), (6, .int (0 : Int32)), (7, .int n5)]) dX5_hitBy_51 (by decide) rfl ?_
      refine j_goto C 111 dX5_hitBy_53 rfl ?_
      refine j_goto C 17 dX5_hitBy_111 rfl ?_
      refine j_lv [0, 1, 2, 3, 4] (lv' := [(0, .ref a_this), (3, .int x3), (4, .int x4), (5, .int x5), (6, .int (0 : Int32))]) rfl ?_
      exact hL17 _ _ _ _ _ hw
theorem hi_X5_stone_X5 : ∀ w ∈ wsX50, w ∈ wsX5_stone := fun _ h => List.mem_cons_of_mem _ (List.mem_append_right _ h)
set_option maxRecDepth 20000 in
set_option maxHeartbeats 4000000 in
theorem c_X5_stone (l : Launch) (g : gE) (a_this a_pad a_sort a_heir a_was a_worth a_rights a_ahead a_bound a_owner a_foundBound a_foundOwner a_beside a_upward a_from a_queue a_image a_isKept : Nat) (v_signs : Int32) (v_generations : Int32) (v_toll : Int32) (v_foundLeast : Int32) (v_stops : Int32) (f_sort : (Nat → Int32)) (f_heir : (Nat → Int32)) (x1 : Int32) (x2 : Int32) (x3 : Int32)  (K : Int32 → Int32 → Prop) (hw : wp_X5_stone v_stops f_sort f_heir x1 x2 x3 K) : Ci l g yX5_stone wsX5_stone { frames := 2, cells := 0, slots := 0, locals := 47 } [.ref a_this, .int x1, .int x2, .int x3] [(a_this, .inr (5, [.int v_signs, .ref a_pad, .ref a_sort, .ref a_heir, .int v_generations, .ref a_was, .ref a_worth, .int v_toll, .ref a_rights, .ref a_ahead, .ref a_bound, .ref a_owner, .ref a_foundBound, .ref a_foundOwner, .int v_foundLeast, .int v_stops, .ref a_beside, .ref a_upward, .ref a_from, .ref a_queue, .ref a_image, .ref a_isKept])), (a_sort, gI g 120 f_sort), (a_heir, gI g 24 f_heir)] (fun (r : Int32) (u : Int32) => K r u) (fun (u : Int32) => [(a_this, .inr (5, [.int v_signs, .ref a_pad, .ref a_sort, .ref a_heir, .int v_generations, .ref a_was, .ref a_worth, .int v_toll, .ref a_rights, .ref a_ahead, .ref a_bound, .ref a_owner, .ref a_foundBound, .ref a_foundOwner, .int v_foundLeast, .int u, .ref a_beside, .ref a_upward, .ref a_from, .ref a_queue, .ref a_image, .ref a_isKept])), (a_sort, gI g 120 f_sort), (a_heir, gI g 24 f_heir)]) 0 0 := by
  refine Ci_of (cc := cX5_stone) (nL := 5) (ret := (some .int)) (own := RX5) (lv0 := [(0, .ref a_this), (1, .int x1), (2, .int x2), (3, .int x3)]) (by decide +kernel) rfl rfl (Nat.le_of_ble_eq_true rfl) rfl (fun A x C R => ?_)
  refine j_iload_n C 1 rfl 1 dX5_stone_0 rfl rfl ?_
  refine j_ri C 4 rfl (jc_S C (c_X5_isRing l g x1 _ hw) 1 gX5_stone_X5_isRing rfl rfl rfl hd_X5_isRing ⟨Nat.le_of_ble_eq_true rfl, Nat.le_of_ble_eq_true rfl⟩ [] rfl rfl (rest := []) rfl rfl (Nat.le_of_ble_eq_true rfl) dX5_stone_1 ⟨Nat.le_refl _, Nat.le_refl _⟩) [] rfl (fun _ => rfl) (fun r1 _ hw => ?_)
  try dsimp only at hw
  refine j_if_eq C 7 rfl 14 dX5_stone_4 rfl (fun c => ?_) (fun c => ?_)
  · have hw := hw.1 c
    refine j_iconst C 15 rfl dX5_stone_14 (v := (-1 : Int32)) (by decide) ?_
    exact j_iret C R (v_stops) rfl dX5_stone_15 rfl hw
  · have hw := hw.2 c
    refine j_iload_n C 8 rfl 2 dX5_stone_7 rfl rfl ?_
    refine j_ri C 11 rfl (jc_S C (c_X5_isSector l g x2 _ hw) 1 gX5_stone_X5_isSector rfl rfl rfl hd_X5_isSector ⟨Nat.le_of_ble_eq_true rfl, Nat.le_of_ble_eq_true rfl⟩ [] rfl rfl (rest := []) rfl rfl (Nat.le_of_ble_eq_true rfl) dX5_stone_8 ⟨Nat.le_refl _, Nat.le_refl _⟩) [] rfl (fun _ => rfl) (fun r2 _ hw => ?_)
    try dsimp only at hw
    refine j_if_ne C 14 rfl 16 dX5_stone_11 rfl (fun c => ?_) (fun c => ?_)
    · have hw := hw.1 c
      refine j_iload_n C 17 rfl 3 dX5_stone_16 rfl rfl ?_
      refine j_iconst C 18 rfl dX5_stone_17 (v := (0 : Int32)) (by decide) ?_
      refine j_iconst C 19 rfl dX5_stone_18 (v := (1 : Int32)) (by decide) ?_
      refine j_ri C 22 rfl (jc_S C (c_X5_in l g x3 (0 : Int32) (1 : Int32) _ hw) 3 gX5_stone_X5_in rfl rfl rfl hd_X5_in ⟨Nat.le_of_ble_eq_true rfl, Nat.le_of_ble_eq_true rfl⟩ [] rfl rfl (rest := []) rfl rfl (Nat.le_of_ble_eq_true rfl) dX5_stone_19 ⟨Nat.le_refl _, Nat.le_refl _⟩) [] rfl (fun _ => rfl) (fun r3 _ hw => ?_)
      try dsimp only at hw
      refine j_if_ne C 25 rfl 28 dX5_stone_22 rfl (fun c => ?_) (fun c => ?_)
      · have hw := hw.1 c
        refine j_aload_n C 29 rfl 0 dX5_stone_28 rfl rfl ?_
        refine j_iload_n C 30 rfl 1 dX5_stone_29 rfl rfl ?_
        refine j_iload_n C 31 rfl 2 dX5_stone_30 rfl rfl ?_
        refine j_rwi C 34 rfl (jc_V C (c_X5_hitBy l g a_this a_pad a_sort a_heir a_was a_worth a_rights a_ahead a_bound a_owner a_foundBound a_foundOwner a_beside a_upward a_from a_queue a_image a_isKept v_signs v_generations v_toll v_foundLeast v_stops f_sort f_heir x1 x2 _ hw) 2 gX5_stone_X5_hitBy rfl rfl rfl hd_X5_hitBy ⟨Nat.le_of_ble_eq_true rfl, Nat.le_of_ble_eq_true rfl⟩ (j_rec C 0 5 rfl rfl) [0, 1, 2] rfl rfl (rest := []) rfl rfl (Nat.le_of_ble_eq_true rfl) dX5_stone_31 ⟨Nat.le_refl _, Nat.le_refl _⟩) [0, 1, 2] [] [0, 1, 2] (wr := []) (ws' := fun u => [(a_this, .inr (5, [.int v_signs, .ref a_pad, .ref a_sort, .ref a_heir, .int v_generations, .ref a_was, .ref a_worth, .int v_toll, .ref a_rights, .ref a_ahead, .ref a_bound, .ref a_owner, .ref a_foundBound, .ref a_foundOwner, .int v_foundLeast, .int u, .ref a_beside, .ref a_upward, .ref a_from, .ref a_queue, .ref a_image, .ref a_isKept])), (a_sort, gI g 120 f_sort), (a_heir, gI g 24 f_heir)]) rfl rfl rfl (by decide) rfl (fun _ => rfl) (fun r4 u hw => ?_)
        obtain ⟨u5, eu5⟩ : ∃ z, z = u := ⟨_, rfl⟩
        subst eu5
        try dsimp only at hw
        show J l g A x 5 0 0 34 [(0, .ref a_this), (1, .int x1), (2, .int x2), (3, .int x3)] [.int r4] [(a_this, .inr (5, [.int v_signs, .ref a_pad, .ref a_sort, .ref a_heir, .int v_generations, .ref a_was, .ref a_worth, .int v_toll, .ref a_rights, .ref a_ahead, .ref a_bound, .ref a_owner, .ref a_foundBound, .ref a_foundOwner, .int v_foundLeast, .int u5, .ref a_beside, .ref a_upward, .ref a_from, .ref a_queue, .ref a_image, .ref a_isKept])), (a_sort, gI g 120 f_sort), (a_heir, gI g 24 f_heir)]
        refine j_istore C 36 rfl [1, 2, 3, 4, 0] (lv' := [(0, .ref a_this), (1, .int x1), (2, .int x2), (3, .int x3), (4, .int r4)]) dX5_stone_34 (by decide) rfl ?_
        refine j_iload_n C 37 rfl 3 dX5_stone_36 rfl rfl ?_
        refine j_if_ne C 40 rfl 45 dX5_stone_37 rfl (fun c => ?_) (fun c => ?_)
        · have hw := hw.1 c
          refine j_aload_n C 46 rfl 0 dX5_stone_45 rfl rfl ?_
          refine j_get C 49 rfl 0 5 15 (T := TX5) (N := 22) hi_X5_stone_X5 rfl (by decide) (List.mem_of_getElem? (i := 1) rfl) rfl rfl rfl dX5_stone_46 ?_
          exact j_iret C R (u5) rfl dX5_stone_49 rfl hw
        · have hw := hw.2 c
          refine j_iload C 42 rfl 4 dX5_stone_40 rfl ?_
          refine j_goto C 49 dX5_stone_42 rfl ?_
          exact j_iret C R (u5) rfl dX5_stone_49 rfl hw
      · have hw := hw.2 c
        refine j_bipush C 27 rfl dX5_stone_25 (v := (-2 : Int32)) (by decide) ?_
        exact j_iret C R (v_stops) rfl dX5_stone_27 rfl hw
    · have hw := hw.2 c
      refine j_iconst C 15 rfl dX5_stone_14 (v := (-1 : Int32)) (by decide) ?_
      exact j_iret C R (v_stops) rfl dX5_stone_15 rfl hw
theorem hi_X5_avalanche_X5 : ∀ w ∈ wsX50, w ∈ wsX5_avalanche := fun _ h => List.mem_cons_of_mem _ (List.mem_append_right _ h)
set_option maxRecDepth 20000 in
set_option maxHeartbeats 4000000 in
theorem c_X5_avalanche (l : Launch) (g : gE) (a_this a_pad a_sort a_heir a_was a_worth a_rights a_ahead a_bound a_owner a_foundBound a_foundOwner a_beside a_upward a_from a_queue a_image a_isKept : Nat) (v_signs : Int32) (v_generations : Int32) (v_toll : Int32) (v_foundLeast : Int32) (v_stops : Int32) (f_sort : (Nat → Int32)) (f_heir : (Nat → Int32)) (x1 : Int32) (x2 : Int32) (x3 : Int32)  (K : Int32 → Prop) (hw : wp_X5_avalanche f_sort f_heir x1 x2 x3 K) : Ci l g yX5_avalanche wsX5_avalanche { frames := 2, cells := 0, slots := 0, locals := 42 } [.ref a_this, .int x1, .int x2, .int x3] [(a_this, .inr (5, [.int v_signs, .ref a_pad, .ref a_sort, .ref a_heir, .int v_generations, .ref a_was, .ref a_worth, .int v_toll, .ref a_rights, .ref a_ahead, .ref a_bound, .ref a_owner, .ref a_foundBound, .ref a_foundOwner, .int v_foundLeast, .int v_stops, .ref a_beside, .ref a_upward, .ref a_from, .ref a_queue, .ref a_image, .ref a_isKept])), (a_sort, gI g 120 f_sort), (a_heir, gI g 24 f_heir)] (fun (r : Int32) (_ : Unit) => K r) (fun (_ : Unit) => [(a_this, .inr (5, [.int v_signs, .ref a_pad, .ref a_sort, .ref a_heir, .int v_generations, .ref a_was, .ref a_worth, .int v_toll, .ref a_rights, .ref a_ahead, .ref a_bound, .ref a_owner, .ref a_foundBound, .ref a_foundOwner, .int v_foundLeast, .int v_stops, .ref a_beside, .ref a_upward, .ref a_from, .ref a_queue, .ref a_image, .ref a_isKept])), (a_sort, gI g 120 f_sort), (a_heir, gI g 24 f_heir)]) 0 0 := by
  refine Ci_of (cc := cX5_avalanche) (nL := 11) (ret := (some .int)) (own := RX5) (lv0 := [(0, .ref a_this), (1, .int x1), (2, .int x2), (3, .int x3)]) (by decide +kernel) rfl rfl (Nat.le_of_ble_eq_true rfl) rfl (fun A x C R => ?_)
  refine j_iload_n C 1 rfl 1 dX5_avalanche_0 rfl rfl ?_
  refine j_ri C 4 rfl (jc_S C (c_X5_isRing l g x1 _ hw) 1 gX5_avalanche_X5_isRing rfl rfl rfl hd_X5_isRing ⟨Nat.le_of_ble_eq_true rfl, Nat.le_of_ble_eq_true rfl⟩ [] rfl rfl (rest := []) rfl rfl (Nat.le_of_ble_eq_true rfl) dX5_avalanche_1 ⟨Nat.le_refl _, Nat.le_refl _⟩) [] rfl (fun _ => rfl) (fun r1 _ hw => ?_)
  try dsimp only at hw
  refine j_if_eq C 7 rfl 14 dX5_avalanche_4 rfl (fun c => ?_) (fun c => ?_)
  · have hw := hw.1 c
    refine j_iconst C 15 rfl dX5_avalanche_14 (v := (-1 : Int32)) (by decide) ?_
    exact j_iret C R () rfl dX5_avalanche_15 rfl hw
  · have hw := hw.2 c
    refine j_iload_n C 8 rfl 2 dX5_avalanche_7 rfl rfl ?_
    refine j_ri C 11 rfl (jc_S C (c_X5_isSector l g x2 _ hw) 1 gX5_avalanche_X5_isSector rfl rfl rfl hd_X5_isSector ⟨Nat.le_of_ble_eq_true rfl, Nat.le_of_ble_eq_true rfl⟩ [] rfl rfl (rest := []) rfl rfl (Nat.le_of_ble_eq_true rfl) dX5_avalanche_8 ⟨Nat.le_refl _, Nat.le_refl _⟩) [] rfl (fun _ => rfl) (fun r2 _ hw => ?_)
    try dsimp only at hw
    refine j_if_ne C 14 rfl 16 dX5_avalanche_11 rfl (fun c => ?_) (fun c => ?_)
    · have hw := hw.1 c
      refine j_iload_n C 17 rfl 3 dX5_avalanche_16 rfl rfl ?_
      refine j_iconst C 18 rfl dX5_avalanche_17 (v := (0 : Int32)) (by decide) ?_
      refine j_iconst C 19 rfl dX5_avalanche_18 (v := (1 : Int32)) (by decide) ?_
      refine j_ri C 22 rfl (jc_S C (c_X5_in l g x3 (0 : Int32) (1 : Int32) _ hw) 3 gX5_avalanche_X5_in rfl rfl rfl hd_X5_in ⟨Nat.le_of_ble_eq_true rfl, Nat.le_of_ble_eq_true rfl⟩ [] rfl rfl (rest := []) rfl rfl (Nat.le_of_ble_eq_true rfl) dX5_avalanche_19 ⟨Nat.le_refl _, Nat.le_refl _⟩) [] rfl (fun _ => rfl) (fun r3 _ hw => ?_)
      try dsimp only at hw
      refine j_if_ne C 25 rfl 28 dX5_avalanche_22 rfl (fun c => ?_) (fun c => ?_)
      · have hw := hw.1 c
        refine j_aload_n C 29 rfl 0 dX5_avalanche_28 rfl rfl ?_
        refine j_get C 32 rfl 0 5 2 (T := TX5) (N := 22) hi_X5_avalanche_X5 rfl (by decide) (List.mem_of_getElem? (i := 1) rfl) rfl rfl rfl dX5_avalanche_29 ?_
        refine j_bipush C 34 rfl dX5_avalanche_32 (v := (24 : Int32)) (by decide) ?_
        refine j_iload_n C 35 rfl 1 dX5_avalanche_34 rfl rfl ?_
        refine j_imul C 36 rfl dX5_avalanche_35 ?_
        refine j_iload_n C 37 rfl 2 dX5_avalanche_36 rfl rfl ?_
        refine j_iadd C 38 rfl dX5_avalanche_37 ?_
        obtain ⟨k4, ek4, hk4, hw⟩ := hw
        refine j_iald C 39 rfl 1 k4 rfl ek4 hk4 (by decide) dX5_avalanche_38 ?_
        refine j_bipush C 41 rfl dX5_avalanche_39 (v := (115 : Int32)) (by decide) ?_
        refine j_icmp_eq C 44 rfl 47 dX5_avalanche_41 rfl (fun c => ?_) (fun c => ?_)
        · have hw := hw.1 c
          refine j_iconst C 48 rfl dX5_avalanche_47 (v := (1 : Int32)) (by decide) ?_
          refine j_iload_n C 49 rfl 2 dX5_avalanche_48 rfl rfl ?_
          refine j_ishl C 50 rfl dX5_avalanche_49 ?_
          refine j_top (fun n5 en5 => ?_)
          have hw := hw n5 en5
          refine j_istore C 52 rfl [1, 2, 3, 4, 0] (lv' := [(0, .ref a_this), (1, .int x1), (2, .int x2), (3, .int x3), (4, .int n5)]) dX5_avalanche_50 (by decide) rfl ?_
          refine j_iconst C 53 rfl dX5_avalanche_52 (v := (0 : Int32)) (by decide) ?_
          refine j_istore C 55 rfl [1, 2, 3, 4, 5, 0] (lv' := [(0, .ref a_this), (1, .int x1), (2, .int x2), (3, .int x3), (4, .int n5), (5, .int (0 : Int32))]) dX5_avalanche_53 (by decide) rfl ?_
          refine j_iconst C 56 rfl dX5_avalanche_55 (v := (1 : Int32)) (by decide) ?_
          refine j_istore C 58 rfl [1, 2, 3, 4, 5, 6, 0] (lv' := [(0, .ref a_this), (1, .int x1), (2, .int x2), (3, .int x3), (4, .int n5), (5, .int (0 : Int32)), (6, .int (1 : Int32))]) dX5_avalanche_56 (by decide) rfl ?_
          refine j_iload_n C 59 rfl 1 dX5_avalanche_58 rfl rfl ?_
          refine j_iconst C 60 rfl dX5_avalanche_59 (v := (1 : Int32)) (by decide) ?_
          refine j_isub C 61 rfl dX5_avalanche_60 ?_
          refine j_top (fun n6 en6 => ?_)
          have hw := hw n6 en6
          refine j_istore C 63 rfl [1, 2, 3, 4, 5, 6, 7, 0] (lv' := [(0, .ref a_this), (1, .int x1), (2, .int x2), (3, .int x3), (4, .int n5), (5, .int (0 : Int32)), (6, .int (1 : Int32)), (7, .int n6)]) dX5_avalanche_61 (by decide) rfl ?_
          refine j_lv [0, 3, 4, 5, 6, 7] (lv' := [(0, .ref a_this), (3, .int x3), (4, .int n5), (5, .int (0 : Int32)), (6, .int (1 : Int32)), (7, .int n6)]) rfl ?_
          refine lpW4_ind (G := fun x4 x5 x6 x7 => J l g A x 11 0 0 63 [(0, .ref a_this), (3, .int x3), (4, .int x4), (5, .int x5), (6, .int x6), (7, .int x7)] [] [(a_this, .inr (5, [.int v_signs, .ref a_pad, .ref a_sort, .ref a_heir, .int v_generations, .ref a_was, .ref a_worth, .int v_toll, .ref a_rights, .ref a_ahead, .ref a_bound, .ref a_owner, .ref a_foundBound, .ref a_foundOwner, .int v_foundLeast, .int v_stops, .ref a_beside, .ref a_upward, .ref a_from, .ref a_queue, .ref a_image, .ref a_isKept])), (a_sort, gI g 120 f_sort), (a_heir, gI g 24 f_heir)]) (fun L63 x4 x5 x6 x7 hL63 hw => ?_) _ _ _ _ hw
          refine j_iload C 65 rfl 5 dX5_avalanche_63 rfl ?_
          refine j_if_lt C 68 rfl 189 dX5_avalanche_65 rfl (fun c => ?_) (fun c => ?_)
          · have hw := hw.1 c
            refine j_iload_n C 190 rfl 1 dX5_avalanche_189 rfl rfl ?_
            refine j_if_ne C 193 rfl 198 dX5_avalanche_190 rfl (fun c => ?_) (fun c => ?_)
            · have hw := hw.1 c
              refine j_iload C 200 rfl 4 dX5_avalanche_198 rfl ?_
              exact j_iret C R () rfl dX5_avalanche_200 rfl hw
            · have hw := hw.2 c
              refine j_iload C 195 rfl 3 dX5_avalanche_193 rfl ?_
              refine j_goto C 200 dX5_avalanche_195 rfl ?_
              exact j_iret C R () rfl dX5_avalanche_200 rfl hw
          · have hw := hw.2 c
            refine j_iconst C 69 rfl dX5_avalanche_68 (v := (0 : Int32)) (by decide) ?_
            refine j_istore C 71 rfl [1, 2, 3, 4, 5, 6, 0] (lv' := [(0, .ref a_this), (3, .int x3), (4, .int x4), (5, .int x5), (6, .int x6), (7, .int x7), (8, .int (0 : Int32))]) dX5_avalanche_69 (by decide) rfl ?_
            refine j_iconst C 72 rfl dX5_avalanche_71 (v := (0 : Int32)) (by decide) ?_
            refine j_istore C 74 rfl [1, 2, 3, 4, 5, 6, 7, 0] (lv' := [(0, .ref a_this), (3, .int x3), (4, .int x4), (5, .int x5), (6, .int x6), (7, .int x7), (8, .int (0 : Int32)), (9, .int (0 : Int32))]) dX5_avalanche_72 (by decide) rfl ?_
            refine lpW4_ind (G := fun x5 x6 x8 x9 => J l g A x 11 0 0 74 [(0, .ref a_this), (3, .int x3), (4, .int x4), (5, .int x5), (6, .int x6), (7, .int x7), (8, .int x8), (9, .int x9)] [] [(a_this, .inr (5, [.int v_signs, .ref a_pad, .ref a_sort, .ref a_heir, .int v_generations, .ref a_was, .ref a_worth, .int v_toll, .ref a_rights, .ref a_ahead, .ref a_bound, .ref a_owner, .ref a_foundBound, .ref a_foundOwner, .int v_foundLeast, .int v_stops, .ref a_beside, .ref a_upward, .ref a_from, .ref a_queue, .ref a_image, .ref a_isKept])), (a_sort, gI g 120 f_sort), (a_heir, gI g 24 f_heir)]) (fun L74 x5 x6 x8 x9 hL74 hw => ?_) _ _ _ _ hw
            have hj122 : ∀ (x5 : Int32) (x6 : Int32) (x8 : Int32) (x9 : Int32) (s0 : Int32), wj_X5_avalanche_122 f_sort f_heir x5 x6 x7 x8 x9 s0 L74 → J l g A x 11 0 0 122 [(0, .ref a_this), (3, .int x3), (4, .int x4), (5, .int x5), (6, .int x6), (7, .int x7), (8, .int x8), (9, .int x9)] [.int s0] [(a_this, .inr (5, [.int v_signs, .ref a_pad, .ref a_sort, .ref a_heir, .int v_generations, .ref a_was, .ref a_worth, .int v_toll, .ref a_rights, .ref a_ahead, .ref a_bound, .ref a_owner, .ref a_foundBound, .ref a_foundOwner, .int v_foundLeast, .int v_stops, .ref a_beside, .ref a_upward, .ref a_from, .ref a_queue, .ref a_image, .ref a_isKept])), (a_sort, gI g 120 f_sort), (a_heir, gI g 24 f_heir)] := by
              intro x5 x6 x8 x9 s0 hw
              refine j_istore C 124 rfl [1, 2, 3, 4, 5, 6, 7, 8, 0] (lv' := [(0, .ref a_this), (3, .int x3), (4, .int x4), (5, .int x5), (6, .int x6), (7, .int x7), (8, .int x8), (9, .int x9), (10, .int s0)]) dX5_avalanche_122 (by decide) rfl ?_
              refine j_iload C 126 rfl 8 dX5_avalanche_124 rfl ?_
              refine j_if_eq C 129 rfl 173 dX5_avalanche_126 rfl (fun c => ?_) (fun c => ?_)
              · have hw := hw.1 c
                refine j_iinc C 176 rfl 7 [1, 2, 3, 4, 5, 6, 7, 0, 8] (v' := (1 : Int32)) (lv' := fun z => [(0, .ref a_this), (3, .int x3), (4, .int x4), (5, .int x5), (6, .int x6), (7, .int x7), (8, .int x8), (9, .int z), (10, .int s0)]) dX5_avalanche_173 rfl (by decide) (by decide) (fun _ => rfl) (fun n7 en7 => ?_)
                have hw := hw n7 en7
                refine j_goto C 74 dX5_avalanche_176 rfl ?_
                refine j_lv [0, 1, 2, 3, 4, 5, 6, 7] (lv' := [(0, .ref a_this), (3, .int x3), (4, .int x4), (5, .int x5), (6, .int x6), (7, .int x7), (8, .int x8), (9, .int n7)]) rfl ?_
                exact hL74 _ _ _ _ hw
              · have hw := hw.2 c
                refine j_aload_n C 130 rfl 0 dX5_avalanche_129 rfl rfl ?_
                refine j_get C 133 rfl 0 5 2 (T := TX5) (N := 22) hi_X5_avalanche_X5 rfl (by decide) (List.mem_of_getElem? (i := 1) rfl) rfl rfl rfl dX5_avalanche_130 ?_
                refine j_bipush C 135 rfl dX5_avalanche_133 (v := (24 : Int32)) (by decide) ?_
                refine j_iload C 137 rfl 5 dX5_avalanche_135 rfl ?_
                refine j_imul C 138 rfl dX5_avalanche_137 ?_
                refine j_iload C 140 rfl 7 dX5_avalanche_138 rfl ?_
                refine j_iadd C 141 rfl dX5_avalanche_140 ?_
                obtain ⟨k8, ek8, hk8, hw⟩ := hw
                refine j_iald C 142 rfl 1 k8 rfl ek8 hk8 (by decide) dX5_avalanche_141 ?_
                refine j_bipush C 144 rfl dX5_avalanche_142 (v := (119 : Int32)) (by decide) ?_
                refine j_icmp_eq C 147 rfl 173 dX5_avalanche_144 rfl (fun c => ?_) (fun c => ?_)
                · have hw := hw.1 c
                  refine j_iinc C 176 rfl 7 [1, 2, 3, 4, 5, 6, 7, 0, 8] (v' := (1 : Int32)) (lv' := fun z => [(0, .ref a_this), (3, .int x3), (4, .int x4), (5, .int x5), (6, .int x6), (7, .int x7), (8, .int x8), (9, .int z), (10, .int s0)]) dX5_avalanche_173 rfl (by decide) (by decide) (fun _ => rfl) (fun n9 en9 => ?_)
                  have hw := hw n9 en9
                  refine j_goto C 74 dX5_avalanche_176 rfl ?_
                  refine j_lv [0, 1, 2, 3, 4, 5, 6, 7] (lv' := [(0, .ref a_this), (3, .int x3), (4, .int x4), (5, .int x5), (6, .int x6), (7, .int x7), (8, .int x8), (9, .int n9)]) rfl ?_
                  exact hL74 _ _ _ _ hw
                · have hw := hw.2 c
                  refine j_iload C 149 rfl 6 dX5_avalanche_147 rfl ?_
                  refine j_iconst C 150 rfl dX5_avalanche_149 (v := (1 : Int32)) (by decide) ?_
                  refine j_iload C 152 rfl 7 dX5_avalanche_150 rfl ?_
                  refine j_ishl C 153 rfl dX5_avalanche_152 ?_
                  refine j_ior C 154 rfl dX5_avalanche_153 ?_
                  refine j_top (fun n10 en10 => ?_)
                  have hw := hw n10 en10
                  refine j_istore C 156 rfl [1, 2, 3, 4, 5, 6, 0, 7, 8] (lv' := [(0, .ref a_this), (3, .int x3), (4, .int x4), (5, .int x5), (6, .int x6), (7, .int x7), (8, .int n10), (9, .int x9), (10, .int s0)]) dX5_avalanche_154 (by decide) rfl ?_
                  refine j_iload C 158 rfl 3 dX5_avalanche_156 rfl ?_
                  refine j_iconst C 159 rfl dX5_avalanche_158 (v := (1 : Int32)) (by decide) ?_
                  refine j_aload_n C 160 rfl 0 dX5_avalanche_159 rfl rfl ?_
                  refine j_get C 163 rfl 0 5 3 (T := TX5) (N := 22) hi_X5_avalanche_X5 rfl (by decide) (List.mem_of_getElem? (i := 2) rfl) rfl rfl rfl dX5_avalanche_160 ?_
                  refine j_iload C 165 rfl 7 dX5_avalanche_163 rfl ?_
                  obtain ⟨k11, ek11, hk11, hw⟩ := hw
                  refine j_iald C 166 rfl 2 k11 rfl ek11 hk11 (by decide) dX5_avalanche_165 ?_
                  refine j_ishl C 167 rfl dX5_avalanche_166 ?_
                  refine j_ior C 168 rfl dX5_avalanche_167 ?_
                  refine j_top (fun n12 en12 => ?_)
                  have hw := hw n12 en12
                  refine j_istore C 170 rfl [1, 2, 3, 0, 4, 5, 6, 7, 8] (lv' := [(0, .ref a_this), (3, .int x3), (4, .int x4), (5, .int n12), (6, .int x6), (7, .int x7), (8, .int n10), (9, .int x9), (10, .int s0)]) dX5_avalanche_168 (by decide) rfl ?_
                  refine j_iinc C 173 rfl 4 [1, 2, 3, 4, 0, 5, 6, 7, 8] (v' := (1 : Int32)) (lv' := fun z => [(0, .ref a_this), (3, .int x3), (4, .int x4), (5, .int n12), (6, .int z), (7, .int x7), (8, .int n10), (9, .int x9), (10, .int s0)]) dX5_avalanche_170 rfl (by decide) (by decide) (fun _ => rfl) (fun n13 en13 => ?_)
                  have hw := hw n13 en13
                  refine j_iinc C 176 rfl 7 [1, 2, 3, 4, 5, 6, 7, 0, 8] (v' := (1 : Int32)) (lv' := fun z => [(0, .ref a_this), (3, .int x3), (4, .int x4), (5, .int n12), (6, .int n13), (7, .int x7), (8, .int n10), (9, .int z), (10, .int s0)]) dX5_avalanche_173 rfl (by decide) (by decide) (fun _ => rfl) (fun n14 en14 => ?_)
                  have hw := hw n14 en14
                  refine j_goto C 74 dX5_avalanche_176 rfl ?_
                  refine j_lv [0, 1, 2, 3, 4, 5, 6, 7] (lv' := [(0, .ref a_this), (3, .int x3), (4, .int x4), (5, .int n12), (6, .int n13), (7, .int x7), (8, .int n10), (9, .int n14)]) rfl ?_
                  exact hL74 _ _ _ _ hw
            refine j_iload C 76 rfl 7 dX5_avalanche_74 rfl ?_
            refine j_bipush C 78 rfl dX5_avalanche_76 (v := (24 : Int32)) (by decide) ?_
            refine j_icmp_ge C 81 rfl 179 dX5_avalanche_78 rfl (fun c => ?_) (fun c => ?_)
            · have hw := hw.1 c
              refine j_iload C 181 rfl 6 dX5_avalanche_179 rfl ?_
              refine j_istore C 183 rfl [1, 2, 0, 3, 4, 5, 6, 7] (lv' := [(0, .ref a_this), (3, .int x3), (4, .int x8), (5, .int x5), (6, .int x6), (7, .int x7), (8, .int x8), (9, .int x9)]) dX5_avalanche_181 (by decide) rfl ?_
              refine j_iinc C 186 rfl 5 [1, 2, 3, 4, 5, 0, 6, 7] (v' := (-1 : Int32)) (lv' := fun z => [(0, .ref a_this), (3, .int x3), (4, .int x8), (5, .int x5), (6, .int x6), (7, .int z), (8, .int x8), (9, .int x9)]) dX5_avalanche_183 rfl (by decide) (by decide) (fun _ => rfl) (fun n15 en15 => ?_)
              have hw := hw n15 en15
              refine j_goto C 63 dX5_avalanche_186 rfl ?_
              refine j_lv [0, 1, 2, 3, 4, 5] (lv' := [(0, .ref a_this), (3, .int x3), (4, .int x8), (5, .int x5), (6, .int x6), (7, .int n15)]) rfl ?_
              exact hL63 _ _ _ _ hw
            · have hw := hw.2 c
              refine j_iload C 83 rfl 2 dX5_avalanche_81 rfl ?_
              refine j_iload C 85 rfl 7 dX5_avalanche_83 rfl ?_
              refine j_ri C 88 rfl (jc_S C (c_X5_hasBit l g x4 x9 _ hw) 2 gX5_avalanche_X5_hasBit rfl rfl rfl hd_X5_hasBit ⟨Nat.le_of_ble_eq_true rfl, Nat.le_of_ble_eq_true rfl⟩ [] rfl rfl (rest := []) rfl rfl (Nat.le_of_ble_eq_true rfl) dX5_avalanche_85 ⟨Nat.le_refl _, Nat.le_refl _⟩) [] rfl (fun _ => rfl) (fun r16 _ hw => ?_)
              try dsimp only at hw
              refine j_if_ne C 91 rfl 117 dX5_avalanche_88 rfl (fun c => ?_) (fun c => ?_)
              · have hw := hw.1 c
                refine j_iconst C 118 rfl dX5_avalanche_117 (v := (1 : Int32)) (by decide) ?_
                refine j_goto C 122 dX5_avalanche_118 rfl ?_
                exact hj122 _ _ _ _ _ hw
              · have hw := hw.2 c
                refine j_iload C 93 rfl 2 dX5_avalanche_91 rfl ?_
                refine j_iload C 95 rfl 7 dX5_avalanche_93 rfl ?_
                refine j_ri C 98 rfl (jc_S C (c_X5_next l g x9 _ hw) 1 gX5_avalanche_X5_next rfl rfl rfl hd_X5_next ⟨Nat.le_of_ble_eq_true rfl, Nat.le_of_ble_eq_true rfl⟩ [] rfl rfl (rest := [.int x4]) rfl rfl (Nat.le_of_ble_eq_true rfl) dX5_avalanche_95 ⟨Nat.le_refl _, Nat.le_refl _⟩) [] rfl (fun _ => rfl) (fun r17 _ hw => ?_)
                try dsimp only at hw
                refine j_ri C 101 rfl (jc_S C (c_X5_hasBit l g x4 r17 _ hw) 2 gX5_avalanche_X5_hasBit rfl rfl rfl hd_X5_hasBit ⟨Nat.le_of_ble_eq_true rfl, Nat.le_of_ble_eq_true rfl⟩ [] rfl rfl (rest := []) rfl rfl (Nat.le_of_ble_eq_true rfl) dX5_avalanche_98 ⟨Nat.le_refl _, Nat.le_refl _⟩) [] rfl (fun _ => rfl) (fun r18 _ hw => ?_)
                try dsimp only at hw
                refine j_if_ne C 104 rfl 117 dX5_avalanche_101 rfl (fun c => ?_) (fun c => ?_)
                · have hw := hw.1 c
                  refine j_iconst C 118 rfl dX5_avalanche_117 (v := (1 : Int32)) (by decide) ?_
                  refine j_goto C 122 dX5_avalanche_118 rfl ?_
                  exact hj122 _ _ _ _ _ hw
                · have hw := hw.2 c
                  refine j_iload C 106 rfl 2 dX5_avalanche_104 rfl ?_
                  refine j_iload C 108 rfl 7 dX5_avalanche_106 rfl ?_
                  refine j_ri C 111 rfl (jc_S C (c_X5_before l g x9 _ hw) 1 gX5_avalanche_X5_before rfl rfl rfl hd_X5_before ⟨Nat.le_of_ble_eq_true rfl, Nat.le_of_ble_eq_true rfl⟩ [] rfl rfl (rest := [.int x4]) rfl rfl (Nat.le_of_ble_eq_true rfl) dX5_avalanche_108 ⟨Nat.le_refl _, Nat.le_refl _⟩) [] rfl (fun _ => rfl) (fun r19 _ hw => ?_)
                  try dsimp only at hw
                  refine j_ri C 114 rfl (jc_S C (c_X5_hasBit l g x4 r19 _ hw) 2 gX5_avalanche_X5_hasBit rfl rfl rfl hd_X5_hasBit ⟨Nat.le_of_ble_eq_true rfl, Nat.le_of_ble_eq_true rfl⟩ [] rfl rfl (rest := []) rfl rfl (Nat.le_of_ble_eq_true rfl) dX5_avalanche_111 ⟨Nat.le_refl _, Nat.le_refl _⟩) [] rfl (fun _ => rfl) (fun r20 _ hw => ?_)
                  try dsimp only at hw
                  refine j_if_eq C 117 rfl 121 dX5_avalanche_114 rfl (fun c => ?_) (fun c => ?_)
                  · have hw := hw.1 c
                    refine j_iconst C 122 rfl dX5_avalanche_121 (v := (0 : Int32)) (by decide) ?_
                    exact hj122 _ _ _ _ _ hw
                  · have hw := hw.2 c
                    refine j_iconst C 118 rfl dX5_avalanche_117 (v := (1 : Int32)) (by decide) ?_
                    refine j_goto C 122 dX5_avalanche_118 rfl ?_
                    exact hj122 _ _ _ _ _ hw
        · have hw := hw.2 c
          refine j_bipush C 46 rfl dX5_avalanche_44 (v := (-3 : Int32)) (by decide) ?_
          exact j_iret C R () rfl dX5_avalanche_46 rfl hw
      · have hw := hw.2 c
        refine j_bipush C 27 rfl dX5_avalanche_25 (v := (-2 : Int32)) (by decide) ?_
        exact j_iret C R () rfl dX5_avalanche_27 rfl hw
    · have hw := hw.2 c
      refine j_iconst C 15 rfl dX5_avalanche_14 (v := (-1 : Int32)) (by decide) ?_
      exact j_iret C R () rfl dX5_avalanche_15 rfl hw
theorem hi_X5_rolls_X5 : ∀ w ∈ wsX50, w ∈ wsX5_rolls := fun _ h => List.mem_cons_of_mem _ (List.mem_append_right _ h)
set_option maxRecDepth 20000 in
set_option maxHeartbeats 4000000 in
theorem c_X5_rolls (l : Launch) (g : gE) (a_this a_pad a_sort a_heir a_was a_worth a_rights a_ahead a_bound a_owner a_foundBound a_foundOwner a_beside a_upward a_from a_queue a_image a_isKept : Nat) (v_signs : Int32) (v_generations : Int32) (v_toll : Int32) (v_foundLeast : Int32) (v_stops : Int32) (f_sort : (Nat → Int32)) (f_heir : (Nat → Int32)) (x1 : Int32)  (K : Int32 → Int32 → Prop) (hw : wp_X5_rolls v_stops f_sort f_heir x1 K) : Ci l g yX5_rolls wsX5_rolls { frames := 2, cells := 0, slots := 0, locals := 47 } [.ref a_this, .int x1] [(a_this, .inr (5, [.int v_signs, .ref a_pad, .ref a_sort, .ref a_heir, .int v_generations, .ref a_was, .ref a_worth, .int v_toll, .ref a_rights, .ref a_ahead, .ref a_bound, .ref a_owner, .ref a_foundBound, .ref a_foundOwner, .int v_foundLeast, .int v_stops, .ref a_beside, .ref a_upward, .ref a_from, .ref a_queue, .ref a_image, .ref a_isKept])), (a_sort, gI g 120 f_sort), (a_heir, gI g 24 f_heir)] (fun (r : Int32) (u : Int32) => K r u) (fun (u : Int32) => [(a_this, .inr (5, [.int v_signs, .ref a_pad, .ref a_sort, .ref a_heir, .int v_generations, .ref a_was, .ref a_worth, .int v_toll, .ref a_rights, .ref a_ahead, .ref a_bound, .ref a_owner, .ref a_foundBound, .ref a_foundOwner, .int v_foundLeast, .int u, .ref a_beside, .ref a_upward, .ref a_from, .ref a_queue, .ref a_image, .ref a_isKept])), (a_sort, gI g 120 f_sort), (a_heir, gI g 24 f_heir)]) 0 0 := by
  refine Ci_of (cc := cX5_rolls) (nL := 4) (ret := (some .int)) (own := RX5) (lv0 := [(0, .ref a_this), (1, .int x1)]) (by decide +kernel) rfl rfl (Nat.le_of_ble_eq_true rfl) rfl (fun A x C R => ?_)
  refine j_iload_n C 1 rfl 1 dX5_rolls_0 rfl rfl ?_
  refine j_ri C 4 rfl (jc_S C (c_X5_isHeir l g x1 _ hw) 1 gX5_rolls_X5_isHeir rfl rfl rfl hd_X5_isHeir ⟨Nat.le_of_ble_eq_true rfl, Nat.le_of_ble_eq_true rfl⟩ [] rfl rfl (rest := []) rfl rfl (Nat.le_of_ble_eq_true rfl) dX5_rolls_1 ⟨Nat.le_refl _, Nat.le_refl _⟩) [] rfl (fun _ => rfl) (fun r1 _ hw => ?_)
  try dsimp only at hw
  refine j_if_ne C 7 rfl 9 dX5_rolls_4 rfl (fun c => ?_) (fun c => ?_)
  · have hw := hw.1 c
    refine j_iconst C 10 rfl dX5_rolls_9 (v := (0 : Int32)) (by decide) ?_
    refine j_istore_n C 11 rfl [1, 2, 0] (lv' := [(0, .ref a_this), (1, .int x1), (2, .int (0 : Int32))]) dX5_rolls_10 rfl (by decide) rfl ?_
    refine j_iconst C 12 rfl dX5_rolls_11 (v := (0 : Int32)) (by decide) ?_
    refine j_istore_n C 13 rfl [1, 2, 3, 0] (lv' := [(0, .ref a_this), (1, .int x1), (2, .int (0 : Int32)), (3, .int (0 : Int32))]) dX5_rolls_12 rfl (by decide) rfl ?_
    refine lpW3_ind (G := fun x2 x3 v_stops => J l g A x 4 0 0 13 [(0, .ref a_this), (1, .int x1), (2, .int x2), (3, .int x3)] [] [(a_this, .inr (5, [.int v_signs, .ref a_pad, .ref a_sort, .ref a_heir, .int v_generations, .ref a_was, .ref a_worth, .int v_toll, .ref a_rights, .ref a_ahead, .ref a_bound, .ref a_owner, .ref a_foundBound, .ref a_foundOwner, .int v_foundLeast, .int v_stops, .ref a_beside, .ref a_upward, .ref a_from, .ref a_queue, .ref a_image, .ref a_isKept])), (a_sort, gI g 120 f_sort), (a_heir, gI g 24 f_heir)]) (fun L13 x2 x3 v_stops hL13 hw => ?_) _ _ _ hw
    refine j_iload_n C 14 rfl 3 dX5_rolls_13 rfl rfl ?_
    refine j_bipush C 16 rfl dX5_rolls_14 (v := (120 : Int32)) (by decide) ?_
    refine j_icmp_ge C 19 rfl 57 dX5_rolls_16 rfl (fun c => ?_) (fun c => ?_)
    · have hw := hw.1 c
      refine j_iload_n C 58 rfl 2 dX5_rolls_57 rfl rfl ?_
      refine j_iconst C 59 rfl dX5_rolls_58 (v := (1 : Int32)) (by decide) ?_
      refine j_iload_n C 60 rfl 1 dX5_rolls_59 rfl rfl ?_
      refine j_ishl C 61 rfl dX5_rolls_60 ?_
      refine j_iconst C 62 rfl dX5_rolls_61 (v := (-1 : Int32)) (by decide) ?_
      refine j_ixor C 63 rfl dX5_rolls_62 ?_
      refine j_iand C 64 rfl dX5_rolls_63 ?_
      exact j_iret C R (v_stops) rfl dX5_rolls_64 rfl hw
    · have hw := hw.2 c
      refine j_iload_n C 20 rfl 2 dX5_rolls_19 rfl rfl ?_
      refine j_aload_n C 21 rfl 0 dX5_rolls_20 rfl rfl ?_
      refine j_get C 24 rfl 0 5 3 (T := TX5) (N := 22) hi_X5_rolls_X5 rfl (by decide) (List.mem_of_getElem? (i := 1) rfl) rfl rfl rfl dX5_rolls_21 ?_
      refine j_iload_n C 25 rfl 3 dX5_rolls_24 rfl rfl ?_
      refine j_bipush C 27 rfl dX5_rolls_25 (v := (24 : Int32)) (by decide) ?_
      refine j_irem C 28 rfl dX5_rolls_27 (by decide) ?_
      obtain ⟨k2, ek2, hk2, hw⟩ := hw
      refine j_iald C 29 rfl 2 k2 rfl ek2 hk2 (by decide) dX5_rolls_28 ?_
      refine j_iload_n C 30 rfl 1 dX5_rolls_29 rfl rfl ?_
      refine j_icmp_ne C 33 rfl 48 dX5_rolls_30 rfl (fun c => ?_) (fun c => ?_)
      · have hw := hw.1 c
        refine j_iconst C 49 rfl dX5_rolls_48 (v := (0 : Int32)) (by decide) ?_
        refine j_ior C 50 rfl dX5_rolls_49 ?_
        refine j_top (fun n3 en3 => ?_)
        have hw := hw n3 en3
        refine j_istore_n C 51 rfl [1, 2, 0, 3] (lv' := [(0, .ref a_this), (1, .int x1), (2, .int n3), (3, .int x3)]) dX5_rolls_50 rfl (by decide) rfl ?_
        refine j_iinc C 54 rfl 3 [1, 2, 3, 0] (v' := (1 : Int32)) (lv' := fun z => [(0, .ref a_this), (1, .int x1), (2, .int n3), (3, .int z)]) dX5_rolls_51 rfl (by decide) (by decide) (fun _ => rfl) (fun n4 en4 => ?_)
        have hw := hw n4 en4
        refine j_goto C 13 dX5_rolls_54 rfl ?_
        exact hL13 _ _ _ hw
      · have hw := hw.2 c
        refine j_aload_n C 34 rfl 0 dX5_rolls_33 rfl rfl ?_
        refine j_iload_n C 35 rfl 3 dX5_rolls_34 rfl rfl ?_
        refine j_bipush C 37 rfl dX5_rolls_35 (v := (24 : Int32)) (by decide) ?_
        refine j_idiv C 38 rfl dX5_rolls_37 (by decide) ?_
        refine j_iload_n C 39 rfl 3 dX5_rolls_38 rfl rfl ?_
        refine j_bipush C 41 rfl dX5_rolls_39 (v := (24 : Int32)) (by decide) ?_
        refine j_irem C 42 rfl dX5_rolls_41 (by decide) ?_
        refine j_nm1 (fun n5 en5 => ?_)
        have hw := hw n5 en5
        refine j_top (fun n6 en6 => ?_)
        have hw := hw n6 en6
        refine j_rwi C 45 rfl (jc_V C (c_X5_hitBy l g a_this a_pad a_sort a_heir a_was a_worth a_rights a_ahead a_bound a_owner a_foundBound a_foundOwner a_beside a_upward a_from a_queue a_image a_isKept v_signs v_generations v_toll v_foundLeast v_stops f_sort f_heir n5 n6 _ hw) 2 gX5_rolls_X5_hitBy rfl rfl rfl hd_X5_hitBy ⟨Nat.le_of_ble_eq_true rfl, Nat.le_of_ble_eq_true rfl⟩ (j_rec C 0 5 rfl rfl) [0, 1, 2] rfl rfl (rest := [.int x2]) rfl rfl (Nat.le_of_ble_eq_true rfl) dX5_rolls_42 ⟨Nat.le_refl _, Nat.le_refl _⟩) [0, 1, 2] [] [0, 1, 2] (wr := []) (ws' := fun u => [(a_this, .inr (5, [.int v_signs, .ref a_pad, .ref a_sort, .ref a_heir, .int v_generations, .ref a_was, .ref a_worth, .int v_toll, .ref a_rights, .ref a_ahead, .ref a_bound, .ref a_owner, .ref a_foundBound, .ref a_foundOwner, .int v_foundLeast, .int u, .ref a_beside, .ref a_upward, .ref a_from, .ref a_queue, .ref a_image, .ref a_isKept])), (a_sort, gI g 120 f_sort), (a_heir, gI g 24 f_heir)]) rfl rfl rfl (by decide) rfl (fun _ => rfl) (fun r7 u hw => ?_)
        obtain ⟨u8, eu8⟩ : ∃ z, z = u := ⟨_, rfl⟩
        subst eu8
        try dsimp only at hw
        show J l g A x 4 0 0 45 [(0, .ref a_this), (1, .int x1), (2, .int x2), (3, .int x3)] [.int r7, .int x2] [(a_this, .inr (5, [.int v_signs, .ref a_pad, .ref a_sort, .ref a_heir, .int v_generations, .ref a_was, .ref a_worth, .int v_toll, .ref a_rights, .ref a_ahead, .ref a_bound, .ref a_owner, .ref a_foundBound, .ref a_foundOwner, .int v_foundLeast, .int u8, .ref a_beside, .ref a_upward, .ref a_from, .ref a_queue, .ref a_image, .ref a_isKept])), (a_sort, gI g 120 f_sort), (a_heir, gI g 24 f_heir)]
        refine j_goto C 49 dX5_rolls_45 rfl ?_
        refine j_ior C 50 rfl dX5_rolls_49 ?_
        refine j_top (fun n9 en9 => ?_)
        have hw := hw n9 en9
        refine j_istore_n C 51 rfl [1, 2, 0, 3] (lv' := [(0, .ref a_this), (1, .int x1), (2, .int n9), (3, .int x3)]) dX5_rolls_50 rfl (by decide) rfl ?_
        refine j_iinc C 54 rfl 3 [1, 2, 3, 0] (v' := (1 : Int32)) (lv' := fun z => [(0, .ref a_this), (1, .int x1), (2, .int n9), (3, .int z)]) dX5_rolls_51 rfl (by decide) (by decide) (fun _ => rfl) (fun n10 en10 => ?_)
        have hw := hw n10 en10
        refine j_goto C 13 dX5_rolls_54 rfl ?_
        exact hL13 _ _ _ hw
  · have hw := hw.2 c
    refine j_iconst C 8 rfl dX5_rolls_7 (v := (-1 : Int32)) (by decide) ?_
    exact j_iret C R (v_stops) rfl dX5_rolls_8 rfl hw
theorem hi_X5_begins_X5 : ∀ w ∈ wsX50, w ∈ wsX5_begins := fun _ h => List.mem_cons_of_mem _ (List.mem_append_right _ h)
set_option maxRecDepth 20000 in
set_option maxHeartbeats 4000000 in
theorem c_X5_begins (l : Launch) (g : gE) (a_this a_pad a_sort a_heir a_was a_worth a_rights a_ahead a_bound a_owner a_foundBound a_foundOwner a_beside a_upward a_from a_queue a_image a_isKept : Nat) (v_signs : Int32) (v_generations : Int32) (v_toll : Int32) (v_foundLeast : Int32) (v_stops : Int32) (f_sort : (Nat → Int32)) (f_heir : (Nat → Int32)) (x1 : Int32) (x2 : Int32)  (K : Int32 → Prop) (hw : wp_X5_begins f_sort f_heir x1 x2 K) : Ci l g yX5_begins wsX5_begins { frames := 0, cells := 0, slots := 0, locals := 0 } [.ref a_this, .int x1, .int x2] [(a_this, .inr (5, [.int v_signs, .ref a_pad, .ref a_sort, .ref a_heir, .int v_generations, .ref a_was, .ref a_worth, .int v_toll, .ref a_rights, .ref a_ahead, .ref a_bound, .ref a_owner, .ref a_foundBound, .ref a_foundOwner, .int v_foundLeast, .int v_stops, .ref a_beside, .ref a_upward, .ref a_from, .ref a_queue, .ref a_image, .ref a_isKept])), (a_sort, gI g 120 f_sort), (a_heir, gI g 24 f_heir)] (fun (r : Int32) (_ : Unit) => K r) (fun (_ : Unit) => [(a_this, .inr (5, [.int v_signs, .ref a_pad, .ref a_sort, .ref a_heir, .int v_generations, .ref a_was, .ref a_worth, .int v_toll, .ref a_rights, .ref a_ahead, .ref a_bound, .ref a_owner, .ref a_foundBound, .ref a_foundOwner, .int v_foundLeast, .int v_stops, .ref a_beside, .ref a_upward, .ref a_from, .ref a_queue, .ref a_image, .ref a_isKept])), (a_sort, gI g 120 f_sort), (a_heir, gI g 24 f_heir)]) 0 0 := by
  refine Ci_of (cc := cX5_begins) (nL := 3) (ret := (some .boolean)) (own := RX5) (lv0 := [(0, .ref a_this), (1, .int x1), (2, .int x2)]) (by decide +kernel) rfl rfl (Nat.le_of_ble_eq_true rfl) rfl (fun A x C R => ?_)
  refine j_aload_n C 1 rfl 0 dX5_begins_0 rfl rfl ?_
  refine j_get C 4 rfl 0 5 3 (T := TX5) (N := 22) hi_X5_begins_X5 rfl (by decide) (List.mem_of_getElem? (i := 1) rfl) rfl rfl rfl dX5_begins_1 ?_
  refine j_iload_n C 5 rfl 2 dX5_begins_4 rfl rfl ?_
  refine j_bipush C 7 rfl dX5_begins_5 (v := (24 : Int32)) (by decide) ?_
  refine j_irem C 8 rfl dX5_begins_7 (by decide) ?_
  obtain ⟨k1, ek1, hk1, hw⟩ := hw
  refine j_iald C 9 rfl 2 k1 rfl ek1 hk1 (by decide) dX5_begins_8 ?_
  refine j_iload_n C 10 rfl 1 dX5_begins_9 rfl rfl ?_
  refine j_icmp_ne C 13 rfl 28 dX5_begins_10 rfl (fun c => ?_) (fun c => ?_)
  · have hw := hw.1 c
    refine j_iconst C 29 rfl dX5_begins_28 (v := (0 : Int32)) (by decide) ?_
    exact j_iret C R () rfl dX5_begins_29 rfl hw
  · have hw := hw.2 c
    refine j_aload_n C 14 rfl 0 dX5_begins_13 rfl rfl ?_
    refine j_get C 17 rfl 0 5 2 (T := TX5) (N := 22) hi_X5_begins_X5 rfl (by decide) (List.mem_of_getElem? (i := 2) rfl) rfl rfl rfl dX5_begins_14 ?_
    refine j_iload_n C 18 rfl 2 dX5_begins_17 rfl rfl ?_
    obtain ⟨k2, ek2, hk2, hw⟩ := hw
    refine j_iald C 19 rfl 1 k2 rfl ek2 hk2 (by decide) dX5_begins_18 ?_
    refine j_bipush C 21 rfl dX5_begins_19 (v := (109 : Int32)) (by decide) ?_
    refine j_icmp_ne C 24 rfl 28 dX5_begins_21 rfl (fun c => ?_) (fun c => ?_)
    · have hw := hw.1 c
      refine j_iconst C 29 rfl dX5_begins_28 (v := (0 : Int32)) (by decide) ?_
      exact j_iret C R () rfl dX5_begins_29 rfl hw
    · have hw := hw.2 c
      refine j_iconst C 25 rfl dX5_begins_24 (v := (1 : Int32)) (by decide) ?_
      refine j_goto C 29 dX5_begins_25 rfl ?_
      exact j_iret C R () rfl dX5_begins_29 rfl hw
theorem hi_X5_ends_X5 : ∀ w ∈ wsX50, w ∈ wsX5_ends := fun _ h => List.mem_cons_of_mem _ (List.mem_append_right _ h)
set_option maxRecDepth 20000 in
set_option maxHeartbeats 4000000 in
theorem c_X5_ends (l : Launch) (g : gE) (a_this a_pad a_sort a_heir a_was a_worth a_rights a_ahead a_bound a_owner a_foundBound a_foundOwner a_beside a_upward a_from a_queue a_image a_isKept : Nat) (v_signs : Int32) (v_generations : Int32) (v_toll : Int32) (v_foundLeast : Int32) (v_stops : Int32) (f_sort : (Nat → Int32)) (f_heir : (Nat → Int32)) (x1 : Int32) (x2 : Int32)  (K : Int32 → Prop) (hw : wp_X5_ends f_sort f_heir x1 x2 K) : Ci l g yX5_ends wsX5_ends { frames := 0, cells := 0, slots := 0, locals := 0 } [.ref a_this, .int x1, .int x2] [(a_this, .inr (5, [.int v_signs, .ref a_pad, .ref a_sort, .ref a_heir, .int v_generations, .ref a_was, .ref a_worth, .int v_toll, .ref a_rights, .ref a_ahead, .ref a_bound, .ref a_owner, .ref a_foundBound, .ref a_foundOwner, .int v_foundLeast, .int v_stops, .ref a_beside, .ref a_upward, .ref a_from, .ref a_queue, .ref a_image, .ref a_isKept])), (a_sort, gI g 120 f_sort), (a_heir, gI g 24 f_heir)] (fun (r : Int32) (_ : Unit) => K r) (fun (_ : Unit) => [(a_this, .inr (5, [.int v_signs, .ref a_pad, .ref a_sort, .ref a_heir, .int v_generations, .ref a_was, .ref a_worth, .int v_toll, .ref a_rights, .ref a_ahead, .ref a_bound, .ref a_owner, .ref a_foundBound, .ref a_foundOwner, .int v_foundLeast, .int v_stops, .ref a_beside, .ref a_upward, .ref a_from, .ref a_queue, .ref a_image, .ref a_isKept])), (a_sort, gI g 120 f_sort), (a_heir, gI g 24 f_heir)]) 0 0 := by
  refine Ci_of (cc := cX5_ends) (nL := 3) (ret := (some .boolean)) (own := RX5) (lv0 := [(0, .ref a_this), (1, .int x1), (2, .int x2)]) (by decide +kernel) rfl rfl (Nat.le_of_ble_eq_true rfl) rfl (fun A x C R => ?_)
  refine j_aload_n C 1 rfl 0 dX5_ends_0 rfl rfl ?_
  refine j_get C 4 rfl 0 5 3 (T := TX5) (N := 22) hi_X5_ends_X5 rfl (by decide) (List.mem_of_getElem? (i := 1) rfl) rfl rfl rfl dX5_ends_1 ?_
  refine j_iload_n C 5 rfl 2 dX5_ends_4 rfl rfl ?_
  refine j_bipush C 7 rfl dX5_ends_5 (v := (24 : Int32)) (by decide) ?_
  refine j_irem C 8 rfl dX5_ends_7 (by decide) ?_
  obtain ⟨k1, ek1, hk1, hw⟩ := hw
  refine j_iald C 9 rfl 2 k1 rfl ek1 hk1 (by decide) dX5_ends_8 ?_
  refine j_iload_n C 10 rfl 1 dX5_ends_9 rfl rfl ?_
  refine j_icmp_eq C 13 rfl 28 dX5_ends_10 rfl (fun c => ?_) (fun c => ?_)
  · have hw := hw.1 c
    refine j_iconst C 29 rfl dX5_ends_28 (v := (0 : Int32)) (by decide) ?_
    exact j_iret C R () rfl dX5_ends_29 rfl hw
  · have hw := hw.2 c
    refine j_aload_n C 14 rfl 0 dX5_ends_13 rfl rfl ?_
    refine j_get C 17 rfl 0 5 2 (T := TX5) (N := 22) hi_X5_ends_X5 rfl (by decide) (List.mem_of_getElem? (i := 2) rfl) rfl rfl rfl dX5_ends_14 ?_
    refine j_iload_n C 18 rfl 2 dX5_ends_17 rfl rfl ?_
    obtain ⟨k2, ek2, hk2, hw⟩ := hw
    refine j_iald C 19 rfl 1 k2 rfl ek2 hk2 (by decide) dX5_ends_18 ?_
    refine j_bipush C 21 rfl dX5_ends_19 (v := (118 : Int32)) (by decide) ?_
    refine j_icmp_ne C 24 rfl 28 dX5_ends_21 rfl (fun c => ?_) (fun c => ?_)
    · have hw := hw.1 c
      refine j_iconst C 29 rfl dX5_ends_28 (v := (0 : Int32)) (by decide) ?_
      exact j_iret C R () rfl dX5_ends_29 rfl hw
    · have hw := hw.2 c
      refine j_iconst C 25 rfl dX5_ends_24 (v := (1 : Int32)) (by decide) ?_
      refine j_goto C 29 dX5_ends_25 rfl ?_
      exact j_iret C R () rfl dX5_ends_29 rfl hw
theorem hi_X5_goes_X5 : ∀ w ∈ wsX50, w ∈ wsX5_goes := fun _ h => List.mem_cons_of_mem _ (List.mem_append_right _ h)
set_option maxRecDepth 20000 in
set_option maxHeartbeats 4000000 in
theorem c_X5_goes (l : Launch) (g : gE) (a_this a_pad a_sort a_heir a_was a_worth a_rights a_ahead a_bound a_owner a_foundBound a_foundOwner a_beside a_upward a_from a_queue a_image a_isKept : Nat) (v_signs : Int32) (v_generations : Int32) (v_toll : Int32) (v_foundLeast : Int32) (v_stops : Int32) (f_beside : (Nat → Int32)) (f_upward : (Nat → Int32)) (x1 : Int32) (x2 : Int32)  (K : Int32 → Prop) (hw : wp_X5_goes f_beside f_upward x1 x2 K) : Ci l g yX5_goes wsX5_goes { frames := 1, cells := 0, slots := 0, locals := 20 } [.ref a_this, .int x1, .int x2] [(a_this, .inr (5, [.int v_signs, .ref a_pad, .ref a_sort, .ref a_heir, .int v_generations, .ref a_was, .ref a_worth, .int v_toll, .ref a_rights, .ref a_ahead, .ref a_bound, .ref a_owner, .ref a_foundBound, .ref a_foundOwner, .int v_foundLeast, .int v_stops, .ref a_beside, .ref a_upward, .ref a_from, .ref a_queue, .ref a_image, .ref a_isKept])), (a_beside, gI g 120 f_beside), (a_upward, gI g 120 f_upward)] (fun (r : Int32) (_ : Unit) => K r) (fun (_ : Unit) => [(a_this, .inr (5, [.int v_signs, .ref a_pad, .ref a_sort, .ref a_heir, .int v_generations, .ref a_was, .ref a_worth, .int v_toll, .ref a_rights, .ref a_ahead, .ref a_bound, .ref a_owner, .ref a_foundBound, .ref a_foundOwner, .int v_foundLeast, .int v_stops, .ref a_beside, .ref a_upward, .ref a_from, .ref a_queue, .ref a_image, .ref a_isKept])), (a_beside, gI g 120 f_beside), (a_upward, gI g 120 f_upward)]) 0 0 := by
  refine Ci_of (cc := cX5_goes) (nL := 7) (ret := (some .int)) (own := RX5) (lv0 := [(0, .ref a_this), (1, .int x1), (2, .int x2)]) (by decide +kernel) rfl rfl (Nat.le_of_ble_eq_true rfl) rfl (fun A x C R => ?_)
  refine j_iload_n C 1 rfl 1 dX5_goes_0 rfl rfl ?_
  refine j_bipush C 3 rfl dX5_goes_1 (v := (24 : Int32)) (by decide) ?_
  refine j_idiv C 4 rfl dX5_goes_3 (by decide) ?_
  refine j_top (fun n1 en1 => ?_)
  have hw := hw n1 en1
  refine j_istore_n C 5 rfl [1, 2, 3, 0] (lv' := [(0, .ref a_this), (1, .int x1), (2, .int x2), (3, .int n1)]) dX5_goes_4 rfl (by decide) rfl ?_
  refine j_iload_n C 6 rfl 1 dX5_goes_5 rfl rfl ?_
  refine j_bipush C 8 rfl dX5_goes_6 (v := (24 : Int32)) (by decide) ?_
  refine j_irem C 9 rfl dX5_goes_8 (by decide) ?_
  refine j_top (fun n2 en2 => ?_)
  have hw := hw n2 en2
  refine j_istore C 11 rfl [1, 2, 3, 4, 0] (lv' := [(0, .ref a_this), (1, .int x1), (2, .int x2), (3, .int n1), (4, .int n2)]) dX5_goes_9 (by decide) rfl ?_
  refine j_bipush C 13 rfl dX5_goes_11 (v := (24 : Int32)) (by decide) ?_
  refine j_iload_n C 14 rfl 3 dX5_goes_13 rfl rfl ?_
  refine j_imul C 15 rfl dX5_goes_14 ?_
  refine j_iload C 17 rfl 4 dX5_goes_15 rfl ?_
  refine j_ri C 20 rfl (jc_S C (c_X5_next l g n2 _ hw) 1 gX5_goes_X5_next rfl rfl rfl hd_X5_next ⟨Nat.le_of_ble_eq_true rfl, Nat.le_of_ble_eq_true rfl⟩ [] rfl rfl (rest := [.int ((24 : Int32) * n1)]) rfl rfl (Nat.le_of_ble_eq_true rfl) dX5_goes_17 ⟨Nat.le_refl _, Nat.le_refl _⟩) [] rfl (fun _ => rfl) (fun r3 _ hw => ?_)
  try dsimp only at hw
  refine j_iadd C 21 rfl dX5_goes_20 ?_
  refine j_top (fun n4 en4 => ?_)
  have hw := hw n4 en4
  refine j_istore C 23 rfl [1, 2, 3, 4, 5, 0] (lv' := [(0, .ref a_this), (1, .int x1), (2, .int x2), (3, .int n1), (4, .int n2), (5, .int n4)]) dX5_goes_21 (by decide) rfl ?_
  refine j_bipush C 25 rfl dX5_goes_23 (v := (24 : Int32)) (by decide) ?_
  refine j_iload_n C 26 rfl 3 dX5_goes_25 rfl rfl ?_
  refine j_imul C 27 rfl dX5_goes_26 ?_
  refine j_iload C 29 rfl 4 dX5_goes_27 rfl ?_
  refine j_ri C 32 rfl (jc_S C (c_X5_before l g n2 _ hw) 1 gX5_goes_X5_before rfl rfl rfl hd_X5_before ⟨Nat.le_of_ble_eq_true rfl, Nat.le_of_ble_eq_true rfl⟩ [] rfl rfl (rest := [.int ((24 : Int32) * n1)]) rfl rfl (Nat.le_of_ble_eq_true rfl) dX5_goes_29 ⟨Nat.le_refl _, Nat.le_refl _⟩) [] rfl (fun _ => rfl) (fun r5 _ hw => ?_)
  try dsimp only at hw
  refine j_iadd C 33 rfl dX5_goes_32 ?_
  refine j_top (fun n6 en6 => ?_)
  have hw := hw n6 en6
  refine j_istore C 35 rfl [1, 2, 3, 4, 5, 6, 0] (lv' := [(0, .ref a_this), (1, .int x1), (2, .int x2), (3, .int n1), (4, .int n2), (5, .int n4), (6, .int n6)]) dX5_goes_33 (by decide) rfl ?_
  refine j_iload_n C 36 rfl 2 dX5_goes_35 rfl rfl ?_
  by_cases hsw : x2.toInt < 0 ∨ 2 < x2.toInt
  · have hw := hw.1 hsw
    refine j_tout C 129 dX5_goes_36 hsw rfl ?_
    refine j_iload_n C 130 rfl 3 dX5_goes_129 rfl rfl ?_
    refine j_if_le C 133 rfl 156 dX5_goes_130 rfl (fun c => ?_) (fun c => ?_)
    · have hw := hw.1 c
      refine j_bipush C 158 rfl dX5_goes_156 (v := (-6 : Int32)) (by decide) ?_
      exact j_iret C R () rfl dX5_goes_158 rfl hw
    · have hw := hw.2 c
      refine j_aload_n C 134 rfl 0 dX5_goes_133 rfl rfl ?_
      refine j_get C 137 rfl 0 5 17 (T := TX5) (N := 22) hi_X5_goes_X5 rfl (by decide) (List.mem_of_getElem? (i := 2) rfl) rfl rfl rfl dX5_goes_134 ?_
      refine j_iload_n C 138 rfl 1 dX5_goes_137 rfl rfl ?_
      refine j_bipush C 140 rfl dX5_goes_138 (v := (24 : Int32)) (by decide) ?_
      refine j_isub C 141 rfl dX5_goes_140 ?_
      obtain ⟨k7, ek7, hk7, hw⟩ := hw
      refine j_iald C 142 rfl 2 k7 rfl ek7 hk7 (by decide) dX5_goes_141 ?_
      refine j_iload_n C 143 rfl 3 dX5_goes_142 rfl rfl ?_
      refine j_bipush C 145 rfl dX5_goes_143 (v := (6 : Int32)) (by decide) ?_
      refine j_isub C 146 rfl dX5_goes_145 ?_
      refine j_icmp_le C 149 rfl 156 dX5_goes_146 rfl (fun c => ?_) (fun c => ?_)
      · have hw := hw.1 c
        refine j_bipush C 158 rfl dX5_goes_156 (v := (-6 : Int32)) (by decide) ?_
        exact j_iret C R () rfl dX5_goes_158 rfl hw
      · have hw := hw.2 c
        refine j_iload_n C 150 rfl 1 dX5_goes_149 rfl rfl ?_
        refine j_bipush C 152 rfl dX5_goes_150 (v := (24 : Int32)) (by decide) ?_
        refine j_isub C 153 rfl dX5_goes_152 ?_
        refine j_goto C 158 dX5_goes_153 rfl ?_
        exact j_iret C R () rfl dX5_goes_158 rfl hw
  have hcs : x2.toInt = 0 ∨ x2.toInt = 1 ∨ x2.toInt = 2 := by omega
  rcases hcs with hcs | hcs | hcs
  · have hcs := tc_eq (0 : Int32) hcs (by decide)
    have hw := hw.2.1 hcs
    refine j_tin C (off := 28) 64 (0 : Int32) hcs dX5_goes_36 (by decide) (by decide) (by decide) rfl ?_
    refine j_aload_n C 65 rfl 0 dX5_goes_64 rfl rfl ?_
    refine j_get C 68 rfl 0 5 16 (T := TX5) (N := 22) hi_X5_goes_X5 rfl (by decide) (List.mem_of_getElem? (i := 1) rfl) rfl rfl rfl dX5_goes_65 ?_
    refine j_iload_n C 69 rfl 1 dX5_goes_68 rfl rfl ?_
    obtain ⟨k8, ek8, hk8, hw⟩ := hw
    refine j_iald C 70 rfl 1 k8 rfl ek8 hk8 (by decide) dX5_goes_69 ?_
    refine j_iconst C 71 rfl dX5_goes_70 (v := (2 : Int32)) (by decide) ?_
    refine j_icmp_ge C 74 rfl 79 dX5_goes_71 rfl (fun c => ?_) (fun c => ?_)
    · have hw := hw.1 c
      refine j_bipush C 81 rfl dX5_goes_79 (v := (-6 : Int32)) (by decide) ?_
      exact j_iret C R () rfl dX5_goes_81 rfl hw
    · have hw := hw.2 c
      refine j_iload C 76 rfl 5 dX5_goes_74 rfl ?_
      refine j_goto C 81 dX5_goes_76 rfl ?_
      exact j_iret C R () rfl dX5_goes_81 rfl hw
  · have hcs := tc_eq (1 : Int32) hcs (by decide)
    have hw := hw.2.2.1 hcs
    refine j_tin C (off := 46) 82 (1 : Int32) hcs dX5_goes_36 (by decide) (by decide) (by decide) rfl ?_
    refine j_aload_n C 83 rfl 0 dX5_goes_82 rfl rfl ?_
    refine j_get C 86 rfl 0 5 16 (T := TX5) (N := 22) hi_X5_goes_X5 rfl (by decide) (List.mem_of_getElem? (i := 1) rfl) rfl rfl rfl dX5_goes_83 ?_
    refine j_iload C 88 rfl 6 dX5_goes_86 rfl ?_
    obtain ⟨k9, ek9, hk9, hw⟩ := hw
    refine j_iald C 89 rfl 1 k9 rfl ek9 hk9 (by decide) dX5_goes_88 ?_
    refine j_bipush C 91 rfl dX5_goes_89 (v := (-2 : Int32)) (by decide) ?_
    refine j_icmp_le C 94 rfl 99 dX5_goes_91 rfl (fun c => ?_) (fun c => ?_)
    · have hw := hw.1 c
      refine j_bipush C 101 rfl dX5_goes_99 (v := (-6 : Int32)) (by decide) ?_
      exact j_iret C R () rfl dX5_goes_101 rfl hw
    · have hw := hw.2 c
      refine j_iload C 96 rfl 6 dX5_goes_94 rfl ?_
      refine j_goto C 101 dX5_goes_96 rfl ?_
      exact j_iret C R () rfl dX5_goes_101 rfl hw
  · have hcs := tc_eq (2 : Int32) hcs (by decide)
    have hw := hw.2.2.2 hcs
    refine j_tin C (off := 66) 102 (2 : Int32) hcs dX5_goes_36 (by decide) (by decide) (by decide) rfl ?_
    refine j_iload_n C 103 rfl 3 dX5_goes_102 rfl rfl ?_
    refine j_iconst C 104 rfl dX5_goes_103 (v := (4 : Int32)) (by decide) ?_
    refine j_icmp_ge C 107 rfl 126 dX5_goes_104 rfl (fun c => ?_) (fun c => ?_)
    · have hw := hw.1 c
      refine j_bipush C 128 rfl dX5_goes_126 (v := (-6 : Int32)) (by decide) ?_
      exact j_iret C R () rfl dX5_goes_128 rfl hw
    · have hw := hw.2 c
      refine j_aload_n C 108 rfl 0 dX5_goes_107 rfl rfl ?_
      refine j_get C 111 rfl 0 5 17 (T := TX5) (N := 22) hi_X5_goes_X5 rfl (by decide) (List.mem_of_getElem? (i := 2) rfl) rfl rfl rfl dX5_goes_108 ?_
      refine j_iload_n C 112 rfl 1 dX5_goes_111 rfl rfl ?_
      obtain ⟨k10, ek10, hk10, hw⟩ := hw
      refine j_iald C 113 rfl 2 k10 rfl ek10 hk10 (by decide) dX5_goes_112 ?_
      refine j_iconst C 114 rfl dX5_goes_113 (v := (5 : Int32)) (by decide) ?_
      refine j_iload_n C 115 rfl 3 dX5_goes_114 rfl rfl ?_
      refine j_isub C 116 rfl dX5_goes_115 ?_
      refine j_icmp_ge C 119 rfl 126 dX5_goes_116 rfl (fun c => ?_) (fun c => ?_)
      · have hw := hw.1 c
        refine j_bipush C 128 rfl dX5_goes_126 (v := (-6 : Int32)) (by decide) ?_
        exact j_iret C R () rfl dX5_goes_128 rfl hw
      · have hw := hw.2 c
        refine j_iload_n C 120 rfl 1 dX5_goes_119 rfl rfl ?_
        refine j_bipush C 122 rfl dX5_goes_120 (v := (24 : Int32)) (by decide) ?_
        refine j_iadd C 123 rfl dX5_goes_122 ?_
        refine j_goto C 128 dX5_goes_123 rfl ?_
        exact j_iret C R () rfl dX5_goes_128 rfl hw
theorem hi_X5_go_X5 : ∀ w ∈ wsX50, w ∈ wsX5_go := fun _ h => List.mem_cons_of_mem _ (List.mem_append_right _ h)
set_option maxRecDepth 20000 in
set_option maxHeartbeats 4000000 in
theorem c_X5_go (l : Launch) (g : gE) (a_this a_pad a_sort a_heir a_was a_worth a_rights a_ahead a_bound a_owner a_foundBound a_foundOwner a_beside a_upward a_from a_queue a_image a_isKept : Nat) (v_signs : Int32) (v_generations : Int32) (v_toll : Int32) (v_foundLeast : Int32) (v_stops : Int32) (f_beside : (Nat → Int32)) (f_upward : (Nat → Int32)) (x1 : Int32) (x2 : Int32) (x3 : Int32)  (K : (Nat → Int32) → (Nat → Int32) → Prop) (hw : wp_X5_go f_beside f_upward x1 x2 x3 K) : Cv l g yX5_go wsX5_go { frames := 0, cells := 0, slots := 0, locals := 0 } [.ref a_this, .int x1, .int x2, .int x3] [(a_this, .inr (5, [.int v_signs, .ref a_pad, .ref a_sort, .ref a_heir, .int v_generations, .ref a_was, .ref a_worth, .int v_toll, .ref a_rights, .ref a_ahead, .ref a_bound, .ref a_owner, .ref a_foundBound, .ref a_foundOwner, .int v_foundLeast, .int v_stops, .ref a_beside, .ref a_upward, .ref a_from, .ref a_queue, .ref a_image, .ref a_isKept])), (a_beside, gI g 120 f_beside), (a_upward, gI g 120 f_upward)] (fun (u : (Nat → Int32) × (Nat → Int32)) => K u.1 u.2) (fun (u : (Nat → Int32) × (Nat → Int32)) => [(a_this, .inr (5, [.int v_signs, .ref a_pad, .ref a_sort, .ref a_heir, .int v_generations, .ref a_was, .ref a_worth, .int v_toll, .ref a_rights, .ref a_ahead, .ref a_bound, .ref a_owner, .ref a_foundBound, .ref a_foundOwner, .int v_foundLeast, .int v_stops, .ref a_beside, .ref a_upward, .ref a_from, .ref a_queue, .ref a_image, .ref a_isKept])), (a_beside, gI g 120 (u.1)), (a_upward, gI g 120 (u.2))]) 0 0 := by
  refine Cv_of (cc := cX5_go) (nL := 4) (ret := none) (own := RX5) (lv0 := [(0, .ref a_this), (1, .int x1), (2, .int x2), (3, .int x3)]) (by decide +kernel) rfl rfl (Nat.le_of_ble_eq_true rfl) rfl (fun A x C R => ?_)
  refine j_iload_n C 1 rfl 3 dX5_go_0 rfl rfl ?_
  by_cases hsw : x3.toInt < 0 ∨ 2 < x3.toInt
  · have hw := hw.1 hsw
    refine j_tout C 67 dX5_go_1 hsw rfl ?_
    refine j_aload_n C 68 rfl 0 dX5_go_67 rfl rfl ?_
    refine j_get C 71 rfl 0 5 17 (T := TX5) (N := 22) hi_X5_go_X5 rfl (by decide) (List.mem_of_getElem? (i := 2) rfl) rfl rfl rfl dX5_go_68 ?_
    refine j_iload_n C 72 rfl 2 dX5_go_71 rfl rfl ?_
    refine j_dup2 C 73 rfl dX5_go_72 rfl rfl ?_
    obtain ⟨k1, ek1, hk1, hw⟩ := hw
    refine j_iald C 74 rfl 2 k1 rfl ek1 hk1 (by decide) dX5_go_73 ?_
    refine j_iconst C 75 rfl dX5_go_74 (v := (1 : Int32)) (by decide) ?_
    refine j_isub C 76 rfl dX5_go_75 ?_
    refine j_top (fun n2 en2 => ?_)
    have hw := hw n2 en2
    obtain ⟨k3, ek3, hk3, hw⟩ := hw
    refine j_iast C 77 rfl 2 k3 (ws' := [(a_this, .inr (5, [.int v_signs, .ref a_pad, .ref a_sort, .ref a_heir, .int v_generations, .ref a_was, .ref a_worth, .int v_toll, .ref a_rights, .ref a_ahead, .ref a_bound, .ref a_owner, .ref a_foundBound, .ref a_foundOwner, .int v_foundLeast, .int v_stops, .ref a_beside, .ref a_upward, .ref a_from, .ref a_queue, .ref a_image, .ref a_isKept])), (a_beside, gI g 120 f_beside), (a_upward, gI g 120 (upd f_upward k3 n2))]) rfl ek3 hk3 (by decide) rfl dX5_go_76 ?_
    exact j_vret C R (f_beside, upd f_upward k3 n2) dX5_go_77 rfl hw
  have hcs : x3.toInt = 0 ∨ x3.toInt = 1 ∨ x3.toInt = 2 := by omega
  rcases hcs with hcs | hcs | hcs
  · have hcs := tc_eq (0 : Int32) hcs (by decide)
    have hw := hw.2.1 hcs
    refine j_tin C (off := 27) 28 (0 : Int32) hcs dX5_go_1 (by decide) (by decide) (by decide) rfl ?_
    refine j_aload_n C 29 rfl 0 dX5_go_28 rfl rfl ?_
    refine j_get C 32 rfl 0 5 16 (T := TX5) (N := 22) hi_X5_go_X5 rfl (by decide) (List.mem_of_getElem? (i := 1) rfl) rfl rfl rfl dX5_go_29 ?_
    refine j_iload_n C 33 rfl 1 dX5_go_32 rfl rfl ?_
    refine j_dup2 C 34 rfl dX5_go_33 rfl rfl ?_
    obtain ⟨k4, ek4, hk4, hw⟩ := hw
    refine j_iald C 35 rfl 1 k4 rfl ek4 hk4 (by decide) dX5_go_34 ?_
    refine j_iconst C 36 rfl dX5_go_35 (v := (1 : Int32)) (by decide) ?_
    refine j_iadd C 37 rfl dX5_go_36 ?_
    refine j_top (fun n5 en5 => ?_)
    have hw := hw n5 en5
    obtain ⟨k6, ek6, hk6, hw⟩ := hw
    refine j_iast C 38 rfl 1 k6 (ws' := [(a_this, .inr (5, [.int v_signs, .ref a_pad, .ref a_sort, .ref a_heir, .int v_generations, .ref a_was, .ref a_worth, .int v_toll, .ref a_rights, .ref a_ahead, .ref a_bound, .ref a_owner, .ref a_foundBound, .ref a_foundOwner, .int v_foundLeast, .int v_stops, .ref a_beside, .ref a_upward, .ref a_from, .ref a_queue, .ref a_image, .ref a_isKept])), (a_beside, gI g 120 (upd f_beside k6 n5)), (a_upward, gI g 120 f_upward)]) rfl ek6 hk6 (by decide) rfl dX5_go_37 ?_
    refine j_goto C 77 dX5_go_38 rfl ?_
    exact j_vret C R (upd f_beside k6 n5, f_upward) dX5_go_77 rfl hw
  · have hcs := tc_eq (1 : Int32) hcs (by decide)
    have hw := hw.2.2.1 hcs
    refine j_tin C (off := 40) 41 (1 : Int32) hcs dX5_go_1 (by decide) (by decide) (by decide) rfl ?_
    refine j_aload_n C 42 rfl 0 dX5_go_41 rfl rfl ?_
    refine j_get C 45 rfl 0 5 16 (T := TX5) (N := 22) hi_X5_go_X5 rfl (by decide) (List.mem_of_getElem? (i := 1) rfl) rfl rfl rfl dX5_go_42 ?_
    refine j_iload_n C 46 rfl 2 dX5_go_45 rfl rfl ?_
    refine j_dup2 C 47 rfl dX5_go_46 rfl rfl ?_
    obtain ⟨k7, ek7, hk7, hw⟩ := hw
    refine j_iald C 48 rfl 1 k7 rfl ek7 hk7 (by decide) dX5_go_47 ?_
    refine j_iconst C 49 rfl dX5_go_48 (v := (1 : Int32)) (by decide) ?_
    refine j_isub C 50 rfl dX5_go_49 ?_
    refine j_top (fun n8 en8 => ?_)
    have hw := hw n8 en8
    obtain ⟨k9, ek9, hk9, hw⟩ := hw
    refine j_iast C 51 rfl 1 k9 (ws' := [(a_this, .inr (5, [.int v_signs, .ref a_pad, .ref a_sort, .ref a_heir, .int v_generations, .ref a_was, .ref a_worth, .int v_toll, .ref a_rights, .ref a_ahead, .ref a_bound, .ref a_owner, .ref a_foundBound, .ref a_foundOwner, .int v_foundLeast, .int v_stops, .ref a_beside, .ref a_upward, .ref a_from, .ref a_queue, .ref a_image, .ref a_isKept])), (a_beside, gI g 120 (upd f_beside k9 n8)), (a_upward, gI g 120 f_upward)]) rfl ek9 hk9 (by decide) rfl dX5_go_50 ?_
    refine j_goto C 77 dX5_go_51 rfl ?_
    exact j_vret C R (upd f_beside k9 n8, f_upward) dX5_go_77 rfl hw
  · have hcs := tc_eq (2 : Int32) hcs (by decide)
    have hw := hw.2.2.2 hcs
    refine j_tin C (off := 53) 54 (2 : Int32) hcs dX5_go_1 (by decide) (by decide) (by decide) rfl ?_
    refine j_aload_n C 55 rfl 0 dX5_go_54 rfl rfl ?_
    refine j_get C 58 rfl 0 5 17 (T := TX5) (N := 22) hi_X5_go_X5 rfl (by decide) (List.mem_of_getElem? (i := 2) rfl) rfl rfl rfl dX5_go_55 ?_
    refine j_iload_n C 59 rfl 1 dX5_go_58 rfl rfl ?_
    refine j_dup2 C 60 rfl dX5_go_59 rfl rfl ?_
    obtain ⟨k10, ek10, hk10, hw⟩ := hw
    refine j_iald C 61 rfl 2 k10 rfl ek10 hk10 (by decide) dX5_go_60 ?_
    refine j_iconst C 62 rfl dX5_go_61 (v := (1 : Int32)) (by decide) ?_
    refine j_iadd C 63 rfl dX5_go_62 ?_
    refine j_top (fun n11 en11 => ?_)
    have hw := hw n11 en11
    obtain ⟨k12, ek12, hk12, hw⟩ := hw
    refine j_iast C 64 rfl 2 k12 (ws' := [(a_this, .inr (5, [.int v_signs, .ref a_pad, .ref a_sort, .ref a_heir, .int v_generations, .ref a_was, .ref a_worth, .int v_toll, .ref a_rights, .ref a_ahead, .ref a_bound, .ref a_owner, .ref a_foundBound, .ref a_foundOwner, .int v_foundLeast, .int v_stops, .ref a_beside, .ref a_upward, .ref a_from, .ref a_queue, .ref a_image, .ref a_isKept])), (a_beside, gI g 120 f_beside), (a_upward, gI g 120 (upd f_upward k12 n11))]) rfl ek12 hk12 (by decide) rfl dX5_go_63 ?_
    refine j_goto C 77 dX5_go_64 rfl ?_
    exact j_vret C R (f_beside, upd f_upward k12 n11) dX5_go_77 rfl hw
theorem hi_X5_goOne_X5 : ∀ w ∈ wsX50, w ∈ wsX5_goOne := fun _ h => List.mem_cons_of_mem _ (List.mem_append_right _ h)
set_option maxRecDepth 20000 in
set_option maxHeartbeats 4000000 in
theorem c_X5_goOne (l : Launch) (g : gE) (a_this a_pad a_sort a_heir a_was a_worth a_rights a_ahead a_bound a_owner a_foundBound a_foundOwner a_beside a_upward a_from a_queue a_image a_isKept : Nat) (v_signs : Int32) (v_generations : Int32) (v_toll : Int32) (v_foundLeast : Int32) (v_stops : Int32) (f_sort : (Nat → Int32)) (f_heir : (Nat → Int32)) (f_beside : (Nat → Int32)) (f_upward : (Nat → Int32)) (f_from : (Nat → Int32)) (f_queue : (Nat → Int32)) (x1 : Int32)  (K : Int32 → (Nat → Int32) → (Nat → Int32) → (Nat → Int32) → (Nat → Int32) → Prop) (hw : wp_X5_goOne f_sort f_heir f_beside f_upward f_from f_queue x1 K) : Ci l g yX5_goOne wsX5_goOne { frames := 2, cells := 0, slots := 0, locals := 46 } [.ref a_this, .int x1] [(a_this, .inr (5, [.int v_signs, .ref a_pad, .ref a_sort, .ref a_heir, .int v_generations, .ref a_was, .ref a_worth, .int v_toll, .ref a_rights, .ref a_ahead, .ref a_bound, .ref a_owner, .ref a_foundBound, .ref a_foundOwner, .int v_foundLeast, .int v_stops, .ref a_beside, .ref a_upward, .ref a_from, .ref a_queue, .ref a_image, .ref a_isKept])), (a_sort, gI g 120 f_sort), (a_heir, gI g 24 f_heir), (a_beside, gI g 120 f_beside), (a_upward, gI g 120 f_upward), (a_from, gI g 120 f_from), (a_queue, gI g 120 f_queue)] (fun (r : Int32) (u : (Nat → Int32) × (Nat → Int32) × (Nat → Int32) × (Nat → Int32)) => K r u.1 u.2.1 u.2.2.1 u.2.2.2) (fun (u : (Nat → Int32) × (Nat → Int32) × (Nat → Int32) × (Nat → Int32)) => [(a_this, .inr (5, [.int v_signs, .ref a_pad, .ref a_sort, .ref a_heir, .int v_generations, .ref a_was, .ref a_worth, .int v_toll, .ref a_rights, .ref a_ahead, .ref a_bound, .ref a_owner, .ref a_foundBound, .ref a_foundOwner, .int v_foundLeast, .int v_stops, .ref a_beside, .ref a_upward, .ref a_from, .ref a_queue, .ref a_image, .ref a_isKept])), (a_sort, gI g 120 f_sort), (a_heir, gI g 24 f_heir), (a_beside, gI g 120 (u.1)), (a_upward, gI g 120 (u.2.1)), (a_from, gI g 120 (u.2.2.1)), (a_queue, gI g 120 (u.2.2.2))]) 0 0 := by
  refine Ci_of (cc := cX5_goOne) (nL := 8) (ret := (some .boolean)) (own := RX5) (lv0 := [(0, .ref a_this), (1, .int x1)]) (by decide +kernel) rfl rfl (Nat.le_of_ble_eq_true rfl) rfl (fun A x C R => ?_)
  refine j_iconst C 1 rfl dX5_goOne_0 (v := (0 : Int32)) (by decide) ?_
  refine j_istore_n C 2 rfl [1, 2, 0] (lv' := [(0, .ref a_this), (1, .int x1), (2, .int (0 : Int32))]) dX5_goOne_1 rfl (by decide) rfl ?_
  refine j_iconst C 3 rfl dX5_goOne_2 (v := (0 : Int32)) (by decide) ?_
  refine j_istore_n C 4 rfl [1, 2, 3, 0] (lv' := [(0, .ref a_this), (1, .int x1), (2, .int (0 : Int32)), (3, .int (0 : Int32))]) dX5_goOne_3 rfl (by decide) rfl ?_
  refine lpW4_ind (G := fun x2 x3 f_from f_queue => J l g A x 8 0 0 4 [(0, .ref a_this), (1, .int x1), (2, .int x2), (3, .int x3)] [] [(a_this, .inr (5, [.int v_signs, .ref a_pad, .ref a_sort, .ref a_heir, .int v_generations, .ref a_was, .ref a_worth, .int v_toll, .ref a_rights, .ref a_ahead, .ref a_bound, .ref a_owner, .ref a_foundBound, .ref a_foundOwner, .int v_foundLeast, .int v_stops, .ref a_beside, .ref a_upward, .ref a_from, .ref a_queue, .ref a_image, .ref a_isKept])), (a_sort, gI g 120 f_sort), (a_heir, gI g 24 f_heir), (a_beside, gI g 120 f_beside), (a_upward, gI g 120 f_upward), (a_from, gI g 120 f_from), (a_queue, gI g 120 f_queue)]) (fun L4 x2 x3 f_from f_queue hL4 hw => ?_) _ _ _ _ hw
  refine j_iload_n C 5 rfl 3 dX5_goOne_4 rfl rfl ?_
  refine j_bipush C 7 rfl dX5_goOne_5 (v := (120 : Int32)) (by decide) ?_
  refine j_icmp_ge C 10 rfl 52 dX5_goOne_7 rfl (fun c => ?_) (fun c => ?_)
  · have hw := hw.1 c
    refine j_bipush C 54 rfl dX5_goOne_52 (v := (-6 : Int32)) (by decide) ?_
    refine j_istore_n C 55 rfl [1, 2, 3, 0] (lv' := [(0, .ref a_this), (1, .int x1), (2, .int x2), (3, .int (-6 : Int32))]) dX5_goOne_54 rfl (by decide) rfl ?_
    refine j_iconst C 56 rfl dX5_goOne_55 (v := (0 : Int32)) (by decide) ?_
    refine j_istore C 58 rfl [1, 2, 3, 4, 0] (lv' := [(0, .ref a_this), (1, .int x1), (2, .int x2), (3, .int (-6 : Int32)), (4, .int (0 : Int32))]) dX5_goOne_56 (by decide) rfl ?_
    refine lpW5_ind (G := fun x2 x3 x4 f_from f_queue => J l g A x 8 0 0 58 [(0, .ref a_this), (1, .int x1), (2, .int x2), (3, .int x3), (4, .int x4)] [] [(a_this, .inr (5, [.int v_signs, .ref a_pad, .ref a_sort, .ref a_heir, .int v_generations, .ref a_was, .ref a_worth, .int v_toll, .ref a_rights, .ref a_ahead, .ref a_bound, .ref a_owner, .ref a_foundBound, .ref a_foundOwner, .int v_foundLeast, .int v_stops, .ref a_beside, .ref a_upward, .ref a_from, .ref a_queue, .ref a_image, .ref a_isKept])), (a_sort, gI g 120 f_sort), (a_heir, gI g 24 f_heir), (a_beside, gI g 120 f_beside), (a_upward, gI g 120 f_upward), (a_from, gI g 120 f_from), (a_queue, gI g 120 f_queue)]) (fun L58 x2 x3 x4 f_from f_queue hL58 hw => ?_) _ _ _ _ _ hw
    refine j_iload C 60 rfl 4 dX5_goOne_58 rfl ?_
    refine j_iload_n C 61 rfl 2 dX5_goOne_60 rfl rfl ?_
    refine j_icmp_ge C 64 rfl 170 dX5_goOne_61 rfl (fun c => ?_) (fun c => ?_)
    · have hw := hw.1 c
      refine j_iload_n C 171 rfl 3 dX5_goOne_170 rfl rfl ?_
      refine j_if_ge C 174 rfl 176 dX5_goOne_171 rfl (fun c => ?_) (fun c => ?_)
      · have hw := hw.1 c
        refine j_iload_n C 177 rfl 3 dX5_goOne_176 rfl rfl ?_
        refine j_istore C 179 rfl [1, 2, 3, 4, 0] (lv' := [(0, .ref a_this), (1, .int x1), (2, .int x2), (3, .int x3), (4, .int x3)]) dX5_goOne_177 (by decide) rfl ?_
        refine j_lv [0, 4] (lv' := [(0, .ref a_this), (4, .int x3)]) rfl ?_
        refine lpW3_ind (G := fun x4 f_beside f_upward => J l g A x 8 0 0 179 [(0, .ref a_this), (4, .int x4)] [] [(a_this, .inr (5, [.int v_signs, .ref a_pad, .ref a_sort, .ref a_heir, .int v_generations, .ref a_was, .ref a_worth, .int v_toll, .ref a_rights, .ref a_ahead, .ref a_bound, .ref a_owner, .ref a_foundBound, .ref a_foundOwner, .int v_foundLeast, .int v_stops, .ref a_beside, .ref a_upward, .ref a_from, .ref a_queue, .ref a_image, .ref a_isKept])), (a_sort, gI g 120 f_sort), (a_heir, gI g 24 f_heir), (a_beside, gI g 120 f_beside), (a_upward, gI g 120 f_upward), (a_from, gI g 120 f_from), (a_queue, gI g 120 f_queue)]) (fun L179 x4 f_beside f_upward hL179 hw => ?_) _ _ _ hw
        refine j_aload_n C 180 rfl 0 dX5_goOne_179 rfl rfl ?_
        refine j_get C 183 rfl 0 5 18 (T := TX5) (N := 22) hi_X5_goOne_X5 rfl (by decide) (List.mem_of_getElem? (i := 1) rfl) rfl rfl rfl dX5_goOne_180 ?_
        refine j_iload C 185 rfl 1 dX5_goOne_183 rfl ?_
        obtain ⟨k1, ek1, hk1, hw⟩ := hw
        refine j_iald C 186 rfl 5 k1 rfl ek1 hk1 (by decide) dX5_goOne_185 ?_
        refine j_sipush C 189 rfl dX5_goOne_186 (v := (1000 : Int32)) (by decide) ?_
        refine j_icmp_eq C 192 rfl 227 dX5_goOne_189 rfl (fun c => ?_) (fun c => ?_)
        · have hw := hw.1 c
          refine j_iconst C 228 rfl dX5_goOne_227 (v := (1 : Int32)) (by decide) ?_
          exact j_iret C R (f_beside, f_upward, f_from, f_queue) rfl dX5_goOne_228 rfl hw
        · have hw := hw.2 c
          refine j_aload_n C 193 rfl 0 dX5_goOne_192 rfl rfl ?_
          refine j_get C 196 rfl 0 5 18 (T := TX5) (N := 22) hi_X5_goOne_X5 rfl (by decide) (List.mem_of_getElem? (i := 1) rfl) rfl rfl rfl dX5_goOne_193 ?_
          refine j_iload C 198 rfl 1 dX5_goOne_196 rfl ?_
          obtain ⟨k2, ek2, hk2, hw⟩ := hw
          refine j_iald C 199 rfl 5 k2 rfl ek2 hk2 (by decide) dX5_goOne_198 ?_
          refine j_iconst C 200 rfl dX5_goOne_199 (v := (4 : Int32)) (by decide) ?_
          refine j_idiv C 201 rfl dX5_goOne_200 (by decide) ?_
          refine j_top (fun n3 en3 => ?_)
          have hw := hw n3 en3
          refine j_istore C 203 rfl [1, 2, 0] (lv' := [(0, .ref a_this), (4, .int x4), (5, .int n3)]) dX5_goOne_201 (by decide) rfl ?_
          refine j_aload_n C 204 rfl 0 dX5_goOne_203 rfl rfl ?_
          refine j_iload C 206 rfl 2 dX5_goOne_204 rfl ?_
          refine j_iload C 208 rfl 1 dX5_goOne_206 rfl ?_
          refine j_aload_n C 209 rfl 0 dX5_goOne_208 rfl rfl ?_
          refine j_get C 212 rfl 0 5 18 (T := TX5) (N := 22) hi_X5_goOne_X5 rfl (by decide) (List.mem_of_getElem? (i := 1) rfl) rfl rfl rfl dX5_goOne_209 ?_
          refine j_iload C 214 rfl 1 dX5_goOne_212 rfl ?_
          obtain ⟨k4, ek4, hk4, hw⟩ := hw
          refine j_iald C 215 rfl 5 k4 rfl ek4 hk4 (by decide) dX5_goOne_214 ?_
          refine j_iconst C 216 rfl dX5_goOne_215 (v := (4 : Int32)) (by decide) ?_
          refine j_irem C 217 rfl dX5_goOne_216 (by decide) ?_
          refine j_top (fun n5 en5 => ?_)
          have hw := hw n5 en5
          refine j_rwv C 220 rfl (jc_V C (c_X5_go l g a_this a_pad a_sort a_heir a_was a_worth a_rights a_ahead a_bound a_owner a_foundBound a_foundOwner a_beside a_upward a_from a_queue a_image a_isKept v_signs v_generations v_toll v_foundLeast v_stops f_beside f_upward n3 x4 n5 _ hw) 3 gX5_goOne_X5_go rfl rfl rfl hd_X5_go ⟨Nat.le_of_ble_eq_true rfl, Nat.le_of_ble_eq_true rfl⟩ (j_rec C 0 5 rfl rfl) [0, 3, 4] rfl rfl (rest := []) rfl rfl (Nat.le_of_ble_eq_true rfl) dX5_goOne_217 ⟨Nat.le_refl _, Nat.le_refl _⟩) [0, 3, 4] [1, 2, 5, 6] [4, 0, 1, 5, 6, 2, 3] (wr := [(a_sort, gI g 120 f_sort), (a_heir, gI g 24 f_heir), (a_from, gI g 120 f_from), (a_queue, gI g 120 f_queue)]) (ws' := fun u => [(a_this, .inr (5, [.int v_signs, .ref a_pad, .ref a_sort, .ref a_heir, .int v_generations, .ref a_was, .ref a_worth, .int v_toll, .ref a_rights, .ref a_ahead, .ref a_bound, .ref a_owner, .ref a_foundBound, .ref a_foundOwner, .int v_foundLeast, .int v_stops, .ref a_beside, .ref a_upward, .ref a_from, .ref a_queue, .ref a_image, .ref a_isKept])), (a_sort, gI g 120 f_sort), (a_heir, gI g 24 f_heir), (a_beside, gI g 120 (u.1)), (a_upward, gI g 120 (u.2)), (a_from, gI g 120 f_from), (a_queue, gI g 120 f_queue)]) rfl rfl rfl (by decide) rfl (fun _ => rfl) (fun u hw => ?_)
          obtain ⟨u6, u7⟩ := u
          try dsimp only at hw
          show J l g A x 8 0 0 220 [(0, .ref a_this), (4, .int x4), (5, .int n3)] [] [(a_this, .inr (5, [.int v_signs, .ref a_pad, .ref a_sort, .ref a_heir, .int v_generations, .ref a_was, .ref a_worth, .int v_toll, .ref a_rights, .ref a_ahead, .ref a_bound, .ref a_owner, .ref a_foundBound, .ref a_foundOwner, .int v_foundLeast, .int v_stops, .ref a_beside, .ref a_upward, .ref a_from, .ref a_queue, .ref a_image, .ref a_isKept])), (a_sort, gI g 120 f_sort), (a_heir, gI g 24 f_heir), (a_beside, gI g 120 u6), (a_upward, gI g 120 u7), (a_from, gI g 120 f_from), (a_queue, gI g 120 f_queue)]
          refine j_iload C 222 rfl 2 dX5_goOne_220 rfl ?_
          refine j_istore C 224 rfl [1, 0, 2] (lv' := [(0, .ref a_this), (4, .int n3), (5, .int n3)]) dX5_goOne_222 (by decide) rfl ?_
          refine j_goto C 179 dX5_goOne_224 rfl ?_
          refine j_lv [0, 1] (lv' := [(0, .ref a_this), (4, .int n3)]) rfl ?_
          exact hL179 _ _ _ hw
      · have hw := hw.2 c
        refine j_iconst C 175 rfl dX5_goOne_174 (v := (0 : Int32)) (by decide) ?_
        exact j_iret C R (f_beside, f_upward, f_from, f_queue) rfl dX5_goOne_175 rfl hw
    · have hw := hw.2 c
      refine j_iload_n C 65 rfl 3 dX5_goOne_64 rfl rfl ?_
      refine j_if_ge C 68 rfl 170 dX5_goOne_65 rfl (fun c => ?_) (fun c => ?_)
      · have hw := hw.1 c
        refine j_iload_n C 171 rfl 3 dX5_goOne_170 rfl rfl ?_
        refine j_if_ge C 174 rfl 176 dX5_goOne_171 rfl (fun c => ?_) (fun c => ?_)
        · have hw := hw.1 c
          refine j_iload_n C 177 rfl 3 dX5_goOne_176 rfl rfl ?_
          refine j_istore C 179 rfl [1, 2, 3, 4, 0] (lv' := [(0, .ref a_this), (1, .int x1), (2, .int x2), (3, .int x3), (4, .int x3)]) dX5_goOne_177 (by decide) rfl ?_
          refine j_lv [0, 4] (lv' := [(0, .ref a_this), (4, .int x3)]) rfl ?_
          refine lpW3_ind (G := fun x4 f_beside f_upward => J l g A x 8 0 0 179 [(0, .ref a_this), (4, .int x4)] [] [(a_this, .inr (5, [.int v_signs, .ref a_pad, .ref a_sort, .ref a_heir, .int v_generations, .ref a_was, .ref a_worth, .int v_toll, .ref a_rights, .ref a_ahead, .ref a_bound, .ref a_owner, .ref a_foundBound, .ref a_foundOwner, .int v_foundLeast, .int v_stops, .ref a_beside, .ref a_upward, .ref a_from, .ref a_queue, .ref a_image, .ref a_isKept])), (a_sort, gI g 120 f_sort), (a_heir, gI g 24 f_heir), (a_beside, gI g 120 f_beside), (a_upward, gI g 120 f_upward), (a_from, gI g 120 f_from), (a_queue, gI g 120 f_queue)]) (fun L179 x4 f_beside f_upward hL179 hw => ?_) _ _ _ hw
          refine j_aload_n C 180 rfl 0 dX5_goOne_179 rfl rfl ?_
          refine j_get C 183 rfl 0 5 18 (T := TX5) (N := 22) hi_X5_goOne_X5 rfl (by decide) (List.mem_of_getElem? (i := 1) rfl) rfl rfl rfl dX5_goOne_180 ?_
          refine j_iload C 185 rfl 1 dX5_goOne_183 rfl ?_
          obtain ⟨k8, ek8, hk8, hw⟩ := hw
          refine j_iald C 186 rfl 5 k8 rfl ek8 hk8 (by decide) dX5_goOne_185 ?_
          refine j_sipush C 189 rfl dX5_goOne_186 (v := (1000 : Int32)) (by decide) ?_
          refine j_icmp_eq C 192 rfl 227 dX5_goOne_189 rfl (fun c => ?_) (fun c => ?_)
          · have hw := hw.1 c
            refine j_iconst C 228 rfl dX5_goOne_227 (v := (1 : Int32)) (by decide) ?_
            exact j_iret C R (f_beside, f_upward, f_from, f_queue) rfl dX5_goOne_228 rfl hw
          · have hw := hw.2 c
            refine j_aload_n C 193 rfl 0 dX5_goOne_192 rfl rfl ?_
            refine j_get C 196 rfl 0 5 18 (T := TX5) (N := 22) hi_X5_goOne_X5 rfl (by decide) (List.mem_of_getElem? (i := 1) rfl) rfl rfl rfl dX5_goOne_193 ?_
            refine j_iload C 198 rfl 1 dX5_goOne_196 rfl ?_
            obtain ⟨k9, ek9, hk9, hw⟩ := hw
            refine j_iald C 199 rfl 5 k9 rfl ek9 hk9 (by decide) dX5_goOne_198 ?_
            refine j_iconst C 200 rfl dX5_goOne_199 (v := (4 : Int32)) (by decide) ?_
            refine j_idiv C 201 rfl dX5_goOne_200 (by decide) ?_
            refine j_top (fun n10 en10 => ?_)
            have hw := hw n10 en10
            refine j_istore C 203 rfl [1, 2, 0] (lv' := [(0, .ref a_this), (4, .int x4), (5, .int n10)]) dX5_goOne_201 (by decide) rfl ?_
            refine j_aload_n C 204 rfl 0 dX5_goOne_203 rfl rfl ?_
            refine j_iload C 206 rfl 2 dX5_goOne_204 rfl ?_
            refine j_iload C 208 rfl 1 dX5_goOne_206 rfl ?_
            refine j_aload_n C 209 rfl 0 dX5_goOne_208 rfl rfl ?_
            refine j_get C 212 rfl 0 5 18 (T := TX5) (N := 22) hi_X5_goOne_X5 rfl (by decide) (List.mem_of_getElem? (i := 1) rfl) rfl rfl rfl dX5_goOne_209 ?_
            refine j_iload C 214 rfl 1 dX5_goOne_212 rfl ?_
            obtain ⟨k11, ek11, hk11, hw⟩ := hw
            refine j_iald C 215 rfl 5 k11 rfl ek11 hk11 (by decide) dX5_goOne_214 ?_
            refine j_iconst C 216 rfl dX5_goOne_215 (v := (4 : Int32)) (by decide) ?_
            refine j_irem C 217 rfl dX5_goOne_216 (by decide) ?_
            refine j_top (fun n12 en12 => ?_)
            have hw := hw n12 en12
            refine j_rwv C 220 rfl (jc_V C (c_X5_go l g a_this a_pad a_sort a_heir a_was a_worth a_rights a_ahead a_bound a_owner a_foundBound a_foundOwner a_beside a_upward a_from a_queue a_image a_isKept v_signs v_generations v_toll v_foundLeast v_stops f_beside f_upward n10 x4 n12 _ hw) 3 gX5_goOne_X5_go rfl rfl rfl hd_X5_go ⟨Nat.le_of_ble_eq_true rfl, Nat.le_of_ble_eq_true rfl⟩ (j_rec C 0 5 rfl rfl) [0, 3, 4] rfl rfl (rest := []) rfl rfl (Nat.le_of_ble_eq_true rfl) dX5_goOne_217 ⟨Nat.le_refl _, Nat.le_refl _⟩) [0, 3, 4] [1, 2, 5, 6] [4, 0, 1, 5, 6, 2, 3] (wr := [(a_sort, gI g 120 f_sort), (a_heir, gI g 24 f_heir), (a_from, gI g 120 f_from), (a_queue, gI g 120 f_queue)]) (ws' := fun u => [(a_this, .inr (5, [.int v_signs, .ref a_pad, .ref a_sort, .ref a_heir, .int v_generations, .ref a_was, .ref a_worth, .int v_toll, .ref a_rights, .ref a_ahead, .ref a_bound, .ref a_owner, .ref a_foundBound, .ref a_foundOwner, .int v_foundLeast, .int v_stops, .ref a_beside, .ref a_upward, .ref a_from, .ref a_queue, .ref a_image, .ref a_isKept])), (a_sort, gI g 120 f_sort), (a_heir, gI g 24 f_heir), (a_beside, gI g 120 (u.1)), (a_upward, gI g 120 (u.2)), (a_from, gI g 120 f_from), (a_queue, gI g 120 f_queue)]) rfl rfl rfl (by decide) rfl (fun _ => rfl) (fun u hw => ?_)
            obtain ⟨u13, u14⟩ := u
            try dsimp only at hw
            show J l g A x 8 0 0 220 [(0, .ref a_this), (4, .int x4), (5, .int n10)] [] [(a_this, .inr (5, [.int v_signs, .ref a_pad, .ref a_sort, .ref a_heir, .int v_generations, .ref a_was, .ref a_worth, .int v_toll, .ref a_rights, .ref a_ahead, .ref a_bound, .ref a_owner, .ref a_foundBound, .ref a_foundOwner, .int v_foundLeast, .int v_stops, .ref a_beside, .ref a_upward, .ref a_from, .ref a_queue, .ref a_image, .ref a_isKept])), (a_sort, gI g 120 f_sort), (a_heir, gI g 24 f_heir), (a_beside, gI g 120 u13), (a_upward, gI g 120 u14), (a_from, gI g 120 f_from), (a_queue, gI g 120 f_queue)]
            refine j_iload C 222 rfl 2 dX5_goOne_220 rfl ?_
            refine j_istore C 224 rfl [1, 0, 2] (lv' := [(0, .ref a_this), (4, .int n10), (5, .int n10)]) dX5_goOne_222 (by decide) rfl ?_
            refine j_goto C 179 dX5_goOne_224 rfl ?_
            refine j_lv [0, 1] (lv' := [(0, .ref a_this), (4, .int n10)]) rfl ?_
            exact hL179 _ _ _ hw
        · have hw := hw.2 c
          refine j_iconst C 175 rfl dX5_goOne_174 (v := (0 : Int32)) (by decide) ?_
          exact j_iret C R (f_beside, f_upward, f_from, f_queue) rfl dX5_goOne_175 rfl hw
      · have hw := hw.2 c
        refine j_aload_n C 69 rfl 0 dX5_goOne_68 rfl rfl ?_
        refine j_get C 72 rfl 0 5 19 (T := TX5) (N := 22) hi_X5_goOne_X5 rfl (by decide) (List.mem_of_getElem? (i := 2) rfl) rfl rfl rfl dX5_goOne_69 ?_
        refine j_iload C 74 rfl 4 dX5_goOne_72 rfl ?_
        obtain ⟨k15, ek15, hk15, hw⟩ := hw
        refine j_iald C 75 rfl 6 k15 rfl ek15 hk15 (by decide) dX5_goOne_74 ?_
        refine j_top (fun n16 en16 => ?_)
        have hw := hw n16 en16
        refine j_istore C 77 rfl [1, 2, 3, 4, 5, 0] (lv' := [(0, .ref a_this), (1, .int x1), (2, .int x2), (3, .int x3), (4, .int x4), (5, .int n16)]) dX5_goOne_75 (by decide) rfl ?_
        refine j_iconst C 78 rfl dX5_goOne_77 (v := (0 : Int32)) (by decide) ?_
        refine j_istore C 80 rfl [1, 2, 3, 4, 5, 6, 0] (lv' := [(0, .ref a_this), (1, .int x1), (2, .int x2), (3, .int x3), (4, .int x4), (5, .int n16), (6, .int (0 : Int32))]) dX5_goOne_78 (by decide) rfl ?_
        refine lpW5_ind (G := fun x2 x3 x6 f_from f_queue => J l g A x 8 0 0 80 [(0, .ref a_this), (1, .int x1), (2, .int x2), (3, .int x3), (4, .int x4), (5, .int n16), (6, .int x6)] [] [(a_this, .inr (5, [.int v_signs, .ref a_pad, .ref a_sort, .ref a_heir, .int v_generations, .ref a_was, .ref a_worth, .int v_toll, .ref a_rights, .ref a_ahead, .ref a_bound, .ref a_owner, .ref a_foundBound, .ref a_foundOwner, .int v_foundLeast, .int v_stops, .ref a_beside, .ref a_upward, .ref a_from, .ref a_queue, .ref a_image, .ref a_isKept])), (a_sort, gI g 120 f_sort), (a_heir, gI g 24 f_heir), (a_beside, gI g 120 f_beside), (a_upward, gI g 120 f_upward), (a_from, gI g 120 f_from), (a_queue, gI g 120 f_queue)]) (fun L80 x2 x3 x6 f_from f_queue hL80 hw => ?_) _ _ _ _ _ hw
        refine j_iload C 82 rfl 6 dX5_goOne_80 rfl ?_
        refine j_iconst C 83 rfl dX5_goOne_82 (v := (4 : Int32)) (by decide) ?_
        refine j_icmp_ge C 86 rfl 164 dX5_goOne_83 rfl (fun c => ?_) (fun c => ?_)
        · have hw := hw.1 c
          refine j_iinc C 167 rfl 4 [1, 2, 3, 4, 0, 5, 6] (v' := (1 : Int32)) (lv' := fun z => [(0, .ref a_this), (1, .int x1), (2, .int x2), (3, .int x3), (4, .int z), (5, .int n16), (6, .int x6)]) dX5_goOne_164 rfl (by decide) (by decide) (fun _ => rfl) (fun n17 en17 => ?_)
          have hw := hw n17 en17
          refine j_goto C 58 dX5_goOne_167 rfl ?_
          refine j_lv [0, 1, 2, 3, 4] (lv' := [(0, .ref a_this), (1, .int x1), (2, .int x2), (3, .int x3), (4, .int n17)]) rfl ?_
          exact hL58 _ _ _ _ _ hw
        · have hw := hw.2 c
          refine j_iload_n C 87 rfl 3 dX5_goOne_86 rfl rfl ?_
          refine j_if_ge C 90 rfl 164 dX5_goOne_87 rfl (fun c => ?_) (fun c => ?_)
          · have hw := hw.1 c
            refine j_iinc C 167 rfl 4 [1, 2, 3, 4, 0, 5, 6] (v' := (1 : Int32)) (lv' := fun z => [(0, .ref a_this), (1, .int x1), (2, .int x2), (3, .int x3), (4, .int z), (5, .int n16), (6, .int x6)]) dX5_goOne_164 rfl (by decide) (by decide) (fun _ => rfl) (fun n18 en18 => ?_)
            have hw := hw n18 en18
            refine j_goto C 58 dX5_goOne_167 rfl ?_
            refine j_lv [0, 1, 2, 3, 4] (lv' := [(0, .ref a_this), (1, .int x1), (2, .int x2), (3, .int x3), (4, .int n18)]) rfl ?_
            exact hL58 _ _ _ _ _ hw
          · have hw := hw.2 c
            refine j_aload_n C 91 rfl 0 dX5_goOne_90 rfl rfl ?_
            refine j_iload C 93 rfl 5 dX5_goOne_91 rfl ?_
            refine j_iload C 95 rfl 6 dX5_goOne_93 rfl ?_
            refine j_ri C 98 rfl (jc_V C (c_X5_goes l g a_this a_pad a_sort a_heir a_was a_worth a_rights a_ahead a_bound a_owner a_foundBound a_foundOwner a_beside a_upward a_from a_queue a_image a_isKept v_signs v_generations v_toll v_foundLeast v_stops f_beside f_upward n16 x6 _ hw) 2 gX5_goOne_X5_goes rfl rfl rfl hd_X5_goes ⟨Nat.le_of_ble_eq_true rfl, Nat.le_of_ble_eq_true rfl⟩ (j_rec C 0 5 rfl rfl) [0, 3, 4] rfl rfl (rest := []) rfl rfl (Nat.le_of_ble_eq_true rfl) dX5_goOne_95 ⟨Nat.le_refl _, Nat.le_refl _⟩) [0, 3, 4] rfl (fun _ => rfl) (fun r19 _ hw => ?_)
            try dsimp only at hw
            refine j_istore C 100 rfl [1, 2, 3, 4, 5, 6, 7, 0] (lv' := [(0, .ref a_this), (1, .int x1), (2, .int x2), (3, .int x3), (4, .int x4), (5, .int n16), (6, .int x6), (7, .int r19)]) dX5_goOne_98 (by decide) rfl ?_
            refine j_iload C 102 rfl 7 dX5_goOne_100 rfl ?_
            refine j_if_lt C 105 rfl 158 dX5_goOne_102 rfl (fun c => ?_) (fun c => ?_)
            · have hw := hw.1 c
              refine j_iinc C 161 rfl 6 [1, 2, 3, 4, 5, 6, 0, 7] (v' := (1 : Int32)) (lv' := fun z => [(0, .ref a_this), (1, .int x1), (2, .int x2), (3, .int x3), (4, .int x4), (5, .int n16), (6, .int z), (7, .int r19)]) dX5_goOne_158 rfl (by decide) (by decide) (fun _ => rfl) (fun n20 en20 => ?_)
              have hw := hw n20 en20
              refine j_goto C 80 dX5_goOne_161 rfl ?_
              refine j_lv [0, 1, 2, 3, 4, 5, 6] (lv' := [(0, .ref a_this), (1, .int x1), (2, .int x2), (3, .int x3), (4, .int x4), (5, .int n16), (6, .int n20)]) rfl ?_
              exact hL80 _ _ _ _ _ hw
            · have hw := hw.2 c
              refine j_aload_n C 106 rfl 0 dX5_goOne_105 rfl rfl ?_
              refine j_get C 109 rfl 0 5 18 (T := TX5) (N := 22) hi_X5_goOne_X5 rfl (by decide) (List.mem_of_getElem? (i := 1) rfl) rfl rfl rfl dX5_goOne_106 ?_
              refine j_iload C 111 rfl 7 dX5_goOne_109 rfl ?_
              obtain ⟨k21, ek21, hk21, hw⟩ := hw
              refine j_iald C 112 rfl 5 k21 rfl ek21 hk21 (by decide) dX5_goOne_111 ?_
              refine j_if_ge C 115 rfl 158 dX5_goOne_112 rfl (fun c => ?_) (fun c => ?_)
              · have hw := hw.1 c
                refine j_iinc C 161 rfl 6 [1, 2, 3, 4, 5, 6, 0, 7] (v' := (1 : Int32)) (lv' := fun z => [(0, .ref a_this), (1, .int x1), (2, .int x2), (3, .int x3), (4, .int x4), (5, .int n16), (6, .int z), (7, .int r19)]) dX5_goOne_158 rfl (by decide) (by decide) (fun _ => rfl) (fun n22 en22 => ?_)
                have hw := hw n22 en22
                refine j_goto C 80 dX5_goOne_161 rfl ?_
                refine j_lv [0, 1, 2, 3, 4, 5, 6] (lv' := [(0, .ref a_this), (1, .int x1), (2, .int x2), (3, .int x3), (4, .int x4), (5, .int n16), (6, .int n22)]) rfl ?_
                exact hL80 _ _ _ _ _ hw
              · have hw := hw.2 c
                refine j_aload_n C 116 rfl 0 dX5_goOne_115 rfl rfl ?_
                refine j_get C 119 rfl 0 5 18 (T := TX5) (N := 22) hi_X5_goOne_X5 rfl (by decide) (List.mem_of_getElem? (i := 1) rfl) rfl rfl rfl dX5_goOne_116 ?_
                refine j_iload C 121 rfl 7 dX5_goOne_119 rfl ?_
                refine j_iconst C 122 rfl dX5_goOne_121 (v := (4 : Int32)) (by decide) ?_
                refine j_iload C 124 rfl 5 dX5_goOne_122 rfl ?_
                refine j_imul C 125 rfl dX5_goOne_124 ?_
                refine j_iload C 127 rfl 6 dX5_goOne_125 rfl ?_
                refine j_iadd C 128 rfl dX5_goOne_127 ?_
                refine j_top (fun n23 en23 => ?_)
                have hw := hw n23 en23
                obtain ⟨k24, ek24, hk24, hw⟩ := hw
                refine j_iast C 129 rfl 5 k24 (ws' := [(a_this, .inr (5, [.int v_signs, .ref a_pad, .ref a_sort, .ref a_heir, .int v_generations, .ref a_was, .ref a_worth, .int v_toll, .ref a_rights, .ref a_ahead, .ref a_bound, .ref a_owner, .ref a_foundBound, .ref a_foundOwner, .int v_foundLeast, .int v_stops, .ref a_beside, .ref a_upward, .ref a_from, .ref a_queue, .ref a_image, .ref a_isKept])), (a_sort, gI g 120 f_sort), (a_heir, gI g 24 f_heir), (a_beside, gI g 120 f_beside), (a_upward, gI g 120 f_upward), (a_from, gI g 120 (upd f_from k24 n23)), (a_queue, gI g 120 f_queue)]) rfl ek24 hk24 (by decide) rfl dX5_goOne_128 ?_
                refine j_aload_n C 130 rfl 0 dX5_goOne_129 rfl rfl ?_
                refine j_get C 133 rfl 0 5 19 (T := TX5) (N := 22) hi_X5_goOne_X5 rfl (by decide) (List.mem_of_getElem? (i := 2) rfl) rfl rfl rfl dX5_goOne_130 ?_
                refine j_iload_n C 134 rfl 2 dX5_goOne_133 rfl rfl ?_
                refine j_iload C 136 rfl 7 dX5_goOne_134 rfl ?_
                obtain ⟨k25, ek25, hk25, hw⟩ := hw
                refine j_iast C 137 rfl 6 k25 (ws' := [(a_this, .inr (5, [.int v_signs, .ref a_pad, .ref a_sort, .ref a_heir, .int v_generations, .ref a_was, .ref a_worth, .int v_toll, .ref a_rights, .ref a_ahead, .ref a_bound, .ref a_owner, .ref a_foundBound, .ref a_foundOwner, .int v_foundLeast, .int v_stops, .ref a_beside, .ref a_upward, .ref a_from, .ref a_queue, .ref a_image, .ref a_isKept])), (a_sort, gI g 120 f_sort), (a_heir, gI g 24 f_heir), (a_beside, gI g 120 f_beside), (a_upward, gI g 120 f_upward), (a_from, gI g 120 (upd f_from k24 n23)), (a_queue, gI g 120 (upd f_queue k25 r19))]) rfl ek25 hk25 (by decide) rfl dX5_goOne_136 ?_
                refine j_iinc C 140 rfl 2 [1, 2, 0, 3, 4, 5, 6, 7] (v' := (1 : Int32)) (lv' := fun z => [(0, .ref a_this), (1, .int x1), (2, .int z), (3, .int x3), (4, .int x4), (5, .int n16), (6, .int x6), (7, .int r19)]) dX5_goOne_137 rfl (by decide) (by decide) (fun _ => rfl) (fun n26 en26 => ?_)
                have hw := hw n26 en26
                refine j_aload_n C 141 rfl 0 dX5_goOne_140 rfl rfl ?_
                refine j_iload_n C 142 rfl 1 dX5_goOne_141 rfl rfl ?_
                refine j_iload C 144 rfl 7 dX5_goOne_142 rfl ?_
                refine j_ri C 147 rfl (jc_V C (c_X5_ends l g a_this a_pad a_sort a_heir a_was a_worth a_rights a_ahead a_bound a_owner a_foundBound a_foundOwner a_beside a_upward a_from a_queue a_image a_isKept v_signs v_generations v_toll v_foundLeast v_stops f_sort f_heir x1 r19 _ hw) 2 gX5_goOne_X5_ends rfl rfl rfl hd_X5_ends ⟨Nat.le_of_ble_eq_true rfl, Nat.le_of_ble_eq_true rfl⟩ (j_rec C 0 5 rfl rfl) [0, 1, 2] rfl rfl (rest := []) rfl rfl (Nat.le_of_ble_eq_true rfl) dX5_goOne_144 ⟨Nat.le_refl _, Nat.le_refl _⟩) [0, 1, 2] rfl (fun _ => rfl) (fun r27 _ hw => ?_)
                try dsimp only at hw
                refine j_if_eq C 150 rfl 155 dX5_goOne_147 rfl (fun c => ?_) (fun c => ?_)
                · have hw := hw.1 c
                  refine j_bipush C 157 rfl dX5_goOne_155 (v := (-6 : Int32)) (by decide) ?_
                  refine j_istore_n C 158 rfl [1, 2, 3, 0, 4, 5, 6, 7] (lv' := [(0, .ref a_this), (1, .int x1), (2, .int n26), (3, .int (-6 : Int32)), (4, .int x4), (5, .int n16), (6, .int x6), (7, .int r19)]) dX5_goOne_157 rfl (by decide) rfl ?_
                  refine j_iinc C 161 rfl 6 [1, 2, 3, 4, 5, 6, 0, 7] (v' := (1 : Int32)) (lv' := fun z => [(0, .ref a_this), (1, .int x1), (2, .int n26), (3, .int (-6 : Int32)), (4, .int x4), (5, .int n16), (6, .int z), (7, .int r19)]) dX5_goOne_158 rfl (by decide) (by decide) (fun _ => rfl) (fun n28 en28 => ?_)
                  have hw := hw n28 en28
                  refine j_goto C 80 dX5_goOne_161 rfl ?_
                  refine j_lv [0, 1, 2, 3, 4, 5, 6] (lv' := [(0, .ref a_this), (1, .int x1), (2, .int n26), (3, .int (-6 : Int32)), (4, .int x4), (5, .int n16), (6, .int n28)]) rfl ?_
                  exact hL80 _ _ _ _ _ hw
                · have hw := hw.2 c
                  refine j_iload C 152 rfl 7 dX5_goOne_150 rfl ?_
                  refine j_goto C 157 dX5_goOne_152 rfl ?_
                  refine j_istore_n C 158 rfl [1, 2, 3, 0, 4, 5, 6, 7] (lv' := [(0, .ref a_this), (1, .int x1), (2, .int n26), (3, .int r19), (4, .int x4), (5, .int n16), (6, .int x6), (7, .int r19)]) dX5_goOne_157 rfl (by decide) rfl ?_
                  refine j_iinc C 161 rfl 6 [1, 2, 3, 4, 5, 6, 0, 7] (v' := (1 : Int32)) (lv' := fun z => [(0, .ref a_this), (1, .int x1), (2, .int n26), (3, .int r19), (4, .int x4), (5, .int n16), (6, .int z), (7, .int r19)]) dX5_goOne_158 rfl (by decide) (by decide) (fun _ => rfl) (fun n29 en29 => ?_)
                  have hw := hw n29 en29
                  refine j_goto C 80 dX5_goOne_161 rfl ?_
                  refine j_lv [0, 1, 2, 3, 4, 5, 6] (lv' := [(0, .ref a_this), (1, .int x1), (2, .int n26), (3, .int r19), (4, .int x4), (5, .int n16), (6, .int n29)]) rfl ?_
                  exact hL80 _ _ _ _ _ hw
  · have hw := hw.2 c
    refine j_aload_n C 11 rfl 0 dX5_goOne_10 rfl rfl ?_
    refine j_get C 14 rfl 0 5 18 (T := TX5) (N := 22) hi_X5_goOne_X5 rfl (by decide) (List.mem_of_getElem? (i := 1) rfl) rfl rfl rfl dX5_goOne_11 ?_
    refine j_iload_n C 15 rfl 3 dX5_goOne_14 rfl rfl ?_
    refine j_bipush C 17 rfl dX5_goOne_15 (v := (-6 : Int32)) (by decide) ?_
    obtain ⟨k30, ek30, hk30, hw⟩ := hw
    refine j_iast C 18 rfl 5 k30 (ws' := [(a_this, .inr (5, [.int v_signs, .ref a_pad, .ref a_sort, .ref a_heir, .int v_generations, .ref a_was, .ref a_worth, .int v_toll, .ref a_rights, .ref a_ahead, .ref a_bound, .ref a_owner, .ref a_foundBound, .ref a_foundOwner, .int v_foundLeast, .int v_stops, .ref a_beside, .ref a_upward, .ref a_from, .ref a_queue, .ref a_image, .ref a_isKept])), (a_sort, gI g 120 f_sort), (a_heir, gI g 24 f_heir), (a_beside, gI g 120 f_beside), (a_upward, gI g 120 f_upward), (a_from, gI g 120 (upd f_from k30 (-6 : Int32))), (a_queue, gI g 120 f_queue)]) rfl ek30 hk30 (by decide) rfl dX5_goOne_17 ?_
    refine j_aload_n C 19 rfl 0 dX5_goOne_18 rfl rfl ?_
    refine j_iload_n C 20 rfl 1 dX5_goOne_19 rfl rfl ?_
    refine j_iload_n C 21 rfl 3 dX5_goOne_20 rfl rfl ?_
    refine j_ri C 24 rfl (jc_V C (c_X5_begins l g a_this a_pad a_sort a_heir a_was a_worth a_rights a_ahead a_bound a_owner a_foundBound a_foundOwner a_beside a_upward a_from a_queue a_image a_isKept v_signs v_generations v_toll v_foundLeast v_stops f_sort f_heir x1 x3 _ hw) 2 gX5_goOne_X5_begins rfl rfl rfl hd_X5_begins ⟨Nat.le_of_ble_eq_true rfl, Nat.le_of_ble_eq_true rfl⟩ (j_rec C 0 5 rfl rfl) [0, 1, 2] rfl rfl (rest := []) rfl rfl (Nat.le_of_ble_eq_true rfl) dX5_goOne_21 ⟨Nat.le_refl _, Nat.le_refl _⟩) [0, 1, 2] rfl (fun _ => rfl) (fun r31 _ hw => ?_)
    try dsimp only at hw
    refine j_if_eq C 27 rfl 46 dX5_goOne_24 rfl (fun c => ?_) (fun c => ?_)
    · have hw := hw.1 c
      refine j_iinc C 49 rfl 3 [1, 2, 3, 0] (v' := (1 : Int32)) (lv' := fun z => [(0, .ref a_this), (1, .int x1), (2, .int x2), (3, .int z)]) dX5_goOne_46 rfl (by decide) (by decide) (fun _ => rfl) (fun n32 en32 => ?_)
      have hw := hw n32 en32
      refine j_goto C 4 dX5_goOne_49 rfl ?_
      exact hL4 _ _ _ _ hw
    · have hw := hw.2 c
      refine j_aload_n C 28 rfl 0 dX5_goOne_27 rfl rfl ?_
      refine j_get C 31 rfl 0 5 18 (T := TX5) (N := 22) hi_X5_goOne_X5 rfl (by decide) (List.mem_of_getElem? (i := 1) rfl) rfl rfl rfl dX5_goOne_28 ?_
      refine j_iload_n C 32 rfl 3 dX5_goOne_31 rfl rfl ?_
      refine j_sipush C 35 rfl dX5_goOne_32 (v := (1000 : Int32)) (by decide) ?_
      obtain ⟨k33, ek33, hk33, hw⟩ := hw
      refine j_iast C 36 rfl 5 k33 (ws' := [(a_this, .inr (5, [.int v_signs, .ref a_pad, .ref a_sort, .ref a_heir, .int v_generations, .ref a_was, .ref a_worth, .int v_toll, .ref a_rights, .ref a_ahead, .ref a_bound, .ref a_owner, .ref a_foundBound, .ref a_foundOwner, .int v_foundLeast, .int v_stops, .ref a_beside, .ref a_upward, .ref a_from, .ref a_queue, .ref a_image, .ref a_isKept])), (a_sort, gI g 120 f_sort), (a_heir, gI g 24 f_heir), (a_beside, gI g 120 f_beside), (a_upward, gI g 120 f_upward), (a_from, gI g 120 (upd (upd f_from k30 (-6 : Int32)) k33 (1000 : Int32))), (a_queue, gI g 120 f_queue)]) rfl ek33 hk33 (by decide) rfl dX5_goOne_35 ?_
      refine j_aload_n C 37 rfl 0 dX5_goOne_36 rfl rfl ?_
      refine j_get C 40 rfl 0 5 19 (T := TX5) (N := 22) hi_X5_goOne_X5 rfl (by decide) (List.mem_of_getElem? (i := 2) rfl) rfl rfl rfl dX5_goOne_37 ?_
      refine j_iload_n C 41 rfl 2 dX5_goOne_40 rfl rfl ?_
      refine j_iload_n C 42 rfl 3 dX5_goOne_41 rfl rfl ?_
      obtain ⟨k34, ek34, hk34, hw⟩ := hw
      refine j_iast C 43 rfl 6 k34 (ws' := [(a_this, .inr (5, [.int v_signs, .ref a_pad, .ref a_sort, .ref a_heir, .int v_generations, .ref a_was, .ref a_worth, .int v_toll, .ref a_rights, .ref a_ahead, .ref a_bound, .ref a_owner, .ref a_foundBound, .ref a_foundOwner, .int v_foundLeast, .int v_stops, .ref a_beside, .ref a_upward, .ref a_from, .ref a_queue, .ref a_image, .ref a_isKept])), (a_sort, gI g 120 f_sort), (a_heir, gI g 24 f_heir), (a_beside, gI g 120 f_beside), (a_upward, gI g 120 f_upward), (a_from, gI g 120 (upd (upd f_from k30 (-6 : Int32)) k33 (1000 : Int32))), (a_queue, gI g 120 (upd f_queue k34 x3))]) rfl ek34 hk34 (by decide) rfl dX5_goOne_42 ?_
      refine j_iinc C 46 rfl 2 [1, 2, 0, 3] (v' := (1 : Int32)) (lv' := fun z => [(0, .ref a_this), (1, .int x1), (2, .int z), (3, .int x3)]) dX5_goOne_43 rfl (by decide) (by decide) (fun _ => rfl) (fun n35 en35 => ?_)
      have hw := hw n35 en35
      refine j_iinc C 49 rfl 3 [1, 2, 3, 0] (v' := (1 : Int32)) (lv' := fun z => [(0, .ref a_this), (1, .int x1), (2, .int n35), (3, .int z)]) dX5_goOne_46 rfl (by decide) (by decide) (fun _ => rfl) (fun n36 en36 => ?_)
      have hw := hw n36 en36
      refine j_goto C 4 dX5_goOne_49 rfl ?_
      exact hL4 _ _ _ _ hw
theorem hi_X5_fence_X5 : ∀ w ∈ wsX50, w ∈ wsX5_fence := fun _ h => List.mem_cons_of_mem _ (List.mem_append_right _ h)
set_option maxRecDepth 20000 in
set_option maxHeartbeats 4000000 in
theorem c_X5_fence (l : Launch) (g : gE) (a_this a_pad a_sort a_heir a_was a_worth a_rights a_ahead a_bound a_owner a_foundBound a_foundOwner a_beside a_upward a_from a_queue a_image a_isKept : Nat) (v_signs : Int32) (v_generations : Int32) (v_toll : Int32) (v_foundLeast : Int32) (v_stops : Int32) (f_sort : (Nat → Int32)) (f_heir : (Nat → Int32)) (f_beside : (Nat → Int32)) (f_upward : (Nat → Int32)) (f_from : (Nat → Int32)) (f_queue : (Nat → Int32)) (x1 : Int32)  (K : Int32 → (Nat → Int32) → (Nat → Int32) → (Nat → Int32) → (Nat → Int32) → Prop) (hw : wp_X5_fence f_sort f_heir f_beside f_upward f_from f_queue x1 K) : Ci l g yX5_fence wsX5_fence { frames := 3, cells := 0, slots := 0, locals := 73 } [.ref a_this, .int x1] [(a_this, .inr (5, [.int v_signs, .ref a_pad, .ref a_sort, .ref a_heir, .int v_generations, .ref a_was, .ref a_worth, .int v_toll, .ref a_rights, .ref a_ahead, .ref a_bound, .ref a_owner, .ref a_foundBound, .ref a_foundOwner, .int v_foundLeast, .int v_stops, .ref a_beside, .ref a_upward, .ref a_from, .ref a_queue, .ref a_image, .ref a_isKept])), (a_sort, gI g 120 f_sort), (a_heir, gI g 24 f_heir), (a_beside, gI g 120 f_beside), (a_upward, gI g 120 f_upward), (a_from, gI g 120 f_from), (a_queue, gI g 120 f_queue)] (fun (r : Int32) (u : (Nat → Int32) × (Nat → Int32) × (Nat → Int32) × (Nat → Int32)) => K r u.1 u.2.1 u.2.2.1 u.2.2.2) (fun (u : (Nat → Int32) × (Nat → Int32) × (Nat → Int32) × (Nat → Int32)) => [(a_this, .inr (5, [.int v_signs, .ref a_pad, .ref a_sort, .ref a_heir, .int v_generations, .ref a_was, .ref a_worth, .int v_toll, .ref a_rights, .ref a_ahead, .ref a_bound, .ref a_owner, .ref a_foundBound, .ref a_foundOwner, .int v_foundLeast, .int v_stops, .ref a_beside, .ref a_upward, .ref a_from, .ref a_queue, .ref a_image, .ref a_isKept])), (a_sort, gI g 120 f_sort), (a_heir, gI g 24 f_heir), (a_beside, gI g 120 (u.1)), (a_upward, gI g 120 (u.2.1)), (a_from, gI g 120 (u.2.2.1)), (a_queue, gI g 120 (u.2.2.2))]) 0 0 := by
  refine Ci_of (cc := cX5_fence) (nL := 3) (ret := (some .int)) (own := RX5) (lv0 := [(0, .ref a_this), (1, .int x1)]) (by decide +kernel) rfl rfl (Nat.le_of_ble_eq_true rfl) rfl (fun A x C R => ?_)
  refine j_iload_n C 1 rfl 1 dX5_fence_0 rfl rfl ?_
  refine j_ri C 4 rfl (jc_S C (c_X5_isHeir l g x1 _ hw) 1 gX5_fence_X5_isHeir rfl rfl rfl hd_X5_isHeir ⟨Nat.le_of_ble_eq_true rfl, Nat.le_of_ble_eq_true rfl⟩ [] rfl rfl (rest := []) rfl rfl (Nat.le_of_ble_eq_true rfl) dX5_fence_1 ⟨Nat.le_refl _, Nat.le_refl _⟩) [] rfl (fun _ => rfl) (fun r1 _ hw => ?_)
  try dsimp only at hw
  refine j_if_ne C 7 rfl 9 dX5_fence_4 rfl (fun c => ?_) (fun c => ?_)
  · have hw := hw.1 c
    refine j_iconst C 10 rfl dX5_fence_9 (v := (0 : Int32)) (by decide) ?_
    refine j_istore_n C 11 rfl [1, 2, 0] (lv' := [(0, .ref a_this), (1, .int x1), (2, .int (0 : Int32))]) dX5_fence_10 rfl (by decide) rfl ?_
    refine lpW3_ind (G := fun x2 f_beside f_upward => J l g A x 3 0 0 11 [(0, .ref a_this), (1, .int x1), (2, .int x2)] [] [(a_this, .inr (5, [.int v_signs, .ref a_pad, .ref a_sort, .ref a_heir, .int v_generations, .ref a_was, .ref a_worth, .int v_toll, .ref a_rights, .ref a_ahead, .ref a_bound, .ref a_owner, .ref a_foundBound, .ref a_foundOwner, .int v_foundLeast, .int v_stops, .ref a_beside, .ref a_upward, .ref a_from, .ref a_queue, .ref a_image, .ref a_isKept])), (a_sort, gI g 120 f_sort), (a_heir, gI g 24 f_heir), (a_beside, gI g 120 f_beside), (a_upward, gI g 120 f_upward), (a_from, gI g 120 f_from), (a_queue, gI g 120 f_queue)]) (fun L11 x2 f_beside f_upward hL11 hw => ?_) _ _ _ hw
    refine j_iload_n C 12 rfl 2 dX5_fence_11 rfl rfl ?_
    refine j_bipush C 14 rfl dX5_fence_12 (v := (120 : Int32)) (by decide) ?_
    refine j_icmp_ge C 17 rfl 37 dX5_fence_14 rfl (fun c => ?_) (fun c => ?_)
    · have hw := hw.1 c
      refine j_iconst C 38 rfl dX5_fence_37 (v := (0 : Int32)) (by decide) ?_
      refine j_istore_n C 39 rfl [1, 2, 0] (lv' := [(0, .ref a_this), (1, .int x1), (2, .int (0 : Int32))]) dX5_fence_38 rfl (by decide) rfl ?_
      refine lpW5_ind (G := fun x2 f_beside f_upward f_from f_queue => J l g A x 3 0 0 39 [(0, .ref a_this), (1, .int x1), (2, .int x2)] [] [(a_this, .inr (5, [.int v_signs, .ref a_pad, .ref a_sort, .ref a_heir, .int v_generations, .ref a_was, .ref a_worth, .int v_toll, .ref a_rights, .ref a_ahead, .ref a_bound, .ref a_owner, .ref a_foundBound, .ref a_foundOwner, .int v_foundLeast, .int v_stops, .ref a_beside, .ref a_upward, .ref a_from, .ref a_queue, .ref a_image, .ref a_isKept])), (a_sort, gI g 120 f_sort), (a_heir, gI g 24 f_heir), (a_beside, gI g 120 f_beside), (a_upward, gI g 120 f_upward), (a_from, gI g 120 f_from), (a_queue, gI g 120 f_queue)]) (fun L39 x2 f_beside f_upward f_from f_queue hL39 hw => ?_) _ _ _ _ _ hw
      refine j_aload_n C 40 rfl 0 dX5_fence_39 rfl rfl ?_
      refine j_iload_n C 41 rfl 1 dX5_fence_40 rfl rfl ?_
      refine j_rwi C 44 rfl (jc_V C (c_X5_goOne l g a_this a_pad a_sort a_heir a_was a_worth a_rights a_ahead a_bound a_owner a_foundBound a_foundOwner a_beside a_upward a_from a_queue a_image a_isKept v_signs v_generations v_toll v_foundLeast v_stops f_sort f_heir f_beside f_upward f_from f_queue x1 _ hw) 1 gX5_fence_X5_goOne rfl rfl rfl hd_X5_goOne ⟨Nat.le_of_ble_eq_true rfl, Nat.le_of_ble_eq_true rfl⟩ (j_rec C 0 5 rfl rfl) [0, 1, 2, 3, 4, 5, 6] rfl rfl (rest := []) rfl rfl (Nat.le_of_ble_eq_true rfl) dX5_fence_41 ⟨Nat.le_refl _, Nat.le_refl _⟩) [0, 1, 2, 3, 4, 5, 6] [] [0, 1, 2, 3, 4, 5, 6] (wr := []) (ws' := fun u => [(a_this, .inr (5, [.int v_signs, .ref a_pad, .ref a_sort, .ref a_heir, .int v_generations, .ref a_was, .ref a_worth, .int v_toll, .ref a_rights, .ref a_ahead, .ref a_bound, .ref a_owner, .ref a_foundBound, .ref a_foundOwner, .int v_foundLeast, .int v_stops, .ref a_beside, .ref a_upward, .ref a_from, .ref a_queue, .ref a_image, .ref a_isKept])), (a_sort, gI g 120 f_sort), (a_heir, gI g 24 f_heir), (a_beside, gI g 120 (u.1)), (a_upward, gI g 120 (u.2.1)), (a_from, gI g 120 (u.2.2.1)), (a_queue, gI g 120 (u.2.2.2))]) rfl rfl rfl (by decide) rfl (fun _ => rfl) (fun r2 u hw => ?_)
      obtain ⟨u3, u4, u5, u6⟩ := u
      try dsimp only at hw
      show J l g A x 3 0 0 44 [(0, .ref a_this), (1, .int x1), (2, .int x2)] [.int r2] [(a_this, .inr (5, [.int v_signs, .ref a_pad, .ref a_sort, .ref a_heir, .int v_generations, .ref a_was, .ref a_worth, .int v_toll, .ref a_rights, .ref a_ahead, .ref a_bound, .ref a_owner, .ref a_foundBound, .ref a_foundOwner, .int v_foundLeast, .int v_stops, .ref a_beside, .ref a_upward, .ref a_from, .ref a_queue, .ref a_image, .ref a_isKept])), (a_sort, gI g 120 f_sort), (a_heir, gI g 24 f_heir), (a_beside, gI g 120 u3), (a_upward, gI g 120 u4), (a_from, gI g 120 u5), (a_queue, gI g 120 u6)]
      refine j_if_eq C 47 rfl 53 dX5_fence_44 rfl (fun c => ?_) (fun c => ?_)
      · have hw := hw.1 c
        refine j_iload_n C 54 rfl 2 dX5_fence_53 rfl rfl ?_
        exact j_iret C R (u3, u4, u5, u6) rfl dX5_fence_54 rfl hw
      · have hw := hw.2 c
        refine j_iinc C 50 rfl 2 [1, 2, 0] (v' := (1 : Int32)) (lv' := fun z => [(0, .ref a_this), (1, .int x1), (2, .int z)]) dX5_fence_47 rfl (by decide) (by decide) (fun _ => rfl) (fun n7 en7 => ?_)
        have hw := hw n7 en7
        refine j_goto C 39 dX5_fence_50 rfl ?_
        exact hL39 _ _ _ _ _ hw
    · have hw := hw.2 c
      refine j_aload_n C 18 rfl 0 dX5_fence_17 rfl rfl ?_
      refine j_get C 21 rfl 0 5 16 (T := TX5) (N := 22) hi_X5_fence_X5 rfl (by decide) (List.mem_of_getElem? (i := 1) rfl) rfl rfl rfl dX5_fence_18 ?_
      refine j_iload_n C 22 rfl 2 dX5_fence_21 rfl rfl ?_
      refine j_iconst C 23 rfl dX5_fence_22 (v := (0 : Int32)) (by decide) ?_
      obtain ⟨k8, ek8, hk8, hw⟩ := hw
      refine j_iast C 24 rfl 3 k8 (ws' := [(a_this, .inr (5, [.int v_signs, .ref a_pad, .ref a_sort, .ref a_heir, .int v_generations, .ref a_was, .ref a_worth, .int v_toll, .ref a_rights, .ref a_ahead, .ref a_bound, .ref a_owner, .ref a_foundBound, .ref a_foundOwner, .int v_foundLeast, .int v_stops, .ref a_beside, .ref a_upward, .ref a_from, .ref a_queue, .ref a_image, .ref a_isKept])), (a_sort, gI g 120 f_sort), (a_heir, gI g 24 f_heir), (a_beside, gI g 120 (upd f_beside k8 (0 : Int32))), (a_upward, gI g 120 f_upward), (a_from, gI g 120 f_from), (a_queue, gI g 120 f_queue)]) rfl ek8 hk8 (by decide) rfl dX5_fence_23 ?_
      refine j_aload_n C 25 rfl 0 dX5_fence_24 rfl rfl ?_
      refine j_get C 28 rfl 0 5 17 (T := TX5) (N := 22) hi_X5_fence_X5 rfl (by decide) (List.mem_of_getElem? (i := 2) rfl) rfl rfl rfl dX5_fence_25 ?_
      refine j_iload_n C 29 rfl 2 dX5_fence_28 rfl rfl ?_
      refine j_iconst C 30 rfl dX5_fence_29 (v := (0 : Int32)) (by decide) ?_
      obtain ⟨k9, ek9, hk9, hw⟩ := hw
      refine j_iast C 31 rfl 4 k9 (ws' := [(a_this, .inr (5, [.int v_signs, .ref a_pad, .ref a_sort, .ref a_heir, .int v_generations, .ref a_was, .ref a_worth, .int v_toll, .ref a_rights, .ref a_ahead, .ref a_bound, .ref a_owner, .ref a_foundBound, .ref a_foundOwner, .int v_foundLeast, .int v_stops, .ref a_beside, .ref a_upward, .ref a_from, .ref a_queue, .ref a_image, .ref a_isKept])), (a_sort, gI g 120 f_sort), (a_heir, gI g 24 f_heir), (a_beside, gI g 120 (upd f_beside k8 (0 : Int32))), (a_upward, gI g 120 (upd f_upward k9 (0 : Int32))), (a_from, gI g 120 f_from), (a_queue, gI g 120 f_queue)]) rfl ek9 hk9 (by decide) rfl dX5_fence_30 ?_
      refine j_iinc C 34 rfl 2 [1, 2, 0] (v' := (1 : Int32)) (lv' := fun z => [(0, .ref a_this), (1, .int x1), (2, .int z)]) dX5_fence_31 rfl (by decide) (by decide) (fun _ => rfl) (fun n10 en10 => ?_)
      have hw := hw n10 en10
      refine j_goto C 11 dX5_fence_34 rfl ?_
      exact hL11 _ _ _ hw
  · have hw := hw.2 c
    refine j_iconst C 8 rfl dX5_fence_7 (v := (-1 : Int32)) (by decide) ?_
    exact j_iret C R (f_beside, f_upward, f_from, f_queue) rfl dX5_fence_8 rfl hw
theorem hi_X5_spring_X5 : ∀ w ∈ wsX50, w ∈ wsX5_spring := fun _ h => List.mem_cons_of_mem _ (List.mem_append_right _ h)
set_option maxRecDepth 20000 in
set_option maxHeartbeats 4000000 in
theorem c_X5_spring (l : Launch) (g : gE) (a_this a_pad a_sort a_heir a_was a_worth a_rights a_ahead a_bound a_owner a_foundBound a_foundOwner a_beside a_upward a_from a_queue a_image a_isKept : Nat) (v_signs : Int32) (v_generations : Int32) (v_toll : Int32) (v_foundLeast : Int32) (v_stops : Int32) (f_heir : (Nat → Int32)) (x1 : Int32) (x2 : Int32) (x3 : Int32) (x4 : Int32)  (K : Int32 → Prop) (hw : wp_X5_spring f_heir x1 x2 x3 x4 K) : Ci l g yX5_spring wsX5_spring { frames := 2, cells := 0, slots := 0, locals := 42 } [.ref a_this, .int x1, .int x2, .int x3, .int x4] [(a_this, .inr (5, [.int v_signs, .ref a_pad, .ref a_sort, .ref a_heir, .int v_generations, .ref a_was, .ref a_worth, .int v_toll, .ref a_rights, .ref a_ahead, .ref a_bound, .ref a_owner, .ref a_foundBound, .ref a_foundOwner, .int v_foundLeast, .int v_stops, .ref a_beside, .ref a_upward, .ref a_from, .ref a_queue, .ref a_image, .ref a_isKept])), (a_heir, gI g 24 f_heir)] (fun (r : Int32) (_ : Unit) => K r) (fun (_ : Unit) => [(a_this, .inr (5, [.int v_signs, .ref a_pad, .ref a_sort, .ref a_heir, .int v_generations, .ref a_was, .ref a_worth, .int v_toll, .ref a_rights, .ref a_ahead, .ref a_bound, .ref a_owner, .ref a_foundBound, .ref a_foundOwner, .int v_foundLeast, .int v_stops, .ref a_beside, .ref a_upward, .ref a_from, .ref a_queue, .ref a_image, .ref a_isKept])), (a_heir, gI g 24 f_heir)]) 0 0 := by
  refine Ci_of (cc := cX5_spring) (nL := 9) (ret := (some .int)) (own := RX5) (lv0 := [(0, .ref a_this), (1, .int x1), (2, .int x2), (3, .int x3), (4, .int x4)]) (by decide +kernel) rfl rfl (Nat.le_of_ble_eq_true rfl) rfl (fun A x C R => ?_)
  refine j_iload_n C 1 rfl 1 dX5_spring_0 rfl rfl ?_
  refine j_ri C 4 rfl (jc_S C (c_X5_isSector l g x1 _ hw) 1 gX5_spring_X5_isSector rfl rfl rfl hd_X5_isSector ⟨Nat.le_of_ble_eq_true rfl, Nat.le_of_ble_eq_true rfl⟩ [] rfl rfl (rest := []) rfl rfl (Nat.le_of_ble_eq_true rfl) dX5_spring_1 ⟨Nat.le_refl _, Nat.le_refl _⟩) [] rfl (fun _ => rfl) (fun r1 _ hw => ?_)
  try dsimp only at hw
  refine j_if_ne C 7 rfl 9 dX5_spring_4 rfl (fun c => ?_) (fun c => ?_)
  · have hw := hw.1 c
    refine j_iload_n C 10 rfl 2 dX5_spring_9 rfl rfl ?_
    refine j_iconst C 11 rfl dX5_spring_10 (v := (0 : Int32)) (by decide) ?_
    refine j_bipush C 13 rfl dX5_spring_11 (v := (23 : Int32)) (by decide) ?_
    refine j_ri C 16 rfl (jc_S C (c_X5_in l g x2 (0 : Int32) (23 : Int32) _ hw) 3 gX5_spring_X5_in rfl rfl rfl hd_X5_in ⟨Nat.le_of_ble_eq_true rfl, Nat.le_of_ble_eq_true rfl⟩ [] rfl rfl (rest := []) rfl rfl (Nat.le_of_ble_eq_true rfl) dX5_spring_13 ⟨Nat.le_refl _, Nat.le_refl _⟩) [] rfl (fun _ => rfl) (fun r2 _ hw => ?_)
    try dsimp only at hw
    refine j_if_eq C 19 rfl 59 dX5_spring_16 rfl (fun c => ?_) (fun c => ?_)
    · have hw := hw.1 c
      refine j_bipush C 61 rfl dX5_spring_59 (v := (-2 : Int32)) (by decide) ?_
      exact j_iret C R () rfl dX5_spring_61 rfl hw
    · have hw := hw.2 c
      refine j_iload_n C 20 rfl 3 dX5_spring_19 rfl rfl ?_
      refine j_iconst C 21 rfl dX5_spring_20 (v := (0 : Int32)) (by decide) ?_
      refine j_sipush C 24 rfl dX5_spring_21 (v := (999 : Int32)) (by decide) ?_
      refine j_ri C 27 rfl (jc_S C (c_X5_in l g x3 (0 : Int32) (999 : Int32) _ hw) 3 gX5_spring_X5_in rfl rfl rfl hd_X5_in ⟨Nat.le_of_ble_eq_true rfl, Nat.le_of_ble_eq_true rfl⟩ [] rfl rfl (rest := []) rfl rfl (Nat.le_of_ble_eq_true rfl) dX5_spring_24 ⟨Nat.le_refl _, Nat.le_refl _⟩) [] rfl (fun _ => rfl) (fun r3 _ hw => ?_)
      try dsimp only at hw
      refine j_if_eq C 30 rfl 59 dX5_spring_27 rfl (fun c => ?_) (fun c => ?_)
      · have hw := hw.1 c
        refine j_bipush C 61 rfl dX5_spring_59 (v := (-2 : Int32)) (by decide) ?_
        exact j_iret C R () rfl dX5_spring_61 rfl hw
      · have hw := hw.2 c
        refine j_iload C 32 rfl 4 dX5_spring_30 rfl ?_
        refine j_if_eq C 35 rfl 62 dX5_spring_32 rfl (fun c => ?_) (fun c => ?_)
        · have hw := hw.1 c
          refine j_iconst C 63 rfl dX5_spring_62 (v := (0 : Int32)) (by decide) ?_
          refine j_istore C 65 rfl [1, 2, 3, 4, 5, 0] (lv' := [(0, .ref a_this), (1, .int x1), (2, .int x2), (3, .int x3), (4, .int x4), (5, .int (0 : Int32))]) dX5_spring_63 (by decide) rfl ?_
          refine j_bipush C 67 rfl dX5_spring_65 (v := (-6 : Int32)) (by decide) ?_
          refine j_istore C 69 rfl [1, 2, 3, 4, 5, 6, 0] (lv' := [(0, .ref a_this), (1, .int x1), (2, .int x2), (3, .int x3), (4, .int x4), (5, .int (0 : Int32)), (6, .int (-6 : Int32))]) dX5_spring_67 (by decide) rfl ?_
          refine j_iconst C 70 rfl dX5_spring_69 (v := (0 : Int32)) (by decide) ?_
          refine j_istore C 72 rfl [1, 2, 3, 4, 5, 6, 7, 0] (lv' := [(0, .ref a_this), (1, .int x1), (2, .int x2), (3, .int x3), (4, .int x4), (5, .int (0 : Int32)), (6, .int (-6 : Int32)), (7, .int (0 : Int32))]) dX5_spring_70 (by decide) rfl ?_
          refine lpW3_ind (G := fun x5 x6 x7 => J l g A x 9 0 0 72 [(0, .ref a_this), (1, .int x1), (2, .int x2), (3, .int x3), (4, .int x4), (5, .int x5), (6, .int x6), (7, .int x7)] [] [(a_this, .inr (5, [.int v_signs, .ref a_pad, .ref a_sort, .ref a_heir, .int v_generations, .ref a_was, .ref a_worth, .int v_toll, .ref a_rights, .ref a_ahead, .ref a_bound, .ref a_owner, .ref a_foundBound, .ref a_foundOwner, .int v_foundLeast, .int v_stops, .ref a_beside, .ref a_upward, .ref a_from, .ref a_queue, .ref a_image, .ref a_isKept])), (a_heir, gI g 24 f_heir)]) (fun L72 x5 x6 x7 hL72 hw => ?_) _ _ _ hw
          have hj119 : ∀ (x6 : Int32) (x7 : Int32) (x8 : Int32) (s0 : Int32) (s1 : Int32), wj_X5_spring_119 x6 x7 x8 s0 s1 L72 → J l g A x 9 0 0 119 [(0, .ref a_this), (1, .int x1), (2, .int x2), (3, .int x3), (4, .int x4), (6, .int x6), (7, .int x7), (8, .int x8)] [.int s1, .int s0] [(a_this, .inr (5, [.int v_signs, .ref a_pad, .ref a_sort, .ref a_heir, .int v_generations, .ref a_was, .ref a_worth, .int v_toll, .ref a_rights, .ref a_ahead, .ref a_bound, .ref a_owner, .ref a_foundBound, .ref a_foundOwner, .int v_foundLeast, .int v_stops, .ref a_beside, .ref a_upward, .ref a_from, .ref a_queue, .ref a_image, .ref a_isKept])), (a_heir, gI g 24 f_heir)] := by
            intro x6 x7 x8 s0 s1 hw
            refine j_iadd C 120 rfl dX5_spring_119 ?_
            refine j_top (fun n4 en4 => ?_)
            have hw := hw n4 en4
            refine j_istore C 122 rfl [1, 2, 3, 4, 5, 0, 6, 7, 8] (lv' := [(0, .ref a_this), (1, .int x1), (2, .int x2), (3, .int x3), (4, .int x4), (5, .int n4), (6, .int x6), (7, .int x7), (8, .int x8)]) dX5_spring_120 (by decide) rfl ?_
            refine j_iload C 124 rfl 8 dX5_spring_122 rfl ?_
            refine j_if_eq C 127 rfl 137 dX5_spring_124 rfl (fun c => ?_) (fun c => ?_)
            · have hw := hw.1 c
              refine j_iload C 139 rfl 6 dX5_spring_137 rfl ?_
              refine j_istore C 141 rfl [1, 2, 3, 4, 5, 6, 0, 7, 8] (lv' := [(0, .ref a_this), (1, .int x1), (2, .int x2), (3, .int x3), (4, .int x4), (5, .int n4), (6, .int x6), (7, .int x7), (8, .int x8)]) dX5_spring_139 (by decide) rfl ?_
              refine j_iinc C 144 rfl 7 [1, 2, 3, 4, 5, 6, 7, 0, 8] (v' := (1 : Int32)) (lv' := fun z => [(0, .ref a_this), (1, .int x1), (2, .int x2), (3, .int x3), (4, .int x4), (5, .int n4), (6, .int x6), (7, .int z), (8, .int x8)]) dX5_spring_141 rfl (by decide) (by decide) (fun _ => rfl) (fun n5 en5 => ?_)
              have hw := hw n5 en5
              refine j_goto C 72 dX5_spring_144 rfl ?_
              refine j_lv [0, 1, 2, 3, 4, 5, 6, 7] (lv' := [(0, .ref a_this), (1, .int x1), (2, .int x2), (3, .int x3), (4, .int x4), (5, .int n4), (6, .int x6), (7, .int n5)]) rfl ?_
              exact hL72 _ _ _ hw
            · have hw := hw.2 c
              refine j_iload C 129 rfl 6 dX5_spring_127 rfl ?_
              refine j_if_ge C 132 rfl 137 dX5_spring_129 rfl (fun c => ?_) (fun c => ?_)
              · have hw := hw.1 c
                refine j_iload C 139 rfl 6 dX5_spring_137 rfl ?_
                refine j_istore C 141 rfl [1, 2, 3, 4, 5, 6, 0, 7, 8] (lv' := [(0, .ref a_this), (1, .int x1), (2, .int x2), (3, .int x3), (4, .int x4), (5, .int n4), (6, .int x6), (7, .int x7), (8, .int x8)]) dX5_spring_139 (by decide) rfl ?_
                refine j_iinc C 144 rfl 7 [1, 2, 3, 4, 5, 6, 7, 0, 8] (v' := (1 : Int32)) (lv' := fun z => [(0, .ref a_this), (1, .int x1), (2, .int x2), (3, .int x3), (4, .int x4), (5, .int n4), (6, .int x6), (7, .int z), (8, .int x8)]) dX5_spring_141 rfl (by decide) (by decide) (fun _ => rfl) (fun n6 en6 => ?_)
                have hw := hw n6 en6
                refine j_goto C 72 dX5_spring_144 rfl ?_
                refine j_lv [0, 1, 2, 3, 4, 5, 6, 7] (lv' := [(0, .ref a_this), (1, .int x1), (2, .int x2), (3, .int x3), (4, .int x4), (5, .int n4), (6, .int x6), (7, .int n6)]) rfl ?_
                exact hL72 _ _ _ hw
              · have hw := hw.2 c
                refine j_iload C 134 rfl 7 dX5_spring_132 rfl ?_
                refine j_goto C 139 dX5_spring_134 rfl ?_
                refine j_istore C 141 rfl [1, 2, 3, 4, 5, 6, 0, 7, 8] (lv' := [(0, .ref a_this), (1, .int x1), (2, .int x2), (3, .int x3), (4, .int x4), (5, .int n4), (6, .int x7), (7, .int x7), (8, .int x8)]) dX5_spring_139 (by decide) rfl ?_
                refine j_iinc C 144 rfl 7 [1, 2, 3, 4, 5, 6, 7, 0, 8] (v' := (1 : Int32)) (lv' := fun z => [(0, .ref a_this), (1, .int x1), (2, .int x2), (3, .int x3), (4, .int x4), (5, .int n4), (6, .int x7), (7, .int z), (8, .int x8)]) dX5_spring_141 rfl (by decide) (by decide) (fun _ => rfl) (fun n7 en7 => ?_)
                have hw := hw n7 en7
                refine j_goto C 72 dX5_spring_144 rfl ?_
                refine j_lv [0, 1, 2, 3, 4, 5, 6, 7] (lv' := [(0, .ref a_this), (1, .int x1), (2, .int x2), (3, .int x3), (4, .int x4), (5, .int n4), (6, .int x7), (7, .int n7)]) rfl ?_
                exact hL72 _ _ _ hw
          refine j_iload C 74 rfl 7 dX5_spring_72 rfl ?_
          refine j_iload_n C 75 rfl 3 dX5_spring_74 rfl rfl ?_
          refine j_icmp_gt C 78 rfl 147 dX5_spring_75 rfl (fun c => ?_) (fun c => ?_)
          · have hw := hw.1 c
            refine j_iload C 149 rfl 4 dX5_spring_147 rfl ?_
            refine j_if_ne C 152 rfl 168 dX5_spring_149 rfl (fun c => ?_) (fun c => ?_)
            · have hw := hw.1 c
              refine j_iload C 170 rfl 4 dX5_spring_168 rfl ?_
              refine j_bipush C 172 rfl dX5_spring_170 (v := (20 : Int32)) (by decide) ?_
              refine j_icmp_ge C 175 rfl 180 dX5_spring_172 rfl (fun c => ?_) (fun c => ?_)
              · have hw := hw.1 c
                refine j_iload C 182 rfl 6 dX5_spring_180 rfl ?_
                exact j_iret C R () rfl dX5_spring_182 rfl hw
              · have hw := hw.2 c
                refine j_iload C 177 rfl 5 dX5_spring_175 rfl ?_
                refine j_goto C 182 dX5_spring_177 rfl ?_
                exact j_iret C R () rfl dX5_spring_182 rfl hw
            · have hw := hw.2 c
              refine j_aload_n C 153 rfl 0 dX5_spring_152 rfl rfl ?_
              refine j_get C 156 rfl 0 5 3 (T := TX5) (N := 22) hi_X5_spring_X5 rfl (by decide) (List.mem_of_getElem? (i := 1) rfl) rfl rfl rfl dX5_spring_153 ?_
              refine j_iload_n C 157 rfl 1 dX5_spring_156 rfl rfl ?_
              refine j_iload_n C 158 rfl 2 dX5_spring_157 rfl rfl ?_
              refine j_iload_n C 159 rfl 3 dX5_spring_158 rfl rfl ?_
              refine j_imul C 160 rfl dX5_spring_159 ?_
              refine j_iadd C 161 rfl dX5_spring_160 ?_
              refine j_bipush C 163 rfl dX5_spring_161 (v := (24 : Int32)) (by decide) ?_
              refine j_irem C 164 rfl dX5_spring_163 (by decide) ?_
              obtain ⟨k8, ek8, hk8, hw⟩ := hw
              refine j_iald C 165 rfl 1 k8 rfl ek8 hk8 (by decide) dX5_spring_164 ?_
              refine j_goto C 182 dX5_spring_165 rfl ?_
              exact j_iret C R () rfl dX5_spring_182 rfl hw
          · have hw := hw.2 c
            refine j_aload_n C 79 rfl 0 dX5_spring_78 rfl rfl ?_
            refine j_get C 82 rfl 0 5 3 (T := TX5) (N := 22) hi_X5_spring_X5 rfl (by decide) (List.mem_of_getElem? (i := 1) rfl) rfl rfl rfl dX5_spring_79 ?_
            refine j_iload_n C 83 rfl 1 dX5_spring_82 rfl rfl ?_
            refine j_iload_n C 84 rfl 2 dX5_spring_83 rfl rfl ?_
            refine j_iload C 86 rfl 7 dX5_spring_84 rfl ?_
            refine j_imul C 87 rfl dX5_spring_86 ?_
            refine j_iadd C 88 rfl dX5_spring_87 ?_
            refine j_bipush C 90 rfl dX5_spring_88 (v := (24 : Int32)) (by decide) ?_
            refine j_irem C 91 rfl dX5_spring_90 (by decide) ?_
            obtain ⟨k9, ek9, hk9, hw⟩ := hw
            refine j_iald C 92 rfl 1 k9 rfl ek9 hk9 (by decide) dX5_spring_91 ?_
            refine j_iload C 94 rfl 4 dX5_spring_92 rfl ?_
            refine j_bipush C 96 rfl dX5_spring_94 (v := (10 : Int32)) (by decide) ?_
            refine j_irem C 97 rfl dX5_spring_96 (by decide) ?_
            refine j_icmp_ne C 100 rfl 104 dX5_spring_97 rfl (fun c => ?_) (fun c => ?_)
            · have hw := hw.1 c
              refine j_iconst C 105 rfl dX5_spring_104 (v := (0 : Int32)) (by decide) ?_
              refine j_istore C 107 rfl [1, 2, 3, 4, 5, 6, 7, 8, 0] (lv' := [(0, .ref a_this), (1, .int x1), (2, .int x2), (3, .int x3), (4, .int x4), (5, .int x5), (6, .int x6), (7, .int x7), (8, .int (0 : Int32))]) dX5_spring_105 (by decide) rfl ?_
              refine j_iload C 109 rfl 5 dX5_spring_107 rfl ?_
              refine j_iload C 111 rfl 8 dX5_spring_109 rfl ?_
              refine j_if_eq C 114 rfl 118 dX5_spring_111 rfl (fun c => ?_) (fun c => absurd c (by decide))
              refine j_iconst C 119 rfl dX5_spring_118 (v := (0 : Int32)) (by decide) ?_
              refine j_lv [0, 1, 2, 3, 4, 6, 7, 8] (lv' := [(0, .ref a_this), (1, .int x1), (2, .int x2), (3, .int x3), (4, .int x4), (6, .int x6), (7, .int x7), (8, .int (0 : Int32))]) rfl ?_
              exact hj119 _ _ _ _ _ hw
            · have hw := hw.2 c
              refine j_iconst C 101 rfl dX5_spring_100 (v := (1 : Int32)) (by decide) ?_
              refine j_goto C 105 dX5_spring_101 rfl ?_
              refine j_istore C 107 rfl [1, 2, 3, 4, 5, 6, 7, 8, 0] (lv' := [(0, .ref a_this), (1, .int x1), (2, .int x2), (3, .int x3), (4, .int x4), (5, .int x5), (6, .int x6), (7, .int x7), (8, .int (1 : Int32))]) dX5_spring_105 (by decide) rfl ?_
              refine j_iload C 109 rfl 5 dX5_spring_107 rfl ?_
              refine j_iload C 111 rfl 8 dX5_spring_109 rfl ?_
              refine j_if_eq C 114 rfl 118 dX5_spring_111 rfl (fun c => absurd c (by decide)) (fun c => ?_)
              refine j_iconst C 115 rfl dX5_spring_114 (v := (1 : Int32)) (by decide) ?_
              refine j_goto C 119 dX5_spring_115 rfl ?_
              refine j_lv [0, 1, 2, 3, 4, 6, 7, 8] (lv' := [(0, .ref a_this), (1, .int x1), (2, .int x2), (3, .int x3), (4, .int x4), (6, .int x6), (7, .int x7), (8, .int (1 : Int32))]) rfl ?_
              exact hj119 _ _ _ _ _ hw
        · have hw := hw.2 c
          refine j_iload C 37 rfl 4 dX5_spring_35 rfl ?_
          refine j_bipush C 39 rfl dX5_spring_37 (v := (10 : Int32)) (by decide) ?_
          refine j_bipush C 41 rfl dX5_spring_39 (v := (15 : Int32)) (by decide) ?_
          refine j_ri C 44 rfl (jc_S C (c_X5_in l g x4 (10 : Int32) (15 : Int32) _ hw) 3 gX5_spring_X5_in rfl rfl rfl hd_X5_in ⟨Nat.le_of_ble_eq_true rfl, Nat.le_of_ble_eq_true rfl⟩ [] rfl rfl (rest := []) rfl rfl (Nat.le_of_ble_eq_true rfl) dX5_spring_41 ⟨Nat.le_refl _, Nat.le_refl _⟩) [] rfl (fun _ => rfl) (fun r10 _ hw => ?_)
          try dsimp only at hw
          refine j_if_ne C 47 rfl 62 dX5_spring_44 rfl (fun c => ?_) (fun c => ?_)
          · have hw := hw.1 c
            refine j_iconst C 63 rfl dX5_spring_62 (v := (0 : Int32)) (by decide) ?_
            refine j_istore C 65 rfl [1, 2, 3, 4, 5, 0] (lv' := [(0, .ref a_this), (1, .int x1), (2, .int x2), (3, .int x3), (4, .int x4), (5, .int (0 : Int32))]) dX5_spring_63 (by decide) rfl ?_
            refine j_bipush C 67 rfl dX5_spring_65 (v := (-6 : Int32)) (by decide) ?_
            refine j_istore C 69 rfl [1, 2, 3, 4, 5, 6, 0] (lv' := [(0, .ref a_this), (1, .int x1), (2, .int x2), (3, .int x3), (4, .int x4), (5, .int (0 : Int32)), (6, .int (-6 : Int32))]) dX5_spring_67 (by decide) rfl ?_
            refine j_iconst C 70 rfl dX5_spring_69 (v := (0 : Int32)) (by decide) ?_
            refine j_istore C 72 rfl [1, 2, 3, 4, 5, 6, 7, 0] (lv' := [(0, .ref a_this), (1, .int x1), (2, .int x2), (3, .int x3), (4, .int x4), (5, .int (0 : Int32)), (6, .int (-6 : Int32)), (7, .int (0 : Int32))]) dX5_spring_70 (by decide) rfl ?_
            refine lpW3_ind (G := fun x5 x6 x7 => J l g A x 9 0 0 72 [(0, .ref a_this), (1, .int x1), (2, .int x2), (3, .int x3), (4, .int x4), (5, .int x5), (6, .int x6), (7, .int x7)] [] [(a_this, .inr (5, [.int v_signs, .ref a_pad, .ref a_sort, .ref a_heir, .int v_generations, .ref a_was, .ref a_worth, .int v_toll, .ref a_rights, .ref a_ahead, .ref a_bound, .ref a_owner, .ref a_foundBound, .ref a_foundOwner, .int v_foundLeast, .int v_stops, .ref a_beside, .ref a_upward, .ref a_from, .ref a_queue, .ref a_image, .ref a_isKept])), (a_heir, gI g 24 f_heir)]) (fun L72 x5 x6 x7 hL72 hw => ?_) _ _ _ hw
            have hj119 : ∀ (x6 : Int32) (x7 : Int32) (x8 : Int32) (s0 : Int32) (s1 : Int32), wj_X5_spring_119 x6 x7 x8 s0 s1 L72 → J l g A x 9 0 0 119 [(0, .ref a_this), (1, .int x1), (2, .int x2), (3, .int x3), (4, .int x4), (6, .int x6), (7, .int x7), (8, .int x8)] [.int s1, .int s0] [(a_this, .inr (5, [.int v_signs, .ref a_pad, .ref a_sort, .ref a_heir, .int v_generations, .ref a_was, .ref a_worth, .int v_toll, .ref a_rights, .ref a_ahead, .ref a_bound, .ref a_owner, .ref a_foundBound, .ref a_foundOwner, .int v_foundLeast, .int v_stops, .ref a_beside, .ref a_upward, .ref a_from, .ref a_queue, .ref a_image, .ref a_isKept])), (a_heir, gI g 24 f_heir)] := by
              intro x6 x7 x8 s0 s1 hw
              refine j_iadd C 120 rfl dX5_spring_119 ?_
              refine j_top (fun n11 en11 => ?_)
              have hw := hw n11 en11
              refine j_istore C 122 rfl [1, 2, 3, 4, 5, 0, 6, 7, 8] (lv' := [(0, .ref a_this), (1, .int x1), (2, .int x2), (3, .int x3), (4, .int x4), (5, .int n11), (6, .int x6), (7, .int x7), (8, .int x8)]) dX5_spring_120 (by decide) rfl ?_
              refine j_iload C 124 rfl 8 dX5_spring_122 rfl ?_
              refine j_if_eq C 127 rfl 137 dX5_spring_124 rfl (fun c => ?_) (fun c => ?_)
              · have hw := hw.1 c
                refine j_iload C 139 rfl 6 dX5_spring_137 rfl ?_
                refine j_istore C 141 rfl [1, 2, 3, 4, 5, 6, 0, 7, 8] (lv' := [(0, .ref a_this), (1, .int x1), (2, .int x2), (3, .int x3), (4, .int x4), (5, .int n11), (6, .int x6), (7, .int x7), (8, .int x8)]) dX5_spring_139 (by decide) rfl ?_
                refine j_iinc C 144 rfl 7 [1, 2, 3, 4, 5, 6, 7, 0, 8] (v' := (1 : Int32)) (lv' := fun z => [(0, .ref a_this), (1, .int x1), (2, .int x2), (3, .int x3), (4, .int x4), (5, .int n11), (6, .int x6), (7, .int z), (8, .int x8)]) dX5_spring_141 rfl (by decide) (by decide) (fun _ => rfl) (fun n12 en12 => ?_)
                have hw := hw n12 en12
                refine j_goto C 72 dX5_spring_144 rfl ?_
                refine j_lv [0, 1, 2, 3, 4, 5, 6, 7] (lv' := [(0, .ref a_this), (1, .int x1), (2, .int x2), (3, .int x3), (4, .int x4), (5, .int n11), (6, .int x6), (7, .int n12)]) rfl ?_
                exact hL72 _ _ _ hw
              · have hw := hw.2 c
                refine j_iload C 129 rfl 6 dX5_spring_127 rfl ?_
                refine j_if_ge C 132 rfl 137 dX5_spring_129 rfl (fun c => ?_) (fun c => ?_)
                · have hw := hw.1 c
                  refine j_iload C 139 rfl 6 dX5_spring_137 rfl ?_
                  refine j_istore C 141 rfl [1, 2, 3, 4, 5, 6, 0, 7, 8] (lv' := [(0, .ref a_this), (1, .int x1), (2, .int x2), (3, .int x3), (4, .int x4), (5, .int n11), (6, .int x6), (7, .int x7), (8, .int x8)]) dX5_spring_139 (by decide) rfl ?_
                  refine j_iinc C 144 rfl 7 [1, 2, 3, 4, 5, 6, 7, 0, 8] (v' := (1 : Int32)) (lv' := fun z => [(0, .ref a_this), (1, .int x1), (2, .int x2), (3, .int x3), (4, .int x4), (5, .int n11), (6, .int x6), (7, .int z), (8, .int x8)]) dX5_spring_141 rfl (by decide) (by decide) (fun _ => rfl) (fun n13 en13 => ?_)
                  have hw := hw n13 en13
                  refine j_goto C 72 dX5_spring_144 rfl ?_
                  refine j_lv [0, 1, 2, 3, 4, 5, 6, 7] (lv' := [(0, .ref a_this), (1, .int x1), (2, .int x2), (3, .int x3), (4, .int x4), (5, .int n11), (6, .int x6), (7, .int n13)]) rfl ?_
                  exact hL72 _ _ _ hw
                · have hw := hw.2 c
                  refine j_iload C 134 rfl 7 dX5_spring_132 rfl ?_
                  refine j_goto C 139 dX5_spring_134 rfl ?_
                  refine j_istore C 141 rfl [1, 2, 3, 4, 5, 6, 0, 7, 8] (lv' := [(0, .ref a_this), (1, .int x1), (2, .int x2), (3, .int x3), (4, .int x4), (5, .int n11), (6, .int x7), (7, .int x7), (8, .int x8)]) dX5_spring_139 (by decide) rfl ?_
                  refine j_iinc C 144 rfl 7 [1, 2, 3, 4, 5, 6, 7, 0, 8] (v' := (1 : Int32)) (lv' := fun z => [(0, .ref a_this), (1, .int x1), (2, .int x2), (3, .int x3), (4, .int x4), (5, .int n11), (6, .int x7), (7, .int z), (8, .int x8)]) dX5_spring_141 rfl (by decide) (by decide) (fun _ => rfl) (fun n14 en14 => ?_)
                  have hw := hw n14 en14
                  refine j_goto C 72 dX5_spring_144 rfl ?_
                  refine j_lv [0, 1, 2, 3, 4, 5, 6, 7] (lv' := [(0, .ref a_this), (1, .int x1), (2, .int x2), (3, .int x3), (4, .int x4), (5, .int n11), (6, .int x7), (7, .int n14)]) rfl ?_
                  exact hL72 _ _ _ hw
            refine j_iload C 74 rfl 7 dX5_spring_72 rfl ?_
            refine j_iload_n C 75 rfl 3 dX5_spring_74 rfl rfl ?_
            refine j_icmp_gt C 78 rfl 147 dX5_spring_75 rfl (fun c => ?_) (fun c => ?_)
            · have hw := hw.1 c
              refine j_iload C 149 rfl 4 dX5_spring_147 rfl ?_
              refine j_if_ne C 152 rfl 168 dX5_spring_149 rfl (fun c => ?_) (fun c => ?_)
              · have hw := hw.1 c
                refine j_iload C 170 rfl 4 dX5_spring_168 rfl ?_
                refine j_bipush C 172 rfl dX5_spring_170 (v := (20 : Int32)) (by decide) ?_
                refine j_icmp_ge C 175 rfl 180 dX5_spring_172 rfl (fun c => ?_) (fun c => ?_)
                · have hw := hw.1 c
                  refine j_iload C 182 rfl 6 dX5_spring_180 rfl ?_
                  exact j_iret C R () rfl dX5_spring_182 rfl hw
                · have hw := hw.2 c
                  refine j_iload C 177 rfl 5 dX5_spring_175 rfl ?_
                  refine j_goto C 182 dX5_spring_177 rfl ?_
                  exact j_iret C R () rfl dX5_spring_182 rfl hw
              · have hw := hw.2 c
                refine j_aload_n C 153 rfl 0 dX5_spring_152 rfl rfl ?_
                refine j_get C 156 rfl 0 5 3 (T := TX5) (N := 22) hi_X5_spring_X5 rfl (by decide) (List.mem_of_getElem? (i := 1) rfl) rfl rfl rfl dX5_spring_153 ?_
                refine j_iload_n C 157 rfl 1 dX5_spring_156 rfl rfl ?_
                refine j_iload_n C 158 rfl 2 dX5_spring_157 rfl rfl ?_
                refine j_iload_n C 159 rfl 3 dX5_spring_158 rfl rfl ?_
                refine j_imul C 160 rfl dX5_spring_159 ?_
                refine j_iadd C 161 rfl dX5_spring_160 ?_
                refine j_bipush C 163 rfl dX5_spring_161 (v := (24 : Int32)) (by decide) ?_
                refine j_irem C 164 rfl dX5_spring_163 (by decide) ?_
                obtain ⟨k15, ek15, hk15, hw⟩ := hw
                refine j_iald C 165 rfl 1 k15 rfl ek15 hk15 (by decide) dX5_spring_164 ?_
                refine j_goto C 182 dX5_spring_165 rfl ?_
                exact j_iret C R () rfl dX5_spring_182 rfl hw
            · have hw := hw.2 c
              refine j_aload_n C 79 rfl 0 dX5_spring_78 rfl rfl ?_
              refine j_get C 82 rfl 0 5 3 (T := TX5) (N := 22) hi_X5_spring_X5 rfl (by decide) (List.mem_of_getElem? (i := 1) rfl) rfl rfl rfl dX5_spring_79 ?_
              refine j_iload_n C 83 rfl 1 dX5_spring_82 rfl rfl ?_
              refine j_iload_n C 84 rfl 2 dX5_spring_83 rfl rfl ?_
              refine j_iload C 86 rfl 7 dX5_spring_84 rfl ?_
              refine j_imul C 87 rfl dX5_spring_86 ?_
              refine j_iadd C 88 rfl dX5_spring_87 ?_
              refine j_bipush C 90 rfl dX5_spring_88 (v := (24 : Int32)) (by decide) ?_
              refine j_irem C 91 rfl dX5_spring_90 (by decide) ?_
              obtain ⟨k16, ek16, hk16, hw⟩ := hw
              refine j_iald C 92 rfl 1 k16 rfl ek16 hk16 (by decide) dX5_spring_91 ?_
              refine j_iload C 94 rfl 4 dX5_spring_92 rfl ?_
              refine j_bipush C 96 rfl dX5_spring_94 (v := (10 : Int32)) (by decide) ?_
              refine j_irem C 97 rfl dX5_spring_96 (by decide) ?_
              refine j_icmp_ne C 100 rfl 104 dX5_spring_97 rfl (fun c => ?_) (fun c => ?_)
              · have hw := hw.1 c
                refine j_iconst C 105 rfl dX5_spring_104 (v := (0 : Int32)) (by decide) ?_
                refine j_istore C 107 rfl [1, 2, 3, 4, 5, 6, 7, 8, 0] (lv' := [(0, .ref a_this), (1, .int x1), (2, .int x2), (3, .int x3), (4, .int x4), (5, .int x5), (6, .int x6), (7, .int x7), (8, .int (0 : Int32))]) dX5_spring_105 (by decide) rfl ?_
                refine j_iload C 109 rfl 5 dX5_spring_107 rfl ?_
                refine j_iload C 111 rfl 8 dX5_spring_109 rfl ?_
                refine j_if_eq C 114 rfl 118 dX5_spring_111 rfl (fun c => ?_) (fun c => absurd c (by decide))
                refine j_iconst C 119 rfl dX5_spring_118 (v := (0 : Int32)) (by decide) ?_
                refine j_lv [0, 1, 2, 3, 4, 6, 7, 8] (lv' := [(0, .ref a_this), (1, .int x1), (2, .int x2), (3, .int x3), (4, .int x4), (6, .int x6), (7, .int x7), (8, .int (0 : Int32))]) rfl ?_
                exact hj119 _ _ _ _ _ hw
              · have hw := hw.2 c
                refine j_iconst C 101 rfl dX5_spring_100 (v := (1 : Int32)) (by decide) ?_
                refine j_goto C 105 dX5_spring_101 rfl ?_
                refine j_istore C 107 rfl [1, 2, 3, 4, 5, 6, 7, 8, 0] (lv' := [(0, .ref a_this), (1, .int x1), (2, .int x2), (3, .int x3), (4, .int x4), (5, .int x5), (6, .int x6), (7, .int x7), (8, .int (1 : Int32))]) dX5_spring_105 (by decide) rfl ?_
                refine j_iload C 109 rfl 5 dX5_spring_107 rfl ?_
                refine j_iload C 111 rfl 8 dX5_spring_109 rfl ?_
                refine j_if_eq C 114 rfl 118 dX5_spring_111 rfl (fun c => absurd c (by decide)) (fun c => ?_)
                refine j_iconst C 115 rfl dX5_spring_114 (v := (1 : Int32)) (by decide) ?_
                refine j_goto C 119 dX5_spring_115 rfl ?_
                refine j_lv [0, 1, 2, 3, 4, 6, 7, 8] (lv' := [(0, .ref a_this), (1, .int x1), (2, .int x2), (3, .int x3), (4, .int x4), (6, .int x6), (7, .int x7), (8, .int (1 : Int32))]) rfl ?_
                exact hj119 _ _ _ _ _ hw
          · have hw := hw.2 c
            refine j_iload C 49 rfl 4 dX5_spring_47 rfl ?_
            refine j_bipush C 51 rfl dX5_spring_49 (v := (20 : Int32)) (by decide) ?_
            refine j_bipush C 53 rfl dX5_spring_51 (v := (25 : Int32)) (by decide) ?_
            refine j_ri C 56 rfl (jc_S C (c_X5_in l g x4 (20 : Int32) (25 : Int32) _ hw) 3 gX5_spring_X5_in rfl rfl rfl hd_X5_in ⟨Nat.le_of_ble_eq_true rfl, Nat.le_of_ble_eq_true rfl⟩ [] rfl rfl (rest := []) rfl rfl (Nat.le_of_ble_eq_true rfl) dX5_spring_53 ⟨Nat.le_refl _, Nat.le_refl _⟩) [] rfl (fun _ => rfl) (fun r17 _ hw => ?_)
            try dsimp only at hw
            refine j_if_ne C 59 rfl 62 dX5_spring_56 rfl (fun c => ?_) (fun c => ?_)
            · have hw := hw.1 c
              refine j_iconst C 63 rfl dX5_spring_62 (v := (0 : Int32)) (by decide) ?_
              refine j_istore C 65 rfl [1, 2, 3, 4, 5, 0] (lv' := [(0, .ref a_this), (1, .int x1), (2, .int x2), (3, .int x3), (4, .int x4), (5, .int (0 : Int32))]) dX5_spring_63 (by decide) rfl ?_
              refine j_bipush C 67 rfl dX5_spring_65 (v := (-6 : Int32)) (by decide) ?_
              refine j_istore C 69 rfl [1, 2, 3, 4, 5, 6, 0] (lv' := [(0, .ref a_this), (1, .int x1), (2, .int x2), (3, .int x3), (4, .int x4), (5, .int (0 : Int32)), (6, .int (-6 : Int32))]) dX5_spring_67 (by decide) rfl ?_
              refine j_iconst C 70 rfl dX5_spring_69 (v := (0 : Int32)) (by decide) ?_
              refine j_istore C 72 rfl [1, 2, 3, 4, 5, 6, 7, 0] (lv' := [(0, .ref a_this), (1, .int x1), (2, .int x2), (3, .int x3), (4, .int x4), (5, .int (0 : Int32)), (6, .int (-6 : Int32)), (7, .int (0 : Int32))]) dX5_spring_70 (by decide) rfl ?_
              refine lpW3_ind (G := fun x5 x6 x7 => J l g A x 9 0 0 72 [(0, .ref a_this), (1, .int x1), (2, .int x2), (3, .int x3), (4, .int x4), (5, .int x5), (6, .int x6), (7, .int x7)] [] [(a_this, .inr (5, [.int v_signs, .ref a_pad, .ref a_sort, .ref a_heir, .int v_generations, .ref a_was, .ref a_worth, .int v_toll, .ref a_rights, .ref a_ahead, .ref a_bound, .ref a_owner, .ref a_foundBound, .ref a_foundOwner, .int v_foundLeast, .int v_stops, .ref a_beside, .ref a_upward, .ref a_from, .ref a_queue, .ref a_image, .ref a_isKept])), (a_heir, gI g 24 f_heir)]) (fun L72 x5 x6 x7 hL72 hw => ?_) _ _ _ hw
              have hj119 : ∀ (x6 : Int32) (x7 : Int32) (x8 : Int32) (s0 : Int32) (s1 : Int32), wj_X5_spring_119 x6 x7 x8 s0 s1 L72 → J l g A x 9 0 0 119 [(0, .ref a_this), (1, .int x1), (2, .int x2), (3, .int x3), (4, .int x4), (6, .int x6), (7, .int x7), (8, .int x8)] [.int s1, .int s0] [(a_this, .inr (5, [.int v_signs, .ref a_pad, .ref a_sort, .ref a_heir, .int v_generations, .ref a_was, .ref a_worth, .int v_toll, .ref a_rights, .ref a_ahead, .ref a_bound, .ref a_owner, .ref a_foundBound, .ref a_foundOwner, .int v_foundLeast, .int v_stops, .ref a_beside, .ref a_upward, .ref a_from, .ref a_queue, .ref a_image, .ref a_isKept])), (a_heir, gI g 24 f_heir)] := by
                intro x6 x7 x8 s0 s1 hw
                refine j_iadd C 120 rfl dX5_spring_119 ?_
                refine j_top (fun n18 en18 => ?_)
                have hw := hw n18 en18
                refine j_istore C 122 rfl [1, 2, 3, 4, 5, 0, 6, 7, 8] (lv' := [(0, .ref a_this), (1, .int x1), (2, .int x2), (3, .int x3), (4, .int x4), (5, .int n18), (6, .int x6), (7, .int x7), (8, .int x8)]) dX5_spring_120 (by decide) rfl ?_
                refine j_iload C 124 rfl 8 dX5_spring_122 rfl ?_
                refine j_if_eq C 127 rfl 137 dX5_spring_124 rfl (fun c => ?_) (fun c => ?_)
                · have hw := hw.1 c
                  refine j_iload C 139 rfl 6 dX5_spring_137 rfl ?_
                  refine j_istore C 141 rfl [1, 2, 3, 4, 5, 6, 0, 7, 8] (lv' := [(0, .ref a_this), (1, .int x1), (2, .int x2), (3, .int x3), (4, .int x4), (5, .int n18), (6, .int x6), (7, .int x7), (8, .int x8)]) dX5_spring_139 (by decide) rfl ?_
                  refine j_iinc C 144 rfl 7 [1, 2, 3, 4, 5, 6, 7, 0, 8] (v' := (1 : Int32)) (lv' := fun z => [(0, .ref a_this), (1, .int x1), (2, .int x2), (3, .int x3), (4, .int x4), (5, .int n18), (6, .int x6), (7, .int z), (8, .int x8)]) dX5_spring_141 rfl (by decide) (by decide) (fun _ => rfl) (fun n19 en19 => ?_)
                  have hw := hw n19 en19
                  refine j_goto C 72 dX5_spring_144 rfl ?_
                  refine j_lv [0, 1, 2, 3, 4, 5, 6, 7] (lv' := [(0, .ref a_this), (1, .int x1), (2, .int x2), (3, .int x3), (4, .int x4), (5, .int n18), (6, .int x6), (7, .int n19)]) rfl ?_
                  exact hL72 _ _ _ hw
                · have hw := hw.2 c
                  refine j_iload C 129 rfl 6 dX5_spring_127 rfl ?_
                  refine j_if_ge C 132 rfl 137 dX5_spring_129 rfl (fun c => ?_) (fun c => ?_)
                  · have hw := hw.1 c
                    refine j_iload C 139 rfl 6 dX5_spring_137 rfl ?_
                    refine j_istore C 141 rfl [1, 2, 3, 4, 5, 6, 0, 7, 8] (lv' := [(0, .ref a_this), (1, .int x1), (2, .int x2), (3, .int x3), (4, .int x4), (5, .int n18), (6, .int x6), (7, .int x7), (8, .int x8)]) dX5_spring_139 (by decide) rfl ?_
                    refine j_iinc C 144 rfl 7 [1, 2, 3, 4, 5, 6, 7, 0, 8] (v' := (1 : Int32)) (lv' := fun z => [(0, .ref a_this), (1, .int x1), (2, .int x2), (3, .int x3), (4, .int x4), (5, .int n18), (6, .int x6), (7, .int z), (8, .int x8)]) dX5_spring_141 rfl (by decide) (by decide) (fun _ => rfl) (fun n20 en20 => ?_)
                    have hw := hw n20 en20
                    refine j_goto C 72 dX5_spring_144 rfl ?_
                    refine j_lv [0, 1, 2, 3, 4, 5, 6, 7] (lv' := [(0, .ref a_this), (1, .int x1), (2, .int x2), (3, .int x3), (4, .int x4), (5, .int n18), (6, .int x6), (7, .int n20)]) rfl ?_
                    exact hL72 _ _ _ hw
                  · have hw := hw.2 c
                    refine j_iload C 134 rfl 7 dX5_spring_132 rfl ?_
                    refine j_goto C 139 dX5_spring_134 rfl ?_
                    refine j_istore C 141 rfl [1, 2, 3, 4, 5, 6, 0, 7, 8] (lv' := [(0, .ref a_this), (1, .int x1), (2, .int x2), (3, .int x3), (4, .int x4), (5, .int n18), (6, .int x7), (7, .int x7), (8, .int x8)]) dX5_spring_139 (by decide) rfl ?_
                    refine j_iinc C 144 rfl 7 [1, 2, 3, 4, 5, 6, 7, 0, 8] (v' := (1 : Int32)) (lv' := fun z => [(0, .ref a_this), (1, .int x1), (2, .int x2), (3, .int x3), (4, .int x4), (5, .int n18), (6, .int x7), (7, .int z), (8, .int x8)]) dX5_spring_141 rfl (by decide) (by decide) (fun _ => rfl) (fun n21 en21 => ?_)
                    have hw := hw n21 en21
                    refine j_goto C 72 dX5_spring_144 rfl ?_
                    refine j_lv [0, 1, 2, 3, 4, 5, 6, 7] (lv' := [(0, .ref a_this), (1, .int x1), (2, .int x2), (3, .int x3), (4, .int x4), (5, .int n18), (6, .int x7), (7, .int n21)]) rfl ?_
                    exact hL72 _ _ _ hw
              refine j_iload C 74 rfl 7 dX5_spring_72 rfl ?_
              refine j_iload_n C 75 rfl 3 dX5_spring_74 rfl rfl ?_
              refine j_icmp_gt C 78 rfl 147 dX5_spring_75 rfl (fun c => ?_) (fun c => ?_)
              · have hw := hw.1 c
                refine j_iload C 149 rfl 4 dX5_spring_147 rfl ?_
                refine j_if_ne C 152 rfl 168 dX5_spring_149 rfl (fun c => ?_) (fun c => ?_)
                · have hw := hw.1 c
                  refine j_iload C 170 rfl 4 dX5_spring_168 rfl ?_
                  refine j_bipush C 172 rfl dX5_spring_170 (v := (20 : Int32)) (by decide) ?_
                  refine j_icmp_ge C 175 rfl 180 dX5_spring_172 rfl (fun c => ?_) (fun c => ?_)
                  · have hw := hw.1 c
                    refine j_iload C 182 rfl 6 dX5_spring_180 rfl ?_
                    exact j_iret C R () rfl dX5_spring_182 rfl hw
                  · have hw := hw.2 c
                    refine j_iload C 177 rfl 5 dX5_spring_175 rfl ?_
                    refine j_goto C 182 dX5_spring_177 rfl ?_
                    exact j_iret C R () rfl dX5_spring_182 rfl hw
                · have hw := hw.2 c
                  refine j_aload_n C 153 rfl 0 dX5_spring_152 rfl rfl ?_
                  refine j_get C 156 rfl 0 5 3 (T := TX5) (N := 22) hi_X5_spring_X5 rfl (by decide) (List.mem_of_getElem? (i := 1) rfl) rfl rfl rfl dX5_spring_153 ?_
                  refine j_iload_n C 157 rfl 1 dX5_spring_156 rfl rfl ?_
                  refine j_iload_n C 158 rfl 2 dX5_spring_157 rfl rfl ?_
                  refine j_iload_n C 159 rfl 3 dX5_spring_158 rfl rfl ?_
                  refine j_imul C 160 rfl dX5_spring_159 ?_
                  refine j_iadd C 161 rfl dX5_spring_160 ?_
                  refine j_bipush C 163 rfl dX5_spring_161 (v := (24 : Int32)) (by decide) ?_
                  refine j_irem C 164 rfl dX5_spring_163 (by decide) ?_
                  obtain ⟨k22, ek22, hk22, hw⟩ := hw
                  refine j_iald C 165 rfl 1 k22 rfl ek22 hk22 (by decide) dX5_spring_164 ?_
                  refine j_goto C 182 dX5_spring_165 rfl ?_
                  exact j_iret C R () rfl dX5_spring_182 rfl hw
              · have hw := hw.2 c
                refine j_aload_n C 79 rfl 0 dX5_spring_78 rfl rfl ?_
                refine j_get C 82 rfl 0 5 3 (T := TX5) (N := 22) hi_X5_spring_X5 rfl (by decide) (List.mem_of_getElem? (i := 1) rfl) rfl rfl rfl dX5_spring_79 ?_
                refine j_iload_n C 83 rfl 1 dX5_spring_82 rfl rfl ?_
                refine j_iload_n C 84 rfl 2 dX5_spring_83 rfl rfl ?_
                refine j_iload C 86 rfl 7 dX5_spring_84 rfl ?_
                refine j_imul C 87 rfl dX5_spring_86 ?_
                refine j_iadd C 88 rfl dX5_spring_87 ?_
                refine j_bipush C 90 rfl dX5_spring_88 (v := (24 : Int32)) (by decide) ?_
                refine j_irem C 91 rfl dX5_spring_90 (by decide) ?_
                obtain ⟨k23, ek23, hk23, hw⟩ := hw
                refine j_iald C 92 rfl 1 k23 rfl ek23 hk23 (by decide) dX5_spring_91 ?_
                refine j_iload C 94 rfl 4 dX5_spring_92 rfl ?_
                refine j_bipush C 96 rfl dX5_spring_94 (v := (10 : Int32)) (by decide) ?_
                refine j_irem C 97 rfl dX5_spring_96 (by decide) ?_
                refine j_icmp_ne C 100 rfl 104 dX5_spring_97 rfl (fun c => ?_) (fun c => ?_)
                · have hw := hw.1 c
                  refine j_iconst C 105 rfl dX5_spring_104 (v := (0 : Int32)) (by decide) ?_
                  refine j_istore C 107 rfl [1, 2, 3, 4, 5, 6, 7, 8, 0] (lv' := [(0, .ref a_this), (1, .int x1), (2, .int x2), (3, .int x3), (4, .int x4), (5, .int x5), (6, .int x6), (7, .int x7), (8, .int (0 : Int32))]) dX5_spring_105 (by decide) rfl ?_
                  refine j_iload C 109 rfl 5 dX5_spring_107 rfl ?_
                  refine j_iload C 111 rfl 8 dX5_spring_109 rfl ?_
                  refine j_if_eq C 114 rfl 118 dX5_spring_111 rfl (fun c => ?_) (fun c => absurd c (by decide))
                  refine j_iconst C 119 rfl dX5_spring_118 (v := (0 : Int32)) (by decide) ?_
                  refine j_lv [0, 1, 2, 3, 4, 6, 7, 8] (lv' := [(0, .ref a_this), (1, .int x1), (2, .int x2), (3, .int x3), (4, .int x4), (6, .int x6), (7, .int x7), (8, .int (0 : Int32))]) rfl ?_
                  exact hj119 _ _ _ _ _ hw
                · have hw := hw.2 c
                  refine j_iconst C 101 rfl dX5_spring_100 (v := (1 : Int32)) (by decide) ?_
                  refine j_goto C 105 dX5_spring_101 rfl ?_
                  refine j_istore C 107 rfl [1, 2, 3, 4, 5, 6, 7, 8, 0] (lv' := [(0, .ref a_this), (1, .int x1), (2, .int x2), (3, .int x3), (4, .int x4), (5, .int x5), (6, .int x6), (7, .int x7), (8, .int (1 : Int32))]) dX5_spring_105 (by decide) rfl ?_
                  refine j_iload C 109 rfl 5 dX5_spring_107 rfl ?_
                  refine j_iload C 111 rfl 8 dX5_spring_109 rfl ?_
                  refine j_if_eq C 114 rfl 118 dX5_spring_111 rfl (fun c => absurd c (by decide)) (fun c => ?_)
                  refine j_iconst C 115 rfl dX5_spring_114 (v := (1 : Int32)) (by decide) ?_
                  refine j_goto C 119 dX5_spring_115 rfl ?_
                  refine j_lv [0, 1, 2, 3, 4, 6, 7, 8] (lv' := [(0, .ref a_this), (1, .int x1), (2, .int x2), (3, .int x3), (4, .int x4), (6, .int x6), (7, .int x7), (8, .int (1 : Int32))]) rfl ?_
                  exact hj119 _ _ _ _ _ hw
            · have hw := hw.2 c
              refine j_bipush C 61 rfl dX5_spring_59 (v := (-2 : Int32)) (by decide) ?_
              exact j_iret C R () rfl dX5_spring_61 rfl hw
  · have hw := hw.2 c
    refine j_iconst C 8 rfl dX5_spring_7 (v := (-1 : Int32)) (by decide) ?_
    exact j_iret C R () rfl dX5_spring_8 rfl hw
theorem hi_X5_boundsBy_X5 : ∀ w ∈ wsX50, w ∈ wsX5_boundsBy := fun _ h => List.mem_cons_of_mem _ (List.mem_append_right _ h)
set_option maxRecDepth 20000 in
set_option maxHeartbeats 4000000 in
theorem c_X5_boundsBy (l : Launch) (g : gE) (a_this a_pad a_sort a_heir a_was a_worth a_rights a_ahead a_bound a_owner a_foundBound a_foundOwner a_beside a_upward a_from a_queue a_image a_isKept : Nat) (v_signs : Int32) (v_generations : Int32) (v_toll : Int32) (v_foundLeast : Int32) (v_stops : Int32) (f_heir : (Nat → Int32)) (x1 : Int32) (x2 : Int32)  (K : Int32 → Prop) (hw : wp_X5_boundsBy f_heir x1 x2 K) : Ci l g yX5_boundsBy wsX5_boundsBy { frames := 1, cells := 0, slots := 0, locals := 20 } [.ref a_this, .int x1, .int x2] [(a_this, .inr (5, [.int v_signs, .ref a_pad, .ref a_sort, .ref a_heir, .int v_generations, .ref a_was, .ref a_worth, .int v_toll, .ref a_rights, .ref a_ahead, .ref a_bound, .ref a_owner, .ref a_foundBound, .ref a_foundOwner, .int v_foundLeast, .int v_stops, .ref a_beside, .ref a_upward, .ref a_from, .ref a_queue, .ref a_image, .ref a_isKept])), (a_heir, gI g 24 f_heir)] (fun (r : Int32) (_ : Unit) => K r) (fun (_ : Unit) => [(a_this, .inr (5, [.int v_signs, .ref a_pad, .ref a_sort, .ref a_heir, .int v_generations, .ref a_was, .ref a_worth, .int v_toll, .ref a_rights, .ref a_ahead, .ref a_bound, .ref a_owner, .ref a_foundBound, .ref a_foundOwner, .int v_foundLeast, .int v_stops, .ref a_beside, .ref a_upward, .ref a_from, .ref a_queue, .ref a_image, .ref a_isKept])), (a_heir, gI g 24 f_heir)]) 0 0 := by
  refine Ci_of (cc := cX5_boundsBy) (nL := 7) (ret := (some .int)) (own := RX5) (lv0 := [(0, .ref a_this), (1, .int x1), (2, .int x2)]) (by decide +kernel) rfl rfl (Nat.le_of_ble_eq_true rfl) rfl (fun A x C R => ?_)
  refine j_iconst C 1 rfl dX5_boundsBy_0 (v := (0 : Int32)) (by decide) ?_
  refine j_istore_n C 2 rfl [1, 2, 3, 0] (lv' := [(0, .ref a_this), (1, .int x1), (2, .int x2), (3, .int (0 : Int32))]) dX5_boundsBy_1 rfl (by decide) rfl ?_
  refine j_iconst C 3 rfl dX5_boundsBy_2 (v := (0 : Int32)) (by decide) ?_
  refine j_istore C 5 rfl [1, 2, 3, 4, 0] (lv' := [(0, .ref a_this), (1, .int x1), (2, .int x2), (3, .int (0 : Int32)), (4, .int (0 : Int32))]) dX5_boundsBy_3 (by decide) rfl ?_
  refine lpW2_ind (G := fun x3 x4 => J l g A x 7 0 0 5 [(0, .ref a_this), (1, .int x1), (2, .int x2), (3, .int x3), (4, .int x4)] [] [(a_this, .inr (5, [.int v_signs, .ref a_pad, .ref a_sort, .ref a_heir, .int v_generations, .ref a_was, .ref a_worth, .int v_toll, .ref a_rights, .ref a_ahead, .ref a_bound, .ref a_owner, .ref a_foundBound, .ref a_foundOwner, .int v_foundLeast, .int v_stops, .ref a_beside, .ref a_upward, .ref a_from, .ref a_queue, .ref a_image, .ref a_isKept])), (a_heir, gI g 24 f_heir)]) (fun L5 x3 x4 hL5 hw => ?_) _ _ hw
  have hj64 : ∀ (x3 : Int32) (x4 : Int32) (x5 : Int32) (s0 : Int32), wj_X5_boundsBy_64 x3 x4 x5 s0 L5 → J l g A x 7 0 0 64 [(0, .ref a_this), (1, .int x1), (2, .int x2), (3, .int x3), (4, .int x4), (5, .int x5)] [.int s0] [(a_this, .inr (5, [.int v_signs, .ref a_pad, .ref a_sort, .ref a_heir, .int v_generations, .ref a_was, .ref a_worth, .int v_toll, .ref a_rights, .ref a_ahead, .ref a_bound, .ref a_owner, .ref a_foundBound, .ref a_foundOwner, .int v_foundLeast, .int v_stops, .ref a_beside, .ref a_upward, .ref a_from, .ref a_queue, .ref a_image, .ref a_isKept])), (a_heir, gI g 24 f_heir)] := by
    intro x3 x4 x5 s0 hw
    refine j_istore C 66 rfl [1, 2, 3, 4, 5, 6, 0] (lv' := [(0, .ref a_this), (1, .int x1), (2, .int x2), (3, .int x3), (4, .int x4), (5, .int x5), (6, .int s0)]) dX5_boundsBy_64 (by decide) rfl ?_
    refine j_iload_n C 67 rfl 3 dX5_boundsBy_66 rfl rfl ?_
    refine j_iload C 69 rfl 5 dX5_boundsBy_67 rfl ?_
    refine j_iload C 71 rfl 6 dX5_boundsBy_69 rfl ?_
    refine j_icmp_ne C 74 rfl 78 dX5_boundsBy_71 rfl (fun c => ?_) (fun c => ?_)
    · have hw := hw.1 c
      refine j_iconst C 79 rfl dX5_boundsBy_78 (v := (1 : Int32)) (by decide) ?_
      refine j_iadd C 80 rfl dX5_boundsBy_79 ?_
      refine j_top (fun n1 en1 => ?_)
      have hw := hw n1 en1
      refine j_istore_n C 81 rfl [1, 2, 3, 0, 4, 5, 6] (lv' := [(0, .ref a_this), (1, .int x1), (2, .int x2), (3, .int n1), (4, .int x4), (5, .int x5), (6, .int s0)]) dX5_boundsBy_80 rfl (by decide) rfl ?_
      refine j_iinc C 84 rfl 4 [1, 2, 3, 4, 0, 5, 6] (v' := (1 : Int32)) (lv' := fun z => [(0, .ref a_this), (1, .int x1), (2, .int x2), (3, .int n1), (4, .int z), (5, .int x5), (6, .int s0)]) dX5_boundsBy_81 rfl (by decide) (by decide) (fun _ => rfl) (fun n2 en2 => ?_)
      have hw := hw n2 en2
      refine j_goto C 5 dX5_boundsBy_84 rfl ?_
      refine j_lv [0, 1, 2, 3, 4] (lv' := [(0, .ref a_this), (1, .int x1), (2, .int x2), (3, .int n1), (4, .int n2)]) rfl ?_
      exact hL5 _ _ hw
    · have hw := hw.2 c
      refine j_iconst C 75 rfl dX5_boundsBy_74 (v := (0 : Int32)) (by decide) ?_
      refine j_goto C 79 dX5_boundsBy_75 rfl ?_
      refine j_iadd C 80 rfl dX5_boundsBy_79 ?_
      refine j_top (fun n3 en3 => ?_)
      have hw := hw n3 en3
      refine j_istore_n C 81 rfl [1, 2, 3, 0, 4, 5, 6] (lv' := [(0, .ref a_this), (1, .int x1), (2, .int x2), (3, .int n3), (4, .int x4), (5, .int x5), (6, .int s0)]) dX5_boundsBy_80 rfl (by decide) rfl ?_
      refine j_iinc C 84 rfl 4 [1, 2, 3, 4, 0, 5, 6] (v' := (1 : Int32)) (lv' := fun z => [(0, .ref a_this), (1, .int x1), (2, .int x2), (3, .int n3), (4, .int z), (5, .int x5), (6, .int s0)]) dX5_boundsBy_81 rfl (by decide) (by decide) (fun _ => rfl) (fun n4 en4 => ?_)
      have hw := hw n4 en4
      refine j_goto C 5 dX5_boundsBy_84 rfl ?_
      refine j_lv [0, 1, 2, 3, 4] (lv' := [(0, .ref a_this), (1, .int x1), (2, .int x2), (3, .int n3), (4, .int n4)]) rfl ?_
      exact hL5 _ _ hw
  have hj34 : ∀ (x3 : Int32) (x4 : Int32) (s0 : Int32), wj_X5_boundsBy_34 f_heir x1 x2 x3 x4 s0 L5 → J l g A x 7 0 0 34 [(0, .ref a_this), (1, .int x1), (2, .int x2), (3, .int x3), (4, .int x4)] [.int s0] [(a_this, .inr (5, [.int v_signs, .ref a_pad, .ref a_sort, .ref a_heir, .int v_generations, .ref a_was, .ref a_worth, .int v_toll, .ref a_rights, .ref a_ahead, .ref a_bound, .ref a_owner, .ref a_foundBound, .ref a_foundOwner, .int v_foundLeast, .int v_stops, .ref a_beside, .ref a_upward, .ref a_from, .ref a_queue, .ref a_image, .ref a_isKept])), (a_heir, gI g 24 f_heir)] := by
    intro x3 x4 s0 hw
    refine j_istore C 36 rfl [1, 2, 3, 4, 5, 0] (lv' := [(0, .ref a_this), (1, .int x1), (2, .int x2), (3, .int x3), (4, .int x4), (5, .int s0)]) dX5_boundsBy_34 (by decide) rfl ?_
    refine j_aload_n C 37 rfl 0 dX5_boundsBy_36 rfl rfl ?_
    refine j_get C 40 rfl 0 5 3 (T := TX5) (N := 22) hi_X5_boundsBy_X5 rfl (by decide) (List.mem_of_getElem? (i := 1) rfl) rfl rfl rfl dX5_boundsBy_37 ?_
    refine j_iload C 42 rfl 4 dX5_boundsBy_40 rfl ?_
    refine j_ri C 45 rfl (jc_S C (c_X5_next l g x4 _ hw) 1 gX5_boundsBy_X5_next rfl rfl rfl hd_X5_next ⟨Nat.le_of_ble_eq_true rfl, Nat.le_of_ble_eq_true rfl⟩ [] rfl rfl (rest := [.ref a_heir]) rfl rfl (Nat.le_of_ble_eq_true rfl) dX5_boundsBy_42 ⟨Nat.le_refl _, Nat.le_refl _⟩) [] rfl (fun _ => rfl) (fun r5 _ hw => ?_)
    try dsimp only at hw
    obtain ⟨k6, ek6, hk6, hw⟩ := hw
    refine j_iald C 46 rfl 1 k6 rfl ek6 hk6 (by decide) dX5_boundsBy_45 ?_
    refine j_iload_n C 47 rfl 2 dX5_boundsBy_46 rfl rfl ?_
    refine j_icmp_ne C 50 rfl 54 dX5_boundsBy_47 rfl (fun c => ?_) (fun c => ?_)
    · have hw := hw.1 c
      refine j_aload_n C 55 rfl 0 dX5_boundsBy_54 rfl rfl ?_
      refine j_get C 58 rfl 0 5 3 (T := TX5) (N := 22) hi_X5_boundsBy_X5 rfl (by decide) (List.mem_of_getElem? (i := 1) rfl) rfl rfl rfl dX5_boundsBy_55 ?_
      refine j_iload C 60 rfl 4 dX5_boundsBy_58 rfl ?_
      refine j_ri C 63 rfl (jc_S C (c_X5_next l g x4 _ hw) 1 gX5_boundsBy_X5_next rfl rfl rfl hd_X5_next ⟨Nat.le_of_ble_eq_true rfl, Nat.le_of_ble_eq_true rfl⟩ [] rfl rfl (rest := [.ref a_heir]) rfl rfl (Nat.le_of_ble_eq_true rfl) dX5_boundsBy_60 ⟨Nat.le_refl _, Nat.le_refl _⟩) [] rfl (fun _ => rfl) (fun r7 _ hw => ?_)
      try dsimp only at hw
      obtain ⟨k8, ek8, hk8, hw⟩ := hw
      refine j_iald C 64 rfl 1 k8 rfl ek8 hk8 (by decide) dX5_boundsBy_63 ?_
      exact hj64 _ _ _ _ hw
    · have hw := hw.2 c
      refine j_iload_n C 51 rfl 1 dX5_boundsBy_50 rfl rfl ?_
      refine j_goto C 64 dX5_boundsBy_51 rfl ?_
      exact hj64 _ _ _ _ hw
  refine j_iload C 7 rfl 4 dX5_boundsBy_5 rfl ?_
  refine j_bipush C 9 rfl dX5_boundsBy_7 (v := (24 : Int32)) (by decide) ?_
  refine j_icmp_ge C 12 rfl 87 dX5_boundsBy_9 rfl (fun c => ?_) (fun c => ?_)
  · have hw := hw.1 c
    refine j_iload_n C 88 rfl 3 dX5_boundsBy_87 rfl rfl ?_
    exact j_iret C R () rfl dX5_boundsBy_88 rfl hw
  · have hw := hw.2 c
    refine j_aload_n C 13 rfl 0 dX5_boundsBy_12 rfl rfl ?_
    refine j_get C 16 rfl 0 5 3 (T := TX5) (N := 22) hi_X5_boundsBy_X5 rfl (by decide) (List.mem_of_getElem? (i := 1) rfl) rfl rfl rfl dX5_boundsBy_13 ?_
    refine j_iload C 18 rfl 4 dX5_boundsBy_16 rfl ?_
    obtain ⟨k9, ek9, hk9, hw⟩ := hw
    refine j_iald C 19 rfl 1 k9 rfl ek9 hk9 (by decide) dX5_boundsBy_18 ?_
    refine j_iload_n C 20 rfl 2 dX5_boundsBy_19 rfl rfl ?_
    refine j_icmp_ne C 23 rfl 27 dX5_boundsBy_20 rfl (fun c => ?_) (fun c => ?_)
    · have hw := hw.1 c
      refine j_aload_n C 28 rfl 0 dX5_boundsBy_27 rfl rfl ?_
      refine j_get C 31 rfl 0 5 3 (T := TX5) (N := 22) hi_X5_boundsBy_X5 rfl (by decide) (List.mem_of_getElem? (i := 1) rfl) rfl rfl rfl dX5_boundsBy_28 ?_
      refine j_iload C 33 rfl 4 dX5_boundsBy_31 rfl ?_
      obtain ⟨k10, ek10, hk10, hw⟩ := hw
      refine j_iald C 34 rfl 1 k10 rfl ek10 hk10 (by decide) dX5_boundsBy_33 ?_
      exact hj34 _ _ _ hw
    · have hw := hw.2 c
      refine j_iload_n C 24 rfl 1 dX5_boundsBy_23 rfl rfl ?_
      refine j_goto C 34 dX5_boundsBy_24 rfl ?_
      exact hj34 _ _ _ hw
set_option maxRecDepth 20000 in
set_option maxHeartbeats 4000000 in
theorem c_X5_bestWedding (l : Launch) (g : gE) (a_this a_pad a_sort a_heir a_was a_worth a_rights a_ahead a_bound a_owner a_foundBound a_foundOwner a_beside a_upward a_from a_queue a_image a_isKept : Nat) (v_signs : Int32) (v_generations : Int32) (v_toll : Int32) (v_foundLeast : Int32) (v_stops : Int32) (f_heir : (Nat → Int32))   (K : Int32 → Prop) (hw : wp_X5_bestWedding f_heir K) : Ci l g yX5_bestWedding wsX5_bestWedding { frames := 2, cells := 0, slots := 0, locals := 46 } [.ref a_this] [(a_this, .inr (5, [.int v_signs, .ref a_pad, .ref a_sort, .ref a_heir, .int v_generations, .ref a_was, .ref a_worth, .int v_toll, .ref a_rights, .ref a_ahead, .ref a_bound, .ref a_owner, .ref a_foundBound, .ref a_foundOwner, .int v_foundLeast, .int v_stops, .ref a_beside, .ref a_upward, .ref a_from, .ref a_queue, .ref a_image, .ref a_isKept])), (a_heir, gI g 24 f_heir)] (fun (r : Int32) (_ : Unit) => K r) (fun (_ : Unit) => [(a_this, .inr (5, [.int v_signs, .ref a_pad, .ref a_sort, .ref a_heir, .int v_generations, .ref a_was, .ref a_worth, .int v_toll, .ref a_rights, .ref a_ahead, .ref a_bound, .ref a_owner, .ref a_foundBound, .ref a_foundOwner, .int v_foundLeast, .int v_stops, .ref a_beside, .ref a_upward, .ref a_from, .ref a_queue, .ref a_image, .ref a_isKept])), (a_heir, gI g 24 f_heir)]) 0 0 := by
  refine Ci_of (cc := cX5_bestWedding) (nL := 5) (ret := (some .int)) (own := RX5) (lv0 := [(0, .ref a_this)]) (by decide +kernel) rfl rfl (Nat.le_of_ble_eq_true rfl) rfl (fun A x C R => ?_)
  refine j_bipush C 2 rfl dX5_bestWedding_0 (v := (-6 : Int32)) (by decide) ?_
  refine j_istore_n C 3 rfl [1, 0] (lv' := [(0, .ref a_this), (1, .int (-6 : Int32))]) dX5_bestWedding_2 rfl (by decide) rfl ?_
  refine j_iconst C 4 rfl dX5_bestWedding_3 (v := (0 : Int32)) (by decide) ?_
  refine j_istore_n C 5 rfl [1, 2, 0] (lv' := [(0, .ref a_this), (1, .int (-6 : Int32)), (2, .int (0 : Int32))]) dX5_bestWedding_4 rfl (by decide) rfl ?_
  refine j_iconst C 6 rfl dX5_bestWedding_5 (v := (0 : Int32)) (by decide) ?_
  refine j_istore_n C 7 rfl [1, 2, 3, 0] (lv' := [(0, .ref a_this), (1, .int (-6 : Int32)), (2, .int (0 : Int32)), (3, .int (0 : Int32))]) dX5_bestWedding_6 rfl (by decide) rfl ?_
  refine lpW3_ind (G := fun x1 x2 x3 => J l g A x 5 0 0 7 [(0, .ref a_this), (1, .int x1), (2, .int x2), (3, .int x3)] [] [(a_this, .inr (5, [.int v_signs, .ref a_pad, .ref a_sort, .ref a_heir, .int v_generations, .ref a_was, .ref a_worth, .int v_toll, .ref a_rights, .ref a_ahead, .ref a_bound, .ref a_owner, .ref a_foundBound, .ref a_foundOwner, .int v_foundLeast, .int v_stops, .ref a_beside, .ref a_upward, .ref a_from, .ref a_queue, .ref a_image, .ref a_isKept])), (a_heir, gI g 24 f_heir)]) (fun L7 x1 x2 x3 hL7 hw => ?_) _ _ _ hw
  refine j_iload_n C 8 rfl 3 dX5_bestWedding_7 rfl rfl ?_
  refine j_bipush C 10 rfl dX5_bestWedding_8 (v := (6 : Int32)) (by decide) ?_
  refine j_icmp_ge C 13 rfl 85 dX5_bestWedding_10 rfl (fun c => ?_) (fun c => ?_)
  · have hw := hw.1 c
    refine j_iload_n C 86 rfl 1 dX5_bestWedding_85 rfl rfl ?_
    exact j_iret C R () rfl dX5_bestWedding_86 rfl hw
  · have hw := hw.2 c
    refine j_iload_n C 14 rfl 3 dX5_bestWedding_13 rfl rfl ?_
    refine j_iconst C 15 rfl dX5_bestWedding_14 (v := (1 : Int32)) (by decide) ?_
    refine j_iadd C 16 rfl dX5_bestWedding_15 ?_
    refine j_top (fun n1 en1 => ?_)
    have hw := hw n1 en1
    refine j_istore C 18 rfl [1, 2, 3, 4, 0] (lv' := [(0, .ref a_this), (1, .int x1), (2, .int x2), (3, .int x3), (4, .int n1)]) dX5_bestWedding_16 (by decide) rfl ?_
    refine lpW3_ind (G := fun x1 x2 x4 => J l g A x 5 0 0 18 [(0, .ref a_this), (1, .int x1), (2, .int x2), (3, .int x3), (4, .int x4)] [] [(a_this, .inr (5, [.int v_signs, .ref a_pad, .ref a_sort, .ref a_heir, .int v_generations, .ref a_was, .ref a_worth, .int v_toll, .ref a_rights, .ref a_ahead, .ref a_bound, .ref a_owner, .ref a_foundBound, .ref a_foundOwner, .int v_foundLeast, .int v_stops, .ref a_beside, .ref a_upward, .ref a_from, .ref a_queue, .ref a_image, .ref a_isKept])), (a_heir, gI g 24 f_heir)]) (fun L18 x1 x2 x4 hL18 hw => ?_) _ _ _ hw
    have hj57 : ∀ (x4 : Int32), wj_X5_bestWedding_57 f_heir x3 x4 L18 → J l g A x 5 0 0 57 [(0, .ref a_this), (3, .int x3), (4, .int x4)] [] [(a_this, .inr (5, [.int v_signs, .ref a_pad, .ref a_sort, .ref a_heir, .int v_generations, .ref a_was, .ref a_worth, .int v_toll, .ref a_rights, .ref a_ahead, .ref a_bound, .ref a_owner, .ref a_foundBound, .ref a_foundOwner, .int v_foundLeast, .int v_stops, .ref a_beside, .ref a_upward, .ref a_from, .ref a_queue, .ref a_image, .ref a_isKept])), (a_heir, gI g 24 f_heir)] := by
      intro x4 hw
      refine j_bipush C 59 rfl dX5_bestWedding_57 (v := (10 : Int32)) (by decide) ?_
      refine j_iload_n C 60 rfl 1 dX5_bestWedding_59 rfl rfl ?_
      refine j_imul C 61 rfl dX5_bestWedding_60 ?_
      refine j_iload C 63 rfl 2 dX5_bestWedding_61 rfl ?_
      refine j_iadd C 64 rfl dX5_bestWedding_63 ?_
      refine j_top (fun n2 en2 => ?_)
      have hw := hw n2 en2
      refine j_istore_n C 65 rfl [1, 0, 2, 3] (lv' := [(0, .ref a_this), (1, .int n2), (3, .int x3), (4, .int x4)]) dX5_bestWedding_64 rfl (by decide) rfl ?_
      refine j_aload_n C 66 rfl 0 dX5_bestWedding_65 rfl rfl ?_
      refine j_iload_n C 67 rfl 2 dX5_bestWedding_66 rfl rfl ?_
      refine j_iload C 69 rfl 3 dX5_bestWedding_67 rfl ?_
      refine j_ri C 72 rfl (jc_V C (c_X5_boundsBy l g a_this a_pad a_sort a_heir a_was a_worth a_rights a_ahead a_bound a_owner a_foundBound a_foundOwner a_beside a_upward a_from a_queue a_image a_isKept v_signs v_generations v_toll v_foundLeast v_stops f_heir x3 x4 _ hw) 2 gX5_bestWedding_X5_boundsBy rfl rfl rfl hd_X5_boundsBy ⟨Nat.le_of_ble_eq_true rfl, Nat.le_of_ble_eq_true rfl⟩ (j_rec C 0 5 rfl rfl) [0, 1] rfl rfl (rest := []) rfl rfl (Nat.le_of_ble_eq_true rfl) dX5_bestWedding_69 ⟨Nat.le_refl _, Nat.le_refl _⟩) [0, 1] rfl (fun _ => rfl) (fun r3 _ hw => ?_)
      try dsimp only at hw
      refine j_istore_n C 73 rfl [1, 2, 0, 3, 4] (lv' := [(0, .ref a_this), (1, .int n2), (2, .int r3), (3, .int x3), (4, .int x4)]) dX5_bestWedding_72 rfl (by decide) rfl ?_
      refine j_iinc C 76 rfl 4 [1, 2, 3, 4, 0] (v' := (1 : Int32)) (lv' := fun z => [(0, .ref a_this), (1, .int n2), (2, .int r3), (3, .int x3), (4, .int z)]) dX5_bestWedding_73 rfl (by decide) (by decide) (fun _ => rfl) (fun n4 en4 => ?_)
      have hw := hw n4 en4
      refine j_goto C 18 dX5_bestWedding_76 rfl ?_
      exact hL18 _ _ _ hw
    refine j_iload C 20 rfl 4 dX5_bestWedding_18 rfl ?_
    refine j_bipush C 22 rfl dX5_bestWedding_20 (v := (6 : Int32)) (by decide) ?_
    refine j_icmp_ge C 25 rfl 79 dX5_bestWedding_22 rfl (fun c => ?_) (fun c => ?_)
    · have hw := hw.1 c
      refine j_iinc C 82 rfl 3 [1, 2, 3, 0, 4] (v' := (1 : Int32)) (lv' := fun z => [(0, .ref a_this), (1, .int x1), (2, .int x2), (3, .int z), (4, .int x4)]) dX5_bestWedding_79 rfl (by decide) (by decide) (fun _ => rfl) (fun n5 en5 => ?_)
      have hw := hw n5 en5
      refine j_goto C 7 dX5_bestWedding_82 rfl ?_
      refine j_lv [0, 1, 2, 3] (lv' := [(0, .ref a_this), (1, .int x1), (2, .int x2), (3, .int n5)]) rfl ?_
      exact hL7 _ _ _ hw
    · have hw := hw.2 c
      refine j_aload_n C 26 rfl 0 dX5_bestWedding_25 rfl rfl ?_
      refine j_iload_n C 27 rfl 3 dX5_bestWedding_26 rfl rfl ?_
      refine j_ri C 30 rfl (jc_V C (c_X5_sectorsOf l g a_this a_pad a_sort a_heir a_was a_worth a_rights a_ahead a_bound a_owner a_foundBound a_foundOwner a_beside a_upward a_from a_queue a_image a_isKept v_signs v_generations v_toll v_foundLeast v_stops f_heir x3 _ hw) 1 gX5_bestWedding_X5_sectorsOf rfl rfl rfl hd_X5_sectorsOf ⟨Nat.le_of_ble_eq_true rfl, Nat.le_of_ble_eq_true rfl⟩ (j_rec C 0 5 rfl rfl) [0, 1] rfl rfl (rest := []) rfl rfl (Nat.le_of_ble_eq_true rfl) dX5_bestWedding_27 ⟨Nat.le_refl _, Nat.le_refl _⟩) [0, 1] rfl (fun _ => rfl) (fun r6 _ hw => ?_)
      try dsimp only at hw
      refine j_if_le C 33 rfl 73 dX5_bestWedding_30 rfl (fun c => ?_) (fun c => ?_)
      · have hw := hw.1 c
        refine j_iinc C 76 rfl 4 [1, 2, 3, 4, 0] (v' := (1 : Int32)) (lv' := fun z => [(0, .ref a_this), (1, .int x1), (2, .int x2), (3, .int x3), (4, .int z)]) dX5_bestWedding_73 rfl (by decide) (by decide) (fun _ => rfl) (fun n7 en7 => ?_)
        have hw := hw n7 en7
        refine j_goto C 18 dX5_bestWedding_76 rfl ?_
        exact hL18 _ _ _ hw
      · have hw := hw.2 c
        refine j_aload_n C 34 rfl 0 dX5_bestWedding_33 rfl rfl ?_
        refine j_iload C 36 rfl 4 dX5_bestWedding_34 rfl ?_
        refine j_ri C 39 rfl (jc_V C (c_X5_sectorsOf l g a_this a_pad a_sort a_heir a_was a_worth a_rights a_ahead a_bound a_owner a_foundBound a_foundOwner a_beside a_upward a_from a_queue a_image a_isKept v_signs v_generations v_toll v_foundLeast v_stops f_heir x4 _ hw) 1 gX5_bestWedding_X5_sectorsOf rfl rfl rfl hd_X5_sectorsOf ⟨Nat.le_of_ble_eq_true rfl, Nat.le_of_ble_eq_true rfl⟩ (j_rec C 0 5 rfl rfl) [0, 1] rfl rfl (rest := []) rfl rfl (Nat.le_of_ble_eq_true rfl) dX5_bestWedding_36 ⟨Nat.le_refl _, Nat.le_refl _⟩) [0, 1] rfl (fun _ => rfl) (fun r8 _ hw => ?_)
        try dsimp only at hw
        refine j_if_le C 42 rfl 73 dX5_bestWedding_39 rfl (fun c => ?_) (fun c => ?_)
        · have hw := hw.1 c
          refine j_iinc C 76 rfl 4 [1, 2, 3, 4, 0] (v' := (1 : Int32)) (lv' := fun z => [(0, .ref a_this), (1, .int x1), (2, .int x2), (3, .int x3), (4, .int z)]) dX5_bestWedding_73 rfl (by decide) (by decide) (fun _ => rfl) (fun n9 en9 => ?_)
          have hw := hw n9 en9
          refine j_goto C 18 dX5_bestWedding_76 rfl ?_
          exact hL18 _ _ _ hw
        · have hw := hw.2 c
          refine j_iload_n C 43 rfl 1 dX5_bestWedding_42 rfl rfl ?_
          refine j_if_lt C 46 rfl 57 dX5_bestWedding_43 rfl (fun c => ?_) (fun c => ?_)
          · have hw := hw.1 c
            refine j_lv [0, 3, 4] (lv' := [(0, .ref a_this), (3, .int x3), (4, .int x4)]) rfl ?_
            exact hj57 _ hw
          · have hw := hw.2 c
            refine j_aload_n C 47 rfl 0 dX5_bestWedding_46 rfl rfl ?_
            refine j_iload_n C 48 rfl 3 dX5_bestWedding_47 rfl rfl ?_
            refine j_iload C 50 rfl 4 dX5_bestWedding_48 rfl ?_
            refine j_ri C 53 rfl (jc_V C (c_X5_boundsBy l g a_this a_pad a_sort a_heir a_was a_worth a_rights a_ahead a_bound a_owner a_foundBound a_foundOwner a_beside a_upward a_from a_queue a_image a_isKept v_signs v_generations v_toll v_foundLeast v_stops f_heir x3 x4 _ hw) 2 gX5_bestWedding_X5_boundsBy rfl rfl rfl hd_X5_boundsBy ⟨Nat.le_of_ble_eq_true rfl, Nat.le_of_ble_eq_true rfl⟩ (j_rec C 0 5 rfl rfl) [0, 1] rfl rfl (rest := []) rfl rfl (Nat.le_of_ble_eq_true rfl) dX5_bestWedding_50 ⟨Nat.le_refl _, Nat.le_refl _⟩) [0, 1] rfl (fun _ => rfl) (fun r10 _ hw => ?_)
            try dsimp only at hw
            refine j_iload_n C 54 rfl 2 dX5_bestWedding_53 rfl rfl ?_
            refine j_icmp_ge C 57 rfl 73 dX5_bestWedding_54 rfl (fun c => ?_) (fun c => ?_)
            · have hw := hw.1 c
              refine j_iinc C 76 rfl 4 [1, 2, 3, 4, 0] (v' := (1 : Int32)) (lv' := fun z => [(0, .ref a_this), (1, .int x1), (2, .int x2), (3, .int x3), (4, .int z)]) dX5_bestWedding_73 rfl (by decide) (by decide) (fun _ => rfl) (fun n11 en11 => ?_)
              have hw := hw n11 en11
              refine j_goto C 18 dX5_bestWedding_76 rfl ?_
              exact hL18 _ _ _ hw
            · have hw := hw.2 c
              refine j_lv [0, 3, 4] (lv' := [(0, .ref a_this), (3, .int x3), (4, .int x4)]) rfl ?_
              exact hj57 _ hw
theorem hi_X5_narrowest_X5 : ∀ w ∈ wsX50, w ∈ wsX5_narrowest := fun _ h => List.mem_cons_of_mem _ (List.mem_append_right _ h)
set_option maxRecDepth 20000 in
set_option maxHeartbeats 4000000 in
theorem c_X5_narrowest (l : Launch) (g : gE) (a_this a_pad a_sort a_heir a_was a_worth a_rights a_ahead a_bound a_owner a_foundBound a_foundOwner a_beside a_upward a_from a_queue a_image a_isKept : Nat) (v_signs : Int32) (v_generations : Int32) (v_toll : Int32) (v_foundLeast : Int32) (v_stops : Int32) (f_heir : (Nat → Int32))   (K : Int32 → Prop) (hw : wp_X5_narrowest f_heir K) : Ci l g yX5_narrowest wsX5_narrowest { frames := 1, cells := 0, slots := 0, locals := 20 } [.ref a_this] [(a_this, .inr (5, [.int v_signs, .ref a_pad, .ref a_sort, .ref a_heir, .int v_generations, .ref a_was, .ref a_worth, .int v_toll, .ref a_rights, .ref a_ahead, .ref a_bound, .ref a_owner, .ref a_foundBound, .ref a_foundOwner, .int v_foundLeast, .int v_stops, .ref a_beside, .ref a_upward, .ref a_from, .ref a_queue, .ref a_image, .ref a_isKept])), (a_heir, gI g 24 f_heir)] (fun (r : Int32) (_ : Unit) => K r) (fun (_ : Unit) => [(a_this, .inr (5, [.int v_signs, .ref a_pad, .ref a_sort, .ref a_heir, .int v_generations, .ref a_was, .ref a_worth, .int v_toll, .ref a_rights, .ref a_ahead, .ref a_bound, .ref a_owner, .ref a_foundBound, .ref a_foundOwner, .int v_foundLeast, .int v_stops, .ref a_beside, .ref a_upward, .ref a_from, .ref a_queue, .ref a_image, .ref a_isKept])), (a_heir, gI g 24 f_heir)]) 0 0 := by
  refine Ci_of (cc := cX5_narrowest) (nL := 4) (ret := (some .int)) (own := RX5) (lv0 := [(0, .ref a_this)]) (by decide +kernel) rfl rfl (Nat.le_of_ble_eq_true rfl) rfl (fun A x C R => ?_)
  refine j_bipush C 2 rfl dX5_narrowest_0 (v := (24 : Int32)) (by decide) ?_
  refine j_istore_n C 3 rfl [1, 0] (lv' := [(0, .ref a_this), (1, .int (24 : Int32))]) dX5_narrowest_2 rfl (by decide) rfl ?_
  refine j_iconst C 4 rfl dX5_narrowest_3 (v := (0 : Int32)) (by decide) ?_
  refine j_istore_n C 5 rfl [1, 2, 0] (lv' := [(0, .ref a_this), (1, .int (24 : Int32)), (2, .int (0 : Int32))]) dX5_narrowest_4 rfl (by decide) rfl ?_
  refine lpW2_ind (G := fun x1 x2 => J l g A x 4 0 0 5 [(0, .ref a_this), (1, .int x1), (2, .int x2)] [] [(a_this, .inr (5, [.int v_signs, .ref a_pad, .ref a_sort, .ref a_heir, .int v_generations, .ref a_was, .ref a_worth, .int v_toll, .ref a_rights, .ref a_ahead, .ref a_bound, .ref a_owner, .ref a_foundBound, .ref a_foundOwner, .int v_foundLeast, .int v_stops, .ref a_beside, .ref a_upward, .ref a_from, .ref a_queue, .ref a_image, .ref a_isKept])), (a_heir, gI g 24 f_heir)]) (fun L5 x1 x2 hL5 hw => ?_) _ _ hw
  refine j_iload_n C 6 rfl 2 dX5_narrowest_5 rfl rfl ?_
  refine j_bipush C 8 rfl dX5_narrowest_6 (v := (24 : Int32)) (by decide) ?_
  refine j_icmp_ge C 11 rfl 74 dX5_narrowest_8 rfl (fun c => ?_) (fun c => ?_)
  · have hw := hw.1 c
    refine j_iload_n C 75 rfl 1 dX5_narrowest_74 rfl rfl ?_
    exact j_iret C R () rfl dX5_narrowest_75 rfl hw
  · have hw := hw.2 c
    refine j_aload_n C 12 rfl 0 dX5_narrowest_11 rfl rfl ?_
    refine j_get C 15 rfl 0 5 3 (T := TX5) (N := 22) hi_X5_narrowest_X5 rfl (by decide) (List.mem_of_getElem? (i := 1) rfl) rfl rfl rfl dX5_narrowest_12 ?_
    refine j_iload_n C 16 rfl 2 dX5_narrowest_15 rfl rfl ?_
    obtain ⟨k1, ek1, hk1, hw⟩ := hw
    refine j_iald C 17 rfl 1 k1 rfl ek1 hk1 (by decide) dX5_narrowest_16 ?_
    refine j_aload_n C 18 rfl 0 dX5_narrowest_17 rfl rfl ?_
    refine j_get C 21 rfl 0 5 3 (T := TX5) (N := 22) hi_X5_narrowest_X5 rfl (by decide) (List.mem_of_getElem? (i := 1) rfl) rfl rfl rfl dX5_narrowest_18 ?_
    refine j_iload_n C 22 rfl 2 dX5_narrowest_21 rfl rfl ?_
    refine j_ri C 25 rfl (jc_S C (c_X5_before l g x2 _ hw) 1 gX5_narrowest_X5_before rfl rfl rfl hd_X5_before ⟨Nat.le_of_ble_eq_true rfl, Nat.le_of_ble_eq_true rfl⟩ [] rfl rfl (rest := [.ref a_heir, .int (f_heir k1)]) rfl rfl (Nat.le_of_ble_eq_true rfl) dX5_narrowest_22 ⟨Nat.le_refl _, Nat.le_refl _⟩) [] rfl (fun _ => rfl) (fun r2 _ hw => ?_)
    try dsimp only at hw
    obtain ⟨k3, ek3, hk3, hw⟩ := hw
    refine j_iald C 26 rfl 1 k3 rfl ek3 hk3 (by decide) dX5_narrowest_25 ?_
    refine j_icmp_eq C 29 rfl 68 dX5_narrowest_26 rfl (fun c => ?_) (fun c => ?_)
    · have hw := hw.1 c
      refine j_iinc C 71 rfl 2 [1, 2, 0] (v' := (1 : Int32)) (lv' := fun z => [(0, .ref a_this), (1, .int x1), (2, .int z)]) dX5_narrowest_68 rfl (by decide) (by decide) (fun _ => rfl) (fun n4 en4 => ?_)
      have hw := hw n4 en4
      refine j_goto C 5 dX5_narrowest_71 rfl ?_
      exact hL5 _ _ hw
    · have hw := hw.2 c
      refine j_iconst C 30 rfl dX5_narrowest_29 (v := (1 : Int32)) (by decide) ?_
      refine j_istore_n C 31 rfl [1, 2, 3, 0] (lv' := [(0, .ref a_this), (1, .int x1), (2, .int x2), (3, .int (1 : Int32))]) dX5_narrowest_30 rfl (by decide) rfl ?_
      refine lpW1_ind (G := fun x3 => J l g A x 4 0 0 31 [(0, .ref a_this), (1, .int x1), (2, .int x2), (3, .int x3)] [] [(a_this, .inr (5, [.int v_signs, .ref a_pad, .ref a_sort, .ref a_heir, .int v_generations, .ref a_was, .ref a_worth, .int v_toll, .ref a_rights, .ref a_ahead, .ref a_bound, .ref a_owner, .ref a_foundBound, .ref a_foundOwner, .int v_foundLeast, .int v_stops, .ref a_beside, .ref a_upward, .ref a_from, .ref a_queue, .ref a_image, .ref a_isKept])), (a_heir, gI g 24 f_heir)]) (fun L31 x3 hL31 hw => ?_) _ hw
      refine j_aload_n C 32 rfl 0 dX5_narrowest_31 rfl rfl ?_
      refine j_get C 35 rfl 0 5 3 (T := TX5) (N := 22) hi_X5_narrowest_X5 rfl (by decide) (List.mem_of_getElem? (i := 1) rfl) rfl rfl rfl dX5_narrowest_32 ?_
      refine j_iload_n C 36 rfl 2 dX5_narrowest_35 rfl rfl ?_
      refine j_iload_n C 37 rfl 3 dX5_narrowest_36 rfl rfl ?_
      refine j_iadd C 38 rfl dX5_narrowest_37 ?_
      refine j_bipush C 40 rfl dX5_narrowest_38 (v := (24 : Int32)) (by decide) ?_
      refine j_irem C 41 rfl dX5_narrowest_40 (by decide) ?_
      obtain ⟨k5, ek5, hk5, hw⟩ := hw
      refine j_iald C 42 rfl 1 k5 rfl ek5 hk5 (by decide) dX5_narrowest_41 ?_
      refine j_aload_n C 43 rfl 0 dX5_narrowest_42 rfl rfl ?_
      refine j_get C 46 rfl 0 5 3 (T := TX5) (N := 22) hi_X5_narrowest_X5 rfl (by decide) (List.mem_of_getElem? (i := 1) rfl) rfl rfl rfl dX5_narrowest_43 ?_
      refine j_iload_n C 47 rfl 2 dX5_narrowest_46 rfl rfl ?_
      obtain ⟨k6, ek6, hk6, hw⟩ := hw
      refine j_iald C 48 rfl 1 k6 rfl ek6 hk6 (by decide) dX5_narrowest_47 ?_
      refine j_icmp_ne C 51 rfl 57 dX5_narrowest_48 rfl (fun c => ?_) (fun c => ?_)
      · have hw := hw.1 c
        refine j_iload_n C 58 rfl 3 dX5_narrowest_57 rfl rfl ?_
        refine j_iload_n C 59 rfl 1 dX5_narrowest_58 rfl rfl ?_
        refine j_icmp_ge C 62 rfl 66 dX5_narrowest_59 rfl (fun c => ?_) (fun c => ?_)
        · have hw := hw.1 c
          refine j_iload_n C 67 rfl 1 dX5_narrowest_66 rfl rfl ?_
          refine j_istore_n C 68 rfl [1, 0, 2, 3] (lv' := [(0, .ref a_this), (1, .int x1), (2, .int x2), (3, .int x3)]) dX5_narrowest_67 rfl (by decide) rfl ?_
          refine j_iinc C 71 rfl 2 [1, 2, 0, 3] (v' := (1 : Int32)) (lv' := fun z => [(0, .ref a_this), (1, .int x1), (2, .int z), (3, .int x3)]) dX5_narrowest_68 rfl (by decide) (by decide) (fun _ => rfl) (fun n7 en7 => ?_)
          have hw := hw n7 en7
          refine j_goto C 5 dX5_narrowest_71 rfl ?_
          refine j_lv [0, 1, 2] (lv' := [(0, .ref a_this), (1, .int x1), (2, .int n7)]) rfl ?_
          exact hL5 _ _ hw
        · have hw := hw.2 c
          refine j_iload_n C 63 rfl 3 dX5_narrowest_62 rfl rfl ?_
          refine j_goto C 67 dX5_narrowest_63 rfl ?_
          refine j_istore_n C 68 rfl [1, 0, 2, 3] (lv' := [(0, .ref a_this), (1, .int x3), (2, .int x2), (3, .int x3)]) dX5_narrowest_67 rfl (by decide) rfl ?_
          refine j_iinc C 71 rfl 2 [1, 2, 0, 3] (v' := (1 : Int32)) (lv' := fun z => [(0, .ref a_this), (1, .int x3), (2, .int z), (3, .int x3)]) dX5_narrowest_68 rfl (by decide) (by decide) (fun _ => rfl) (fun n8 en8 => ?_)
          have hw := hw n8 en8
          refine j_goto C 5 dX5_narrowest_71 rfl ?_
          refine j_lv [0, 1, 2] (lv' := [(0, .ref a_this), (1, .int x3), (2, .int n8)]) rfl ?_
          exact hL5 _ _ hw
      · have hw := hw.2 c
        refine j_iinc C 54 rfl 3 [1, 2, 3, 0] (v' := (1 : Int32)) (lv' := fun z => [(0, .ref a_this), (1, .int x1), (2, .int x2), (3, .int z)]) dX5_narrowest_51 rfl (by decide) (by decide) (fun _ => rfl) (fun n9 en9 => ?_)
        have hw := hw n9 en9
        refine j_goto C 31 dX5_narrowest_54 rfl ?_
        exact hL31 _ hw
set_option maxRecDepth 20000 in
set_option maxHeartbeats 4000000 in
theorem c_X5_bounds (l : Launch) (g : gE) (a_this a_pad a_sort a_heir a_was a_worth a_rights a_ahead a_bound a_owner a_foundBound a_foundOwner a_beside a_upward a_from a_queue a_image a_isKept : Nat) (v_signs : Int32) (v_generations : Int32) (v_toll : Int32) (v_foundLeast : Int32) (v_stops : Int32) (f_heir : (Nat → Int32)) (x1 : Int32)  (K : Int32 → Prop) (hw : wp_X5_bounds f_heir x1 K) : Ci l g yX5_bounds wsX5_bounds { frames := 3, cells := 0, slots := 0, locals := 70 } [.ref a_this, .int x1] [(a_this, .inr (5, [.int v_signs, .ref a_pad, .ref a_sort, .ref a_heir, .int v_generations, .ref a_was, .ref a_worth, .int v_toll, .ref a_rights, .ref a_ahead, .ref a_bound, .ref a_owner, .ref a_foundBound, .ref a_foundOwner, .int v_foundLeast, .int v_stops, .ref a_beside, .ref a_upward, .ref a_from, .ref a_queue, .ref a_image, .ref a_isKept])), (a_heir, gI g 24 f_heir)] (fun (r : Int32) (_ : Unit) => K r) (fun (_ : Unit) => [(a_this, .inr (5, [.int v_signs, .ref a_pad, .ref a_sort, .ref a_heir, .int v_generations, .ref a_was, .ref a_worth, .int v_toll, .ref a_rights, .ref a_ahead, .ref a_bound, .ref a_owner, .ref a_foundBound, .ref a_foundOwner, .int v_foundLeast, .int v_stops, .ref a_beside, .ref a_upward, .ref a_from, .ref a_queue, .ref a_image, .ref a_isKept])), (a_heir, gI g 24 f_heir)]) 0 0 := by
  refine Ci_of (cc := cX5_bounds) (nL := 2) (ret := (some .int)) (own := RX5) (lv0 := [(0, .ref a_this), (1, .int x1)]) (by decide +kernel) rfl rfl (Nat.le_of_ble_eq_true rfl) rfl (fun A x C R => ?_)
  refine j_iload_n C 1 rfl 1 dX5_bounds_0 rfl rfl ?_
  refine j_if_ne C 4 rfl 13 dX5_bounds_1 rfl (fun c => ?_) (fun c => ?_)
  · have hw := hw.1 c
    refine j_iload_n C 14 rfl 1 dX5_bounds_13 rfl rfl ?_
    refine j_iconst C 15 rfl dX5_bounds_14 (v := (1 : Int32)) (by decide) ?_
    refine j_icmp_ne C 18 rfl 25 dX5_bounds_15 rfl (fun c => ?_) (fun c => ?_)
    · have hw := hw.1 c
      refine j_iload_n C 26 rfl 1 dX5_bounds_25 rfl rfl ?_
      refine j_iconst C 27 rfl dX5_bounds_26 (v := (2 : Int32)) (by decide) ?_
      refine j_icmp_ne C 30 rfl 37 dX5_bounds_27 rfl (fun c => ?_) (fun c => ?_)
      · have hw := hw.1 c
        refine j_bipush C 39 rfl dX5_bounds_37 (v := (-2 : Int32)) (by decide) ?_
        exact j_iret C R () rfl dX5_bounds_39 rfl hw
      · have hw := hw.2 c
        refine j_aload_n C 31 rfl 0 dX5_bounds_30 rfl rfl ?_
        refine j_ri C 34 rfl (jc_V C (c_X5_narrowest l g a_this a_pad a_sort a_heir a_was a_worth a_rights a_ahead a_bound a_owner a_foundBound a_foundOwner a_beside a_upward a_from a_queue a_image a_isKept v_signs v_generations v_toll v_foundLeast v_stops f_heir _ hw) 0 gX5_bounds_X5_narrowest rfl rfl rfl hd_X5_narrowest ⟨Nat.le_of_ble_eq_true rfl, Nat.le_of_ble_eq_true rfl⟩ (j_rec C 0 5 rfl rfl) [0, 1] rfl rfl (rest := []) rfl rfl (Nat.le_of_ble_eq_true rfl) dX5_bounds_31 ⟨Nat.le_refl _, Nat.le_refl _⟩) [0, 1] rfl (fun _ => rfl) (fun r1 _ hw => ?_)
        try dsimp only at hw
        refine j_goto C 39 dX5_bounds_34 rfl ?_
        exact j_iret C R () rfl dX5_bounds_39 rfl hw
    · have hw := hw.2 c
      refine j_aload_n C 19 rfl 0 dX5_bounds_18 rfl rfl ?_
      refine j_ri C 22 rfl (jc_V C (c_X5_bestWedding l g a_this a_pad a_sort a_heir a_was a_worth a_rights a_ahead a_bound a_owner a_foundBound a_foundOwner a_beside a_upward a_from a_queue a_image a_isKept v_signs v_generations v_toll v_foundLeast v_stops f_heir _ hw) 0 gX5_bounds_X5_bestWedding rfl rfl rfl hd_X5_bestWedding ⟨Nat.le_of_ble_eq_true rfl, Nat.le_of_ble_eq_true rfl⟩ (j_rec C 0 5 rfl rfl) [0, 1] rfl rfl (rest := []) rfl rfl (Nat.le_of_ble_eq_true rfl) dX5_bounds_19 ⟨Nat.le_refl _, Nat.le_refl _⟩) [0, 1] rfl (fun _ => rfl) (fun r2 _ hw => ?_)
      try dsimp only at hw
      refine j_goto C 39 dX5_bounds_22 rfl ?_
      exact j_iret C R () rfl dX5_bounds_39 rfl hw
  · have hw := hw.2 c
    refine j_aload_n C 5 rfl 0 dX5_bounds_4 rfl rfl ?_
    refine j_iconst C 6 rfl dX5_bounds_5 (v := (0 : Int32)) (by decide) ?_
    refine j_iconst C 7 rfl dX5_bounds_6 (v := (0 : Int32)) (by decide) ?_
    refine j_ri C 10 rfl (jc_V C (c_X5_boundsBy l g a_this a_pad a_sort a_heir a_was a_worth a_rights a_ahead a_bound a_owner a_foundBound a_foundOwner a_beside a_upward a_from a_queue a_image a_isKept v_signs v_generations v_toll v_foundLeast v_stops f_heir (0 : Int32) (0 : Int32) _ hw) 2 gX5_bounds_X5_boundsBy rfl rfl rfl hd_X5_boundsBy ⟨Nat.le_of_ble_eq_true rfl, Nat.le_of_ble_eq_true rfl⟩ (j_rec C 0 5 rfl rfl) [0, 1] rfl rfl (rest := []) rfl rfl (Nat.le_of_ble_eq_true rfl) dX5_bounds_7 ⟨Nat.le_refl _, Nat.le_refl _⟩) [0, 1] rfl (fun _ => rfl) (fun r3 _ hw => ?_)
    try dsimp only at hw
    refine j_goto C 39 dX5_bounds_10 rfl ?_
    exact j_iret C R () rfl dX5_bounds_39 rfl hw
theorem hi_X5_image_X5 : ∀ w ∈ wsX50, w ∈ wsX5_image := fun _ h => List.mem_cons_of_mem _ (List.mem_append_right _ h)
set_option maxRecDepth 20000 in
set_option maxHeartbeats 4000000 in
theorem c_X5_image (l : Launch) (g : gE) (a_this a_pad a_sort a_heir a_was a_worth a_rights a_ahead a_bound a_owner a_foundBound a_foundOwner a_beside a_upward a_from a_queue a_image a_isKept : Nat) (v_signs : Int32) (v_generations : Int32) (v_toll : Int32) (v_foundLeast : Int32) (v_stops : Int32) (f_sort : (Nat → Int32)) (f_heir : (Nat → Int32)) (f_was : (Nat → Int32)) (f_worth : (Nat → Int32)) (f_rights : (Nat → Int32)) (f_image : (Nat → Int32)) (f_isKept : (Nat → Int32)) (x1 : Int32)  (K : Int32 → (Nat → Int32) → (Nat → Int32) → Prop) (hw : wp_X5_image v_generations v_toll f_sort f_heir f_was f_worth f_rights f_image f_isKept x1 K) : Ci l g yX5_image wsX5_image { frames := 1, cells := 0, slots := 0, locals := 22 } [.ref a_this, .int x1] [(a_this, .inr (5, [.int v_signs, .ref a_pad, .ref a_sort, .ref a_heir, .int v_generations, .ref a_was, .ref a_worth, .int v_toll, .ref a_rights, .ref a_ahead, .ref a_bound, .ref a_owner, .ref a_foundBound, .ref a_foundOwner, .int v_foundLeast, .int v_stops, .ref a_beside, .ref a_upward, .ref a_from, .ref a_queue, .ref a_image, .ref a_isKept])), (a_sort, gI g 120 f_sort), (a_heir, gI g 24 f_heir), (a_was, gI g 504 f_was), (a_worth, gI g 30 f_worth), (a_rights, gI g 6 f_rights), (a_image, gI g 1372 f_image), (a_isKept, gZ g 2 f_isKept)] (fun (r : Int32) (u : (Nat → Int32) × (Nat → Int32)) => K r u.1 u.2) (fun (u : (Nat → Int32) × (Nat → Int32)) => [(a_this, .inr (5, [.int v_signs, .ref a_pad, .ref a_sort, .ref a_heir, .int v_generations, .ref a_was, .ref a_worth, .int v_toll, .ref a_rights, .ref a_ahead, .ref a_bound, .ref a_owner, .ref a_foundBound, .ref a_foundOwner, .int v_foundLeast, .int v_stops, .ref a_beside, .ref a_upward, .ref a_from, .ref a_queue, .ref a_image, .ref a_isKept])), (a_sort, gI g 120 f_sort), (a_heir, gI g 24 f_heir), (a_was, gI g 504 f_was), (a_worth, gI g 30 f_worth), (a_rights, gI g 6 f_rights), (a_image, gI g 1372 (u.1)), (a_isKept, gZ g 2 (u.2))]) 0 0 := by
  refine Ci_of (cc := cX5_image) (nL := 4) (ret := (some .int)) (own := RX5) (lv0 := [(0, .ref a_this), (1, .int x1)]) (by decide +kernel) rfl rfl (Nat.le_of_ble_eq_true rfl) rfl (fun A x C R => ?_)
  refine j_iload_n C 1 rfl 1 dX5_image_0 rfl rfl ?_
  refine j_iconst C 2 rfl dX5_image_1 (v := (0 : Int32)) (by decide) ?_
  refine j_iconst C 3 rfl dX5_image_2 (v := (1 : Int32)) (by decide) ?_
  refine j_ri C 6 rfl (jc_S C (c_X5_in l g x1 (0 : Int32) (1 : Int32) _ hw) 3 gX5_image_X5_in rfl rfl rfl hd_X5_in ⟨Nat.le_of_ble_eq_true rfl, Nat.le_of_ble_eq_true rfl⟩ [] rfl rfl (rest := []) rfl rfl (Nat.le_of_ble_eq_true rfl) dX5_image_3 ⟨Nat.le_refl _, Nat.le_refl _⟩) [] rfl (fun _ => rfl) (fun r1 _ hw => ?_)
  try dsimp only at hw
  refine j_if_ne C 9 rfl 12 dX5_image_6 rfl (fun c => ?_) (fun c => ?_)
  · have hw := hw.1 c
    refine j_sipush C 15 rfl dX5_image_12 (v := (686 : Int32)) (by decide) ?_
    refine j_iload_n C 16 rfl 1 dX5_image_15 rfl rfl ?_
    refine j_imul C 17 rfl dX5_image_16 ?_
    refine j_top (fun n2 en2 => ?_)
    have hw := hw n2 en2
    refine j_istore_n C 18 rfl [1, 2, 0] (lv' := [(0, .ref a_this), (1, .int x1), (2, .int n2)]) dX5_image_17 rfl (by decide) rfl ?_
    refine j_iconst C 19 rfl dX5_image_18 (v := (0 : Int32)) (by decide) ?_
    refine j_istore_n C 20 rfl [1, 2, 3, 0] (lv' := [(0, .ref a_this), (1, .int x1), (2, .int n2), (3, .int (0 : Int32))]) dX5_image_19 rfl (by decide) rfl ?_
    refine lpW2_ind (G := fun x3 f_image => J l g A x 4 0 0 20 [(0, .ref a_this), (1, .int x1), (2, .int n2), (3, .int x3)] [] [(a_this, .inr (5, [.int v_signs, .ref a_pad, .ref a_sort, .ref a_heir, .int v_generations, .ref a_was, .ref a_worth, .int v_toll, .ref a_rights, .ref a_ahead, .ref a_bound, .ref a_owner, .ref a_foundBound, .ref a_foundOwner, .int v_foundLeast, .int v_stops, .ref a_beside, .ref a_upward, .ref a_from, .ref a_queue, .ref a_image, .ref a_isKept])), (a_sort, gI g 120 f_sort), (a_heir, gI g 24 f_heir), (a_was, gI g 504 f_was), (a_worth, gI g 30 f_worth), (a_rights, gI g 6 f_rights), (a_image, gI g 1372 f_image), (a_isKept, gZ g 2 f_isKept)]) (fun L20 x3 f_image hL20 hw => ?_) _ _ hw
    refine j_iload_n C 21 rfl 3 dX5_image_20 rfl rfl ?_
    refine j_bipush C 23 rfl dX5_image_21 (v := (120 : Int32)) (by decide) ?_
    refine j_icmp_ge C 26 rfl 46 dX5_image_23 rfl (fun c => ?_) (fun c => ?_)
    · have hw := hw.1 c
      refine j_iconst C 47 rfl dX5_image_46 (v := (0 : Int32)) (by decide) ?_
      refine j_istore_n C 48 rfl [1, 2, 3, 0] (lv' := [(0, .ref a_this), (1, .int x1), (2, .int n2), (3, .int (0 : Int32))]) dX5_image_47 rfl (by decide) rfl ?_
      refine lpW2_ind (G := fun x3 f_image => J l g A x 4 0 0 48 [(0, .ref a_this), (1, .int x1), (2, .int n2), (3, .int x3)] [] [(a_this, .inr (5, [.int v_signs, .ref a_pad, .ref a_sort, .ref a_heir, .int v_generations, .ref a_was, .ref a_worth, .int v_toll, .ref a_rights, .ref a_ahead, .ref a_bound, .ref a_owner, .ref a_foundBound, .ref a_foundOwner, .int v_foundLeast, .int v_stops, .ref a_beside, .ref a_upward, .ref a_from, .ref a_queue, .ref a_image, .ref a_isKept])), (a_sort, gI g 120 f_sort), (a_heir, gI g 24 f_heir), (a_was, gI g 504 f_was), (a_worth, gI g 30 f_worth), (a_rights, gI g 6 f_rights), (a_image, gI g 1372 f_image), (a_isKept, gZ g 2 f_isKept)]) (fun L48 x3 f_image hL48 hw => ?_) _ _ hw
      refine j_iload_n C 49 rfl 3 dX5_image_48 rfl rfl ?_
      refine j_bipush C 51 rfl dX5_image_49 (v := (24 : Int32)) (by decide) ?_
      refine j_icmp_ge C 54 rfl 77 dX5_image_51 rfl (fun c => ?_) (fun c => ?_)
      · have hw := hw.1 c
        refine j_iconst C 78 rfl dX5_image_77 (v := (0 : Int32)) (by decide) ?_
        refine j_istore_n C 79 rfl [1, 2, 3, 0] (lv' := [(0, .ref a_this), (1, .int x1), (2, .int n2), (3, .int (0 : Int32))]) dX5_image_78 rfl (by decide) rfl ?_
        refine lpW2_ind (G := fun x3 f_image => J l g A x 4 0 0 79 [(0, .ref a_this), (1, .int x1), (2, .int n2), (3, .int x3)] [] [(a_this, .inr (5, [.int v_signs, .ref a_pad, .ref a_sort, .ref a_heir, .int v_generations, .ref a_was, .ref a_worth, .int v_toll, .ref a_rights, .ref a_ahead, .ref a_bound, .ref a_owner, .ref a_foundBound, .ref a_foundOwner, .int v_foundLeast, .int v_stops, .ref a_beside, .ref a_upward, .ref a_from, .ref a_queue, .ref a_image, .ref a_isKept])), (a_sort, gI g 120 f_sort), (a_heir, gI g 24 f_heir), (a_was, gI g 504 f_was), (a_worth, gI g 30 f_worth), (a_rights, gI g 6 f_rights), (a_image, gI g 1372 f_image), (a_isKept, gZ g 2 f_isKept)]) (fun L79 x3 f_image hL79 hw => ?_) _ _ hw
        refine j_iload_n C 80 rfl 3 dX5_image_79 rfl rfl ?_
        refine j_sipush C 83 rfl dX5_image_80 (v := (504 : Int32)) (by decide) ?_
        refine j_icmp_ge C 86 rfl 110 dX5_image_83 rfl (fun c => ?_) (fun c => ?_)
        · have hw := hw.1 c
          refine j_iconst C 111 rfl dX5_image_110 (v := (0 : Int32)) (by decide) ?_
          refine j_istore_n C 112 rfl [1, 2, 3, 0] (lv' := [(0, .ref a_this), (1, .int x1), (2, .int n2), (3, .int (0 : Int32))]) dX5_image_111 rfl (by decide) rfl ?_
          refine lpW2_ind (G := fun x3 f_image => J l g A x 4 0 0 112 [(0, .ref a_this), (1, .int x1), (2, .int n2), (3, .int x3)] [] [(a_this, .inr (5, [.int v_signs, .ref a_pad, .ref a_sort, .ref a_heir, .int v_generations, .ref a_was, .ref a_worth, .int v_toll, .ref a_rights, .ref a_ahead, .ref a_bound, .ref a_owner, .ref a_foundBound, .ref a_foundOwner, .int v_foundLeast, .int v_stops, .ref a_beside, .ref a_upward, .ref a_from, .ref a_queue, .ref a_image, .ref a_isKept])), (a_sort, gI g 120 f_sort), (a_heir, gI g 24 f_heir), (a_was, gI g 504 f_was), (a_worth, gI g 30 f_worth), (a_rights, gI g 6 f_rights), (a_image, gI g 1372 f_image), (a_isKept, gZ g 2 f_isKept)]) (fun L112 x3 f_image hL112 hw => ?_) _ _ hw
          refine j_iload_n C 113 rfl 3 dX5_image_112 rfl rfl ?_
          refine j_bipush C 115 rfl dX5_image_113 (v := (30 : Int32)) (by decide) ?_
          refine j_icmp_ge C 118 rfl 142 dX5_image_115 rfl (fun c => ?_) (fun c => ?_)
          · have hw := hw.1 c
            refine j_iconst C 143 rfl dX5_image_142 (v := (0 : Int32)) (by decide) ?_
            refine j_istore_n C 144 rfl [1, 2, 3, 0] (lv' := [(0, .ref a_this), (1, .int x1), (2, .int n2), (3, .int (0 : Int32))]) dX5_image_143 rfl (by decide) rfl ?_
            refine lpW2_ind (G := fun x3 f_image => J l g A x 4 0 0 144 [(0, .ref a_this), (1, .int x1), (2, .int n2), (3, .int x3)] [] [(a_this, .inr (5, [.int v_signs, .ref a_pad, .ref a_sort, .ref a_heir, .int v_generations, .ref a_was, .ref a_worth, .int v_toll, .ref a_rights, .ref a_ahead, .ref a_bound, .ref a_owner, .ref a_foundBound, .ref a_foundOwner, .int v_foundLeast, .int v_stops, .ref a_beside, .ref a_upward, .ref a_from, .ref a_queue, .ref a_image, .ref a_isKept])), (a_sort, gI g 120 f_sort), (a_heir, gI g 24 f_heir), (a_was, gI g 504 f_was), (a_worth, gI g 30 f_worth), (a_rights, gI g 6 f_rights), (a_image, gI g 1372 f_image), (a_isKept, gZ g 2 f_isKept)]) (fun L144 x3 f_image hL144 hw => ?_) _ _ hw
            refine j_iload_n C 145 rfl 3 dX5_image_144 rfl rfl ?_
            refine j_bipush C 147 rfl dX5_image_145 (v := (6 : Int32)) (by decide) ?_
            refine j_icmp_ge C 150 rfl 174 dX5_image_147 rfl (fun c => ?_) (fun c => ?_)
            · have hw := hw.1 c
              refine j_aload_n C 175 rfl 0 dX5_image_174 rfl rfl ?_
              refine j_get C 178 rfl 0 5 20 (T := TX5) (N := 22) hi_X5_image_X5 rfl (by decide) (List.mem_of_getElem? (i := 1) rfl) rfl rfl rfl dX5_image_175 ?_
              refine j_iload_n C 179 rfl 2 dX5_image_178 rfl rfl ?_
              refine j_sipush C 182 rfl dX5_image_179 (v := (684 : Int32)) (by decide) ?_
              refine j_iadd C 183 rfl dX5_image_182 ?_
              refine j_aload_n C 184 rfl 0 dX5_image_183 rfl rfl ?_
              refine j_get C 187 rfl 0 5 4 (T := TX5) (N := 22) hi_X5_image_X5 rfl (by decide) (List.mem_of_getElem? (i := 7) rfl) rfl rfl rfl dX5_image_184 ?_
              obtain ⟨k3, ek3, hk3, hw⟩ := hw
              refine j_iast C 188 rfl 6 k3 (ws' := [(a_this, .inr (5, [.int v_signs, .ref a_pad, .ref a_sort, .ref a_heir, .int v_generations, .ref a_was, .ref a_worth, .int v_toll, .ref a_rights, .ref a_ahead, .ref a_bound, .ref a_owner, .ref a_foundBound, .ref a_foundOwner, .int v_foundLeast, .int v_stops, .ref a_beside, .ref a_upward, .ref a_from, .ref a_queue, .ref a_image, .ref a_isKept])), (a_sort, gI g 120 f_sort), (a_heir, gI g 24 f_heir), (a_was, gI g 504 f_was), (a_worth, gI g 30 f_worth), (a_rights, gI g 6 f_rights), (a_image, gI g 1372 (upd f_image k3 v_generations)), (a_isKept, gZ g 2 f_isKept)]) rfl ek3 hk3 (by decide) rfl dX5_image_187 ?_
              refine j_aload_n C 189 rfl 0 dX5_image_188 rfl rfl ?_
              refine j_get C 192 rfl 0 5 20 (T := TX5) (N := 22) hi_X5_image_X5 rfl (by decide) (List.mem_of_getElem? (i := 1) rfl) rfl rfl rfl dX5_image_189 ?_
              refine j_iload_n C 193 rfl 2 dX5_image_192 rfl rfl ?_
              refine j_sipush C 196 rfl dX5_image_193 (v := (685 : Int32)) (by decide) ?_
              refine j_iadd C 197 rfl dX5_image_196 ?_
              refine j_aload_n C 198 rfl 0 dX5_image_197 rfl rfl ?_
              refine j_get C 201 rfl 0 5 7 (T := TX5) (N := 22) hi_X5_image_X5 rfl (by decide) (List.mem_of_getElem? (i := 8) rfl) rfl rfl rfl dX5_image_198 ?_
              obtain ⟨k4, ek4, hk4, hw⟩ := hw
              refine j_iast C 202 rfl 6 k4 (ws' := [(a_this, .inr (5, [.int v_signs, .ref a_pad, .ref a_sort, .ref a_heir, .int v_generations, .ref a_was, .ref a_worth, .int v_toll, .ref a_rights, .ref a_ahead, .ref a_bound, .ref a_owner, .ref a_foundBound, .ref a_foundOwner, .int v_foundLeast, .int v_stops, .ref a_beside, .ref a_upward, .ref a_from, .ref a_queue, .ref a_image, .ref a_isKept])), (a_sort, gI g 120 f_sort), (a_heir, gI g 24 f_heir), (a_was, gI g 504 f_was), (a_worth, gI g 30 f_worth), (a_rights, gI g 6 f_rights), (a_image, gI g 1372 (upd (upd f_image k3 v_generations) k4 v_toll)), (a_isKept, gZ g 2 f_isKept)]) rfl ek4 hk4 (by decide) rfl dX5_image_201 ?_
              refine j_aload_n C 203 rfl 0 dX5_image_202 rfl rfl ?_
              refine j_get C 206 rfl 0 5 21 (T := TX5) (N := 22) hi_X5_image_X5 rfl (by decide) (List.mem_of_getElem? (i := 9) rfl) rfl rfl rfl dX5_image_203 ?_
              refine j_iload_n C 207 rfl 1 dX5_image_206 rfl rfl ?_
              refine j_iconst C 208 rfl dX5_image_207 (v := (1 : Int32)) (by decide) ?_
              obtain ⟨k5, ek5, hk5, hw⟩ := hw
              refine j_zast C 209 rfl 7 k5 (ws' := [(a_this, .inr (5, [.int v_signs, .ref a_pad, .ref a_sort, .ref a_heir, .int v_generations, .ref a_was, .ref a_worth, .int v_toll, .ref a_rights, .ref a_ahead, .ref a_bound, .ref a_owner, .ref a_foundBound, .ref a_foundOwner, .int v_foundLeast, .int v_stops, .ref a_beside, .ref a_upward, .ref a_from, .ref a_queue, .ref a_image, .ref a_isKept])), (a_sort, gI g 120 f_sort), (a_heir, gI g 24 f_heir), (a_was, gI g 504 f_was), (a_worth, gI g 30 f_worth), (a_rights, gI g 6 f_rights), (a_image, gI g 1372 (upd (upd f_image k3 v_generations) k4 v_toll)), (a_isKept, gZ g 2 (upd f_isKept k5 (vp_nar .boolean (1 : Int32))))]) rfl ek5 hk5 (by decide) rfl dX5_image_208 ?_
              refine j_iconst C 210 rfl dX5_image_209 (v := (1 : Int32)) (by decide) ?_
              exact j_iret C R (upd (upd f_image k3 v_generations) k4 v_toll, upd f_isKept k5 (vp_nar .boolean (1 : Int32))) rfl dX5_image_210 rfl hw
            · have hw := hw.2 c
              refine j_aload_n C 151 rfl 0 dX5_image_150 rfl rfl ?_
              refine j_get C 154 rfl 0 5 20 (T := TX5) (N := 22) hi_X5_image_X5 rfl (by decide) (List.mem_of_getElem? (i := 1) rfl) rfl rfl rfl dX5_image_151 ?_
              refine j_iload_n C 155 rfl 2 dX5_image_154 rfl rfl ?_
              refine j_sipush C 158 rfl dX5_image_155 (v := (678 : Int32)) (by decide) ?_
              refine j_iadd C 159 rfl dX5_image_158 ?_
              refine j_iload_n C 160 rfl 3 dX5_image_159 rfl rfl ?_
              refine j_iadd C 161 rfl dX5_image_160 ?_
              refine j_aload_n C 162 rfl 0 dX5_image_161 rfl rfl ?_
              refine j_get C 165 rfl 0 5 8 (T := TX5) (N := 22) hi_X5_image_X5 rfl (by decide) (List.mem_of_getElem? (i := 6) rfl) rfl rfl rfl dX5_image_162 ?_
              refine j_iload_n C 166 rfl 3 dX5_image_165 rfl rfl ?_
              obtain ⟨k6, ek6, hk6, hw⟩ := hw
              refine j_iald C 167 rfl 5 k6 rfl ek6 hk6 (by decide) dX5_image_166 ?_
              refine j_top (fun n7 en7 => ?_)
              have hw := hw n7 en7
              obtain ⟨k8, ek8, hk8, hw⟩ := hw
              refine j_iast C 168 rfl 6 k8 (ws' := [(a_this, .inr (5, [.int v_signs, .ref a_pad, .ref a_sort, .ref a_heir, .int v_generations, .ref a_was, .ref a_worth, .int v_toll, .ref a_rights, .ref a_ahead, .ref a_bound, .ref a_owner, .ref a_foundBound, .ref a_foundOwner, .int v_foundLeast, .int v_stops, .ref a_beside, .ref a_upward, .ref a_from, .ref a_queue, .ref a_image, .ref a_isKept])), (a_sort, gI g 120 f_sort), (a_heir, gI g 24 f_heir), (a_was, gI g 504 f_was), (a_worth, gI g 30 f_worth), (a_rights, gI g 6 f_rights), (a_image, gI g 1372 (upd f_image k8 n7)), (a_isKept, gZ g 2 f_isKept)]) rfl ek8 hk8 (by decide) rfl dX5_image_167 ?_
              refine j_iinc C 171 rfl 3 [1, 2, 3, 0] (v' := (1 : Int32)) (lv' := fun z => [(0, .ref a_this), (1, .int x1), (2, .int n2), (3, .int z)]) dX5_image_168 rfl (by decide) (by decide) (fun _ => rfl) (fun n9 en9 => ?_)
              have hw := hw n9 en9
              refine j_goto C 144 dX5_image_171 rfl ?_
              exact hL144 _ _ hw
          · have hw := hw.2 c
            refine j_aload_n C 119 rfl 0 dX5_image_118 rfl rfl ?_
            refine j_get C 122 rfl 0 5 20 (T := TX5) (N := 22) hi_X5_image_X5 rfl (by decide) (List.mem_of_getElem? (i := 1) rfl) rfl rfl rfl dX5_image_119 ?_
            refine j_iload_n C 123 rfl 2 dX5_image_122 rfl rfl ?_
            refine j_sipush C 126 rfl dX5_image_123 (v := (648 : Int32)) (by decide) ?_
            refine j_iadd C 127 rfl dX5_image_126 ?_
            refine j_iload_n C 128 rfl 3 dX5_image_127 rfl rfl ?_
            refine j_iadd C 129 rfl dX5_image_128 ?_
            refine j_aload_n C 130 rfl 0 dX5_image_129 rfl rfl ?_
            refine j_get C 133 rfl 0 5 6 (T := TX5) (N := 22) hi_X5_image_X5 rfl (by decide) (List.mem_of_getElem? (i := 5) rfl) rfl rfl rfl dX5_image_130 ?_
            refine j_iload_n C 134 rfl 3 dX5_image_133 rfl rfl ?_
            obtain ⟨k10, ek10, hk10, hw⟩ := hw
            refine j_iald C 135 rfl 4 k10 rfl ek10 hk10 (by decide) dX5_image_134 ?_
            refine j_top (fun n11 en11 => ?_)
            have hw := hw n11 en11
            obtain ⟨k12, ek12, hk12, hw⟩ := hw
            refine j_iast C 136 rfl 6 k12 (ws' := [(a_this, .inr (5, [.int v_signs, .ref a_pad, .ref a_sort, .ref a_heir, .int v_generations, .ref a_was, .ref a_worth, .int v_toll, .ref a_rights, .ref a_ahead, .ref a_bound, .ref a_owner, .ref a_foundBound, .ref a_foundOwner, .int v_foundLeast, .int v_stops, .ref a_beside, .ref a_upward, .ref a_from, .ref a_queue, .ref a_image, .ref a_isKept])), (a_sort, gI g 120 f_sort), (a_heir, gI g 24 f_heir), (a_was, gI g 504 f_was), (a_worth, gI g 30 f_worth), (a_rights, gI g 6 f_rights), (a_image, gI g 1372 (upd f_image k12 n11)), (a_isKept, gZ g 2 f_isKept)]) rfl ek12 hk12 (by decide) rfl dX5_image_135 ?_
            refine j_iinc C 139 rfl 3 [1, 2, 3, 0] (v' := (1 : Int32)) (lv' := fun z => [(0, .ref a_this), (1, .int x1), (2, .int n2), (3, .int z)]) dX5_image_136 rfl (by decide) (by decide) (fun _ => rfl) (fun n13 en13 => ?_)
            have hw := hw n13 en13
            refine j_goto C 112 dX5_image_139 rfl ?_
            exact hL112 _ _ hw
        · have hw := hw.2 c
          refine j_aload_n C 87 rfl 0 dX5_image_86 rfl rfl ?_
          refine j_get C 90 rfl 0 5 20 (T := TX5) (N := 22) hi_X5_image_X5 rfl (by decide) (List.mem_of_getElem? (i := 1) rfl) rfl rfl rfl dX5_image_87 ?_
          refine j_iload_n C 91 rfl 2 dX5_image_90 rfl rfl ?_
          refine j_sipush C 94 rfl dX5_image_91 (v := (144 : Int32)) (by decide) ?_
          refine j_iadd C 95 rfl dX5_image_94 ?_
          refine j_iload_n C 96 rfl 3 dX5_image_95 rfl rfl ?_
          refine j_iadd C 97 rfl dX5_image_96 ?_
          refine j_aload_n C 98 rfl 0 dX5_image_97 rfl rfl ?_
          refine j_get C 101 rfl 0 5 5 (T := TX5) (N := 22) hi_X5_image_X5 rfl (by decide) (List.mem_of_getElem? (i := 4) rfl) rfl rfl rfl dX5_image_98 ?_
          refine j_iload_n C 102 rfl 3 dX5_image_101 rfl rfl ?_
          obtain ⟨k14, ek14, hk14, hw⟩ := hw
          refine j_iald C 103 rfl 3 k14 rfl ek14 hk14 (by decide) dX5_image_102 ?_
          refine j_top (fun n15 en15 => ?_)
          have hw := hw n15 en15
          obtain ⟨k16, ek16, hk16, hw⟩ := hw
          refine j_iast C 104 rfl 6 k16 (ws' := [(a_this, .inr (5, [.int v_signs, .ref a_pad, .ref a_sort, .ref a_heir, .int v_generations, .ref a_was, .ref a_worth, .int v_toll, .ref a_rights, .ref a_ahead, .ref a_bound, .ref a_owner, .ref a_foundBound, .ref a_foundOwner, .int v_foundLeast, .int v_stops, .ref a_beside, .ref a_upward, .ref a_from, .ref a_queue, .ref a_image, .ref a_isKept])), (a_sort, gI g 120 f_sort), (a_heir, gI g 24 f_heir), (a_was, gI g 504 f_was), (a_worth, gI g 30 f_worth), (a_rights, gI g 6 f_rights), (a_image, gI g 1372 (upd f_image k16 n15)), (a_isKept, gZ g 2 f_isKept)]) rfl ek16 hk16 (by decide) rfl dX5_image_103 ?_
          refine j_iinc C 107 rfl 3 [1, 2, 3, 0] (v' := (1 : Int32)) (lv' := fun z => [(0, .ref a_this), (1, .int x1), (2, .int n2), (3, .int z)]) dX5_image_104 rfl (by decide) (by decide) (fun _ => rfl) (fun n17 en17 => ?_)
          have hw := hw n17 en17
          refine j_goto C 79 dX5_image_107 rfl ?_
          exact hL79 _ _ hw
      · have hw := hw.2 c
        refine j_aload_n C 55 rfl 0 dX5_image_54 rfl rfl ?_
        refine j_get C 58 rfl 0 5 20 (T := TX5) (N := 22) hi_X5_image_X5 rfl (by decide) (List.mem_of_getElem? (i := 1) rfl) rfl rfl rfl dX5_image_55 ?_
        refine j_iload_n C 59 rfl 2 dX5_image_58 rfl rfl ?_
        refine j_bipush C 61 rfl dX5_image_59 (v := (120 : Int32)) (by decide) ?_
        refine j_iadd C 62 rfl dX5_image_61 ?_
        refine j_iload_n C 63 rfl 3 dX5_image_62 rfl rfl ?_
        refine j_iadd C 64 rfl dX5_image_63 ?_
        refine j_aload_n C 65 rfl 0 dX5_image_64 rfl rfl ?_
        refine j_get C 68 rfl 0 5 3 (T := TX5) (N := 22) hi_X5_image_X5 rfl (by decide) (List.mem_of_getElem? (i := 3) rfl) rfl rfl rfl dX5_image_65 ?_
        refine j_iload_n C 69 rfl 3 dX5_image_68 rfl rfl ?_
        obtain ⟨k18, ek18, hk18, hw⟩ := hw
        refine j_iald C 70 rfl 2 k18 rfl ek18 hk18 (by decide) dX5_image_69 ?_
        refine j_top (fun n19 en19 => ?_)
        have hw := hw n19 en19
        obtain ⟨k20, ek20, hk20, hw⟩ := hw
        refine j_iast C 71 rfl 6 k20 (ws' := [(a_this, .inr (5, [.int v_signs, .ref a_pad, .ref a_sort, .ref a_heir, .int v_generations, .ref a_was, .ref a_worth, .int v_toll, .ref a_rights, .ref a_ahead, .ref a_bound, .ref a_owner, .ref a_foundBound, .ref a_foundOwner, .int v_foundLeast, .int v_stops, .ref a_beside, .ref a_upward, .ref a_from, .ref a_queue, .ref a_image, .ref a_isKept])), (a_sort, gI g 120 f_sort), (a_heir, gI g 24 f_heir), (a_was, gI g 504 f_was), (a_worth, gI g 30 f_worth), (a_rights, gI g 6 f_rights), (a_image, gI g 1372 (upd f_image k20 n19)), (a_isKept, gZ g 2 f_isKept)]) rfl ek20 hk20 (by decide) rfl dX5_image_70 ?_
        refine j_iinc C 74 rfl 3 [1, 2, 3, 0] (v' := (1 : Int32)) (lv' := fun z => [(0, .ref a_this), (1, .int x1), (2, .int n2), (3, .int z)]) dX5_image_71 rfl (by decide) (by decide) (fun _ => rfl) (fun n21 en21 => ?_)
        have hw := hw n21 en21
        refine j_goto C 48 dX5_image_74 rfl ?_
        exact hL48 _ _ hw
    · have hw := hw.2 c
      refine j_aload_n C 27 rfl 0 dX5_image_26 rfl rfl ?_
      refine j_get C 30 rfl 0 5 20 (T := TX5) (N := 22) hi_X5_image_X5 rfl (by decide) (List.mem_of_getElem? (i := 1) rfl) rfl rfl rfl dX5_image_27 ?_
      refine j_iload_n C 31 rfl 2 dX5_image_30 rfl rfl ?_
      refine j_iload_n C 32 rfl 3 dX5_image_31 rfl rfl ?_
      refine j_iadd C 33 rfl dX5_image_32 ?_
      refine j_aload_n C 34 rfl 0 dX5_image_33 rfl rfl ?_
      refine j_get C 37 rfl 0 5 2 (T := TX5) (N := 22) hi_X5_image_X5 rfl (by decide) (List.mem_of_getElem? (i := 2) rfl) rfl rfl rfl dX5_image_34 ?_
      refine j_iload_n C 38 rfl 3 dX5_image_37 rfl rfl ?_
      obtain ⟨k22, ek22, hk22, hw⟩ := hw
      refine j_iald C 39 rfl 1 k22 rfl ek22 hk22 (by decide) dX5_image_38 ?_
      refine j_top (fun n23 en23 => ?_)
      have hw := hw n23 en23
      obtain ⟨k24, ek24, hk24, hw⟩ := hw
      refine j_iast C 40 rfl 6 k24 (ws' := [(a_this, .inr (5, [.int v_signs, .ref a_pad, .ref a_sort, .ref a_heir, .int v_generations, .ref a_was, .ref a_worth, .int v_toll, .ref a_rights, .ref a_ahead, .ref a_bound, .ref a_owner, .ref a_foundBound, .ref a_foundOwner, .int v_foundLeast, .int v_stops, .ref a_beside, .ref a_upward, .ref a_from, .ref a_queue, .ref a_image, .ref a_isKept])), (a_sort, gI g 120 f_sort), (a_heir, gI g 24 f_heir), (a_was, gI g 504 f_was), (a_worth, gI g 30 f_worth), (a_rights, gI g 6 f_rights), (a_image, gI g 1372 (upd f_image k24 n23)), (a_isKept, gZ g 2 f_isKept)]) rfl ek24 hk24 (by decide) rfl dX5_image_39 ?_
      refine j_iinc C 43 rfl 3 [1, 2, 3, 0] (v' := (1 : Int32)) (lv' := fun z => [(0, .ref a_this), (1, .int x1), (2, .int n2), (3, .int z)]) dX5_image_40 rfl (by decide) (by decide) (fun _ => rfl) (fun n25 en25 => ?_)
      have hw := hw n25 en25
      refine j_goto C 20 dX5_image_43 rfl ?_
      exact hL20 _ _ hw
  · have hw := hw.2 c
    refine j_bipush C 11 rfl dX5_image_9 (v := (-2 : Int32)) (by decide) ?_
    exact j_iret C R (f_image, f_isKept) rfl dX5_image_11 rfl hw
theorem hi_X5_restore_X5 : ∀ w ∈ wsX50, w ∈ wsX5_restore := fun _ h => List.mem_cons_of_mem _ (List.mem_append_right _ h)
set_option maxRecDepth 20000 in
set_option maxHeartbeats 4000000 in
theorem c_X5_restore (l : Launch) (g : gE) (a_this a_pad a_sort a_heir a_was a_worth a_rights a_ahead a_bound a_owner a_foundBound a_foundOwner a_beside a_upward a_from a_queue a_image a_isKept : Nat) (v_signs : Int32) (v_generations : Int32) (v_toll : Int32) (v_foundLeast : Int32) (v_stops : Int32) (f_sort : (Nat → Int32)) (f_heir : (Nat → Int32)) (f_was : (Nat → Int32)) (f_worth : (Nat → Int32)) (f_rights : (Nat → Int32)) (f_image : (Nat → Int32)) (f_isKept : (Nat → Int32)) (x1 : Int32)  (K : Int32 → Int32 → Int32 → (Nat → Int32) → (Nat → Int32) → (Nat → Int32) → (Nat → Int32) → (Nat → Int32) → Prop) (hw : wp_X5_restore v_generations v_toll f_sort f_heir f_was f_worth f_rights f_image f_isKept x1 K) : Ci l g yX5_restore wsX5_restore { frames := 1, cells := 0, slots := 0, locals := 22 } [.ref a_this, .int x1] [(a_this, .inr (5, [.int v_signs, .ref a_pad, .ref a_sort, .ref a_heir, .int v_generations, .ref a_was, .ref a_worth, .int v_toll, .ref a_rights, .ref a_ahead, .ref a_bound, .ref a_owner, .ref a_foundBound, .ref a_foundOwner, .int v_foundLeast, .int v_stops, .ref a_beside, .ref a_upward, .ref a_from, .ref a_queue, .ref a_image, .ref a_isKept])), (a_sort, gI g 120 f_sort), (a_heir, gI g 24 f_heir), (a_was, gI g 504 f_was), (a_worth, gI g 30 f_worth), (a_rights, gI g 6 f_rights), (a_image, gI g 1372 f_image), (a_isKept, gZ g 2 f_isKept)] (fun (r : Int32) (u : Int32 × Int32 × (Nat → Int32) × (Nat → Int32) × (Nat → Int32) × (Nat → Int32) × (Nat → Int32)) => K r u.1 u.2.1 u.2.2.1 u.2.2.2.1 u.2.2.2.2.1 u.2.2.2.2.2.1 u.2.2.2.2.2.2) (fun (u : Int32 × Int32 × (Nat → Int32) × (Nat → Int32) × (Nat → Int32) × (Nat → Int32) × (Nat → Int32)) => [(a_this, .inr (5, [.int v_signs, .ref a_pad, .ref a_sort, .ref a_heir, .int (u.1), .ref a_was, .ref a_worth, .int (u.2.1), .ref a_rights, .ref a_ahead, .ref a_bound, .ref a_owner, .ref a_foundBound, .ref a_foundOwner, .int v_foundLeast, .int v_stops, .ref a_beside, .ref a_upward, .ref a_from, .ref a_queue, .ref a_image, .ref a_isKept])), (a_sort, gI g 120 (u.2.2.1)), (a_heir, gI g 24 (u.2.2.2.1)), (a_was, gI g 504 (u.2.2.2.2.1)), (a_worth, gI g 30 (u.2.2.2.2.2.1)), (a_rights, gI g 6 (u.2.2.2.2.2.2)), (a_image, gI g 1372 f_image), (a_isKept, gZ g 2 f_isKept)]) 0 0 := by
  refine Ci_of (cc := cX5_restore) (nL := 4) (ret := (some .int)) (own := RX5) (lv0 := [(0, .ref a_this), (1, .int x1)]) (by decide +kernel) rfl rfl (Nat.le_of_ble_eq_true rfl) rfl (fun A x C R => ?_)
  refine j_iload_n C 1 rfl 1 dX5_restore_0 rfl rfl ?_
  refine j_iconst C 2 rfl dX5_restore_1 (v := (0 : Int32)) (by decide) ?_
  refine j_iconst C 3 rfl dX5_restore_2 (v := (1 : Int32)) (by decide) ?_
  refine j_ri C 6 rfl (jc_S C (c_X5_in l g x1 (0 : Int32) (1 : Int32) _ hw) 3 gX5_restore_X5_in rfl rfl rfl hd_X5_in ⟨Nat.le_of_ble_eq_true rfl, Nat.le_of_ble_eq_true rfl⟩ [] rfl rfl (rest := []) rfl rfl (Nat.le_of_ble_eq_true rfl) dX5_restore_3 ⟨Nat.le_refl _, Nat.le_refl _⟩) [] rfl (fun _ => rfl) (fun r1 _ hw => ?_)
  try dsimp only at hw
  refine j_if_ne C 9 rfl 12 dX5_restore_6 rfl (fun c => ?_) (fun c => ?_)
  · have hw := hw.1 c
    refine j_aload_n C 13 rfl 0 dX5_restore_12 rfl rfl ?_
    refine j_get C 16 rfl 0 5 21 (T := TX5) (N := 22) hi_X5_restore_X5 rfl (by decide) (List.mem_of_getElem? (i := 1) rfl) rfl rfl rfl dX5_restore_13 ?_
    refine j_iload_n C 17 rfl 1 dX5_restore_16 rfl rfl ?_
    obtain ⟨k2, ek2, hk2, hw⟩ := hw
    refine j_zald C 18 rfl 7 k2 rfl ek2 hk2 (by decide) dX5_restore_17 ?_
    refine j_if_ne C 21 rfl 24 dX5_restore_18 rfl (fun c => ?_) (fun c => ?_)
    · have hw := hw.1 c
      refine j_sipush C 27 rfl dX5_restore_24 (v := (686 : Int32)) (by decide) ?_
      refine j_iload_n C 28 rfl 1 dX5_restore_27 rfl rfl ?_
      refine j_imul C 29 rfl dX5_restore_28 ?_
      refine j_top (fun n3 en3 => ?_)
      have hw := hw n3 en3
      refine j_istore_n C 30 rfl [1, 2, 0] (lv' := [(0, .ref a_this), (1, .int x1), (2, .int n3)]) dX5_restore_29 rfl (by decide) rfl ?_
      refine j_iconst C 31 rfl dX5_restore_30 (v := (0 : Int32)) (by decide) ?_
      refine j_istore_n C 32 rfl [1, 2, 3, 0] (lv' := [(0, .ref a_this), (1, .int x1), (2, .int n3), (3, .int (0 : Int32))]) dX5_restore_31 rfl (by decide) rfl ?_
      refine j_lv [0, 2, 3] (lv' := [(0, .ref a_this), (2, .int n3), (3, .int (0 : Int32))]) rfl ?_
      refine lpW2_ind (G := fun x3 f_sort => J l g A x 4 0 0 32 [(0, .ref a_this), (2, .int n3), (3, .int x3)] [] [(a_this, .inr (5, [.int v_signs, .ref a_pad, .ref a_sort, .ref a_heir, .int v_generations, .ref a_was, .ref a_worth, .int v_toll, .ref a_rights, .ref a_ahead, .ref a_bound, .ref a_owner, .ref a_foundBound, .ref a_foundOwner, .int v_foundLeast, .int v_stops, .ref a_beside, .ref a_upward, .ref a_from, .ref a_queue, .ref a_image, .ref a_isKept])), (a_sort, gI g 120 f_sort), (a_heir, gI g 24 f_heir), (a_was, gI g 504 f_was), (a_worth, gI g 30 f_worth), (a_rights, gI g 6 f_rights), (a_image, gI g 1372 f_image), (a_isKept, gZ g 2 f_isKept)]) (fun L32 x3 f_sort hL32 hw => ?_) _ _ hw
      refine j_iload_n C 33 rfl 2 dX5_restore_32 rfl rfl ?_
      refine j_bipush C 35 rfl dX5_restore_33 (v := (120 : Int32)) (by decide) ?_
      refine j_icmp_ge C 38 rfl 58 dX5_restore_35 rfl (fun c => ?_) (fun c => ?_)
      · have hw := hw.1 c
        refine j_iconst C 59 rfl dX5_restore_58 (v := (0 : Int32)) (by decide) ?_
        refine j_istore_n C 60 rfl [1, 2, 0] (lv' := [(0, .ref a_this), (2, .int n3), (3, .int (0 : Int32))]) dX5_restore_59 rfl (by decide) rfl ?_
        refine lpW2_ind (G := fun x3 f_heir => J l g A x 4 0 0 60 [(0, .ref a_this), (2, .int n3), (3, .int x3)] [] [(a_this, .inr (5, [.int v_signs, .ref a_pad, .ref a_sort, .ref a_heir, .int v_generations, .ref a_was, .ref a_worth, .int v_toll, .ref a_rights, .ref a_ahead, .ref a_bound, .ref a_owner, .ref a_foundBound, .ref a_foundOwner, .int v_foundLeast, .int v_stops, .ref a_beside, .ref a_upward, .ref a_from, .ref a_queue, .ref a_image, .ref a_isKept])), (a_sort, gI g 120 f_sort), (a_heir, gI g 24 f_heir), (a_was, gI g 504 f_was), (a_worth, gI g 30 f_worth), (a_rights, gI g 6 f_rights), (a_image, gI g 1372 f_image), (a_isKept, gZ g 2 f_isKept)]) (fun L60 x3 f_heir hL60 hw => ?_) _ _ hw
        refine j_iload_n C 61 rfl 2 dX5_restore_60 rfl rfl ?_
        refine j_bipush C 63 rfl dX5_restore_61 (v := (24 : Int32)) (by decide) ?_
        refine j_icmp_ge C 66 rfl 89 dX5_restore_63 rfl (fun c => ?_) (fun c => ?_)
        · have hw := hw.1 c
          refine j_iconst C 90 rfl dX5_restore_89 (v := (0 : Int32)) (by decide) ?_
          refine j_istore_n C 91 rfl [1, 2, 0] (lv' := [(0, .ref a_this), (2, .int n3), (3, .int (0 : Int32))]) dX5_restore_90 rfl (by decide) rfl ?_
          refine lpW2_ind (G := fun x3 f_was => J l g A x 4 0 0 91 [(0, .ref a_this), (2, .int n3), (3, .int x3)] [] [(a_this, .inr (5, [.int v_signs, .ref a_pad, .ref a_sort, .ref a_heir, .int v_generations, .ref a_was, .ref a_worth, .int v_toll, .ref a_rights, .ref a_ahead, .ref a_bound, .ref a_owner, .ref a_foundBound, .ref a_foundOwner, .int v_foundLeast, .int v_stops, .ref a_beside, .ref a_upward, .ref a_from, .ref a_queue, .ref a_image, .ref a_isKept])), (a_sort, gI g 120 f_sort), (a_heir, gI g 24 f_heir), (a_was, gI g 504 f_was), (a_worth, gI g 30 f_worth), (a_rights, gI g 6 f_rights), (a_image, gI g 1372 f_image), (a_isKept, gZ g 2 f_isKept)]) (fun L91 x3 f_was hL91 hw => ?_) _ _ hw
          refine j_iload_n C 92 rfl 2 dX5_restore_91 rfl rfl ?_
          refine j_sipush C 95 rfl dX5_restore_92 (v := (504 : Int32)) (by decide) ?_
          refine j_icmp_ge C 98 rfl 122 dX5_restore_95 rfl (fun c => ?_) (fun c => ?_)
          · have hw := hw.1 c
            refine j_iconst C 123 rfl dX5_restore_122 (v := (0 : Int32)) (by decide) ?_
            refine j_istore_n C 124 rfl [1, 2, 0] (lv' := [(0, .ref a_this), (2, .int n3), (3, .int (0 : Int32))]) dX5_restore_123 rfl (by decide) rfl ?_
            refine lpW2_ind (G := fun x3 f_worth => J l g A x 4 0 0 124 [(0, .ref a_this), (2, .int n3), (3, .int x3)] [] [(a_this, .inr (5, [.int v_signs, .ref a_pad, .ref a_sort, .ref a_heir, .int v_generations, .ref a_was, .ref a_worth, .int v_toll, .ref a_rights, .ref a_ahead, .ref a_bound, .ref a_owner, .ref a_foundBound, .ref a_foundOwner, .int v_foundLeast, .int v_stops, .ref a_beside, .ref a_upward, .ref a_from, .ref a_queue, .ref a_image, .ref a_isKept])), (a_sort, gI g 120 f_sort), (a_heir, gI g 24 f_heir), (a_was, gI g 504 f_was), (a_worth, gI g 30 f_worth), (a_rights, gI g 6 f_rights), (a_image, gI g 1372 f_image), (a_isKept, gZ g 2 f_isKept)]) (fun L124 x3 f_worth hL124 hw => ?_) _ _ hw
            refine j_iload_n C 125 rfl 2 dX5_restore_124 rfl rfl ?_
            refine j_bipush C 127 rfl dX5_restore_125 (v := (30 : Int32)) (by decide) ?_
            refine j_icmp_ge C 130 rfl 154 dX5_restore_127 rfl (fun c => ?_) (fun c => ?_)
            · have hw := hw.1 c
              refine j_iconst C 155 rfl dX5_restore_154 (v := (0 : Int32)) (by decide) ?_
              refine j_istore_n C 156 rfl [1, 2, 0] (lv' := [(0, .ref a_this), (2, .int n3), (3, .int (0 : Int32))]) dX5_restore_155 rfl (by decide) rfl ?_
              refine lpW2_ind (G := fun x3 f_rights => J l g A x 4 0 0 156 [(0, .ref a_this), (2, .int n3), (3, .int x3)] [] [(a_this, .inr (5, [.int v_signs, .ref a_pad, .ref a_sort, .ref a_heir, .int v_generations, .ref a_was, .ref a_worth, .int v_toll, .ref a_rights, .ref a_ahead, .ref a_bound, .ref a_owner, .ref a_foundBound, .ref a_foundOwner, .int v_foundLeast, .int v_stops, .ref a_beside, .ref a_upward, .ref a_from, .ref a_queue, .ref a_image, .ref a_isKept])), (a_sort, gI g 120 f_sort), (a_heir, gI g 24 f_heir), (a_was, gI g 504 f_was), (a_worth, gI g 30 f_worth), (a_rights, gI g 6 f_rights), (a_image, gI g 1372 f_image), (a_isKept, gZ g 2 f_isKept)]) (fun L156 x3 f_rights hL156 hw => ?_) _ _ hw
              refine j_iload_n C 157 rfl 2 dX5_restore_156 rfl rfl ?_
              refine j_bipush C 159 rfl dX5_restore_157 (v := (6 : Int32)) (by decide) ?_
              refine j_icmp_ge C 162 rfl 186 dX5_restore_159 rfl (fun c => ?_) (fun c => ?_)
              · have hw := hw.1 c
                refine j_aload_n C 187 rfl 0 dX5_restore_186 rfl rfl ?_
                refine j_aload_n C 188 rfl 0 dX5_restore_187 rfl rfl ?_
                refine j_get C 191 rfl 0 5 20 (T := TX5) (N := 22) hi_X5_restore_X5 rfl (by decide) (List.mem_of_getElem? (i := 3) rfl) rfl rfl rfl dX5_restore_188 ?_
                refine j_iload_n C 192 rfl 1 dX5_restore_191 rfl rfl ?_
                refine j_sipush C 195 rfl dX5_restore_192 (v := (684 : Int32)) (by decide) ?_
                refine j_iadd C 196 rfl dX5_restore_195 ?_
                obtain ⟨k4, ek4, hk4, hw⟩ := hw
                refine j_iald C 197 rfl 6 k4 rfl ek4 hk4 (by decide) dX5_restore_196 ?_
                refine j_top (fun n5 en5 => ?_)
                have hw := hw n5 en5
                refine j_put C 200 rfl 0 5 4 (ws' := [(a_this, .inr (5, [.int v_signs, .ref a_pad, .ref a_sort, .ref a_heir, .int n5, .ref a_was, .ref a_worth, .int v_toll, .ref a_rights, .ref a_ahead, .ref a_bound, .ref a_owner, .ref a_foundBound, .ref a_foundOwner, .int v_foundLeast, .int v_stops, .ref a_beside, .ref a_upward, .ref a_from, .ref a_queue, .ref a_image, .ref a_isKept])), (a_sort, gI g 120 f_sort), (a_heir, gI g 24 f_heir), (a_was, gI g 504 f_was), (a_worth, gI g 30 f_worth), (a_rights, gI g 6 f_rights), (a_image, gI g 1372 f_image), (a_isKept, gZ g 2 f_isKept)]) (T := TX5) (N := 22) (ty := .int) tyX5_ok nmX5 hi_X5_restore_X5 rfl (by decide) (List.mem_of_getElem? (i := 8) rfl) rfl rfl rfl rfl rfl rfl (Nat.le_of_ble_eq_true rfl) rfl dX5_restore_197 ?_
                refine j_aload_n C 201 rfl 0 dX5_restore_200 rfl rfl ?_
                refine j_aload_n C 202 rfl 0 dX5_restore_201 rfl rfl ?_
                refine j_get C 205 rfl 0 5 20 (T := TX5) (N := 22) hi_X5_restore_X5 rfl (by decide) (List.mem_of_getElem? (i := 3) rfl) rfl rfl rfl dX5_restore_202 ?_
                refine j_iload_n C 206 rfl 1 dX5_restore_205 rfl rfl ?_
                refine j_sipush C 209 rfl dX5_restore_206 (v := (685 : Int32)) (by decide) ?_
                refine j_iadd C 210 rfl dX5_restore_209 ?_
                obtain ⟨k6, ek6, hk6, hw⟩ := hw
                refine j_iald C 211 rfl 6 k6 rfl ek6 hk6 (by decide) dX5_restore_210 ?_
                refine j_top (fun n7 en7 => ?_)
                have hw := hw n7 en7
                refine j_put C 214 rfl 0 5 7 (ws' := [(a_this, .inr (5, [.int v_signs, .ref a_pad, .ref a_sort, .ref a_heir, .int n5, .ref a_was, .ref a_worth, .int n7, .ref a_rights, .ref a_ahead, .ref a_bound, .ref a_owner, .ref a_foundBound, .ref a_foundOwner, .int v_foundLeast, .int v_stops, .ref a_beside, .ref a_upward, .ref a_from, .ref a_queue, .ref a_image, .ref a_isKept])), (a_sort, gI g 120 f_sort), (a_heir, gI g 24 f_heir), (a_was, gI g 504 f_was), (a_worth, gI g 30 f_worth), (a_rights, gI g 6 f_rights), (a_image, gI g 1372 f_image), (a_isKept, gZ g 2 f_isKept)]) (T := TX5) (N := 22) (ty := .int) tyX5_ok nmX5 hi_X5_restore_X5 rfl (by decide) (List.mem_of_getElem? (i := 9) rfl) rfl rfl rfl rfl rfl rfl (Nat.le_of_ble_eq_true rfl) rfl dX5_restore_211 ?_
                refine j_iconst C 215 rfl dX5_restore_214 (v := (1 : Int32)) (by decide) ?_
                exact j_iret C R (n5, n7, f_sort, f_heir, f_was, f_worth, f_rights) rfl dX5_restore_215 rfl hw
              · have hw := hw.2 c
                refine j_aload_n C 163 rfl 0 dX5_restore_162 rfl rfl ?_
                refine j_get C 166 rfl 0 5 8 (T := TX5) (N := 22) hi_X5_restore_X5 rfl (by decide) (List.mem_of_getElem? (i := 7) rfl) rfl rfl rfl dX5_restore_163 ?_
                refine j_iload_n C 167 rfl 2 dX5_restore_166 rfl rfl ?_
                refine j_aload_n C 168 rfl 0 dX5_restore_167 rfl rfl ?_
                refine j_get C 171 rfl 0 5 20 (T := TX5) (N := 22) hi_X5_restore_X5 rfl (by decide) (List.mem_of_getElem? (i := 3) rfl) rfl rfl rfl dX5_restore_168 ?_
                refine j_iload_n C 172 rfl 1 dX5_restore_171 rfl rfl ?_
                refine j_sipush C 175 rfl dX5_restore_172 (v := (678 : Int32)) (by decide) ?_
                refine j_iadd C 176 rfl dX5_restore_175 ?_
                refine j_iload_n C 177 rfl 2 dX5_restore_176 rfl rfl ?_
                refine j_iadd C 178 rfl dX5_restore_177 ?_
                obtain ⟨k8, ek8, hk8, hw⟩ := hw
                refine j_iald C 179 rfl 6 k8 rfl ek8 hk8 (by decide) dX5_restore_178 ?_
                refine j_top (fun n9 en9 => ?_)
                have hw := hw n9 en9
                obtain ⟨k10, ek10, hk10, hw⟩ := hw
                refine j_iast C 180 rfl 5 k10 (ws' := [(a_this, .inr (5, [.int v_signs, .ref a_pad, .ref a_sort, .ref a_heir, .int v_generations, .ref a_was, .ref a_worth, .int v_toll, .ref a_rights, .ref a_ahead, .ref a_bound, .ref a_owner, .ref a_foundBound, .ref a_foundOwner, .int v_foundLeast, .int v_stops, .ref a_beside, .ref a_upward, .ref a_from, .ref a_queue, .ref a_image, .ref a_isKept])), (a_sort, gI g 120 f_sort), (a_heir, gI g 24 f_heir), (a_was, gI g 504 f_was), (a_worth, gI g 30 f_worth), (a_rights, gI g 6 (upd f_rights k10 n9)), (a_image, gI g 1372 f_image), (a_isKept, gZ g 2 f_isKept)]) rfl ek10 hk10 (by decide) rfl dX5_restore_179 ?_
                refine j_iinc C 183 rfl 2 [1, 2, 0] (v' := (1 : Int32)) (lv' := fun z => [(0, .ref a_this), (2, .int n3), (3, .int z)]) dX5_restore_180 rfl (by decide) (by decide) (fun _ => rfl) (fun n11 en11 => ?_)
                have hw := hw n11 en11
                refine j_goto C 156 dX5_restore_183 rfl ?_
                exact hL156 _ _ hw
            · have hw := hw.2 c
              refine j_aload_n C 131 rfl 0 dX5_restore_130 rfl rfl ?_
              refine j_get C 134 rfl 0 5 6 (T := TX5) (N := 22) hi_X5_restore_X5 rfl (by decide) (List.mem_of_getElem? (i := 6) rfl) rfl rfl rfl dX5_restore_131 ?_
              refine j_iload_n C 135 rfl 2 dX5_restore_134 rfl rfl ?_
              refine j_aload_n C 136 rfl 0 dX5_restore_135 rfl rfl ?_
              refine j_get C 139 rfl 0 5 20 (T := TX5) (N := 22) hi_X5_restore_X5 rfl (by decide) (List.mem_of_getElem? (i := 3) rfl) rfl rfl rfl dX5_restore_136 ?_
              refine j_iload_n C 140 rfl 1 dX5_restore_139 rfl rfl ?_
              refine j_sipush C 143 rfl dX5_restore_140 (v := (648 : Int32)) (by decide) ?_
              refine j_iadd C 144 rfl dX5_restore_143 ?_
              refine j_iload_n C 145 rfl 2 dX5_restore_144 rfl rfl ?_
              refine j_iadd C 146 rfl dX5_restore_145 ?_
              obtain ⟨k12, ek12, hk12, hw⟩ := hw
              refine j_iald C 147 rfl 6 k12 rfl ek12 hk12 (by decide) dX5_restore_146 ?_
              refine j_top (fun n13 en13 => ?_)
              have hw := hw n13 en13
              obtain ⟨k14, ek14, hk14, hw⟩ := hw
              refine j_iast C 148 rfl 4 k14 (ws' := [(a_this, .inr (5, [.int v_signs, .ref a_pad, .ref a_sort, .ref a_heir, .int v_generations, .ref a_was, .ref a_worth, .int v_toll, .ref a_rights, .ref a_ahead, .ref a_bound, .ref a_owner, .ref a_foundBound, .ref a_foundOwner, .int v_foundLeast, .int v_stops, .ref a_beside, .ref a_upward, .ref a_from, .ref a_queue, .ref a_image, .ref a_isKept])), (a_sort, gI g 120 f_sort), (a_heir, gI g 24 f_heir), (a_was, gI g 504 f_was), (a_worth, gI g 30 (upd f_worth k14 n13)), (a_rights, gI g 6 f_rights), (a_image, gI g 1372 f_image), (a_isKept, gZ g 2 f_isKept)]) rfl ek14 hk14 (by decide) rfl dX5_restore_147 ?_
              refine j_iinc C 151 rfl 2 [1, 2, 0] (v' := (1 : Int32)) (lv' := fun z => [(0, .ref a_this), (2, .int n3), (3, .int z)]) dX5_restore_148 rfl (by decide) (by decide) (fun _ => rfl) (fun n15 en15 => ?_)
              have hw := hw n15 en15
              refine j_goto C 124 dX5_restore_151 rfl ?_
              exact hL124 _ _ hw
          · have hw := hw.2 c
            refine j_aload_n C 99 rfl 0 dX5_restore_98 rfl rfl ?_
            refine j_get C 102 rfl 0 5 5 (T := TX5) (N := 22) hi_X5_restore_X5 rfl (by decide) (List.mem_of_getElem? (i := 5) rfl) rfl rfl rfl dX5_restore_99 ?_
            refine j_iload_n C 103 rfl 2 dX5_restore_102 rfl rfl ?_
            refine j_aload_n C 104 rfl 0 dX5_restore_103 rfl rfl ?_
            refine j_get C 107 rfl 0 5 20 (T := TX5) (N := 22) hi_X5_restore_X5 rfl (by decide) (List.mem_of_getElem? (i := 3) rfl) rfl rfl rfl dX5_restore_104 ?_
            refine j_iload_n C 108 rfl 1 dX5_restore_107 rfl rfl ?_
            refine j_sipush C 111 rfl dX5_restore_108 (v := (144 : Int32)) (by decide) ?_
            refine j_iadd C 112 rfl dX5_restore_111 ?_
            refine j_iload_n C 113 rfl 2 dX5_restore_112 rfl rfl ?_
            refine j_iadd C 114 rfl dX5_restore_113 ?_
            obtain ⟨k16, ek16, hk16, hw⟩ := hw
            refine j_iald C 115 rfl 6 k16 rfl ek16 hk16 (by decide) dX5_restore_114 ?_
            refine j_top (fun n17 en17 => ?_)
            have hw := hw n17 en17
            obtain ⟨k18, ek18, hk18, hw⟩ := hw
            refine j_iast C 116 rfl 3 k18 (ws' := [(a_this, .inr (5, [.int v_signs, .ref a_pad, .ref a_sort, .ref a_heir, .int v_generations, .ref a_was, .ref a_worth, .int v_toll, .ref a_rights, .ref a_ahead, .ref a_bound, .ref a_owner, .ref a_foundBound, .ref a_foundOwner, .int v_foundLeast, .int v_stops, .ref a_beside, .ref a_upward, .ref a_from, .ref a_queue, .ref a_image, .ref a_isKept])), (a_sort, gI g 120 f_sort), (a_heir, gI g 24 f_heir), (a_was, gI g 504 (upd f_was k18 n17)), (a_worth, gI g 30 f_worth), (a_rights, gI g 6 f_rights), (a_image, gI g 1372 f_image), (a_isKept, gZ g 2 f_isKept)]) rfl ek18 hk18 (by decide) rfl dX5_restore_115 ?_
            refine j_iinc C 119 rfl 2 [1, 2, 0] (v' := (1 : Int32)) (lv' := fun z => [(0, .ref a_this), (2, .int n3), (3, .int z)]) dX5_restore_116 rfl (by decide) (by decide) (fun _ => rfl) (fun n19 en19 => ?_)
            have hw := hw n19 en19
            refine j_goto C 91 dX5_restore_119 rfl ?_
            exact hL91 _ _ hw
        · have hw := hw.2 c
          refine j_aload_n C 67 rfl 0 dX5_restore_66 rfl rfl ?_
          refine j_get C 70 rfl 0 5 3 (T := TX5) (N := 22) hi_X5_restore_X5 rfl (by decide) (List.mem_of_getElem? (i := 4) rfl) rfl rfl rfl dX5_restore_67 ?_
          refine j_iload_n C 71 rfl 2 dX5_restore_70 rfl rfl ?_
          refine j_aload_n C 72 rfl 0 dX5_restore_71 rfl rfl ?_
          refine j_get C 75 rfl 0 5 20 (T := TX5) (N := 22) hi_X5_restore_X5 rfl (by decide) (List.mem_of_getElem? (i := 3) rfl) rfl rfl rfl dX5_restore_72 ?_
          refine j_iload_n C 76 rfl 1 dX5_restore_75 rfl rfl ?_
          refine j_bipush C 78 rfl dX5_restore_76 (v := (120 : Int32)) (by decide) ?_
          refine j_iadd C 79 rfl dX5_restore_78 ?_
          refine j_iload_n C 80 rfl 2 dX5_restore_79 rfl rfl ?_
          refine j_iadd C 81 rfl dX5_restore_80 ?_
          obtain ⟨k20, ek20, hk20, hw⟩ := hw
          refine j_iald C 82 rfl 6 k20 rfl ek20 hk20 (by decide) dX5_restore_81 ?_
          refine j_top (fun n21 en21 => ?_)
          have hw := hw n21 en21
          obtain ⟨k22, ek22, hk22, hw⟩ := hw
          refine j_iast C 83 rfl 2 k22 (ws' := [(a_this, .inr (5, [.int v_signs, .ref a_pad, .ref a_sort, .ref a_heir, .int v_generations, .ref a_was, .ref a_worth, .int v_toll, .ref a_rights, .ref a_ahead, .ref a_bound, .ref a_owner, .ref a_foundBound, .ref a_foundOwner, .int v_foundLeast, .int v_stops, .ref a_beside, .ref a_upward, .ref a_from, .ref a_queue, .ref a_image, .ref a_isKept])), (a_sort, gI g 120 f_sort), (a_heir, gI g 24 (upd f_heir k22 n21)), (a_was, gI g 504 f_was), (a_worth, gI g 30 f_worth), (a_rights, gI g 6 f_rights), (a_image, gI g 1372 f_image), (a_isKept, gZ g 2 f_isKept)]) rfl ek22 hk22 (by decide) rfl dX5_restore_82 ?_
          refine j_iinc C 86 rfl 2 [1, 2, 0] (v' := (1 : Int32)) (lv' := fun z => [(0, .ref a_this), (2, .int n3), (3, .int z)]) dX5_restore_83 rfl (by decide) (by decide) (fun _ => rfl) (fun n23 en23 => ?_)
          have hw := hw n23 en23
          refine j_goto C 60 dX5_restore_86 rfl ?_
          exact hL60 _ _ hw
      · have hw := hw.2 c
        refine j_aload_n C 39 rfl 0 dX5_restore_38 rfl rfl ?_
        refine j_get C 42 rfl 0 5 2 (T := TX5) (N := 22) hi_X5_restore_X5 rfl (by decide) (List.mem_of_getElem? (i := 2) rfl) rfl rfl rfl dX5_restore_39 ?_
        refine j_iload_n C 43 rfl 2 dX5_restore_42 rfl rfl ?_
        refine j_aload_n C 44 rfl 0 dX5_restore_43 rfl rfl ?_
        refine j_get C 47 rfl 0 5 20 (T := TX5) (N := 22) hi_X5_restore_X5 rfl (by decide) (List.mem_of_getElem? (i := 3) rfl) rfl rfl rfl dX5_restore_44 ?_
        refine j_iload_n C 48 rfl 1 dX5_restore_47 rfl rfl ?_
        refine j_iload_n C 49 rfl 2 dX5_restore_48 rfl rfl ?_
        refine j_iadd C 50 rfl dX5_restore_49 ?_
        obtain ⟨k24, ek24, hk24, hw⟩ := hw
        refine j_iald C 51 rfl 6 k24 rfl ek24 hk24 (by decide) dX5_restore_50 ?_
        refine j_top (fun n25 en25 => ?_)
        have hw := hw n25 en25
        obtain ⟨k26, ek26, hk26, hw⟩ := hw
        refine j_iast C 52 rfl 1 k26 (ws' := [(a_this, .inr (5, [.int v_signs, .ref a_pad, .ref a_sort, .ref a_heir, .int v_generations, .ref a_was, .ref a_worth, .int v_toll, .ref a_rights, .ref a_ahead, .ref a_bound, .ref a_owner, .ref a_foundBound, .ref a_foundOwner, .int v_foundLeast, .int v_stops, .ref a_beside, .ref a_upward, .ref a_from, .ref a_queue, .ref a_image, .ref a_isKept])), (a_sort, gI g 120 (upd f_sort k26 n25)), (a_heir, gI g 24 f_heir), (a_was, gI g 504 f_was), (a_worth, gI g 30 f_worth), (a_rights, gI g 6 f_rights), (a_image, gI g 1372 f_image), (a_isKept, gZ g 2 f_isKept)]) rfl ek26 hk26 (by decide) rfl dX5_restore_51 ?_
        refine j_iinc C 55 rfl 2 [1, 2, 0] (v' := (1 : Int32)) (lv' := fun z => [(0, .ref a_this), (2, .int n3), (3, .int z)]) dX5_restore_52 rfl (by decide) (by decide) (fun _ => rfl) (fun n27 en27 => ?_)
        have hw := hw n27 en27
        refine j_goto C 32 dX5_restore_55 rfl ?_
        exact hL32 _ _ hw
    · have hw := hw.2 c
      refine j_bipush C 23 rfl dX5_restore_21 (v := (-3 : Int32)) (by decide) ?_
      exact j_iret C R (v_generations, v_toll, f_sort, f_heir, f_was, f_worth, f_rights) rfl dX5_restore_23 rfl hw
  · have hw := hw.2 c
    refine j_bipush C 11 rfl dX5_restore_9 (v := (-2 : Int32)) (by decide) ?_
    exact j_iret C R (v_generations, v_toll, f_sort, f_heir, f_was, f_worth, f_rights) rfl dX5_restore_11 rfl hw
theorem hi_X5_told_X5 : ∀ w ∈ wsX50, w ∈ wsX5_told := fun _ h => List.mem_cons_of_mem _ (List.mem_append_right _ h)
set_option maxRecDepth 20000 in
set_option maxHeartbeats 4000000 in
theorem c_X5_told (l : Launch) (g : gE) (a_this a_pad a_sort a_heir a_was a_worth a_rights a_ahead a_bound a_owner a_foundBound a_foundOwner a_beside a_upward a_from a_queue a_image a_isKept : Nat) (v_signs : Int32) (v_generations : Int32) (v_toll : Int32) (v_foundLeast : Int32) (v_stops : Int32) (f_heir : (Nat → Int32)) (f_worth : (Nat → Int32)) (f_rights : (Nat → Int32)) (x1 : Int32)  (K : Int32 → Prop) (hw : wp_X5_told v_signs v_generations v_toll f_heir f_worth f_rights x1 K) : Ci l g yX5_told wsX5_told { frames := 1, cells := 0, slots := 0, locals := 23 } [.ref a_this, .int x1] [(a_this, .inr (5, [.int v_signs, .ref a_pad, .ref a_sort, .ref a_heir, .int v_generations, .ref a_was, .ref a_worth, .int v_toll, .ref a_rights, .ref a_ahead, .ref a_bound, .ref a_owner, .ref a_foundBound, .ref a_foundOwner, .int v_foundLeast, .int v_stops, .ref a_beside, .ref a_upward, .ref a_from, .ref a_queue, .ref a_image, .ref a_isKept])), (a_heir, gI g 24 f_heir), (a_worth, gI g 30 f_worth), (a_rights, gI g 6 f_rights)] (fun (r : Int32) (_ : Unit) => K r) (fun (_ : Unit) => [(a_this, .inr (5, [.int v_signs, .ref a_pad, .ref a_sort, .ref a_heir, .int v_generations, .ref a_was, .ref a_worth, .int v_toll, .ref a_rights, .ref a_ahead, .ref a_bound, .ref a_owner, .ref a_foundBound, .ref a_foundOwner, .int v_foundLeast, .int v_stops, .ref a_beside, .ref a_upward, .ref a_from, .ref a_queue, .ref a_image, .ref a_isKept])), (a_heir, gI g 24 f_heir), (a_worth, gI g 30 f_worth), (a_rights, gI g 6 f_rights)]) 0 0 := by
  refine Ci_of (cc := cX5_told) (nL := 2) (ret := (some .int)) (own := RX5) (lv0 := [(0, .ref a_this), (1, .int x1)]) (by decide +kernel) rfl rfl (Nat.le_of_ble_eq_true rfl) rfl (fun A x C R => ?_)
  refine j_iload_n C 1 rfl 1 dX5_told_0 rfl rfl ?_
  refine j_bipush C 3 rfl dX5_told_1 (v := (10 : Int32)) (by decide) ?_
  refine j_bipush C 5 rfl dX5_told_3 (v := (15 : Int32)) (by decide) ?_
  refine j_ri C 8 rfl (jc_S C (c_X5_in l g x1 (10 : Int32) (15 : Int32) _ hw) 3 gX5_told_X5_in rfl rfl rfl hd_X5_in ⟨Nat.le_of_ble_eq_true rfl, Nat.le_of_ble_eq_true rfl⟩ [] rfl rfl (rest := []) rfl rfl (Nat.le_of_ble_eq_true rfl) dX5_told_5 ⟨Nat.le_refl _, Nat.le_refl _⟩) [] rfl (fun _ => rfl) (fun r1 _ hw => ?_)
  try dsimp only at hw
  refine j_if_eq C 11 rfl 20 dX5_told_8 rfl (fun c => ?_) (fun c => ?_)
  · have hw := hw.1 c
    refine j_iload_n C 21 rfl 1 dX5_told_20 rfl rfl ?_
    refine j_bipush C 23 rfl dX5_told_21 (v := (20 : Int32)) (by decide) ?_
    refine j_bipush C 25 rfl dX5_told_23 (v := (25 : Int32)) (by decide) ?_
    refine j_ri C 28 rfl (jc_S C (c_X5_in l g x1 (20 : Int32) (25 : Int32) _ hw) 3 gX5_told_X5_in rfl rfl rfl hd_X5_in ⟨Nat.le_of_ble_eq_true rfl, Nat.le_of_ble_eq_true rfl⟩ [] rfl rfl (rest := []) rfl rfl (Nat.le_of_ble_eq_true rfl) dX5_told_25 ⟨Nat.le_refl _, Nat.le_refl _⟩) [] rfl (fun _ => rfl) (fun r2 _ hw => ?_)
    try dsimp only at hw
    refine j_if_eq C 31 rfl 41 dX5_told_28 rfl (fun c => ?_) (fun c => ?_)
    · have hw := hw.1 c
      refine j_iload_n C 42 rfl 1 dX5_told_41 rfl rfl ?_
      refine j_bipush C 44 rfl dX5_told_42 (v := (100 : Int32)) (by decide) ?_
      refine j_sipush C 47 rfl dX5_told_44 (v := (129 : Int32)) (by decide) ?_
      refine j_ri C 50 rfl (jc_S C (c_X5_in l g x1 (100 : Int32) (129 : Int32) _ hw) 3 gX5_told_X5_in rfl rfl rfl hd_X5_in ⟨Nat.le_of_ble_eq_true rfl, Nat.le_of_ble_eq_true rfl⟩ [] rfl rfl (rest := []) rfl rfl (Nat.le_of_ble_eq_true rfl) dX5_told_47 ⟨Nat.le_refl _, Nat.le_refl _⟩) [] rfl (fun _ => rfl) (fun r3 _ hw => ?_)
      try dsimp only at hw
      refine j_if_eq C 53 rfl 63 dX5_told_50 rfl (fun c => ?_) (fun c => ?_)
      · have hw := hw.1 c
        refine j_iload_n C 64 rfl 1 dX5_told_63 rfl rfl ?_
        refine j_if_ne C 67 rfl 74 dX5_told_64 rfl (fun c => ?_) (fun c => ?_)
        · have hw := hw.1 c
          refine j_iload_n C 75 rfl 1 dX5_told_74 rfl rfl ?_
          refine j_iconst C 76 rfl dX5_told_75 (v := (1 : Int32)) (by decide) ?_
          refine j_icmp_ne C 79 rfl 86 dX5_told_76 rfl (fun c => ?_) (fun c => ?_)
          · have hw := hw.1 c
            refine j_iload_n C 87 rfl 1 dX5_told_86 rfl rfl ?_
            refine j_iconst C 88 rfl dX5_told_87 (v := (2 : Int32)) (by decide) ?_
            refine j_icmp_ne C 91 rfl 98 dX5_told_88 rfl (fun c => ?_) (fun c => ?_)
            · have hw := hw.1 c
              refine j_bipush C 100 rfl dX5_told_98 (v := (-2 : Int32)) (by decide) ?_
              exact j_iret C R () rfl dX5_told_100 rfl hw
            · have hw := hw.2 c
              refine j_aload_n C 92 rfl 0 dX5_told_91 rfl rfl ?_
              refine j_get C 95 rfl 0 5 7 (T := TX5) (N := 22) hi_X5_told_X5 rfl (by decide) (List.mem_of_getElem? (i := 5) rfl) rfl rfl rfl dX5_told_92 ?_
              refine j_goto C 100 dX5_told_95 rfl ?_
              exact j_iret C R () rfl dX5_told_100 rfl hw
          · have hw := hw.2 c
            refine j_aload_n C 80 rfl 0 dX5_told_79 rfl rfl ?_
            refine j_get C 83 rfl 0 5 4 (T := TX5) (N := 22) hi_X5_told_X5 rfl (by decide) (List.mem_of_getElem? (i := 4) rfl) rfl rfl rfl dX5_told_80 ?_
            refine j_goto C 100 dX5_told_83 rfl ?_
            exact j_iret C R () rfl dX5_told_100 rfl hw
        · have hw := hw.2 c
          refine j_aload_n C 68 rfl 0 dX5_told_67 rfl rfl ?_
          refine j_get C 71 rfl 0 5 0 (T := TX5) (N := 22) hi_X5_told_X5 rfl (by decide) (List.mem_of_getElem? (i := 3) rfl) rfl rfl rfl dX5_told_68 ?_
          refine j_goto C 100 dX5_told_71 rfl ?_
          exact j_iret C R () rfl dX5_told_100 rfl hw
      · have hw := hw.2 c
        refine j_aload_n C 54 rfl 0 dX5_told_53 rfl rfl ?_
        refine j_get C 57 rfl 0 5 6 (T := TX5) (N := 22) hi_X5_told_X5 rfl (by decide) (List.mem_of_getElem? (i := 2) rfl) rfl rfl rfl dX5_told_54 ?_
        refine j_iload_n C 58 rfl 1 dX5_told_57 rfl rfl ?_
        refine j_bipush C 60 rfl dX5_told_58 (v := (100 : Int32)) (by decide) ?_
        refine j_isub C 61 rfl dX5_told_60 ?_
        obtain ⟨k4, ek4, hk4, hw⟩ := hw
        refine j_iald C 62 rfl 2 k4 rfl ek4 hk4 (by decide) dX5_told_61 ?_
        exact j_iret C R () rfl dX5_told_62 rfl hw
    · have hw := hw.2 c
      refine j_aload_n C 32 rfl 0 dX5_told_31 rfl rfl ?_
      refine j_get C 35 rfl 0 5 8 (T := TX5) (N := 22) hi_X5_told_X5 rfl (by decide) (List.mem_of_getElem? (i := 1) rfl) rfl rfl rfl dX5_told_32 ?_
      refine j_iload_n C 36 rfl 1 dX5_told_35 rfl rfl ?_
      refine j_bipush C 38 rfl dX5_told_36 (v := (20 : Int32)) (by decide) ?_
      refine j_isub C 39 rfl dX5_told_38 ?_
      obtain ⟨k5, ek5, hk5, hw⟩ := hw
      refine j_iald C 40 rfl 3 k5 rfl ek5 hk5 (by decide) dX5_told_39 ?_
      exact j_iret C R () rfl dX5_told_40 rfl hw
  · have hw := hw.2 c
    refine j_aload_n C 12 rfl 0 dX5_told_11 rfl rfl ?_
    refine j_iload_n C 13 rfl 1 dX5_told_12 rfl rfl ?_
    refine j_bipush C 15 rfl dX5_told_13 (v := (10 : Int32)) (by decide) ?_
    refine j_isub C 16 rfl dX5_told_15 ?_
    refine j_top (fun n6 en6 => ?_)
    have hw := hw n6 en6
    refine j_ri C 19 rfl (jc_V C (c_X5_sectorsOf l g a_this a_pad a_sort a_heir a_was a_worth a_rights a_ahead a_bound a_owner a_foundBound a_foundOwner a_beside a_upward a_from a_queue a_image a_isKept v_signs v_generations v_toll v_foundLeast v_stops f_heir n6 _ hw) 1 gX5_told_X5_sectorsOf rfl rfl rfl hd_X5_sectorsOf ⟨Nat.le_of_ble_eq_true rfl, Nat.le_of_ble_eq_true rfl⟩ (j_rec C 0 5 rfl rfl) [0, 1] rfl rfl (rest := []) rfl rfl (Nat.le_of_ble_eq_true rfl) dX5_told_16 ⟨Nat.le_refl _, Nat.le_refl _⟩) [0, 1] rfl (fun _ => rfl) (fun r7 _ hw => ?_)
    try dsimp only at hw
    exact j_iret C R () rfl dX5_told_19 rfl hw
