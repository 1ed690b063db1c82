/-! printed by wip/whole/gen: contracts over the machine -/
theorem hi_X4_say_X4 : ∀ w ∈ wsX40, w ∈ wsX4_say := fun _ h => List.mem_cons_of_mem _ (List.mem_append_left _ (List.mem_append_right _ h))
set_option maxRecDepth 20000 in
set_option maxHeartbeats 4000000 in
theorem c_X4_say (l : Launch) (g : gE) (a_this a_pad a_hill a_images a_fairCut a_bestCut a_leastFence a_pad_signs a_pad_row : Nat) (v_pad_count : Int32) (f_pad_signs : (Nat → Int32)) (x1 : Int32)  (K : Int32 → Int32 → (Nat → Int32) → Prop) (hw : wp_X4_say v_pad_count f_pad_signs x1 K) : Ci l g yX4_say wsX4_say { frames := 1, cells := 0, slots := 0, locals := 21 } [.ref a_this, .int x1] [(a_this, .inr (4, [.ref a_pad, .ref a_hill, .ref a_images, .ref a_fairCut, .ref a_bestCut, .ref a_leastFence])), (a_pad, .inr (3, [.ref a_pad_signs, .ref a_pad_row, .int v_pad_count])), (a_pad_signs, gC g 60 f_pad_signs)] (fun (r : Int32) (u : Int32 × (Nat → Int32)) => K r u.1 u.2) (fun (u : Int32 × (Nat → Int32)) => [(a_this, .inr (4, [.ref a_pad, .ref a_hill, .ref a_images, .ref a_fairCut, .ref a_bestCut, .ref a_leastFence])), (a_pad, .inr (3, [.ref a_pad_signs, .ref a_pad_row, .int (u.1)])), (a_pad_signs, gC g 60 (u.2))]) 0 0 := by
  refine Ci_of (cc := cX4_say) (nL := 2) (ret := (some .int)) (own := RX4) (lv0 := [(0, .ref a_this), (1, .int x1)]) (by decide +kernel) rfl rfl (Nat.le_of_ble_eq_true rfl) rfl (fun A x C R => ?_)
  refine j_iload_n C 1 rfl 1 dX4_say_0 rfl rfl ?_
  refine j_bipush C 3 rfl dX4_say_1 (v := (33 : Int32)) (by decide) ?_
  refine j_icmp_lt C 6 rfl 12 dX4_say_3 rfl (fun c => ?_) (fun c => ?_)
  · have hw := hw.1 c
    refine j_bipush C 14 rfl dX4_say_12 (v := (-2 : Int32)) (by decide) ?_
    exact j_iret C R (v_pad_count, f_pad_signs) rfl dX4_say_14 rfl hw
  · have hw := hw.2 c
    refine j_iload_n C 7 rfl 1 dX4_say_6 rfl rfl ?_
    refine j_bipush C 9 rfl dX4_say_7 (v := (126 : Int32)) (by decide) ?_
    refine j_icmp_le C 12 rfl 15 dX4_say_9 rfl (fun c => ?_) (fun c => ?_)
    · have hw := hw.1 c
      refine j_aload_n C 16 rfl 0 dX4_say_15 rfl rfl ?_
      refine j_get C 19 rfl 0 4 0 (T := TX4) (N := 6) hi_X4_say_X4 rfl (by decide) (List.mem_of_getElem? (i := 1) rfl) rfl rfl rfl dX4_say_16 ?_
      refine j_iload_n C 20 rfl 1 dX4_say_19 rfl rfl ?_
      refine j_i2c C 21 rfl dX4_say_20 ?_
      refine j_top (fun n1 en1 => ?_)
      have hw := hw n1 en1
      refine j_rwi C 24 rfl (jc_V C (c_X3_add l g a_pad a_pad_signs a_pad_row v_pad_count f_pad_signs n1 _ hw) 1 gX4_say_X3_add rfl rfl rfl hd_X3_add ⟨Nat.le_of_ble_eq_true rfl, Nat.le_of_ble_eq_true rfl⟩ (j_rec C 1 3 rfl rfl) [1, 2] rfl rfl (rest := []) rfl rfl (Nat.le_of_ble_eq_true rfl) dX4_say_21 ⟨Nat.le_refl _, Nat.le_refl _⟩) [1, 2] [0] [0, 1, 2] (wr := [(a_this, .inr (4, [.ref a_pad, .ref a_hill, .ref a_images, .ref a_fairCut, .ref a_bestCut, .ref a_leastFence]))]) (ws' := fun u => [(a_this, .inr (4, [.ref a_pad, .ref a_hill, .ref a_images, .ref a_fairCut, .ref a_bestCut, .ref a_leastFence])), (a_pad, .inr (3, [.ref a_pad_signs, .ref a_pad_row, .int (u.1)])), (a_pad_signs, gC g 60 (u.2))]) rfl rfl rfl (by decide) rfl (fun _ => rfl) (fun r2 u hw => ?_)
      obtain ⟨u3, u4⟩ := u
      try dsimp only at hw
      show J l g A x 2 0 0 24 [(0, .ref a_this), (1, .int x1)] [.int r2] [(a_this, .inr (4, [.ref a_pad, .ref a_hill, .ref a_images, .ref a_fairCut, .ref a_bestCut, .ref a_leastFence])), (a_pad, .inr (3, [.ref a_pad_signs, .ref a_pad_row, .int u3])), (a_pad_signs, gC g 60 u4)]
      exact j_iret C R (u3, u4) rfl dX4_say_24 rfl hw
    · have hw := hw.2 c
      refine j_bipush C 14 rfl dX4_say_12 (v := (-2 : Int32)) (by decide) ?_
      exact j_iret C R (v_pad_count, f_pad_signs) rfl dX4_say_14 rfl hw
theorem hi_X4_wipe_X4 : ∀ w ∈ wsX40, w ∈ wsX4_wipe := fun _ h => List.mem_cons_of_mem _ (List.mem_append_left _ (List.mem_append_right _ h))
set_option maxRecDepth 20000 in
set_option maxHeartbeats 4000000 in
theorem c_X4_wipe (l : Launch) (g : gE) (a_this a_pad a_hill a_images a_fairCut a_bestCut a_leastFence a_pad_signs a_pad_row : Nat) (v_pad_count : Int32)   (K : Int32 → Int32 → Prop) (hw : wp_X4_wipe v_pad_count K) : Ci l g yX4_wipe wsX4_wipe { frames := 1, cells := 0, slots := 0, locals := 21 } [.ref a_this] [(a_this, .inr (4, [.ref a_pad, .ref a_hill, .ref a_images, .ref a_fairCut, .ref a_bestCut, .ref a_leastFence])), (a_pad, .inr (3, [.ref a_pad_signs, .ref a_pad_row, .int v_pad_count]))] (fun (r : Int32) (u : Int32) => K r u) (fun (u : Int32) => [(a_this, .inr (4, [.ref a_pad, .ref a_hill, .ref a_images, .ref a_fairCut, .ref a_bestCut, .ref a_leastFence])), (a_pad, .inr (3, [.ref a_pad_signs, .ref a_pad_row, .int u]))]) 0 0 := by
  refine Ci_of (cc := cX4_wipe) (nL := 1) (ret := (some .int)) (own := RX4) (lv0 := [(0, .ref a_this)]) (by decide +kernel) rfl rfl (Nat.le_of_ble_eq_true rfl) rfl (fun A x C R => ?_)
  refine j_aload_n C 1 rfl 0 dX4_wipe_0 rfl rfl ?_
  refine j_get C 4 rfl 0 4 0 (T := TX4) (N := 6) hi_X4_wipe_X4 rfl (by decide) (List.mem_of_getElem? (i := 1) rfl) rfl rfl rfl dX4_wipe_1 ?_
  refine j_rwi C 7 rfl (jc_V C (c_X3_empty l g a_pad a_pad_signs a_pad_row v_pad_count _ hw) 0 gX4_wipe_X3_empty rfl rfl rfl hd_X3_empty ⟨Nat.le_of_ble_eq_true rfl, Nat.le_of_ble_eq_true rfl⟩ (j_rec C 1 3 rfl rfl) [1] rfl rfl (rest := []) rfl rfl (Nat.le_of_ble_eq_true rfl) dX4_wipe_4 ⟨Nat.le_refl _, Nat.le_refl _⟩) [1] [0] [0, 1] (wr := [(a_this, .inr (4, [.ref a_pad, .ref a_hill, .ref a_images, .ref a_fairCut, .ref a_bestCut, .ref a_leastFence]))]) (ws' := fun u => [(a_this, .inr (4, [.ref a_pad, .ref a_hill, .ref a_images, .ref a_fairCut, .ref a_bestCut, .ref a_leastFence])), (a_pad, .inr (3, [.ref a_pad_signs, .ref a_pad_row, .int u]))]) rfl rfl rfl (by decide) rfl (fun _ => rfl) (fun r1 u hw => ?_)
  obtain ⟨u2, eu2⟩ : ∃ z, z = u := ⟨_, rfl⟩
  subst eu2
  try dsimp only at hw
  show J l g A x 1 0 0 7 [(0, .ref a_this)] [.int r1] [(a_this, .inr (4, [.ref a_pad, .ref a_hill, .ref a_images, .ref a_fairCut, .ref a_bestCut, .ref a_leastFence])), (a_pad, .inr (3, [.ref a_pad_signs, .ref a_pad_row, .int u2]))]
  exact j_iret C R (u2) rfl dX4_wipe_7 rfl hw
theorem hi_X4_faultAs_X4 : ∀ w ∈ wsX40, w ∈ wsX4_faultAs := fun _ h => List.mem_cons_of_mem _ (List.mem_append_left _ (List.mem_append_left _ (List.mem_append_right _ h)))
set_option maxRecDepth 20000 in
set_option maxHeartbeats 4000000 in
theorem c_X4_faultAs (l : Launch) (g : gE) (a_this a_pad a_hill a_images a_fairCut a_bestCut a_leastFence a_pad_signs a_pad_row a_hill_sorts a_hill_owners a_hill_worths a_hill_gave : Nat) (v_pad_count : Int32) (f_pad_signs : (Nat → Int32)) (v_hill_generation : Int32) (v_hill_toll : Int32) (f_hill_owners : (Nat → Int32)) (x1 : Int32)  (K : Int32 → Prop) (hw : wp_X4_faultAs v_pad_count f_pad_signs v_hill_generation f_hill_owners x1 K) : Ci l g yX4_faultAs wsX4_faultAs { frames := 6, cells := 0, slots := 0, locals := 154 } [.ref a_this, .int x1] [(a_this, .inr (4, [.ref a_pad, .ref a_hill, .ref a_images, .ref a_fairCut, .ref a_bestCut, .ref a_leastFence])), (a_pad, .inr (3, [.ref a_pad_signs, .ref a_pad_row, .int v_pad_count])), (a_pad_signs, gC g 60 f_pad_signs), (a_hill, .inr (2, [.ref a_hill_sorts, .ref a_hill_owners, .ref a_hill_worths, .ref a_hill_gave, .int v_hill_generation, .int v_hill_toll])), (a_hill_owners, gI g 504 f_hill_owners)] (fun (r : Int32) (_ : Unit) => K r) (fun (_ : Unit) => [(a_this, .inr (4, [.ref a_pad, .ref a_hill, .ref a_images, .ref a_fairCut, .ref a_bestCut, .ref a_leastFence])), (a_pad, .inr (3, [.ref a_pad_signs, .ref a_pad_row, .int v_pad_count])), (a_pad_signs, gC g 60 f_pad_signs), (a_hill, .inr (2, [.ref a_hill_sorts, .ref a_hill_owners, .ref a_hill_worths, .ref a_hill_gave, .int v_hill_generation, .int v_hill_toll])), (a_hill_owners, gI g 504 f_hill_owners)]) 0 0 := by
  refine Ci_of (cc := cX4_faultAs) (nL := 3) (ret := (some .int)) (own := RX4) (lv0 := [(0, .ref a_this), (1, .int x1)]) (by decide +kernel) rfl rfl (Nat.le_of_ble_eq_true rfl) rfl (fun A x C R => ?_)
  refine j_iload_n C 1 rfl 1 dX4_faultAs_0 rfl rfl ?_
  refine j_if_ne C 4 rfl 17 dX4_faultAs_1 rfl (fun c => ?_) (fun c => ?_)
  · have hw := hw.1 c
    refine j_iload_n C 18 rfl 1 dX4_faultAs_17 rfl rfl ?_
    refine j_iconst C 19 rfl dX4_faultAs_18 (v := (1 : Int32)) (by decide) ?_
    refine j_icmp_ne C 22 rfl 35 dX4_faultAs_19 rfl (fun c => ?_) (fun c => ?_)
    · have hw := hw.1 c
      refine j_aload_n C 36 rfl 0 dX4_faultAs_35 rfl rfl ?_
      refine j_get C 39 rfl 0 4 0 (T := TX4) (N := 6) hi_X4_faultAs_X4 rfl (by decide) (List.mem_of_getElem? (i := 1) rfl) rfl rfl rfl dX4_faultAs_36 ?_
      refine j_iconst C 40 rfl dX4_faultAs_39 (v := (0 : Int32)) (by decide) ?_
      refine j_ldcS1 C 42 rfl dX4_faultAs_40 ?_
      refine j_ri C 45 rfl (jc_V C (c_X3_letterAt l g a_pad a_pad_signs a_pad_row v_pad_count f_pad_signs (0 : Int32) 1 (by decide) _ hw) 2 gX4_faultAs_X3_letterAt rfl rfl rfl hd_X3_letterAt ⟨Nat.le_of_ble_eq_true rfl, Nat.le_of_ble_eq_true rfl⟩ (j_rec C 1 3 rfl rfl) [1, 2] rfl rfl (rest := []) rfl rfl (Nat.le_of_ble_eq_true rfl) dX4_faultAs_42 ⟨Nat.le_refl _, Nat.le_refl _⟩) [1, 2] rfl (fun _ => rfl) (fun r1 _ hw => ?_)
      try dsimp only at hw
      refine j_istore_n C 46 rfl [1, 2, 0] (lv' := [(0, .ref a_this), (1, .int x1), (2, .int r1)]) dX4_faultAs_45 rfl (by decide) rfl ?_
      refine j_iload_n C 47 rfl 2 dX4_faultAs_46 rfl rfl ?_
      refine j_if_ge C 50 rfl 52 dX4_faultAs_47 rfl (fun c => ?_) (fun c => ?_)
      · have hw := hw.1 c
        refine j_aload_n C 53 rfl 0 dX4_faultAs_52 rfl rfl ?_
        refine j_get C 56 rfl 0 4 0 (T := TX4) (N := 6) hi_X4_faultAs_X4 rfl (by decide) (List.mem_of_getElem? (i := 1) rfl) rfl rfl rfl dX4_faultAs_53 ?_
        refine j_iconst C 57 rfl dX4_faultAs_56 (v := (1 : Int32)) (by decide) ?_
        refine j_bipush C 59 rfl dX4_faultAs_57 (v := (58 : Int32)) (by decide) ?_
        refine j_ri C 62 rfl (jc_V C (c_X3_hasAt l g a_pad a_pad_signs a_pad_row v_pad_count f_pad_signs (1 : Int32) (58 : Int32) _ hw) 2 gX4_faultAs_X3_hasAt rfl rfl rfl hd_X3_hasAt ⟨Nat.le_of_ble_eq_true rfl, Nat.le_of_ble_eq_true rfl⟩ (j_rec C 1 3 rfl rfl) [1, 2] rfl rfl (rest := []) rfl rfl (Nat.le_of_ble_eq_true rfl) dX4_faultAs_59 ⟨Nat.le_refl _, Nat.le_refl _⟩) [1, 2] rfl (fun _ => rfl) (fun r2 _ hw => ?_)
        try dsimp only at hw
        refine j_if_ne C 65 rfl 67 dX4_faultAs_62 rfl (fun c => ?_) (fun c => ?_)
        · have hw := hw.1 c
          refine j_aload_n C 68 rfl 0 dX4_faultAs_67 rfl rfl ?_
          refine j_get C 71 rfl 0 4 0 (T := TX4) (N := 6) hi_X4_faultAs_X4 rfl (by decide) (List.mem_of_getElem? (i := 1) rfl) rfl rfl rfl dX4_faultAs_68 ?_
          refine j_ldcS1 C 73 rfl dX4_faultAs_71 ?_
          refine j_iconst C 74 rfl dX4_faultAs_73 (v := (2 : Int32)) (by decide) ?_
          refine j_aload_n C 75 rfl 0 dX4_faultAs_74 rfl rfl ?_
          refine j_get C 78 rfl 0 4 1 (T := TX4) (N := 6) hi_X4_faultAs_X4 rfl (by decide) (List.mem_of_getElem? (i := 2) rfl) rfl rfl rfl dX4_faultAs_75 ?_
          refine j_iload_n C 79 rfl 2 dX4_faultAs_78 rfl rfl ?_
          refine j_ri C 82 rfl (jc_V C (c_X2_sectorsOf l g a_hill a_hill_sorts a_hill_owners a_hill_worths a_hill_gave v_hill_generation v_hill_toll f_hill_owners r1 _ hw) 1 gX4_faultAs_X2_sectorsOf rfl rfl rfl hd_X2_sectorsOf ⟨Nat.le_of_ble_eq_true rfl, Nat.le_of_ble_eq_true rfl⟩ (j_rec C 3 2 rfl rfl) [3, 4] rfl rfl (rest := [.int (2 : Int32), .ref (g.2.2 1), .ref a_pad]) rfl rfl (Nat.le_of_ble_eq_true rfl) dX4_faultAs_79 ⟨Nat.le_refl _, Nat.le_refl _⟩) [3, 4] rfl (fun _ => rfl) (fun r3 _ hw => ?_)
          try dsimp only at hw
          refine j_ri C 85 rfl (jc_S C (c_J6_bitCount_0f7a4 l g r3 _ hw) 1 gX4_faultAs_J6_bitCount_0f7a4 rfl rfl rfl hd_J6_bitCount_0f7a4 ⟨Nat.le_of_ble_eq_true rfl, Nat.le_of_ble_eq_true rfl⟩ [] rfl rfl (rest := [.int (2 : Int32), .ref (g.2.2 1), .ref a_pad]) rfl rfl (Nat.le_of_ble_eq_true rfl) dX4_faultAs_82 ⟨Nat.le_refl _, Nat.le_refl _⟩) [] rfl (fun _ => rfl) (fun r4 _ hw => ?_)
          try dsimp only at hw
          refine j_ri C 88 rfl (jc_V C (c_X3_faultOfRuns l g a_pad a_pad_signs a_pad_row v_pad_count f_pad_signs 1 (2 : Int32) r4 (by decide) _ hw) 3 gX4_faultAs_X3_faultOfRuns rfl rfl rfl hd_X3_faultOfRuns ⟨Nat.le_of_ble_eq_true rfl, Nat.le_of_ble_eq_true rfl⟩ (j_rec C 1 3 rfl rfl) [1, 2] rfl rfl (rest := []) rfl rfl (Nat.le_of_ble_eq_true rfl) dX4_faultAs_85 ⟨Nat.le_refl _, Nat.le_refl _⟩) [1, 2] rfl (fun _ => rfl) (fun r5 _ hw => ?_)
          try dsimp only at hw
          exact j_iret C R () rfl dX4_faultAs_88 rfl hw
        · have hw := hw.2 c
          refine j_iconst C 66 rfl dX4_faultAs_65 (v := (1 : Int32)) (by decide) ?_
          exact j_iret C R () rfl dX4_faultAs_66 rfl hw
      · have hw := hw.2 c
        refine j_iconst C 51 rfl dX4_faultAs_50 (v := (0 : Int32)) (by decide) ?_
        exact j_iret C R () rfl dX4_faultAs_51 rfl hw
    · have hw := hw.2 c
      refine j_aload_n C 23 rfl 0 dX4_faultAs_22 rfl rfl ?_
      refine j_get C 26 rfl 0 4 0 (T := TX4) (N := 6) hi_X4_faultAs_X4 rfl (by decide) (List.mem_of_getElem? (i := 1) rfl) rfl rfl rfl dX4_faultAs_23 ?_
      refine j_ldcS1 C 28 rfl dX4_faultAs_26 ?_
      refine j_iconst C 29 rfl dX4_faultAs_28 (v := (0 : Int32)) (by decide) ?_
      refine j_bipush C 31 rfl dX4_faultAs_29 (v := (24 : Int32)) (by decide) ?_
      refine j_ri C 34 rfl (jc_V C (c_X3_faultOfRuns l g a_pad a_pad_signs a_pad_row v_pad_count f_pad_signs 1 (0 : Int32) (24 : Int32) (by decide) _ hw) 3 gX4_faultAs_X3_faultOfRuns rfl rfl rfl hd_X3_faultOfRuns ⟨Nat.le_of_ble_eq_true rfl, Nat.le_of_ble_eq_true rfl⟩ (j_rec C 1 3 rfl rfl) [1, 2] rfl rfl (rest := []) rfl rfl (Nat.le_of_ble_eq_true rfl) dX4_faultAs_31 ⟨Nat.le_refl _, Nat.le_refl _⟩) [1, 2] rfl (fun _ => rfl) (fun r6 _ hw => ?_)
      try dsimp only at hw
      exact j_iret C R () rfl dX4_faultAs_34 rfl hw
  · have hw := hw.2 c
    refine j_aload_n C 5 rfl 0 dX4_faultAs_4 rfl rfl ?_
    refine j_get C 8 rfl 0 4 0 (T := TX4) (N := 6) hi_X4_faultAs_X4 rfl (by decide) (List.mem_of_getElem? (i := 1) rfl) rfl rfl rfl dX4_faultAs_5 ?_
    refine j_ldcS0 C 10 rfl dX4_faultAs_8 ?_
    refine j_iconst C 11 rfl dX4_faultAs_10 (v := (0 : Int32)) (by decide) ?_
    refine j_bipush C 13 rfl dX4_faultAs_11 (v := (24 : Int32)) (by decide) ?_
    refine j_ri C 16 rfl (jc_V C (c_X3_faultOfRuns l g a_pad a_pad_signs a_pad_row v_pad_count f_pad_signs 0 (0 : Int32) (24 : Int32) (by decide) _ hw) 3 gX4_faultAs_X3_faultOfRuns rfl rfl rfl hd_X3_faultOfRuns ⟨Nat.le_of_ble_eq_true rfl, Nat.le_of_ble_eq_true rfl⟩ (j_rec C 1 3 rfl rfl) [1, 2] rfl rfl (rest := []) rfl rfl (Nat.le_of_ble_eq_true rfl) dX4_faultAs_13 ⟨Nat.le_refl _, Nat.le_refl _⟩) [1, 2] rfl (fun _ => rfl) (fun r7 _ hw => ?_)
    try dsimp only at hw
    exact j_iret C R () rfl dX4_faultAs_16 rfl hw
set_option maxRecDepth 20000 in
set_option maxHeartbeats 4000000 in
theorem c_X4_fault (l : Launch) (g : gE) (a_this a_pad a_hill a_images a_fairCut a_bestCut a_leastFence a_pad_signs a_pad_row a_hill_sorts a_hill_owners a_hill_worths a_hill_gave : Nat) (v_pad_count : Int32) (f_pad_signs : (Nat → Int32)) (v_hill_generation : Int32) (v_hill_toll : Int32) (f_hill_owners : (Nat → Int32)) (x1 : Int32)  (K : Int32 → Prop) (hw : wp_X4_fault v_pad_count f_pad_signs v_hill_generation f_hill_owners x1 K) : Ci l g yX4_fault wsX4_fault { frames := 7, cells := 0, slots := 0, locals := 176 } [.ref a_this, .int x1] [(a_this, .inr (4, [.ref a_pad, .ref a_hill, .ref a_images, .ref a_fairCut, .ref a_bestCut, .ref a_leastFence])), (a_pad, .inr (3, [.ref a_pad_signs, .ref a_pad_row, .int v_pad_count])), (a_pad_signs, gC g 60 f_pad_signs), (a_hill, .inr (2, [.ref a_hill_sorts, .ref a_hill_owners, .ref a_hill_worths, .ref a_hill_gave, .int v_hill_generation, .int v_hill_toll])), (a_hill_owners, gI g 504 f_hill_owners)] (fun (r : Int32) (_ : Unit) => K r) (fun (_ : Unit) => [(a_this, .inr (4, [.ref a_pad, .ref a_hill, .ref a_images, .ref a_fairCut, .ref a_bestCut, .ref a_leastFence])), (a_pad, .inr (3, [.ref a_pad_signs, .ref a_pad_row, .int v_pad_count])), (a_pad_signs, gC g 60 f_pad_signs), (a_hill, .inr (2, [.ref a_hill_sorts, .ref a_hill_owners, .ref a_hill_worths, .ref a_hill_gave, .int v_hill_generation, .int v_hill_toll])), (a_hill_owners, gI g 504 f_hill_owners)]) 0 0 := by
  refine Ci_of (cc := cX4_fault) (nL := 2) (ret := (some .int)) (own := RX4) (lv0 := [(0, .ref a_this), (1, .int x1)]) (by decide +kernel) rfl rfl (Nat.le_of_ble_eq_true rfl) rfl (fun A x C R => ?_)
  refine j_iload_n C 1 rfl 1 dX4_fault_0 rfl rfl ?_
  refine j_if_lt C 4 rfl 9 dX4_fault_1 rfl (fun c => ?_) (fun c => ?_)
  · have hw := hw.1 c
    refine j_bipush C 11 rfl dX4_fault_9 (v := (-2 : Int32)) (by decide) ?_
    exact j_iret C R () rfl dX4_fault_11 rfl hw
  · have hw := hw.2 c
    refine j_iload_n C 5 rfl 1 dX4_fault_4 rfl rfl ?_
    refine j_iconst C 6 rfl dX4_fault_5 (v := (2 : Int32)) (by decide) ?_
    refine j_icmp_le C 9 rfl 12 dX4_fault_6 rfl (fun c => ?_) (fun c => ?_)
    · have hw := hw.1 c
      refine j_aload_n C 13 rfl 0 dX4_fault_12 rfl rfl ?_
      refine j_iload_n C 14 rfl 1 dX4_fault_13 rfl rfl ?_
      refine j_ri C 17 rfl (jc_V C (c_X4_faultAs l g a_this a_pad a_hill a_images a_fairCut a_bestCut a_leastFence a_pad_signs a_pad_row a_hill_sorts a_hill_owners a_hill_worths a_hill_gave v_pad_count f_pad_signs v_hill_generation v_hill_toll f_hill_owners x1 _ hw) 1 gX4_fault_X4_faultAs rfl rfl rfl hd_X4_faultAs ⟨Nat.le_of_ble_eq_true rfl, Nat.le_of_ble_eq_true rfl⟩ (j_rec C 0 4 rfl rfl) [0, 1, 2, 3, 4] rfl rfl (rest := []) rfl rfl (Nat.le_of_ble_eq_true rfl) dX4_fault_14 ⟨Nat.le_refl _, Nat.le_refl _⟩) [0, 1, 2, 3, 4] rfl (fun _ => rfl) (fun r1 _ hw => ?_)
      try dsimp only at hw
      exact j_iret C R () rfl dX4_fault_17 rfl hw
    · have hw := hw.2 c
      refine j_bipush C 11 rfl dX4_fault_9 (v := (-2 : Int32)) (by decide) ?_
      exact j_iret C R () rfl dX4_fault_11 rfl hw
theorem hi_X4_forgetCuts_X4 : ∀ w ∈ wsX40, w ∈ wsX4_forgetCuts := fun _ h => List.mem_cons_of_mem _ (List.mem_append_left _ (List.mem_append_right _ h))
set_option maxRecDepth 20000 in
set_option maxHeartbeats 4000000 in
theorem c_X4_forgetCuts (l : Launch) (g : gE) (a_this a_pad a_hill a_images a_fairCut a_bestCut a_leastFence a_fairCut_sums a_fairCut_shares a_fairCut_begins a_fairCut_heirs a_fairCut_foundBegins a_fairCut_foundHeirs a_bestCut_sums a_bestCut_shares a_bestCut_begins a_bestCut_heirs a_bestCut_foundBegins a_bestCut_foundHeirs : Nat) (v_fairCut_fair : Int32) (v_fairCut_n : Int32) (v_fairCut_leastShare : Int32) (v_bestCut_fair : Int32) (v_bestCut_n : Int32) (v_bestCut_leastShare : Int32)   (K : Int32 → Int32 → Prop) (hw : wp_X4_forgetCuts v_fairCut_n v_bestCut_n K) : Cv l g yX4_forgetCuts wsX4_forgetCuts { frames := 1, cells := 0, slots := 0, locals := 20 } [.ref a_this] [(a_this, .inr (4, [.ref a_pad, .ref a_hill, .ref a_images, .ref a_fairCut, .ref a_bestCut, .ref a_leastFence])), (a_fairCut, .inr (0, [.int v_fairCut_fair, .ref a_fairCut_sums, .ref a_fairCut_shares, .ref a_fairCut_begins, .ref a_fairCut_heirs, .ref a_fairCut_foundBegins, .ref a_fairCut_foundHeirs, .int v_fairCut_n, .int v_fairCut_leastShare])), (a_bestCut, .inr (0, [.int v_bestCut_fair, .ref a_bestCut_sums, .ref a_bestCut_shares, .ref a_bestCut_begins, .ref a_bestCut_heirs, .ref a_bestCut_foundBegins, .ref a_bestCut_foundHeirs, .int v_bestCut_n, .int v_bestCut_leastShare]))] (fun (u : Int32 × Int32) => K u.1 u.2) (fun (u : Int32 × Int32) => [(a_this, .inr (4, [.ref a_pad, .ref a_hill, .ref a_images, .ref a_fairCut, .ref a_bestCut, .ref a_leastFence])), (a_fairCut, .inr (0, [.int v_fairCut_fair, .ref a_fairCut_sums, .ref a_fairCut_shares, .ref a_fairCut_begins, .ref a_fairCut_heirs, .ref a_fairCut_foundBegins, .ref a_fairCut_foundHeirs, .int (u.1), .int v_fairCut_leastShare])), (a_bestCut, .inr (0, [.int v_bestCut_fair, .ref a_bestCut_sums, .ref a_bestCut_shares, .ref a_bestCut_begins, .ref a_bestCut_heirs, .ref a_bestCut_foundBegins, .ref a_bestCut_foundHeirs, .int (u.2), .int v_bestCut_leastShare]))]) 0 0 := by
  refine Cv_of (cc := cX4_forgetCuts) (nL := 1) (ret := none) (own := RX4) (lv0 := [(0, .ref a_this)]) (by decide +kernel) rfl rfl (Nat.le_of_ble_eq_true rfl) rfl (fun A x C R => ?_)
  refine j_aload_n C 1 rfl 0 dX4_forgetCuts_0 rfl rfl ?_
  refine j_get C 4 rfl 0 4 3 (T := TX4) (N := 6) hi_X4_forgetCuts_X4 rfl (by decide) (List.mem_of_getElem? (i := 1) rfl) rfl rfl rfl dX4_forgetCuts_1 ?_
  refine j_rwv C 7 rfl (jc_V C (c_X0_forget l g a_fairCut a_fairCut_sums a_fairCut_shares a_fairCut_begins a_fairCut_heirs a_fairCut_foundBegins a_fairCut_foundHeirs v_fairCut_fair v_fairCut_n v_fairCut_leastShare _ hw) 0 gX4_forgetCuts_X0_forget rfl rfl rfl hd_X0_forget ⟨Nat.le_of_ble_eq_true rfl, Nat.le_of_ble_eq_true rfl⟩ (j_rec C 1 0 rfl rfl) [1] rfl rfl (rest := []) rfl rfl (Nat.le_of_ble_eq_true rfl) dX4_forgetCuts_4 ⟨Nat.le_refl _, Nat.le_refl _⟩) [1] [0, 2] [0, 2, 1] (wr := [(a_this, .inr (4, [.ref a_pad, .ref a_hill, .ref a_images, .ref a_fairCut, .ref a_bestCut, .ref a_leastFence])), (a_bestCut, .inr (0, [.int v_bestCut_fair, .ref a_bestCut_sums, .ref a_bestCut_shares, .ref a_bestCut_begins, .ref a_bestCut_heirs, .ref a_bestCut_foundBegins, .ref a_bestCut_foundHeirs, .int v_bestCut_n, .int v_bestCut_leastShare]))]) (ws' := fun u => [(a_this, .inr (4, [.ref a_pad, .ref a_hill, .ref a_images, .ref a_fairCut, .ref a_bestCut, .ref a_leastFence])), (a_fairCut, .inr (0, [.int v_fairCut_fair, .ref a_fairCut_sums, .ref a_fairCut_shares, .ref a_fairCut_begins, .ref a_fairCut_heirs, .ref a_fairCut_foundBegins, .ref a_fairCut_foundHeirs, .int u, .int v_fairCut_leastShare])), (a_bestCut, .inr (0, [.int v_bestCut_fair, .ref a_bestCut_sums, .ref a_bestCut_shares, .ref a_bestCut_begins, .ref a_bestCut_heirs, .ref a_bestCut_foundBegins, .ref a_bestCut_foundHeirs, .int v_bestCut_n, .int v_bestCut_leastShare]))]) rfl rfl rfl (by decide) rfl (fun _ => rfl) (fun u hw => ?_)
  obtain ⟨u1, eu1⟩ : ∃ z, z = u := ⟨_, rfl⟩
  subst eu1
  try dsimp only at hw
  show J l g A x 1 0 0 7 [(0, .ref a_this)] [] [(a_this, .inr (4, [.ref a_pad, .ref a_hill, .ref a_images, .ref a_fairCut, .ref a_bestCut, .ref a_leastFence])), (a_fairCut, .inr (0, [.int v_fairCut_fair, .ref a_fairCut_sums, .ref a_fairCut_shares, .ref a_fairCut_begins, .ref a_fairCut_heirs, .ref a_fairCut_foundBegins, .ref a_fairCut_foundHeirs, .int u1, .int v_fairCut_leastShare])), (a_bestCut, .inr (0, [.int v_bestCut_fair, .ref a_bestCut_sums, .ref a_bestCut_shares, .ref a_bestCut_begins, .ref a_bestCut_heirs, .ref a_bestCut_foundBegins, .ref a_bestCut_foundHeirs, .int v_bestCut_n, .int v_bestCut_leastShare]))]
  refine j_aload_n C 8 rfl 0 dX4_forgetCuts_7 rfl rfl ?_
  refine j_get C 11 rfl 0 4 4 (T := TX4) (N := 6) hi_X4_forgetCuts_X4 rfl (by decide) (List.mem_of_getElem? (i := 2) rfl) rfl rfl rfl dX4_forgetCuts_8 ?_
  refine j_rwv C 14 rfl (jc_V C (c_X0_forget l g a_bestCut a_bestCut_sums a_bestCut_shares a_bestCut_begins a_bestCut_heirs a_bestCut_foundBegins a_bestCut_foundHeirs v_bestCut_fair v_bestCut_n v_bestCut_leastShare _ hw) 0 gX4_forgetCuts_X0_forget rfl rfl rfl hd_X0_forget ⟨Nat.le_of_ble_eq_true rfl, Nat.le_of_ble_eq_true rfl⟩ (j_rec C 2 0 rfl rfl) [2] rfl rfl (rest := []) rfl rfl (Nat.le_of_ble_eq_true rfl) dX4_forgetCuts_11 ⟨Nat.le_refl _, Nat.le_refl _⟩) [2] [0, 1] [0, 1, 2] (wr := [(a_this, .inr (4, [.ref a_pad, .ref a_hill, .ref a_images, .ref a_fairCut, .ref a_bestCut, .ref a_leastFence])), (a_fairCut, .inr (0, [.int v_fairCut_fair, .ref a_fairCut_sums, .ref a_fairCut_shares, .ref a_fairCut_begins, .ref a_fairCut_heirs, .ref a_fairCut_foundBegins, .ref a_fairCut_foundHeirs, .int u1, .int v_fairCut_leastShare]))]) (ws' := fun u => [(a_this, .inr (4, [.ref a_pad, .ref a_hill, .ref a_images, .ref a_fairCut, .ref a_bestCut, .ref a_leastFence])), (a_fairCut, .inr (0, [.int v_fairCut_fair, .ref a_fairCut_sums, .ref a_fairCut_shares, .ref a_fairCut_begins, .ref a_fairCut_heirs, .ref a_fairCut_foundBegins, .ref a_fairCut_foundHeirs, .int u1, .int v_fairCut_leastShare])), (a_bestCut, .inr (0, [.int v_bestCut_fair, .ref a_bestCut_sums, .ref a_bestCut_shares, .ref a_bestCut_begins, .ref a_bestCut_heirs, .ref a_bestCut_foundBegins, .ref a_bestCut_foundHeirs, .int u, .int v_bestCut_leastShare]))]) rfl rfl rfl (by decide) rfl (fun _ => rfl) (fun u hw => ?_)
  obtain ⟨u2, eu2⟩ : ∃ z, z = u := ⟨_, rfl⟩
  subst eu2
  try dsimp only at hw
  show J l g A x 1 0 0 14 [(0, .ref a_this)] [] [(a_this, .inr (4, [.ref a_pad, .ref a_hill, .ref a_images, .ref a_fairCut, .ref a_bestCut, .ref a_leastFence])), (a_fairCut, .inr (0, [.int v_fairCut_fair, .ref a_fairCut_sums, .ref a_fairCut_shares, .ref a_fairCut_begins, .ref a_fairCut_heirs, .ref a_fairCut_foundBegins, .ref a_fairCut_foundHeirs, .int u1, .int v_fairCut_leastShare])), (a_bestCut, .inr (0, [.int v_bestCut_fair, .ref a_bestCut_sums, .ref a_bestCut_shares, .ref a_bestCut_begins, .ref a_bestCut_heirs, .ref a_bestCut_foundBegins, .ref a_bestCut_foundHeirs, .int u2, .int v_bestCut_leastShare]))]
  exact j_vret C R (u1, u2) dX4_forgetCuts_14 rfl hw
set_option maxRecDepth 20000 in
set_option maxHeartbeats 4000000 in
theorem c_X4_isRing (l : Launch) (g : gE)  (x0 : Int32)  (K : Int32 → Prop) (hw : wp_X4_isRing x0 K) : Ci l g yX4_isRing wsX4_isRing { frames := 0, cells := 0, slots := 0, locals := 0 } [.int x0] [] (fun (r : Int32) (_ : Unit) => K r) (fun (_ : Unit) => []) 0 0 := by
  refine Ci_of (cc := cX4_isRing) (nL := 1) (ret := (some .boolean)) (own := RX4) (lv0 := [(0, .int x0)]) (by decide +kernel) rfl rfl (Nat.le_of_ble_eq_true rfl) rfl (fun A x C R => ?_)
  refine j_iload_n C 1 rfl 0 dX4_isRing_0 rfl rfl ?_
  refine j_if_lt C 4 rfl 13 dX4_isRing_1 rfl (fun c => ?_) (fun c => ?_)
  · have hw := hw.1 c
    refine j_iconst C 14 rfl dX4_isRing_13 (v := (0 : Int32)) (by decide) ?_
    exact j_iret C R () rfl dX4_isRing_14 rfl hw
  · have hw := hw.2 c
    refine j_iload_n C 5 rfl 0 dX4_isRing_4 rfl rfl ?_
    refine j_iconst C 6 rfl dX4_isRing_5 (v := (5 : Int32)) (by decide) ?_
    refine j_icmp_ge C 9 rfl 13 dX4_isRing_6 rfl (fun c => ?_) (fun c => ?_)
    · have hw := hw.1 c
      refine j_iconst C 14 rfl dX4_isRing_13 (v := (0 : Int32)) (by decide) ?_
      exact j_iret C R () rfl dX4_isRing_14 rfl hw
    · have hw := hw.2 c
      refine j_iconst C 10 rfl dX4_isRing_9 (v := (1 : Int32)) (by decide) ?_
      refine j_goto C 14 dX4_isRing_10 rfl ?_
      exact j_iret C R () rfl dX4_isRing_14 rfl hw
theorem hi_X4_ring_X4 : ∀ w ∈ wsX40, w ∈ wsX4_ring := fun _ h => List.mem_cons_of_mem _ (List.mem_append_left _ (List.mem_append_left _ (List.mem_append_left _ (List.mem_append_right _ h))))
set_option maxRecDepth 20000 in
set_option maxHeartbeats 4000000 in
theorem c_X4_ring (l : Launch) (g : gE) (a_this a_pad a_hill a_images a_fairCut a_bestCut a_leastFence a_pad_signs a_pad_row a_hill_sorts a_hill_owners a_hill_worths a_hill_gave a_fairCut_sums a_fairCut_shares a_fairCut_begins a_fairCut_heirs a_fairCut_foundBegins a_fairCut_foundHeirs a_bestCut_sums a_bestCut_shares a_bestCut_begins a_bestCut_heirs a_bestCut_foundBegins a_bestCut_foundHeirs : Nat) (v_pad_count : Int32) (f_pad_signs : (Nat → Int32)) (f_pad_row : (Nat → Int32)) (v_hill_generation : Int32) (v_hill_toll : Int32) (f_hill_sorts : (Nat → Int32)) (f_hill_owners : (Nat → Int32)) (v_fairCut_fair : Int32) (v_fairCut_n : Int32) (v_fairCut_leastShare : Int32) (v_bestCut_fair : Int32) (v_bestCut_n : Int32) (v_bestCut_leastShare : Int32) (x1 : Int32)  (K : Int32 → Int32 → (Nat → Int32) → (Nat → Int32) → Int32 → Int32 → Prop) (hw : wp_X4_ring v_pad_count f_pad_signs f_pad_row v_hill_generation f_hill_sorts f_hill_owners v_fairCut_n v_bestCut_n x1 K) : Ci l g yX4_ring wsX4_ring { frames := 7, cells := 0, slots := 0, locals := 176 } [.ref a_this, .int x1] [(a_this, .inr (4, [.ref a_pad, .ref a_hill, .ref a_images, .ref a_fairCut, .ref a_bestCut, .ref a_leastFence])), (a_pad, .inr (3, [.ref a_pad_signs, .ref a_pad_row, .int v_pad_count])), (a_pad_signs, gC g 60 f_pad_signs), (a_pad_row, gI g 24 f_pad_row), (a_hill, .inr (2, [.ref a_hill_sorts, .ref a_hill_owners, .ref a_hill_worths, .ref a_hill_gave, .int v_hill_generation, .int v_hill_toll])), (a_hill_sorts, gI g 120 f_hill_sorts), (a_hill_owners, gI g 504 f_hill_owners), (a_fairCut, .inr (0, [.int v_fairCut_fair, .ref a_fairCut_sums, .ref a_fairCut_shares, .ref a_fairCut_begins, .ref a_fairCut_heirs, .ref a_fairCut_foundBegins, .ref a_fairCut_foundHeirs, .int v_fairCut_n, .int v_fairCut_leastShare])), (a_bestCut, .inr (0, [.int v_bestCut_fair, .ref a_bestCut_sums, .ref a_bestCut_shares, .ref a_bestCut_begins, .ref a_bestCut_heirs, .ref a_bestCut_foundBegins, .ref a_bestCut_foundHeirs, .int v_bestCut_n, .int v_bestCut_leastShare]))] (fun (r : Int32) (u : Int32 × (Nat → Int32) × (Nat → Int32) × Int32 × Int32) => K r u.1 u.2.1 u.2.2.1 u.2.2.2.1 u.2.2.2.2) (fun (u : Int32 × (Nat → Int32) × (Nat → Int32) × Int32 × Int32) => [(a_this, .inr (4, [.ref a_pad, .ref a_hill, .ref a_images, .ref a_fairCut, .ref a_bestCut, .ref a_leastFence])), (a_pad, .inr (3, [.ref a_pad_signs, .ref a_pad_row, .int (u.1)])), (a_pad_signs, gC g 60 f_pad_signs), (a_pad_row, gI g 24 (u.2.1)), (a_hill, .inr (2, [.ref a_hill_sorts, .ref a_hill_owners, .ref a_hill_worths, .ref a_hill_gave, .int v_hill_generation, .int v_hill_toll])), (a_hill_sorts, gI g 120 (u.2.2.1)), (a_hill_owners, gI g 504 f_hill_owners), (a_fairCut, .inr (0, [.int v_fairCut_fair, .ref a_fairCut_sums, .ref a_fairCut_shares, .ref a_fairCut_begins, .ref a_fairCut_heirs, .ref a_fairCut_foundBegins, .ref a_fairCut_foundHeirs, .int (u.2.2.2.1), .int v_fairCut_leastShare])), (a_bestCut, .inr (0, [.int v_bestCut_fair, .ref a_bestCut_sums, .ref a_bestCut_shares, .ref a_bestCut_begins, .ref a_bestCut_heirs, .ref a_bestCut_foundBegins, .ref a_bestCut_foundHeirs, .int (u.2.2.2.2), .int v_bestCut_leastShare]))]) 0 0 := by
  refine Ci_of (cc := cX4_ring) (nL := 2) (ret := (some .int)) (own := RX4) (lv0 := [(0, .ref a_this), (1, .int x1)]) (by decide +kernel) rfl rfl (Nat.le_of_ble_eq_true rfl) rfl (fun A x C R => ?_)
  refine j_iload_n C 1 rfl 1 dX4_ring_0 rfl rfl ?_
  refine j_ri C 4 rfl (jc_S C (c_X4_isRing l g x1 _ hw) 1 gX4_ring_X4_isRing rfl rfl rfl hd_X4_isRing ⟨Nat.le_of_ble_eq_true rfl, Nat.le_of_ble_eq_true rfl⟩ [] rfl rfl (rest := []) rfl rfl (Nat.le_of_ble_eq_true rfl) dX4_ring_1 ⟨Nat.le_refl _, Nat.le_refl _⟩) [] rfl (fun _ => rfl) (fun r1 _ hw => ?_)
  try dsimp only at hw
  refine j_if_ne C 7 rfl 9 dX4_ring_4 rfl (fun c => ?_) (fun c => ?_)
  · have hw := hw.1 c
    refine j_aload_n C 10 rfl 0 dX4_ring_9 rfl rfl ?_
    refine j_iconst C 11 rfl dX4_ring_10 (v := (0 : Int32)) (by decide) ?_
    refine j_ri C 14 rfl (jc_V C (c_X4_faultAs l g a_this a_pad a_hill a_images a_fairCut a_bestCut a_leastFence a_pad_signs a_pad_row a_hill_sorts a_hill_owners a_hill_worths a_hill_gave v_pad_count f_pad_signs v_hill_generation v_hill_toll f_hill_owners (0 : Int32) _ hw) 1 gX4_ring_X4_faultAs rfl rfl rfl hd_X4_faultAs ⟨Nat.le_of_ble_eq_true rfl, Nat.le_of_ble_eq_true rfl⟩ (j_rec C 0 4 rfl rfl) [0, 1, 2, 4, 6] rfl rfl (rest := []) rfl rfl (Nat.le_of_ble_eq_true rfl) dX4_ring_11 ⟨Nat.le_refl _, Nat.le_refl _⟩) [0, 1, 2, 4, 6] rfl (fun _ => rfl) (fun r2 _ hw => ?_)
    try dsimp only at hw
    refine j_bipush C 16 rfl dX4_ring_14 (v := (-6 : Int32)) (by decide) ?_
    refine j_icmp_eq C 19 rfl 22 dX4_ring_16 rfl (fun c => ?_) (fun c => ?_)
    · have hw := hw.1 c
      refine j_aload_n C 23 rfl 0 dX4_ring_22 rfl rfl ?_
      refine j_get C 26 rfl 0 4 1 (T := TX4) (N := 6) hi_X4_ring_X4 rfl (by decide) (List.mem_of_getElem? (i := 1) rfl) rfl rfl rfl dX4_ring_23 ?_
      refine j_iload_n C 27 rfl 1 dX4_ring_26 rfl rfl ?_
      refine j_aload_n C 28 rfl 0 dX4_ring_27 rfl rfl ?_
      refine j_get C 31 rfl 0 4 0 (T := TX4) (N := 6) hi_X4_ring_X4 rfl (by decide) (List.mem_of_getElem? (i := 2) rfl) rfl rfl rfl dX4_ring_28 ?_
      refine j_ldcS0 C 33 rfl dX4_ring_31 ?_
      refine j_iconst C 34 rfl dX4_ring_33 (v := (0 : Int32)) (by decide) ?_
      refine j_rwr C 37 rfl (jc_V C (c_X3_readRuns l g a_pad a_pad_signs a_pad_row v_pad_count f_pad_signs f_pad_row 0 (0 : Int32) (by decide) _ hw) 2 gX4_ring_X3_readRuns rfl rfl rfl hd_X3_readRuns ⟨Nat.le_of_ble_eq_true rfl, Nat.le_of_ble_eq_true rfl⟩ (j_rec C 1 3 rfl rfl) [1, 2, 3] rfl rfl (rest := [.int x1, .ref a_hill]) rfl rfl (Nat.le_of_ble_eq_true rfl) dX4_ring_34 ⟨Nat.le_refl _, Nat.le_refl _⟩) [1, 2, 3] [0, 4, 5, 6, 7, 8] [0, 6, 7, 8, 1, 2, 3, 4, 5] (wr := [(a_this, .inr (4, [.ref a_pad, .ref a_hill, .ref a_images, .ref a_fairCut, .ref a_bestCut, .ref a_leastFence])), (a_hill, .inr (2, [.ref a_hill_sorts, .ref a_hill_owners, .ref a_hill_worths, .ref a_hill_gave, .int v_hill_generation, .int v_hill_toll])), (a_hill_sorts, gI g 120 f_hill_sorts), (a_hill_owners, gI g 504 f_hill_owners), (a_fairCut, .inr (0, [.int v_fairCut_fair, .ref a_fairCut_sums, .ref a_fairCut_shares, .ref a_fairCut_begins, .ref a_fairCut_heirs, .ref a_fairCut_foundBegins, .ref a_fairCut_foundHeirs, .int v_fairCut_n, .int v_fairCut_leastShare])), (a_bestCut, .inr (0, [.int v_bestCut_fair, .ref a_bestCut_sums, .ref a_bestCut_shares, .ref a_bestCut_begins, .ref a_bestCut_heirs, .ref a_bestCut_foundBegins, .ref a_bestCut_foundHeirs, .int v_bestCut_n, .int v_bestCut_leastShare]))]) (ws' := fun u => [(a_this, .inr (4, [.ref a_pad, .ref a_hill, .ref a_images, .ref a_fairCut, .ref a_bestCut, .ref a_leastFence])), (a_pad, .inr (3, [.ref a_pad_signs, .ref a_pad_row, .int v_pad_count])), (a_pad_signs, gC g 60 f_pad_signs), (a_pad_row, gI g 24 u), (a_hill, .inr (2, [.ref a_hill_sorts, .ref a_hill_owners, .ref a_hill_worths, .ref a_hill_gave, .int v_hill_generation, .int v_hill_toll])), (a_hill_sorts, gI g 120 f_hill_sorts), (a_hill_owners, gI g 504 f_hill_owners), (a_fairCut, .inr (0, [.int v_fairCut_fair, .ref a_fairCut_sums, .ref a_fairCut_shares, .ref a_fairCut_begins, .ref a_fairCut_heirs, .ref a_fairCut_foundBegins, .ref a_fairCut_foundHeirs, .int v_fairCut_n, .int v_fairCut_leastShare])), (a_bestCut, .inr (0, [.int v_bestCut_fair, .ref a_bestCut_sums, .ref a_bestCut_shares, .ref a_bestCut_begins, .ref a_bestCut_heirs, .ref a_bestCut_foundBegins, .ref a_bestCut_foundHeirs, .int v_bestCut_n, .int v_bestCut_leastShare]))]) rfl rfl rfl (by decide) rfl (fun _ => rfl) (fun u hw => ?_)
      obtain ⟨u3, eu3⟩ : ∃ z, z = u := ⟨_, rfl⟩
      subst eu3
      try dsimp only at hw
      show J l g A x 2 0 0 37 [(0, .ref a_this), (1, .int x1)] [.ref a_pad_row, .int x1, .ref a_hill] [(a_this, .inr (4, [.ref a_pad, .ref a_hill, .ref a_images, .ref a_fairCut, .ref a_bestCut, .ref a_leastFence])), (a_pad, .inr (3, [.ref a_pad_signs, .ref a_pad_row, .int v_pad_count])), (a_pad_signs, gC g 60 f_pad_signs), (a_pad_row, gI g 24 u3), (a_hill, .inr (2, [.ref a_hill_sorts, .ref a_hill_owners, .ref a_hill_worths, .ref a_hill_gave, .int v_hill_generation, .int v_hill_toll])), (a_hill_sorts, gI g 120 f_hill_sorts), (a_hill_owners, gI g 504 f_hill_owners), (a_fairCut, .inr (0, [.int v_fairCut_fair, .ref a_fairCut_sums, .ref a_fairCut_shares, .ref a_fairCut_begins, .ref a_fairCut_heirs, .ref a_fairCut_foundBegins, .ref a_fairCut_foundHeirs, .int v_fairCut_n, .int v_fairCut_leastShare])), (a_bestCut, .inr (0, [.int v_bestCut_fair, .ref a_bestCut_sums, .ref a_bestCut_shares, .ref a_bestCut_begins, .ref a_bestCut_heirs, .ref a_bestCut_foundBegins, .ref a_bestCut_foundHeirs, .int v_bestCut_n, .int v_bestCut_leastShare]))]
      refine j_rwv C 40 rfl (jc_V C (c_X2_setRing l g a_hill a_hill_sorts a_hill_owners a_hill_worths a_hill_gave a_pad_row v_hill_generation v_hill_toll f_hill_sorts u3 x1 _ hw) 2 gX4_ring_X2_setRing rfl rfl rfl hd_X2_setRing ⟨Nat.le_of_ble_eq_true rfl, Nat.le_of_ble_eq_true rfl⟩ (j_rec C 4 2 rfl rfl) [4, 5, 3] rfl rfl (rest := []) rfl rfl (Nat.le_of_ble_eq_true rfl) dX4_ring_37 ⟨Nat.le_refl _, Nat.le_refl _⟩) [4, 5, 3] [0, 1, 2, 6, 7, 8] [0, 1, 2, 8, 6, 7, 3, 4, 5] (wr := [(a_this, .inr (4, [.ref a_pad, .ref a_hill, .ref a_images, .ref a_fairCut, .ref a_bestCut, .ref a_leastFence])), (a_pad, .inr (3, [.ref a_pad_signs, .ref a_pad_row, .int v_pad_count])), (a_pad_signs, gC g 60 f_pad_signs), (a_hill_owners, gI g 504 f_hill_owners), (a_fairCut, .inr (0, [.int v_fairCut_fair, .ref a_fairCut_sums, .ref a_fairCut_shares, .ref a_fairCut_begins, .ref a_fairCut_heirs, .ref a_fairCut_foundBegins, .ref a_fairCut_foundHeirs, .int v_fairCut_n, .int v_fairCut_leastShare])), (a_bestCut, .inr (0, [.int v_bestCut_fair, .ref a_bestCut_sums, .ref a_bestCut_shares, .ref a_bestCut_begins, .ref a_bestCut_heirs, .ref a_bestCut_foundBegins, .ref a_bestCut_foundHeirs, .int v_bestCut_n, .int v_bestCut_leastShare]))]) (ws' := fun u => [(a_this, .inr (4, [.ref a_pad, .ref a_hill, .ref a_images, .ref a_fairCut, .ref a_bestCut, .ref a_leastFence])), (a_pad, .inr (3, [.ref a_pad_signs, .ref a_pad_row, .int v_pad_count])), (a_pad_signs, gC g 60 f_pad_signs), (a_pad_row, gI g 24 u3), (a_hill, .inr (2, [.ref a_hill_sorts, .ref a_hill_owners, .ref a_hill_worths, .ref a_hill_gave, .int v_hill_generation, .int v_hill_toll])), (a_hill_sorts, gI g 120 u), (a_hill_owners, gI g 504 f_hill_owners), (a_fairCut, .inr (0, [.int v_fairCut_fair, .ref a_fairCut_sums, .ref a_fairCut_shares, .ref a_fairCut_begins, .ref a_fairCut_heirs, .ref a_fairCut_foundBegins, .ref a_fairCut_foundHeirs, .int v_fairCut_n, .int v_fairCut_leastShare])), (a_bestCut, .inr (0, [.int v_bestCut_fair, .ref a_bestCut_sums, .ref a_bestCut_shares, .ref a_bestCut_begins, .ref a_bestCut_heirs, .ref a_bestCut_foundBegins, .ref a_bestCut_foundHeirs, .int v_bestCut_n, .int v_bestCut_leastShare]))]) rfl rfl rfl (by decide) rfl (fun _ => rfl) (fun u hw => ?_)
      obtain ⟨u4, eu4⟩ : ∃ z, z = u := ⟨_, rfl⟩
      subst eu4
      try dsimp only at hw
      show J l g A x 2 0 0 40 [(0, .ref a_this), (1, .int x1)] [] [(a_this, .inr (4, [.ref a_pad, .ref a_hill, .ref a_images, .ref a_fairCut, .ref a_bestCut, .ref a_leastFence])), (a_pad, .inr (3, [.ref a_pad_signs, .ref a_pad_row, .int v_pad_count])), (a_pad_signs, gC g 60 f_pad_signs), (a_pad_row, gI g 24 u3), (a_hill, .inr (2, [.ref a_hill_sorts, .ref a_hill_owners, .ref a_hill_worths, .ref a_hill_gave, .int v_hill_generation, .int v_hill_toll])), (a_hill_sorts, gI g 120 u4), (a_hill_owners, gI g 504 f_hill_owners), (a_fairCut, .inr (0, [.int v_fairCut_fair, .ref a_fairCut_sums, .ref a_fairCut_shares, .ref a_fairCut_begins, .ref a_fairCut_heirs, .ref a_fairCut_foundBegins, .ref a_fairCut_foundHeirs, .int v_fairCut_n, .int v_fairCut_leastShare])), (a_bestCut, .inr (0, [.int v_bestCut_fair, .ref a_bestCut_sums, .ref a_bestCut_shares, .ref a_bestCut_begins, .ref a_bestCut_heirs, .ref a_bestCut_foundBegins, .ref a_bestCut_foundHeirs, .int v_bestCut_n, .int v_bestCut_leastShare]))]
      refine j_aload_n C 41 rfl 0 dX4_ring_40 rfl rfl ?_
      refine j_rwv C 44 rfl (jc_V C (c_X4_forgetCuts l g a_this a_pad a_hill a_images a_fairCut a_bestCut a_leastFence a_fairCut_sums a_fairCut_shares a_fairCut_begins a_fairCut_heirs a_fairCut_foundBegins a_fairCut_foundHeirs a_bestCut_sums a_bestCut_shares a_bestCut_begins a_bestCut_heirs a_bestCut_foundBegins a_bestCut_foundHeirs v_fairCut_fair v_fairCut_n v_fairCut_leastShare v_bestCut_fair v_bestCut_n v_bestCut_leastShare _ hw) 0 gX4_ring_X4_forgetCuts rfl rfl rfl hd_X4_forgetCuts ⟨Nat.le_of_ble_eq_true rfl, Nat.le_of_ble_eq_true rfl⟩ (j_rec C 0 4 rfl rfl) [0, 7, 8] rfl rfl (rest := []) rfl rfl (Nat.le_of_ble_eq_true rfl) dX4_ring_41 ⟨Nat.le_refl _, Nat.le_refl _⟩) [0, 7, 8] [1, 2, 3, 4, 5, 6] [6, 0, 1, 2, 3, 4, 5, 7, 8] (wr := [(a_pad, .inr (3, [.ref a_pad_signs, .ref a_pad_row, .int v_pad_count])), (a_pad_signs, gC g 60 f_pad_signs), (a_pad_row, gI g 24 u3), (a_hill, .inr (2, [.ref a_hill_sorts, .ref a_hill_owners, .ref a_hill_worths, .ref a_hill_gave, .int v_hill_generation, .int v_hill_toll])), (a_hill_sorts, gI g 120 u4), (a_hill_owners, gI g 504 f_hill_owners)]) (ws' := fun u => [(a_this, .inr (4, [.ref a_pad, .ref a_hill, .ref a_images, .ref a_fairCut, .ref a_bestCut, .ref a_leastFence])), (a_pad, .inr (3, [.ref a_pad_signs, .ref a_pad_row, .int v_pad_count])), (a_pad_signs, gC g 60 f_pad_signs), (a_pad_row, gI g 24 u3), (a_hill, .inr (2, [.ref a_hill_sorts, .ref a_hill_owners, .ref a_hill_worths, .ref a_hill_gave, .int v_hill_generation, .int v_hill_toll])), (a_hill_sorts, gI g 120 u4), (a_hill_owners, gI g 504 f_hill_owners), (a_fairCut, .inr (0, [.int v_fairCut_fair, .ref a_fairCut_sums, .ref a_fairCut_shares, .ref a_fairCut_begins, .ref a_fairCut_heirs, .ref a_fairCut_foundBegins, .ref a_fairCut_foundHeirs, .int (u.1), .int v_fairCut_leastShare])), (a_bestCut, .inr (0, [.int v_bestCut_fair, .ref a_bestCut_sums, .ref a_bestCut_shares, .ref a_bestCut_begins, .ref a_bestCut_heirs, .ref a_bestCut_foundBegins, .ref a_bestCut_foundHeirs, .int (u.2), .int v_bestCut_leastShare]))]) rfl rfl rfl (by decide) rfl (fun _ => rfl) (fun u hw => ?_)
      obtain ⟨u5, u6⟩ := u
      try dsimp only at hw
      show J l g A x 2 0 0 44 [(0, .ref a_this), (1, .int x1)] [] [(a_this, .inr (4, [.ref a_pad, .ref a_hill, .ref a_images, .ref a_fairCut, .ref a_bestCut, .ref a_leastFence])), (a_pad, .inr (3, [.ref a_pad_signs, .ref a_pad_row, .int v_pad_count])), (a_pad_signs, gC g 60 f_pad_signs), (a_pad_row, gI g 24 u3), (a_hill, .inr (2, [.ref a_hill_sorts, .ref a_hill_owners, .ref a_hill_worths, .ref a_hill_gave, .int v_hill_generation, .int v_hill_toll])), (a_hill_sorts, gI g 120 u4), (a_hill_owners, gI g 504 f_hill_owners), (a_fairCut, .inr (0, [.int v_fairCut_fair, .ref a_fairCut_sums, .ref a_fairCut_shares, .ref a_fairCut_begins, .ref a_fairCut_heirs, .ref a_fairCut_foundBegins, .ref a_fairCut_foundHeirs, .int u5, .int v_fairCut_leastShare])), (a_bestCut, .inr (0, [.int v_bestCut_fair, .ref a_bestCut_sums, .ref a_bestCut_shares, .ref a_bestCut_begins, .ref a_bestCut_heirs, .ref a_bestCut_foundBegins, .ref a_bestCut_foundHeirs, .int u6, .int v_bestCut_leastShare]))]
      refine j_aload_n C 45 rfl 0 dX4_ring_44 rfl rfl ?_
      refine j_get C 48 rfl 0 4 0 (T := TX4) (N := 6) hi_X4_ring_X4 rfl (by decide) (List.mem_of_getElem? (i := 2) rfl) rfl rfl rfl dX4_ring_45 ?_
      refine j_rwi C 51 rfl (jc_V C (c_X3_empty l g a_pad a_pad_signs a_pad_row v_pad_count _ hw) 0 gX4_ring_X3_empty rfl rfl rfl hd_X3_empty ⟨Nat.le_of_ble_eq_true rfl, Nat.le_of_ble_eq_true rfl⟩ (j_rec C 1 3 rfl rfl) [1] rfl rfl (rest := []) rfl rfl (Nat.le_of_ble_eq_true rfl) dX4_ring_48 ⟨Nat.le_refl _, Nat.le_refl _⟩) [1] [0, 2, 3, 4, 5, 6, 7, 8] [0, 8, 1, 2, 3, 4, 5, 6, 7] (wr := [(a_this, .inr (4, [.ref a_pad, .ref a_hill, .ref a_images, .ref a_fairCut, .ref a_bestCut, .ref a_leastFence])), (a_pad_signs, gC g 60 f_pad_signs), (a_pad_row, gI g 24 u3), (a_hill, .inr (2, [.ref a_hill_sorts, .ref a_hill_owners, .ref a_hill_worths, .ref a_hill_gave, .int v_hill_generation, .int v_hill_toll])), (a_hill_sorts, gI g 120 u4), (a_hill_owners, gI g 504 f_hill_owners), (a_fairCut, .inr (0, [.int v_fairCut_fair, .ref a_fairCut_sums, .ref a_fairCut_shares, .ref a_fairCut_begins, .ref a_fairCut_heirs, .ref a_fairCut_foundBegins, .ref a_fairCut_foundHeirs, .int u5, .int v_fairCut_leastShare])), (a_bestCut, .inr (0, [.int v_bestCut_fair, .ref a_bestCut_sums, .ref a_bestCut_shares, .ref a_bestCut_begins, .ref a_bestCut_heirs, .ref a_bestCut_foundBegins, .ref a_bestCut_foundHeirs, .int u6, .int v_bestCut_leastShare]))]) (ws' := fun u => [(a_this, .inr (4, [.ref a_pad, .ref a_hill, .ref a_images, .ref a_fairCut, .ref a_bestCut, .ref a_leastFence])), (a_pad, .inr (3, [.ref a_pad_signs, .ref a_pad_row, .int u])), (a_pad_signs, gC g 60 f_pad_signs), (a_pad_row, gI g 24 u3), (a_hill, .inr (2, [.ref a_hill_sorts, .ref a_hill_owners, .ref a_hill_worths, .ref a_hill_gave, .int v_hill_generation, .int v_hill_toll])), (a_hill_sorts, gI g 120 u4), (a_hill_owners, gI g 504 f_hill_owners), (a_fairCut, .inr (0, [.int v_fairCut_fair, .ref a_fairCut_sums, .ref a_fairCut_shares, .ref a_fairCut_begins, .ref a_fairCut_heirs, .ref a_fairCut_foundBegins, .ref a_fairCut_foundHeirs, .int u5, .int v_fairCut_leastShare])), (a_bestCut, .inr (0, [.int v_bestCut_fair, .ref a_bestCut_sums, .ref a_bestCut_shares, .ref a_bestCut_begins, .ref a_bestCut_heirs, .ref a_bestCut_foundBegins, .ref a_bestCut_foundHeirs, .int u6, .int v_bestCut_leastShare]))]) rfl rfl rfl (by decide) rfl (fun _ => rfl) (fun r7 u hw => ?_)
      obtain ⟨u8, eu8⟩ : ∃ z, z = u := ⟨_, rfl⟩
      subst eu8
      try dsimp only at hw
      show J l g A x 2 0 0 51 [(0, .ref a_this), (1, .int x1)] [.int r7] [(a_this, .inr (4, [.ref a_pad, .ref a_hill, .ref a_images, .ref a_fairCut, .ref a_bestCut, .ref a_leastFence])), (a_pad, .inr (3, [.ref a_pad_signs, .ref a_pad_row, .int u8])), (a_pad_signs, gC g 60 f_pad_signs), (a_pad_row, gI g 24 u3), (a_hill, .inr (2, [.ref a_hill_sorts, .ref a_hill_owners, .ref a_hill_worths, .ref a_hill_gave, .int v_hill_generation, .int v_hill_toll])), (a_hill_sorts, gI g 120 u4), (a_hill_owners, gI g 504 f_hill_owners), (a_fairCut, .inr (0, [.int v_fairCut_fair, .ref a_fairCut_sums, .ref a_fairCut_shares, .ref a_fairCut_begins, .ref a_fairCut_heirs, .ref a_fairCut_foundBegins, .ref a_fairCut_foundHeirs, .int u5, .int v_fairCut_leastShare])), (a_bestCut, .inr (0, [.int v_bestCut_fair, .ref a_bestCut_sums, .ref a_bestCut_shares, .ref a_bestCut_begins, .ref a_bestCut_heirs, .ref a_bestCut_foundBegins, .ref a_bestCut_foundHeirs, .int u6, .int v_bestCut_leastShare]))]
      refine j_iconst C 52 rfl dX4_ring_51 (v := (2 : Int32)) (by decide) ?_
      refine j_idiv C 53 rfl dX4_ring_52 (by decide) ?_
      exact j_iret C R (u8, u3, u4, u5, u6) rfl dX4_ring_53 rfl hw
    · have hw := hw.2 c
      refine j_bipush C 21 rfl dX4_ring_19 (v := (-5 : Int32)) (by decide) ?_
      exact j_iret C R (v_pad_count, f_pad_row, f_hill_sorts, v_fairCut_n, v_bestCut_n) rfl dX4_ring_21 rfl hw
  · have hw := hw.2 c
    refine j_iconst C 8 rfl dX4_ring_7 (v := (-1 : Int32)) (by decide) ?_
    exact j_iret C R (v_pad_count, f_pad_row, f_hill_sorts, v_fairCut_n, v_bestCut_n) rfl dX4_ring_8 rfl hw
theorem hi_X4_slices_X4 : ∀ w ∈ wsX40, w ∈ wsX4_slices := fun _ h => List.mem_cons_of_mem _ (List.mem_append_left _ (List.mem_append_left _ (List.mem_append_right _ h)))
set_option maxRecDepth 20000 in
set_option maxHeartbeats 4000000 in
theorem c_X4_slices (l : Launch) (g : gE) (a_this a_pad a_hill a_images a_fairCut a_bestCut a_leastFence a_pad_signs a_pad_row a_hill_sorts a_hill_owners a_hill_worths a_hill_gave : Nat) (v_pad_count : Int32) (f_pad_signs : (Nat → Int32)) (f_pad_row : (Nat → Int32)) (v_hill_generation : Int32) (v_hill_toll : Int32) (f_hill_owners : (Nat → Int32))   (K : Int32 → Int32 → (Nat → Int32) → Int32 → (Nat → Int32) → Prop) (hw : wp_X4_slices v_pad_count f_pad_signs f_pad_row v_hill_generation f_hill_owners K) : Ci l g yX4_slices wsX4_slices { frames := 7, cells := 0, slots := 0, locals := 176 } [.ref a_this] [(a_this, .inr (4, [.ref a_pad, .ref a_hill, .ref a_images, .ref a_fairCut, .ref a_bestCut, .ref a_leastFence])), (a_pad, .inr (3, [.ref a_pad_signs, .ref a_pad_row, .int v_pad_count])), (a_pad_signs, gC g 60 f_pad_signs), (a_pad_row, gI g 24 f_pad_row), (a_hill, .inr (2, [.ref a_hill_sorts, .ref a_hill_owners, .ref a_hill_worths, .ref a_hill_gave, .int v_hill_generation, .int v_hill_toll])), (a_hill_owners, gI g 504 f_hill_owners)] (fun (r : Int32) (u : Int32 × (Nat → Int32) × Int32 × (Nat → Int32)) => K r u.1 u.2.1 u.2.2.1 u.2.2.2) (fun (u : Int32 × (Nat → Int32) × Int32 × (Nat → Int32)) => [(a_this, .inr (4, [.ref a_pad, .ref a_hill, .ref a_images, .ref a_fairCut, .ref a_bestCut, .ref a_leastFence])), (a_pad, .inr (3, [.ref a_pad_signs, .ref a_pad_row, .int (u.1)])), (a_pad_signs, gC g 60 f_pad_signs), (a_pad_row, gI g 24 (u.2.1)), (a_hill, .inr (2, [.ref a_hill_sorts, .ref a_hill_owners, .ref a_hill_worths, .ref a_hill_gave, .int (u.2.2.1), .int v_hill_toll])), (a_hill_owners, gI g 504 (u.2.2.2))]) 0 0 := by
  refine Ci_of (cc := cX4_slices) (nL := 1) (ret := (some .int)) (own := RX4) (lv0 := [(0, .ref a_this)]) (by decide +kernel) rfl rfl (Nat.le_of_ble_eq_true rfl) rfl (fun A x C R => ?_)
  refine j_aload_n C 1 rfl 0 dX4_slices_0 rfl rfl ?_
  refine j_iconst C 2 rfl dX4_slices_1 (v := (1 : Int32)) (by decide) ?_
  refine j_ri C 5 rfl (jc_V C (c_X4_faultAs l g a_this a_pad a_hill a_images a_fairCut a_bestCut a_leastFence a_pad_signs a_pad_row a_hill_sorts a_hill_owners a_hill_worths a_hill_gave v_pad_count f_pad_signs v_hill_generation v_hill_toll f_hill_owners (1 : Int32) _ hw) 1 gX4_slices_X4_faultAs rfl rfl rfl hd_X4_faultAs ⟨Nat.le_of_ble_eq_true rfl, Nat.le_of_ble_eq_true rfl⟩ (j_rec C 0 4 rfl rfl) [0, 1, 2, 4, 5] rfl rfl (rest := []) rfl rfl (Nat.le_of_ble_eq_true rfl) dX4_slices_2 ⟨Nat.le_refl _, Nat.le_refl _⟩) [0, 1, 2, 4, 5] rfl (fun _ => rfl) (fun r1 _ hw => ?_)
  try dsimp only at hw
  refine j_bipush C 7 rfl dX4_slices_5 (v := (-6 : Int32)) (by decide) ?_
  refine j_icmp_eq C 10 rfl 13 dX4_slices_7 rfl (fun c => ?_) (fun c => ?_)
  · have hw := hw.1 c
    refine j_aload_n C 14 rfl 0 dX4_slices_13 rfl rfl ?_
    refine j_get C 17 rfl 0 4 1 (T := TX4) (N := 6) hi_X4_slices_X4 rfl (by decide) (List.mem_of_getElem? (i := 1) rfl) rfl rfl rfl dX4_slices_14 ?_
    refine j_aload_n C 18 rfl 0 dX4_slices_17 rfl rfl ?_
    refine j_get C 21 rfl 0 4 0 (T := TX4) (N := 6) hi_X4_slices_X4 rfl (by decide) (List.mem_of_getElem? (i := 2) rfl) rfl rfl rfl dX4_slices_18 ?_
    refine j_ldcS1 C 23 rfl dX4_slices_21 ?_
    refine j_iconst C 24 rfl dX4_slices_23 (v := (0 : Int32)) (by decide) ?_
    refine j_rwr C 27 rfl (jc_V C (c_X3_readRuns l g a_pad a_pad_signs a_pad_row v_pad_count f_pad_signs f_pad_row 1 (0 : Int32) (by decide) _ hw) 2 gX4_slices_X3_readRuns rfl rfl rfl hd_X3_readRuns ⟨Nat.le_of_ble_eq_true rfl, Nat.le_of_ble_eq_true rfl⟩ (j_rec C 1 3 rfl rfl) [1, 2, 3] rfl rfl (rest := [.ref a_hill]) rfl rfl (Nat.le_of_ble_eq_true rfl) dX4_slices_24 ⟨Nat.le_refl _, Nat.le_refl _⟩) [1, 2, 3] [0, 4, 5] [0, 3, 4, 5, 1, 2] (wr := [(a_this, .inr (4, [.ref a_pad, .ref a_hill, .ref a_images, .ref a_fairCut, .ref a_bestCut, .ref a_leastFence])), (a_hill, .inr (2, [.ref a_hill_sorts, .ref a_hill_owners, .ref a_hill_worths, .ref a_hill_gave, .int v_hill_generation, .int v_hill_toll])), (a_hill_owners, gI g 504 f_hill_owners)]) (ws' := fun u => [(a_this, .inr (4, [.ref a_pad, .ref a_hill, .ref a_images, .ref a_fairCut, .ref a_bestCut, .ref a_leastFence])), (a_pad, .inr (3, [.ref a_pad_signs, .ref a_pad_row, .int v_pad_count])), (a_pad_signs, gC g 60 f_pad_signs), (a_pad_row, gI g 24 u), (a_hill, .inr (2, [.ref a_hill_sorts, .ref a_hill_owners, .ref a_hill_worths, .ref a_hill_gave, .int v_hill_generation, .int v_hill_toll])), (a_hill_owners, gI g 504 f_hill_owners)]) rfl rfl rfl (by decide) rfl (fun _ => rfl) (fun u hw => ?_)
    obtain ⟨u2, eu2⟩ : ∃ z, z = u := ⟨_, rfl⟩
    subst eu2
    try dsimp only at hw
    show J l g A x 1 0 0 27 [(0, .ref a_this)] [.ref a_pad_row, .ref a_hill] [(a_this, .inr (4, [.ref a_pad, .ref a_hill, .ref a_images, .ref a_fairCut, .ref a_bestCut, .ref a_leastFence])), (a_pad, .inr (3, [.ref a_pad_signs, .ref a_pad_row, .int v_pad_count])), (a_pad_signs, gC g 60 f_pad_signs), (a_pad_row, gI g 24 u2), (a_hill, .inr (2, [.ref a_hill_sorts, .ref a_hill_owners, .ref a_hill_worths, .ref a_hill_gave, .int v_hill_generation, .int v_hill_toll])), (a_hill_owners, gI g 504 f_hill_owners)]
    refine j_rwv C 30 rfl (jc_V C (c_X2_setSlices l g a_hill a_hill_sorts a_hill_owners a_hill_worths a_hill_gave a_pad_row v_hill_generation v_hill_toll f_hill_owners u2 _ hw) 1 gX4_slices_X2_setSlices rfl rfl rfl hd_X2_setSlices ⟨Nat.le_of_ble_eq_true rfl, Nat.le_of_ble_eq_true rfl⟩ (j_rec C 4 2 rfl rfl) [4, 5, 3] rfl rfl (rest := []) rfl rfl (Nat.le_of_ble_eq_true rfl) dX4_slices_27 ⟨Nat.le_refl _, Nat.le_refl _⟩) [4, 5, 3] [0, 1, 2] [0, 1, 2, 5, 3, 4] (wr := [(a_this, .inr (4, [.ref a_pad, .ref a_hill, .ref a_images, .ref a_fairCut, .ref a_bestCut, .ref a_leastFence])), (a_pad, .inr (3, [.ref a_pad_signs, .ref a_pad_row, .int v_pad_count])), (a_pad_signs, gC g 60 f_pad_signs)]) (ws' := fun u => [(a_this, .inr (4, [.ref a_pad, .ref a_hill, .ref a_images, .ref a_fairCut, .ref a_bestCut, .ref a_leastFence])), (a_pad, .inr (3, [.ref a_pad_signs, .ref a_pad_row, .int v_pad_count])), (a_pad_signs, gC g 60 f_pad_signs), (a_pad_row, gI g 24 u2), (a_hill, .inr (2, [.ref a_hill_sorts, .ref a_hill_owners, .ref a_hill_worths, .ref a_hill_gave, .int (u.1), .int v_hill_toll])), (a_hill_owners, gI g 504 (u.2))]) rfl rfl rfl (by decide) rfl (fun _ => rfl) (fun u hw => ?_)
    obtain ⟨u3, u4⟩ := u
    try dsimp only at hw
    show J l g A x 1 0 0 30 [(0, .ref a_this)] [] [(a_this, .inr (4, [.ref a_pad, .ref a_hill, .ref a_images, .ref a_fairCut, .ref a_bestCut, .ref a_leastFence])), (a_pad, .inr (3, [.ref a_pad_signs, .ref a_pad_row, .int v_pad_count])), (a_pad_signs, gC g 60 f_pad_signs), (a_pad_row, gI g 24 u2), (a_hill, .inr (2, [.ref a_hill_sorts, .ref a_hill_owners, .ref a_hill_worths, .ref a_hill_gave, .int u3, .int v_hill_toll])), (a_hill_owners, gI g 504 u4)]
    refine j_aload_n C 31 rfl 0 dX4_slices_30 rfl rfl ?_
    refine j_get C 34 rfl 0 4 0 (T := TX4) (N := 6) hi_X4_slices_X4 rfl (by decide) (List.mem_of_getElem? (i := 2) rfl) rfl rfl rfl dX4_slices_31 ?_
    refine j_rwi C 37 rfl (jc_V C (c_X3_empty l g a_pad a_pad_signs a_pad_row v_pad_count _ hw) 0 gX4_slices_X3_empty rfl rfl rfl hd_X3_empty ⟨Nat.le_of_ble_eq_true rfl, Nat.le_of_ble_eq_true rfl⟩ (j_rec C 1 3 rfl rfl) [1] rfl rfl (rest := []) rfl rfl (Nat.le_of_ble_eq_true rfl) dX4_slices_34 ⟨Nat.le_refl _, Nat.le_refl _⟩) [1] [0, 2, 3, 4, 5] [0, 5, 1, 2, 3, 4] (wr := [(a_this, .inr (4, [.ref a_pad, .ref a_hill, .ref a_images, .ref a_fairCut, .ref a_bestCut, .ref a_leastFence])), (a_pad_signs, gC g 60 f_pad_signs), (a_pad_row, gI g 24 u2), (a_hill, .inr (2, [.ref a_hill_sorts, .ref a_hill_owners, .ref a_hill_worths, .ref a_hill_gave, .int u3, .int v_hill_toll])), (a_hill_owners, gI g 504 u4)]) (ws' := fun u => [(a_this, .inr (4, [.ref a_pad, .ref a_hill, .ref a_images, .ref a_fairCut, .ref a_bestCut, .ref a_leastFence])), (a_pad, .inr (3, [.ref a_pad_signs, .ref a_pad_row, .int u])), (a_pad_signs, gC g 60 f_pad_signs), (a_pad_row, gI g 24 u2), (a_hill, .inr (2, [.ref a_hill_sorts, .ref a_hill_owners, .ref a_hill_worths, .ref a_hill_gave, .int u3, .int v_hill_toll])), (a_hill_owners, gI g 504 u4)]) rfl rfl rfl (by decide) rfl (fun _ => rfl) (fun r5 u hw => ?_)
    obtain ⟨u6, eu6⟩ : ∃ z, z = u := ⟨_, rfl⟩
    subst eu6
    try dsimp only at hw
    show J l g A x 1 0 0 37 [(0, .ref a_this)] [.int r5] [(a_this, .inr (4, [.ref a_pad, .ref a_hill, .ref a_images, .ref a_fairCut, .ref a_bestCut, .ref a_leastFence])), (a_pad, .inr (3, [.ref a_pad_signs, .ref a_pad_row, .int u6])), (a_pad_signs, gC g 60 f_pad_signs), (a_pad_row, gI g 24 u2), (a_hill, .inr (2, [.ref a_hill_sorts, .ref a_hill_owners, .ref a_hill_worths, .ref a_hill_gave, .int u3, .int v_hill_toll])), (a_hill_owners, gI g 504 u4)]
    refine j_iconst C 38 rfl dX4_slices_37 (v := (2 : Int32)) (by decide) ?_
    refine j_idiv C 39 rfl dX4_slices_38 (by decide) ?_
    exact j_iret C R (u6, u2, u3, u4) rfl dX4_slices_39 rfl hw
  · have hw := hw.2 c
    refine j_bipush C 12 rfl dX4_slices_10 (v := (-5 : Int32)) (by decide) ?_
    exact j_iret C R (v_pad_count, f_pad_row, v_hill_generation, f_hill_owners) rfl dX4_slices_12 rfl hw
theorem hi_X4_will_X2 : ∀ w ∈ wsX20, w ∈ wsX4_will := fun _ h => List.mem_cons_of_mem _ (List.mem_append_left _ (List.mem_append_right _ h))
theorem hi_X4_will_X4 : ∀ w ∈ wsX40, w ∈ wsX4_will := fun _ h => List.mem_cons_of_mem _ (List.mem_append_left _ (List.mem_append_left _ (List.mem_append_right _ h)))
set_option maxRecDepth 20000 in
set_option maxHeartbeats 4000000 in
theorem c_X4_will (l : Launch) (g : gE) (a_this a_pad a_hill a_images a_fairCut a_bestCut a_leastFence a_pad_signs a_pad_row a_hill_sorts a_hill_owners a_hill_worths a_hill_gave : Nat) (v_pad_count : Int32) (f_pad_signs : (Nat → Int32)) (f_pad_row : (Nat → Int32)) (v_hill_generation : Int32) (v_hill_toll : Int32) (f_hill_owners : (Nat → Int32))   (K : Int32 → Int32 → (Nat → Int32) → Int32 → (Nat → Int32) → Prop) (hw : wp_X4_will v_pad_count f_pad_signs f_pad_row v_hill_generation f_hill_owners K) : Ci l g yX4_will wsX4_will { frames := 7, cells := 0, slots := 0, locals := 176 } [.ref a_this] [(a_this, .inr (4, [.ref a_pad, .ref a_hill, .ref a_images, .ref a_fairCut, .ref a_bestCut, .ref a_leastFence])), (a_pad, .inr (3, [.ref a_pad_signs, .ref a_pad_row, .int v_pad_count])), (a_pad_signs, gC g 60 f_pad_signs), (a_pad_row, gI g 24 f_pad_row), (a_hill, .inr (2, [.ref a_hill_sorts, .ref a_hill_owners, .ref a_hill_worths, .ref a_hill_gave, .int v_hill_generation, .int v_hill_toll])), (a_hill_owners, gI g 504 f_hill_owners)] (fun (r : Int32) (u : Int32 × (Nat → Int32) × Int32 × (Nat → Int32)) => K r u.1 u.2.1 u.2.2.1 u.2.2.2) (fun (u : Int32 × (Nat → Int32) × Int32 × (Nat → Int32)) => [(a_this, .inr (4, [.ref a_pad, .ref a_hill, .ref a_images, .ref a_fairCut, .ref a_bestCut, .ref a_leastFence])), (a_pad, .inr (3, [.ref a_pad_signs, .ref a_pad_row, .int (u.1)])), (a_pad_signs, gC g 60 f_pad_signs), (a_pad_row, gI g 24 (u.2.1)), (a_hill, .inr (2, [.ref a_hill_sorts, .ref a_hill_owners, .ref a_hill_worths, .ref a_hill_gave, .int (u.2.2.1), .int v_hill_toll])), (a_hill_owners, gI g 504 (u.2.2.2))]) 0 0 := by
  refine Ci_of (cc := cX4_will) (nL := 2) (ret := (some .int)) (own := RX4) (lv0 := [(0, .ref a_this)]) (by decide +kernel) rfl rfl (Nat.le_of_ble_eq_true rfl) rfl (fun A x C R => ?_)
  refine j_aload_n C 1 rfl 0 dX4_will_0 rfl rfl ?_
  refine j_get C 4 rfl 0 4 1 (T := TX4) (N := 6) hi_X4_will_X4 rfl (by decide) (List.mem_of_getElem? (i := 1) rfl) rfl rfl rfl dX4_will_1 ?_
  refine j_get C 7 rfl 4 2 4 (T := TX2) (N := 6) hi_X4_will_X2 rfl (by decide) (List.mem_of_getElem? (i := 2) rfl) rfl rfl rfl dX4_will_4 ?_
  refine j_bipush C 9 rfl dX4_will_7 (v := (20 : Int32)) (by decide) ?_
  refine j_icmp_lt C 12 rfl 15 dX4_will_9 rfl (fun c => ?_) (fun c => ?_)
  · have hw := hw.1 c
    refine j_aload_n C 16 rfl 0 dX4_will_15 rfl rfl ?_
    refine j_iconst C 17 rfl dX4_will_16 (v := (2 : Int32)) (by decide) ?_
    refine j_ri C 20 rfl (jc_V C (c_X4_faultAs l g a_this a_pad a_hill a_images a_fairCut a_bestCut a_leastFence a_pad_signs a_pad_row a_hill_sorts a_hill_owners a_hill_worths a_hill_gave v_pad_count f_pad_signs v_hill_generation v_hill_toll f_hill_owners (2 : Int32) _ hw) 1 gX4_will_X4_faultAs rfl rfl rfl hd_X4_faultAs ⟨Nat.le_of_ble_eq_true rfl, Nat.le_of_ble_eq_true rfl⟩ (j_rec C 0 4 rfl rfl) [0, 1, 2, 4, 5] rfl rfl (rest := []) rfl rfl (Nat.le_of_ble_eq_true rfl) dX4_will_17 ⟨Nat.le_refl _, Nat.le_refl _⟩) [0, 1, 2, 4, 5] rfl (fun _ => rfl) (fun r1 _ hw => ?_)
    try dsimp only at hw
    refine j_bipush C 22 rfl dX4_will_20 (v := (-6 : Int32)) (by decide) ?_
    refine j_icmp_eq C 25 rfl 28 dX4_will_22 rfl (fun c => ?_) (fun c => ?_)
    · have hw := hw.1 c
      refine j_aload_n C 29 rfl 0 dX4_will_28 rfl rfl ?_
      refine j_get C 32 rfl 0 4 0 (T := TX4) (N := 6) hi_X4_will_X4 rfl (by decide) (List.mem_of_getElem? (i := 3) rfl) rfl rfl rfl dX4_will_29 ?_
      refine j_iconst C 33 rfl dX4_will_32 (v := (0 : Int32)) (by decide) ?_
      refine j_ldcS1 C 35 rfl dX4_will_33 ?_
      refine j_ri C 38 rfl (jc_V C (c_X3_letterAt l g a_pad a_pad_signs a_pad_row v_pad_count f_pad_signs (0 : Int32) 1 (by decide) _ hw) 2 gX4_will_X3_letterAt rfl rfl rfl hd_X3_letterAt ⟨Nat.le_of_ble_eq_true rfl, Nat.le_of_ble_eq_true rfl⟩ (j_rec C 1 3 rfl rfl) [1, 2] rfl rfl (rest := []) rfl rfl (Nat.le_of_ble_eq_true rfl) dX4_will_35 ⟨Nat.le_refl _, Nat.le_refl _⟩) [1, 2] rfl (fun _ => rfl) (fun r2 _ hw => ?_)
      try dsimp only at hw
      refine j_istore_n C 39 rfl [1, 0] (lv' := [(0, .ref a_this), (1, .int r2)]) dX4_will_38 rfl (by decide) rfl ?_
      refine j_aload_n C 40 rfl 0 dX4_will_39 rfl rfl ?_
      refine j_get C 43 rfl 0 4 1 (T := TX4) (N := 6) hi_X4_will_X4 rfl (by decide) (List.mem_of_getElem? (i := 1) rfl) rfl rfl rfl dX4_will_40 ?_
      refine j_rwv C 46 rfl (jc_V C (c_X2_beginGeneration l g a_hill a_hill_sorts a_hill_owners a_hill_worths a_hill_gave v_hill_generation v_hill_toll f_hill_owners _ hw) 0 gX4_will_X2_beginGeneration rfl rfl rfl hd_X2_beginGeneration ⟨Nat.le_of_ble_eq_true rfl, Nat.le_of_ble_eq_true rfl⟩ (j_rec C 4 2 rfl rfl) [4, 5] rfl rfl (rest := []) rfl rfl (Nat.le_of_ble_eq_true rfl) dX4_will_43 ⟨Nat.le_refl _, Nat.le_refl _⟩) [4, 5] [0, 1, 2, 3] [0, 1, 2, 3, 4, 5] (wr := [(a_this, .inr (4, [.ref a_pad, .ref a_hill, .ref a_images, .ref a_fairCut, .ref a_bestCut, .ref a_leastFence])), (a_pad, .inr (3, [.ref a_pad_signs, .ref a_pad_row, .int v_pad_count])), (a_pad_signs, gC g 60 f_pad_signs), (a_pad_row, gI g 24 f_pad_row)]) (ws' := fun u => [(a_this, .inr (4, [.ref a_pad, .ref a_hill, .ref a_images, .ref a_fairCut, .ref a_bestCut, .ref a_leastFence])), (a_pad, .inr (3, [.ref a_pad_signs, .ref a_pad_row, .int v_pad_count])), (a_pad_signs, gC g 60 f_pad_signs), (a_pad_row, gI g 24 f_pad_row), (a_hill, .inr (2, [.ref a_hill_sorts, .ref a_hill_owners, .ref a_hill_worths, .ref a_hill_gave, .int (u.1), .int v_hill_toll])), (a_hill_owners, gI g 504 (u.2))]) rfl rfl rfl (by decide) rfl (fun _ => rfl) (fun u hw => ?_)
      obtain ⟨u3, u4⟩ := u
      try dsimp only at hw
      show J l g A x 2 0 0 46 [(0, .ref a_this), (1, .int r2)] [] [(a_this, .inr (4, [.ref a_pad, .ref a_hill, .ref a_images, .ref a_fairCut, .ref a_bestCut, .ref a_leastFence])), (a_pad, .inr (3, [.ref a_pad_signs, .ref a_pad_row, .int v_pad_count])), (a_pad_signs, gC g 60 f_pad_signs), (a_pad_row, gI g 24 f_pad_row), (a_hill, .inr (2, [.ref a_hill_sorts, .ref a_hill_owners, .ref a_hill_worths, .ref a_hill_gave, .int u3, .int v_hill_toll])), (a_hill_owners, gI g 504 u4)]
      refine j_aload_n C 47 rfl 0 dX4_will_46 rfl rfl ?_
      refine j_get C 50 rfl 0 4 1 (T := TX4) (N := 6) hi_X4_will_X4 rfl (by decide) (List.mem_of_getElem? (i := 1) rfl) rfl rfl rfl dX4_will_47 ?_
      refine j_iload_n C 51 rfl 1 dX4_will_50 rfl rfl ?_
      refine j_aload_n C 52 rfl 0 dX4_will_51 rfl rfl ?_
      refine j_get C 55 rfl 0 4 0 (T := TX4) (N := 6) hi_X4_will_X4 rfl (by decide) (List.mem_of_getElem? (i := 3) rfl) rfl rfl rfl dX4_will_52 ?_
      refine j_ldcS1 C 57 rfl dX4_will_55 ?_
      refine j_iconst C 58 rfl dX4_will_57 (v := (2 : Int32)) (by decide) ?_
      refine j_rwr C 61 rfl (jc_V C (c_X3_readRuns l g a_pad a_pad_signs a_pad_row v_pad_count f_pad_signs f_pad_row 1 (2 : Int32) (by decide) _ hw) 2 gX4_will_X3_readRuns rfl rfl rfl hd_X3_readRuns ⟨Nat.le_of_ble_eq_true rfl, Nat.le_of_ble_eq_true rfl⟩ (j_rec C 1 3 rfl rfl) [1, 2, 3] rfl rfl (rest := [.int r2, .ref a_hill]) rfl rfl (Nat.le_of_ble_eq_true rfl) dX4_will_58 ⟨Nat.le_refl _, Nat.le_refl _⟩) [1, 2, 3] [0, 4, 5] [0, 3, 4, 5, 1, 2] (wr := [(a_this, .inr (4, [.ref a_pad, .ref a_hill, .ref a_images, .ref a_fairCut, .ref a_bestCut, .ref a_leastFence])), (a_hill, .inr (2, [.ref a_hill_sorts, .ref a_hill_owners, .ref a_hill_worths, .ref a_hill_gave, .int u3, .int v_hill_toll])), (a_hill_owners, gI g 504 u4)]) (ws' := fun u => [(a_this, .inr (4, [.ref a_pad, .ref a_hill, .ref a_images, .ref a_fairCut, .ref a_bestCut, .ref a_leastFence])), (a_pad, .inr (3, [.ref a_pad_signs, .ref a_pad_row, .int v_pad_count])), (a_pad_signs, gC g 60 f_pad_signs), (a_pad_row, gI g 24 u), (a_hill, .inr (2, [.ref a_hill_sorts, .ref a_hill_owners, .ref a_hill_worths, .ref a_hill_gave, .int u3, .int v_hill_toll])), (a_hill_owners, gI g 504 u4)]) rfl rfl rfl (by decide) rfl (fun _ => rfl) (fun u hw => ?_)
      obtain ⟨u5, eu5⟩ : ∃ z, z = u := ⟨_, rfl⟩
      subst eu5
      try dsimp only at hw
      show J l g A x 2 0 0 61 [(0, .ref a_this), (1, .int r2)] [.ref a_pad_row, .int r2, .ref a_hill] [(a_this, .inr (4, [.ref a_pad, .ref a_hill, .ref a_images, .ref a_fairCut, .ref a_bestCut, .ref a_leastFence])), (a_pad, .inr (3, [.ref a_pad_signs, .ref a_pad_row, .int v_pad_count])), (a_pad_signs, gC g 60 f_pad_signs), (a_pad_row, gI g 24 u5), (a_hill, .inr (2, [.ref a_hill_sorts, .ref a_hill_owners, .ref a_hill_worths, .ref a_hill_gave, .int u3, .int v_hill_toll])), (a_hill_owners, gI g 504 u4)]
      refine j_rwv C 64 rfl (jc_V C (c_X2_giveAway l g a_hill a_hill_sorts a_hill_owners a_hill_worths a_hill_gave a_pad_row u3 v_hill_toll u4 u5 r2 _ hw) 2 gX4_will_X2_giveAway rfl rfl rfl hd_X2_giveAway ⟨Nat.le_of_ble_eq_true rfl, Nat.le_of_ble_eq_true rfl⟩ (j_rec C 4 2 rfl rfl) [4, 5, 3] rfl rfl (rest := []) rfl rfl (Nat.le_of_ble_eq_true rfl) dX4_will_61 ⟨Nat.le_refl _, Nat.le_refl _⟩) [4, 5, 3] [0, 1, 2] [0, 1, 2, 5, 3, 4] (wr := [(a_this, .inr (4, [.ref a_pad, .ref a_hill, .ref a_images, .ref a_fairCut, .ref a_bestCut, .ref a_leastFence])), (a_pad, .inr (3, [.ref a_pad_signs, .ref a_pad_row, .int v_pad_count])), (a_pad_signs, gC g 60 f_pad_signs)]) (ws' := fun u => [(a_this, .inr (4, [.ref a_pad, .ref a_hill, .ref a_images, .ref a_fairCut, .ref a_bestCut, .ref a_leastFence])), (a_pad, .inr (3, [.ref a_pad_signs, .ref a_pad_row, .int v_pad_count])), (a_pad_signs, gC g 60 f_pad_signs), (a_pad_row, gI g 24 u5), (a_hill, .inr (2, [.ref a_hill_sorts, .ref a_hill_owners, .ref a_hill_worths, .ref a_hill_gave, .int u3, .int v_hill_toll])), (a_hill_owners, gI g 504 u)]) rfl rfl rfl (by decide) rfl (fun _ => rfl) (fun u hw => ?_)
      obtain ⟨u6, eu6⟩ : ∃ z, z = u := ⟨_, rfl⟩
      subst eu6
      try dsimp only at hw
      show J l g A x 2 0 0 64 [(0, .ref a_this), (1, .int r2)] [] [(a_this, .inr (4, [.ref a_pad, .ref a_hill, .ref a_images, .ref a_fairCut, .ref a_bestCut, .ref a_leastFence])), (a_pad, .inr (3, [.ref a_pad_signs, .ref a_pad_row, .int v_pad_count])), (a_pad_signs, gC g 60 f_pad_signs), (a_pad_row, gI g 24 u5), (a_hill, .inr (2, [.ref a_hill_sorts, .ref a_hill_owners, .ref a_hill_worths, .ref a_hill_gave, .int u3, .int v_hill_toll])), (a_hill_owners, gI g 504 u6)]
      refine j_aload_n C 65 rfl 0 dX4_will_64 rfl rfl ?_
      refine j_get C 68 rfl 0 4 0 (T := TX4) (N := 6) hi_X4_will_X4 rfl (by decide) (List.mem_of_getElem? (i := 3) rfl) rfl rfl rfl dX4_will_65 ?_
      refine j_rwi C 71 rfl (jc_V C (c_X3_empty l g a_pad a_pad_signs a_pad_row v_pad_count _ hw) 0 gX4_will_X3_empty rfl rfl rfl hd_X3_empty ⟨Nat.le_of_ble_eq_true rfl, Nat.le_of_ble_eq_true rfl⟩ (j_rec C 1 3 rfl rfl) [1] rfl rfl (rest := []) rfl rfl (Nat.le_of_ble_eq_true rfl) dX4_will_68 ⟨Nat.le_refl _, Nat.le_refl _⟩) [1] [0, 2, 3, 4, 5] [0, 5, 1, 2, 3, 4] (wr := [(a_this, .inr (4, [.ref a_pad, .ref a_hill, .ref a_images, .ref a_fairCut, .ref a_bestCut, .ref a_leastFence])), (a_pad_signs, gC g 60 f_pad_signs), (a_pad_row, gI g 24 u5), (a_hill, .inr (2, [.ref a_hill_sorts, .ref a_hill_owners, .ref a_hill_worths, .ref a_hill_gave, .int u3, .int v_hill_toll])), (a_hill_owners, gI g 504 u6)]) (ws' := fun u => [(a_this, .inr (4, [.ref a_pad, .ref a_hill, .ref a_images, .ref a_fairCut, .ref a_bestCut, .ref a_leastFence])), (a_pad, .inr (3, [.ref a_pad_signs, .ref a_pad_row, .int u])), (a_pad_signs, gC g 60 f_pad_signs), (a_pad_row, gI g 24 u5), (a_hill, .inr (2, [.ref a_hill_sorts, .ref a_hill_owners, .ref a_hill_worths, .ref a_hill_gave, .int u3, .int v_hill_toll])), (a_hill_owners, gI g 504 u6)]) rfl rfl rfl (by decide) rfl (fun _ => rfl) (fun r7 u hw => ?_)
      obtain ⟨u8, eu8⟩ : ∃ z, z = u := ⟨_, rfl⟩
      subst eu8
      try dsimp only at hw
      show J l g A x 2 0 0 71 [(0, .ref a_this), (1, .int r2)] [.int r7] [(a_this, .inr (4, [.ref a_pad, .ref a_hill, .ref a_images, .ref a_fairCut, .ref a_bestCut, .ref a_leastFence])), (a_pad, .inr (3, [.ref a_pad_signs, .ref a_pad_row, .int u8])), (a_pad_signs, gC g 60 f_pad_signs), (a_pad_row, gI g 24 u5), (a_hill, .inr (2, [.ref a_hill_sorts, .ref a_hill_owners, .ref a_hill_worths, .ref a_hill_gave, .int u3, .int v_hill_toll])), (a_hill_owners, gI g 504 u6)]
      refine j_pop C 72 rfl dX4_will_71 rfl ?_
      refine j_aload_n C 73 rfl 0 dX4_will_72 rfl rfl ?_
      refine j_get C 76 rfl 0 4 1 (T := TX4) (N := 6) hi_X4_will_X4 rfl (by decide) (List.mem_of_getElem? (i := 1) rfl) rfl rfl rfl dX4_will_73 ?_
      refine j_get C 79 rfl 4 2 4 (T := TX2) (N := 6) hi_X4_will_X2 rfl (by decide) (List.mem_of_getElem? (i := 2) rfl) rfl rfl rfl dX4_will_76 ?_
      exact j_iret C R (u8, u5, u3, u6) rfl dX4_will_79 rfl hw
    · have hw := hw.2 c
      refine j_bipush C 27 rfl dX4_will_25 (v := (-5 : Int32)) (by decide) ?_
      exact j_iret C R (v_pad_count, f_pad_row, v_hill_generation, f_hill_owners) rfl dX4_will_27 rfl hw
  · have hw := hw.2 c
    refine j_bipush C 14 rfl dX4_will_12 (v := (-4 : Int32)) (by decide) ?_
    exact j_iret C R (v_pad_count, f_pad_row, v_hill_generation, f_hill_owners) rfl dX4_will_14 rfl hw
set_option maxRecDepth 20000 in
set_option maxHeartbeats 4000000 in
theorem c_X4_isHeir (l : Launch) (g : gE)  (x0 : Int32)  (K : Int32 → Prop) (hw : wp_X4_isHeir x0 K) : Ci l g yX4_isHeir wsX4_isHeir { frames := 0, cells := 0, slots := 0, locals := 0 } [.int x0] [] (fun (r : Int32) (_ : Unit) => K r) (fun (_ : Unit) => []) 0 0 := by
  refine Ci_of (cc := cX4_isHeir) (nL := 1) (ret := (some .boolean)) (own := RX4) (lv0 := [(0, .int x0)]) (by decide +kernel) rfl rfl (Nat.le_of_ble_eq_true rfl) rfl (fun A x C R => ?_)
  refine j_iload_n C 1 rfl 0 dX4_isHeir_0 rfl rfl ?_
  refine j_if_lt C 4 rfl 14 dX4_isHeir_1 rfl (fun c => ?_) (fun c => ?_)
  · have hw := hw.1 c
    refine j_iconst C 15 rfl dX4_isHeir_14 (v := (0 : Int32)) (by decide) ?_
    exact j_iret C R () rfl dX4_isHeir_15 rfl hw
  · have hw := hw.2 c
    refine j_iload_n C 5 rfl 0 dX4_isHeir_4 rfl rfl ?_
    refine j_bipush C 7 rfl dX4_isHeir_5 (v := (6 : Int32)) (by decide) ?_
    refine j_icmp_ge C 10 rfl 14 dX4_isHeir_7 rfl (fun c => ?_) (fun c => ?_)
    · have hw := hw.1 c
      refine j_iconst C 15 rfl dX4_isHeir_14 (v := (0 : Int32)) (by decide) ?_
      exact j_iret C R () rfl dX4_isHeir_15 rfl hw
    · have hw := hw.2 c
      refine j_iconst C 11 rfl dX4_isHeir_10 (v := (1 : Int32)) (by decide) ?_
      refine j_goto C 15 dX4_isHeir_11 rfl ?_
      exact j_iret C R () rfl dX4_isHeir_15 rfl hw
set_option maxRecDepth 20000 in
set_option maxHeartbeats 4000000 in
theorem c_X4_areTwoHeirs (l : Launch) (g : gE)  (x0 : Int32) (x1 : Int32)  (K : Int32 → Prop) (hw : wp_X4_areTwoHeirs x0 x1 K) : Ci l g yX4_areTwoHeirs wsX4_areTwoHeirs { frames := 1, cells := 0, slots := 0, locals := 20 } [.int x0, .int x1] [] (fun (r : Int32) (_ : Unit) => K r) (fun (_ : Unit) => []) 0 0 := by
  refine Ci_of (cc := cX4_areTwoHeirs) (nL := 2) (ret := (some .boolean)) (own := RX4) (lv0 := [(0, .int x0), (1, .int x1)]) (by decide +kernel) rfl rfl (Nat.le_of_ble_eq_true rfl) rfl (fun A x C R => ?_)
  refine j_iload_n C 1 rfl 0 dX4_areTwoHeirs_0 rfl rfl ?_
  refine j_ri C 4 rfl (jc_S C (c_X4_isHeir l g x0 _ hw) 1 gX4_areTwoHeirs_X4_isHeir rfl rfl rfl hd_X4_isHeir ⟨Nat.le_of_ble_eq_true rfl, Nat.le_of_ble_eq_true rfl⟩ [] rfl rfl (rest := []) rfl rfl (Nat.le_of_ble_eq_true rfl) dX4_areTwoHeirs_1 ⟨Nat.le_refl _, Nat.le_refl _⟩) [] rfl (fun _ => rfl) (fun r1 _ hw => ?_)
  try dsimp only at hw
  refine j_if_eq C 7 rfl 23 dX4_areTwoHeirs_4 rfl (fun c => ?_) (fun c => ?_)
  · have hw := hw.1 c
    refine j_iconst C 24 rfl dX4_areTwoHeirs_23 (v := (0 : Int32)) (by decide) ?_
    exact j_iret C R () rfl dX4_areTwoHeirs_24 rfl hw
  · have hw := hw.2 c
    refine j_iload_n C 8 rfl 1 dX4_areTwoHeirs_7 rfl rfl ?_
    refine j_ri C 11 rfl (jc_S C (c_X4_isHeir l g x1 _ hw) 1 gX4_areTwoHeirs_X4_isHeir rfl rfl rfl hd_X4_isHeir ⟨Nat.le_of_ble_eq_true rfl, Nat.le_of_ble_eq_true rfl⟩ [] rfl rfl (rest := []) rfl rfl (Nat.le_of_ble_eq_true rfl) dX4_areTwoHeirs_8 ⟨Nat.le_refl _, Nat.le_refl _⟩) [] rfl (fun _ => rfl) (fun r2 _ hw => ?_)
    try dsimp only at hw
    refine j_if_eq C 14 rfl 23 dX4_areTwoHeirs_11 rfl (fun c => ?_) (fun c => ?_)
    · have hw := hw.1 c
      refine j_iconst C 24 rfl dX4_areTwoHeirs_23 (v := (0 : Int32)) (by decide) ?_
      exact j_iret C R () rfl dX4_areTwoHeirs_24 rfl hw
    · have hw := hw.2 c
      refine j_iload_n C 15 rfl 0 dX4_areTwoHeirs_14 rfl rfl ?_
      refine j_iload_n C 16 rfl 1 dX4_areTwoHeirs_15 rfl rfl ?_
      refine j_icmp_eq C 19 rfl 23 dX4_areTwoHeirs_16 rfl (fun c => ?_) (fun c => ?_)
      · have hw := hw.1 c
        refine j_iconst C 24 rfl dX4_areTwoHeirs_23 (v := (0 : Int32)) (by decide) ?_
        exact j_iret C R () rfl dX4_areTwoHeirs_24 rfl hw
      · have hw := hw.2 c
        refine j_iconst C 20 rfl dX4_areTwoHeirs_19 (v := (1 : Int32)) (by decide) ?_
        refine j_goto C 24 dX4_areTwoHeirs_20 rfl ?_
        exact j_iret C R () rfl dX4_areTwoHeirs_24 rfl hw
theorem hi_X4_wedding_X2 : ∀ w ∈ wsX20, w ∈ wsX4_wedding := fun _ h => List.mem_cons_of_mem _ (List.mem_append_right _ h)
theorem hi_X4_wedding_X4 : ∀ w ∈ wsX40, w ∈ wsX4_wedding := fun _ h => List.mem_cons_of_mem _ (List.mem_append_left _ (List.mem_append_right _ h))
set_option maxRecDepth 20000 in
set_option maxHeartbeats 4000000 in
theorem c_X4_wedding (l : Launch) (g : gE) (a_this a_pad a_hill a_images a_fairCut a_bestCut a_leastFence a_hill_sorts a_hill_owners a_hill_worths a_hill_gave : Nat) (v_hill_generation : Int32) (v_hill_toll : Int32) (f_hill_owners : (Nat → Int32)) (x1 : Int32) (x2 : Int32)  (K : Int32 → Int32 → (Nat → Int32) → Prop) (hw : wp_X4_wedding v_hill_generation f_hill_owners x1 x2 K) : Ci l g yX4_wedding wsX4_wedding { frames := 3, cells := 0, slots := 0, locals := 80 } [.ref a_this, .int x1, .int x2] [(a_this, .inr (4, [.ref a_pad, .ref a_hill, .ref a_images, .ref a_fairCut, .ref a_bestCut, .ref a_leastFence])), (a_hill, .inr (2, [.ref a_hill_sorts, .ref a_hill_owners, .ref a_hill_worths, .ref a_hill_gave, .int v_hill_generation, .int v_hill_toll])), (a_hill_owners, gI g 504 f_hill_owners)] (fun (r : Int32) (u : Int32 × (Nat → Int32)) => K r u.1 u.2) (fun (u : Int32 × (Nat → Int32)) => [(a_this, .inr (4, [.ref a_pad, .ref a_hill, .ref a_images, .ref a_fairCut, .ref a_bestCut, .ref a_leastFence])), (a_hill, .inr (2, [.ref a_hill_sorts, .ref a_hill_owners, .ref a_hill_worths, .ref a_hill_gave, .int (u.1), .int v_hill_toll])), (a_hill_owners, gI g 504 (u.2))]) 0 0 := by
  refine Ci_of (cc := cX4_wedding) (nL := 3) (ret := (some .int)) (own := RX4) (lv0 := [(0, .ref a_this), (1, .int x1), (2, .int x2)]) (by decide +kernel) rfl rfl (Nat.le_of_ble_eq_true rfl) rfl (fun A x C R => ?_)
  refine j_iload_n C 1 rfl 1 dX4_wedding_0 rfl rfl ?_
  refine j_iload_n C 2 rfl 2 dX4_wedding_1 rfl rfl ?_
  refine j_ri C 5 rfl (jc_S C (c_X4_areTwoHeirs l g x1 x2 _ hw) 2 gX4_wedding_X4_areTwoHeirs rfl rfl rfl hd_X4_areTwoHeirs ⟨Nat.le_of_ble_eq_true rfl, Nat.le_of_ble_eq_true rfl⟩ [] rfl rfl (rest := []) rfl rfl (Nat.le_of_ble_eq_true rfl) dX4_wedding_2 ⟨Nat.le_refl _, Nat.le_refl _⟩) [] rfl (fun _ => rfl) (fun r1 _ hw => ?_)
  try dsimp only at hw
  refine j_if_ne C 8 rfl 10 dX4_wedding_5 rfl (fun c => ?_) (fun c => ?_)
  · have hw := hw.1 c
    refine j_aload_n C 11 rfl 0 dX4_wedding_10 rfl rfl ?_
    refine j_get C 14 rfl 0 4 1 (T := TX4) (N := 6) hi_X4_wedding_X4 rfl (by decide) (List.mem_of_getElem? (i := 1) rfl) rfl rfl rfl dX4_wedding_11 ?_
    refine j_get C 17 rfl 1 2 4 (T := TX2) (N := 6) hi_X4_wedding_X2 rfl (by decide) (List.mem_of_getElem? (i := 2) rfl) rfl rfl rfl dX4_wedding_14 ?_
    refine j_bipush C 19 rfl dX4_wedding_17 (v := (20 : Int32)) (by decide) ?_
    refine j_icmp_lt C 22 rfl 25 dX4_wedding_19 rfl (fun c => ?_) (fun c => ?_)
    · have hw := hw.1 c
      refine j_aload_n C 26 rfl 0 dX4_wedding_25 rfl rfl ?_
      refine j_get C 29 rfl 0 4 1 (T := TX4) (N := 6) hi_X4_wedding_X4 rfl (by decide) (List.mem_of_getElem? (i := 1) rfl) rfl rfl rfl dX4_wedding_26 ?_
      refine j_rwv C 32 rfl (jc_V C (c_X2_beginGeneration l g a_hill a_hill_sorts a_hill_owners a_hill_worths a_hill_gave v_hill_generation v_hill_toll f_hill_owners _ hw) 0 gX4_wedding_X2_beginGeneration rfl rfl rfl hd_X2_beginGeneration ⟨Nat.le_of_ble_eq_true rfl, Nat.le_of_ble_eq_true rfl⟩ (j_rec C 1 2 rfl rfl) [1, 2] rfl rfl (rest := []) rfl rfl (Nat.le_of_ble_eq_true rfl) dX4_wedding_29 ⟨Nat.le_refl _, Nat.le_refl _⟩) [1, 2] [0] [0, 1, 2] (wr := [(a_this, .inr (4, [.ref a_pad, .ref a_hill, .ref a_images, .ref a_fairCut, .ref a_bestCut, .ref a_leastFence]))]) (ws' := fun u => [(a_this, .inr (4, [.ref a_pad, .ref a_hill, .ref a_images, .ref a_fairCut, .ref a_bestCut, .ref a_leastFence])), (a_hill, .inr (2, [.ref a_hill_sorts, .ref a_hill_owners, .ref a_hill_worths, .ref a_hill_gave, .int (u.1), .int v_hill_toll])), (a_hill_owners, gI g 504 (u.2))]) rfl rfl rfl (by decide) rfl (fun _ => rfl) (fun u hw => ?_)
      obtain ⟨u2, u3⟩ := u
      try dsimp only at hw
      show J l g A x 3 0 0 32 [(0, .ref a_this), (1, .int x1), (2, .int x2)] [] [(a_this, .inr (4, [.ref a_pad, .ref a_hill, .ref a_images, .ref a_fairCut, .ref a_bestCut, .ref a_leastFence])), (a_hill, .inr (2, [.ref a_hill_sorts, .ref a_hill_owners, .ref a_hill_worths, .ref a_hill_gave, .int u2, .int v_hill_toll])), (a_hill_owners, gI g 504 u3)]
      refine j_aload_n C 33 rfl 0 dX4_wedding_32 rfl rfl ?_
      refine j_get C 36 rfl 0 4 1 (T := TX4) (N := 6) hi_X4_wedding_X4 rfl (by decide) (List.mem_of_getElem? (i := 1) rfl) rfl rfl rfl dX4_wedding_33 ?_
      refine j_iload_n C 37 rfl 1 dX4_wedding_36 rfl rfl ?_
      refine j_iload_n C 38 rfl 2 dX4_wedding_37 rfl rfl ?_
      refine j_rwv C 41 rfl (jc_V C (c_X2_join l g a_hill a_hill_sorts a_hill_owners a_hill_worths a_hill_gave u2 v_hill_toll u3 x1 x2 _ hw) 2 gX4_wedding_X2_join rfl rfl rfl hd_X2_join ⟨Nat.le_of_ble_eq_true rfl, Nat.le_of_ble_eq_true rfl⟩ (j_rec C 1 2 rfl rfl) [1, 2] rfl rfl (rest := []) rfl rfl (Nat.le_of_ble_eq_true rfl) dX4_wedding_38 ⟨Nat.le_refl _, Nat.le_refl _⟩) [1, 2] [0] [0, 1, 2] (wr := [(a_this, .inr (4, [.ref a_pad, .ref a_hill, .ref a_images, .ref a_fairCut, .ref a_bestCut, .ref a_leastFence]))]) (ws' := fun u => [(a_this, .inr (4, [.ref a_pad, .ref a_hill, .ref a_images, .ref a_fairCut, .ref a_bestCut, .ref a_leastFence])), (a_hill, .inr (2, [.ref a_hill_sorts, .ref a_hill_owners, .ref a_hill_worths, .ref a_hill_gave, .int u2, .int v_hill_toll])), (a_hill_owners, gI g 504 u)]) rfl rfl rfl (by decide) rfl (fun _ => rfl) (fun u hw => ?_)
      obtain ⟨u4, eu4⟩ : ∃ z, z = u := ⟨_, rfl⟩
      subst eu4
      try dsimp only at hw
      show J l g A x 3 0 0 41 [(0, .ref a_this), (1, .int x1), (2, .int x2)] [] [(a_this, .inr (4, [.ref a_pad, .ref a_hill, .ref a_images, .ref a_fairCut, .ref a_bestCut, .ref a_leastFence])), (a_hill, .inr (2, [.ref a_hill_sorts, .ref a_hill_owners, .ref a_hill_worths, .ref a_hill_gave, .int u2, .int v_hill_toll])), (a_hill_owners, gI g 504 u4)]
      refine j_aload_n C 42 rfl 0 dX4_wedding_41 rfl rfl ?_
      refine j_get C 45 rfl 0 4 1 (T := TX4) (N := 6) hi_X4_wedding_X4 rfl (by decide) (List.mem_of_getElem? (i := 1) rfl) rfl rfl rfl dX4_wedding_42 ?_
      refine j_get C 48 rfl 1 2 4 (T := TX2) (N := 6) hi_X4_wedding_X2 rfl (by decide) (List.mem_of_getElem? (i := 2) rfl) rfl rfl rfl dX4_wedding_45 ?_
      exact j_iret C R (u2, u4) rfl dX4_wedding_48 rfl hw
    · have hw := hw.2 c
      refine j_bipush C 24 rfl dX4_wedding_22 (v := (-4 : Int32)) (by decide) ?_
      exact j_iret C R (v_hill_generation, f_hill_owners) rfl dX4_wedding_24 rfl hw
  · have hw := hw.2 c
    refine j_iconst C 9 rfl dX4_wedding_8 (v := (-1 : Int32)) (by decide) ?_
    exact j_iret C R (v_hill_generation, f_hill_owners) rfl dX4_wedding_9 rfl hw
set_option maxRecDepth 20000 in
set_option maxHeartbeats 4000000 in
theorem c_X4_isSector (l : Launch) (g : gE)  (x0 : Int32)  (K : Int32 → Prop) (hw : wp_X4_isSector x0 K) : Ci l g yX4_isSector wsX4_isSector { frames := 0, cells := 0, slots := 0, locals := 0 } [.int x0] [] (fun (r : Int32) (_ : Unit) => K r) (fun (_ : Unit) => []) 0 0 := by
  refine Ci_of (cc := cX4_isSector) (nL := 1) (ret := (some .boolean)) (own := RX4) (lv0 := [(0, .int x0)]) (by decide +kernel) rfl rfl (Nat.le_of_ble_eq_true rfl) rfl (fun A x C R => ?_)
  refine j_iload_n C 1 rfl 0 dX4_isSector_0 rfl rfl ?_
  refine j_if_lt C 4 rfl 14 dX4_isSector_1 rfl (fun c => ?_) (fun c => ?_)
  · have hw := hw.1 c
    refine j_iconst C 15 rfl dX4_isSector_14 (v := (0 : Int32)) (by decide) ?_
    exact j_iret C R () rfl dX4_isSector_15 rfl hw
  · have hw := hw.2 c
    refine j_iload_n C 5 rfl 0 dX4_isSector_4 rfl rfl ?_
    refine j_bipush C 7 rfl dX4_isSector_5 (v := (24 : Int32)) (by decide) ?_
    refine j_icmp_ge C 10 rfl 14 dX4_isSector_7 rfl (fun c => ?_) (fun c => ?_)
    · have hw := hw.1 c
      refine j_iconst C 15 rfl dX4_isSector_14 (v := (0 : Int32)) (by decide) ?_
      exact j_iret C R () rfl dX4_isSector_15 rfl hw
    · have hw := hw.2 c
      refine j_iconst C 11 rfl dX4_isSector_10 (v := (1 : Int32)) (by decide) ?_
      refine j_goto C 15 dX4_isSector_11 rfl ?_
      exact j_iret C R () rfl dX4_isSector_15 rfl hw
theorem hi_X4_cell_X4 : ∀ w ∈ wsX40, w ∈ wsX4_cell := fun _ h => List.mem_cons_of_mem _ (List.mem_append_left _ (List.mem_append_right _ h))
set_option maxRecDepth 20000 in
set_option maxHeartbeats 4000000 in
theorem c_X4_cell (l : Launch) (g : gE) (a_this a_pad a_hill a_images a_fairCut a_bestCut a_leastFence a_hill_sorts a_hill_owners a_hill_worths a_hill_gave : Nat) (v_hill_generation : Int32) (v_hill_toll : Int32) (f_hill_sorts : (Nat → Int32)) (x1 : Int32) (x2 : Int32)  (K : Int32 → Prop) (hw : wp_X4_cell f_hill_sorts x1 x2 K) : Ci l g yX4_cell wsX4_cell { frames := 4, cells := 0, slots := 0, locals := 85 } [.ref a_this, .int x1, .int x2] [(a_this, .inr (4, [.ref a_pad, .ref a_hill, .ref a_images, .ref a_fairCut, .ref a_bestCut, .ref a_leastFence])), (a_hill, .inr (2, [.ref a_hill_sorts, .ref a_hill_owners, .ref a_hill_worths, .ref a_hill_gave, .int v_hill_generation, .int v_hill_toll])), (a_hill_sorts, gI g 120 f_hill_sorts)] (fun (r : Int32) (_ : Unit) => K r) (fun (_ : Unit) => [(a_this, .inr (4, [.ref a_pad, .ref a_hill, .ref a_images, .ref a_fairCut, .ref a_bestCut, .ref a_leastFence])), (a_hill, .inr (2, [.ref a_hill_sorts, .ref a_hill_owners, .ref a_hill_worths, .ref a_hill_gave, .int v_hill_generation, .int v_hill_toll])), (a_hill_sorts, gI g 120 f_hill_sorts)]) 0 0 := by
  refine Ci_of (cc := cX4_cell) (nL := 3) (ret := (some .int)) (own := RX4) (lv0 := [(0, .ref a_this), (1, .int x1), (2, .int x2)]) (by decide +kernel) rfl rfl (Nat.le_of_ble_eq_true rfl) rfl (fun A x C R => ?_)
  refine j_iload_n C 1 rfl 1 dX4_cell_0 rfl rfl ?_
  refine j_ri C 4 rfl (jc_S C (c_X4_isRing l g x1 _ hw) 1 gX4_cell_X4_isRing rfl rfl rfl hd_X4_isRing ⟨Nat.le_of_ble_eq_true rfl, Nat.le_of_ble_eq_true rfl⟩ [] rfl rfl (rest := []) rfl rfl (Nat.le_of_ble_eq_true rfl) dX4_cell_1 ⟨Nat.le_refl _, Nat.le_refl _⟩) [] rfl (fun _ => rfl) (fun r1 _ hw => ?_)
  try dsimp only at hw
  refine j_if_eq C 7 rfl 14 dX4_cell_4 rfl (fun c => ?_) (fun c => ?_)
  · have hw := hw.1 c
    refine j_iconst C 15 rfl dX4_cell_14 (v := (-1 : Int32)) (by decide) ?_
    exact j_iret C R () rfl dX4_cell_15 rfl hw
  · have hw := hw.2 c
    refine j_iload_n C 8 rfl 2 dX4_cell_7 rfl rfl ?_
    refine j_ri C 11 rfl (jc_S C (c_X4_isSector l g x2 _ hw) 1 gX4_cell_X4_isSector rfl rfl rfl hd_X4_isSector ⟨Nat.le_of_ble_eq_true rfl, Nat.le_of_ble_eq_true rfl⟩ [] rfl rfl (rest := []) rfl rfl (Nat.le_of_ble_eq_true rfl) dX4_cell_8 ⟨Nat.le_refl _, Nat.le_refl _⟩) [] rfl (fun _ => rfl) (fun r2 _ hw => ?_)
    try dsimp only at hw
    refine j_if_ne C 14 rfl 16 dX4_cell_11 rfl (fun c => ?_) (fun c => ?_)
    · have hw := hw.1 c
      refine j_ldcS0 C 18 rfl dX4_cell_16 ?_
      refine j_aload_n C 19 rfl 0 dX4_cell_18 rfl rfl ?_
      refine j_get C 22 rfl 0 4 1 (T := TX4) (N := 6) hi_X4_cell_X4 rfl (by decide) (List.mem_of_getElem? (i := 1) rfl) rfl rfl rfl dX4_cell_19 ?_
      refine j_iload_n C 23 rfl 1 dX4_cell_22 rfl rfl ?_
      refine j_iload_n C 24 rfl 2 dX4_cell_23 rfl rfl ?_
      refine j_ri C 27 rfl (jc_V C (c_X2_sortAt l g a_hill a_hill_sorts a_hill_owners a_hill_worths a_hill_gave v_hill_generation v_hill_toll f_hill_sorts x1 x2 _ hw) 2 gX4_cell_X2_sortAt rfl rfl rfl hd_X2_sortAt ⟨Nat.le_of_ble_eq_true rfl, Nat.le_of_ble_eq_true rfl⟩ (j_rec C 1 2 rfl rfl) [1, 2] rfl rfl (rest := [.ref (g.2.2 0)]) rfl rfl (Nat.le_of_ble_eq_true rfl) dX4_cell_24 ⟨Nat.le_refl _, Nat.le_refl _⟩) [1, 2] rfl (fun _ => rfl) (fun r3 _ hw => ?_)
      try dsimp only at hw
      refine j_ri C 30 rfl (jc_V C (c_J0_charAt_5068e l g 0 r3 (by decide) _ hw) 1 gX4_cell_J0_charAt_5068e rfl rfl rfl hd_J0_charAt_5068e ⟨Nat.le_of_ble_eq_true rfl, Nat.le_of_ble_eq_true rfl⟩ (j_recK C 0 (by decide)) [] rfl rfl (rest := []) rfl rfl (Nat.le_of_ble_eq_true rfl) dX4_cell_27 ⟨Nat.le_refl _, Nat.le_refl _⟩) [] rfl (fun _ => rfl) (fun r4 _ hw => ?_)
      try dsimp only at hw
      exact j_iret C R () rfl dX4_cell_30 rfl hw
    · have hw := hw.2 c
      refine j_iconst C 15 rfl dX4_cell_14 (v := (-1 : Int32)) (by decide) ?_
      exact j_iret C R () rfl dX4_cell_15 rfl hw
theorem hi_X4_was_X2 : ∀ w ∈ wsX20, w ∈ wsX4_was := fun _ h => List.mem_cons_of_mem _ (List.mem_append_right _ h)
theorem hi_X4_was_X4 : ∀ w ∈ wsX40, w ∈ wsX4_was := fun _ h => List.mem_cons_of_mem _ (List.mem_append_left _ (List.mem_append_right _ h))
set_option maxRecDepth 20000 in
set_option maxHeartbeats 4000000 in
theorem c_X4_was (l : Launch) (g : gE) (a_this a_pad a_hill a_images a_fairCut a_bestCut a_leastFence a_hill_sorts a_hill_owners a_hill_worths a_hill_gave : Nat) (v_hill_generation : Int32) (v_hill_toll : Int32) (f_hill_owners : (Nat → Int32)) (x1 : Int32) (x2 : Int32)  (K : Int32 → Prop) (hw : wp_X4_was v_hill_generation f_hill_owners x1 x2 K) : Ci l g yX4_was wsX4_was { frames := 1, cells := 0, slots := 0, locals := 22 } [.ref a_this, .int x1, .int x2] [(a_this, .inr (4, [.ref a_pad, .ref a_hill, .ref a_images, .ref a_fairCut, .ref a_bestCut, .ref a_leastFence])), (a_hill, .inr (2, [.ref a_hill_sorts, .ref a_hill_owners, .ref a_hill_worths, .ref a_hill_gave, .int v_hill_generation, .int v_hill_toll])), (a_hill_owners, gI g 504 f_hill_owners)] (fun (r : Int32) (_ : Unit) => K r) (fun (_ : Unit) => [(a_this, .inr (4, [.ref a_pad, .ref a_hill, .ref a_images, .ref a_fairCut, .ref a_bestCut, .ref a_leastFence])), (a_hill, .inr (2, [.ref a_hill_sorts, .ref a_hill_owners, .ref a_hill_worths, .ref a_hill_gave, .int v_hill_generation, .int v_hill_toll])), (a_hill_owners, gI g 504 f_hill_owners)]) 0 0 := by
  refine Ci_of (cc := cX4_was) (nL := 3) (ret := (some .int)) (own := RX4) (lv0 := [(0, .ref a_this), (1, .int x1), (2, .int x2)]) (by decide +kernel) rfl rfl (Nat.le_of_ble_eq_true rfl) rfl (fun A x C R => ?_)
  refine j_iload_n C 1 rfl 1 dX4_was_0 rfl rfl ?_
  refine j_ri C 4 rfl (jc_S C (c_X4_isSector l g x1 _ hw) 1 gX4_was_X4_isSector rfl rfl rfl hd_X4_isSector ⟨Nat.le_of_ble_eq_true rfl, Nat.le_of_ble_eq_true rfl⟩ [] rfl rfl (rest := []) rfl rfl (Nat.le_of_ble_eq_true rfl) dX4_was_1 ⟨Nat.le_refl _, Nat.le_refl _⟩) [] rfl (fun _ => rfl) (fun r1 _ hw => ?_)
  try dsimp only at hw
  refine j_if_ne C 7 rfl 9 dX4_was_4 rfl (fun c => ?_) (fun c => ?_)
  · have hw := hw.1 c
    refine j_iload_n C 10 rfl 2 dX4_was_9 rfl rfl ?_
    refine j_if_lt C 13 rfl 24 dX4_was_10 rfl (fun c => ?_) (fun c => ?_)
    · have hw := hw.1 c
      refine j_bipush C 26 rfl dX4_was_24 (v := (-2 : Int32)) (by decide) ?_
      exact j_iret C R () rfl dX4_was_26 rfl hw
    · have hw := hw.2 c
      refine j_iload_n C 14 rfl 2 dX4_was_13 rfl rfl ?_
      refine j_aload_n C 15 rfl 0 dX4_was_14 rfl rfl ?_
      refine j_get C 18 rfl 0 4 1 (T := TX4) (N := 6) hi_X4_was_X4 rfl (by decide) (List.mem_of_getElem? (i := 1) rfl) rfl rfl rfl dX4_was_15 ?_
      refine j_get C 21 rfl 1 2 4 (T := TX2) (N := 6) hi_X4_was_X2 rfl (by decide) (List.mem_of_getElem? (i := 2) rfl) rfl rfl rfl dX4_was_18 ?_
      refine j_icmp_le C 24 rfl 27 dX4_was_21 rfl (fun c => ?_) (fun c => ?_)
      · have hw := hw.1 c
        refine j_aload_n C 28 rfl 0 dX4_was_27 rfl rfl ?_
        refine j_get C 31 rfl 0 4 1 (T := TX4) (N := 6) hi_X4_was_X4 rfl (by decide) (List.mem_of_getElem? (i := 1) rfl) rfl rfl rfl dX4_was_28 ?_
        refine j_iload_n C 32 rfl 2 dX4_was_31 rfl rfl ?_
        refine j_iload_n C 33 rfl 1 dX4_was_32 rfl rfl ?_
        refine j_ri C 36 rfl (jc_V C (c_X2_ownerBehind l g a_hill a_hill_sorts a_hill_owners a_hill_worths a_hill_gave v_hill_generation v_hill_toll f_hill_owners x2 x1 _ hw) 2 gX4_was_X2_ownerBehind rfl rfl rfl hd_X2_ownerBehind ⟨Nat.le_of_ble_eq_true rfl, Nat.le_of_ble_eq_true rfl⟩ (j_rec C 1 2 rfl rfl) [1, 2] rfl rfl (rest := []) rfl rfl (Nat.le_of_ble_eq_true rfl) dX4_was_33 ⟨Nat.le_refl _, Nat.le_refl _⟩) [1, 2] rfl (fun _ => rfl) (fun r2 _ hw => ?_)
        try dsimp only at hw
        exact j_iret C R () rfl dX4_was_36 rfl hw
      · have hw := hw.2 c
        refine j_bipush C 26 rfl dX4_was_24 (v := (-2 : Int32)) (by decide) ?_
        exact j_iret C R () rfl dX4_was_26 rfl hw
  · have hw := hw.2 c
    refine j_iconst C 8 rfl dX4_was_7 (v := (-1 : Int32)) (by decide) ?_
    exact j_iret C R () rfl dX4_was_8 rfl hw
theorem hi_X4_has_X4 : ∀ w ∈ wsX40, w ∈ wsX4_has := fun _ h => List.mem_cons_of_mem _ (List.mem_append_left _ (List.mem_append_right _ h))
set_option maxRecDepth 20000 in
set_option maxHeartbeats 4000000 in
theorem c_X4_has (l : Launch) (g : gE) (a_this a_pad a_hill a_images a_fairCut a_bestCut a_leastFence a_hill_sorts a_hill_owners a_hill_worths a_hill_gave : Nat) (v_hill_generation : Int32) (v_hill_toll : Int32) (f_hill_owners : (Nat → Int32)) (x1 : Int32)  (K : Int32 → Prop) (hw : wp_X4_has v_hill_generation f_hill_owners x1 K) : Ci l g yX4_has wsX4_has { frames := 3, cells := 0, slots := 0, locals := 66 } [.ref a_this, .int x1] [(a_this, .inr (4, [.ref a_pad, .ref a_hill, .ref a_images, .ref a_fairCut, .ref a_bestCut, .ref a_leastFence])), (a_hill, .inr (2, [.ref a_hill_sorts, .ref a_hill_owners, .ref a_hill_worths, .ref a_hill_gave, .int v_hill_generation, .int v_hill_toll])), (a_hill_owners, gI g 504 f_hill_owners)] (fun (r : Int32) (_ : Unit) => K r) (fun (_ : Unit) => [(a_this, .inr (4, [.ref a_pad, .ref a_hill, .ref a_images, .ref a_fairCut, .ref a_bestCut, .ref a_leastFence])), (a_hill, .inr (2, [.ref a_hill_sorts, .ref a_hill_owners, .ref a_hill_worths, .ref a_hill_gave, .int v_hill_generation, .int v_hill_toll])), (a_hill_owners, gI g 504 f_hill_owners)]) 0 0 := by
  refine Ci_of (cc := cX4_has) (nL := 2) (ret := (some .int)) (own := RX4) (lv0 := [(0, .ref a_this), (1, .int x1)]) (by decide +kernel) rfl rfl (Nat.le_of_ble_eq_true rfl) rfl (fun A x C R => ?_)
  refine j_iload_n C 1 rfl 1 dX4_has_0 rfl rfl ?_
  refine j_ri C 4 rfl (jc_S C (c_X4_isHeir l g x1 _ hw) 1 gX4_has_X4_isHeir rfl rfl rfl hd_X4_isHeir ⟨Nat.le_of_ble_eq_true rfl, Nat.le_of_ble_eq_true rfl⟩ [] rfl rfl (rest := []) rfl rfl (Nat.le_of_ble_eq_true rfl) dX4_has_1 ⟨Nat.le_refl _, Nat.le_refl _⟩) [] rfl (fun _ => rfl) (fun r1 _ hw => ?_)
  try dsimp only at hw
  refine j_if_eq C 7 rfl 18 dX4_has_4 rfl (fun c => ?_) (fun c => ?_)
  · have hw := hw.1 c
    refine j_iconst C 19 rfl dX4_has_18 (v := (-1 : Int32)) (by decide) ?_
    exact j_iret C R () rfl dX4_has_19 rfl hw
  · have hw := hw.2 c
    refine j_aload_n C 8 rfl 0 dX4_has_7 rfl rfl ?_
    refine j_get C 11 rfl 0 4 1 (T := TX4) (N := 6) hi_X4_has_X4 rfl (by decide) (List.mem_of_getElem? (i := 1) rfl) rfl rfl rfl dX4_has_8 ?_
    refine j_iload_n C 12 rfl 1 dX4_has_11 rfl rfl ?_
    refine j_ri C 15 rfl (jc_V C (c_X2_sectorsOf l g a_hill a_hill_sorts a_hill_owners a_hill_worths a_hill_gave v_hill_generation v_hill_toll f_hill_owners x1 _ hw) 1 gX4_has_X2_sectorsOf rfl rfl rfl hd_X2_sectorsOf ⟨Nat.le_of_ble_eq_true rfl, Nat.le_of_ble_eq_true rfl⟩ (j_rec C 1 2 rfl rfl) [1, 2] rfl rfl (rest := []) rfl rfl (Nat.le_of_ble_eq_true rfl) dX4_has_12 ⟨Nat.le_refl _, Nat.le_refl _⟩) [1, 2] rfl (fun _ => rfl) (fun r2 _ hw => ?_)
    try dsimp only at hw
    refine j_goto C 19 dX4_has_15 rfl ?_
    exact j_iret C R () rfl dX4_has_19 rfl hw
set_option maxRecDepth 20000 in
set_option maxHeartbeats 4000000 in
theorem c_X4_sortOfCode (l : Launch) (g : gE)  (x0 : Int32)  (K : Int32 → Prop) (hw : wp_X4_sortOfCode x0 K) : Ci l g yX4_sortOfCode wsX4_sortOfCode { frames := 4, cells := 0, slots := 0, locals := 106 } [.int x0] [] (fun (r : Int32) (_ : Unit) => K r) (fun (_ : Unit) => []) 0 0 := by
  refine Ci_of (cc := cX4_sortOfCode) (nL := 1) (ret := (some .int)) (own := RX4) (lv0 := [(0, .int x0)]) (by decide +kernel) rfl rfl (Nat.le_of_ble_eq_true rfl) rfl (fun A x C R => ?_)
  refine j_iload_n C 1 rfl 0 dX4_sortOfCode_0 rfl rfl ?_
  refine j_bipush C 3 rfl dX4_sortOfCode_1 (v := (33 : Int32)) (by decide) ?_
  refine j_icmp_lt C 6 rfl 12 dX4_sortOfCode_3 rfl (fun c => ?_) (fun c => ?_)
  · have hw := hw.1 c
    refine j_iconst C 13 rfl dX4_sortOfCode_12 (v := (-1 : Int32)) (by decide) ?_
    refine j_goto C 23 dX4_sortOfCode_13 rfl ?_
    exact j_iret C R () rfl dX4_sortOfCode_23 rfl hw
  · have hw := hw.2 c
    refine j_iload_n C 7 rfl 0 dX4_sortOfCode_6 rfl rfl ?_
    refine j_bipush C 9 rfl dX4_sortOfCode_7 (v := (126 : Int32)) (by decide) ?_
    refine j_icmp_le C 12 rfl 16 dX4_sortOfCode_9 rfl (fun c => ?_) (fun c => ?_)
    · have hw := hw.1 c
      refine j_ldcS0 C 18 rfl dX4_sortOfCode_16 ?_
      refine j_iload_n C 19 rfl 0 dX4_sortOfCode_18 rfl rfl ?_
      refine j_i2c C 20 rfl dX4_sortOfCode_19 ?_
      refine j_top (fun n1 en1 => ?_)
      have hw := hw n1 en1
      refine j_ri C 23 rfl (jc_V C (c_J0_indexOf_0f7a4 l g 0 n1 (by decide) _ hw) 1 gX4_sortOfCode_J0_indexOf_0f7a4 rfl rfl rfl hd_J0_indexOf_0f7a4 ⟨Nat.le_of_ble_eq_true rfl, Nat.le_of_ble_eq_true rfl⟩ (j_recK C 0 (by decide)) [] rfl rfl (rest := []) rfl rfl (Nat.le_of_ble_eq_true rfl) dX4_sortOfCode_20 ⟨Nat.le_refl _, Nat.le_refl _⟩) [] rfl (fun _ => rfl) (fun r2 _ hw => ?_)
      try dsimp only at hw
      exact j_iret C R () rfl dX4_sortOfCode_23 rfl hw
    · have hw := hw.2 c
      refine j_iconst C 13 rfl dX4_sortOfCode_12 (v := (-1 : Int32)) (by decide) ?_
      refine j_goto C 23 dX4_sortOfCode_13 rfl ?_
      exact j_iret C R () rfl dX4_sortOfCode_23 rfl hw
theorem hi_X4_worth_X4 : ∀ w ∈ wsX40, w ∈ wsX4_worth := fun _ h => List.mem_cons_of_mem _ (List.mem_append_left _ (List.mem_append_left _ (List.mem_append_right _ h)))
set_option maxRecDepth 20000 in
set_option maxHeartbeats 4000000 in
theorem c_X4_worth (l : Launch) (g : gE) (a_this a_pad a_hill a_images a_fairCut a_bestCut a_leastFence a_hill_sorts a_hill_owners a_hill_worths a_hill_gave a_fairCut_sums a_fairCut_shares a_fairCut_begins a_fairCut_heirs a_fairCut_foundBegins a_fairCut_foundHeirs a_bestCut_sums a_bestCut_shares a_bestCut_begins a_bestCut_heirs a_bestCut_foundBegins a_bestCut_foundHeirs : Nat) (v_hill_generation : Int32) (v_hill_toll : Int32) (f_hill_worths : (Nat → Int32)) (v_fairCut_fair : Int32) (v_fairCut_n : Int32) (v_fairCut_leastShare : Int32) (v_bestCut_fair : Int32) (v_bestCut_n : Int32) (v_bestCut_leastShare : Int32) (x1 : Int32) (x2 : Int32) (x3 : Int32)  (K : Int32 → (Nat → Int32) → Int32 → Int32 → Prop) (hw : wp_X4_worth f_hill_worths v_fairCut_n v_bestCut_n x1 x2 x3 K) : Ci l g yX4_worth wsX4_worth { frames := 5, cells := 0, slots := 0, locals := 126 } [.ref a_this, .int x1, .int x2, .int x3] [(a_this, .inr (4, [.ref a_pad, .ref a_hill, .ref a_images, .ref a_fairCut, .ref a_bestCut, .ref a_leastFence])), (a_hill, .inr (2, [.ref a_hill_sorts, .ref a_hill_owners, .ref a_hill_worths, .ref a_hill_gave, .int v_hill_generation, .int v_hill_toll])), (a_hill_worths, gI g 30 f_hill_worths), (a_fairCut, .inr (0, [.int v_fairCut_fair, .ref a_fairCut_sums, .ref a_fairCut_shares, .ref a_fairCut_begins, .ref a_fairCut_heirs, .ref a_fairCut_foundBegins, .ref a_fairCut_foundHeirs, .int v_fairCut_n, .int v_fairCut_leastShare])), (a_bestCut, .inr (0, [.int v_bestCut_fair, .ref a_bestCut_sums, .ref a_bestCut_shares, .ref a_bestCut_begins, .ref a_bestCut_heirs, .ref a_bestCut_foundBegins, .ref a_bestCut_foundHeirs, .int v_bestCut_n, .int v_bestCut_leastShare]))] (fun (r : Int32) (u : (Nat → Int32) × Int32 × Int32) => K r u.1 u.2.1 u.2.2) (fun (u : (Nat → Int32) × Int32 × Int32) => [(a_this, .inr (4, [.ref a_pad, .ref a_hill, .ref a_images, .ref a_fairCut, .ref a_bestCut, .ref a_leastFence])), (a_hill, .inr (2, [.ref a_hill_sorts, .ref a_hill_owners, .ref a_hill_worths, .ref a_hill_gave, .int v_hill_generation, .int v_hill_toll])), (a_hill_worths, gI g 30 (u.1)), (a_fairCut, .inr (0, [.int v_fairCut_fair, .ref a_fairCut_sums, .ref a_fairCut_shares, .ref a_fairCut_begins, .ref a_fairCut_heirs, .ref a_fairCut_foundBegins, .ref a_fairCut_foundHeirs, .int (u.2.1), .int v_fairCut_leastShare])), (a_bestCut, .inr (0, [.int v_bestCut_fair, .ref a_bestCut_sums, .ref a_bestCut_shares, .ref a_bestCut_begins, .ref a_bestCut_heirs, .ref a_bestCut_foundBegins, .ref a_bestCut_foundHeirs, .int (u.2.2), .int v_bestCut_leastShare]))]) 0 0 := by
  refine Ci_of (cc := cX4_worth) (nL := 5) (ret := (some .int)) (own := RX4) (lv0 := [(0, .ref a_this), (1, .int x1), (2, .int x2), (3, .int x3)]) (by decide +kernel) rfl rfl (Nat.le_of_ble_eq_true rfl) rfl (fun A x C R => ?_)
  refine j_iload_n C 1 rfl 1 dX4_worth_0 rfl rfl ?_
  refine j_ri C 4 rfl (jc_S C (c_X4_isHeir l g x1 _ hw) 1 gX4_worth_X4_isHeir rfl rfl rfl hd_X4_isHeir ⟨Nat.le_of_ble_eq_true rfl, Nat.le_of_ble_eq_true rfl⟩ [] rfl rfl (rest := []) rfl rfl (Nat.le_of_ble_eq_true rfl) dX4_worth_1 ⟨Nat.le_refl _, Nat.le_refl _⟩) [] rfl (fun _ => rfl) (fun r1 _ hw => ?_)
  try dsimp only at hw
  refine j_if_ne C 7 rfl 9 dX4_worth_4 rfl (fun c => ?_) (fun c => ?_)
  · have hw := hw.1 c
    refine j_iload_n C 10 rfl 2 dX4_worth_9 rfl rfl ?_
    refine j_ri C 13 rfl (jc_S C (c_X4_sortOfCode l g x2 _ hw) 1 gX4_worth_X4_sortOfCode rfl rfl rfl hd_X4_sortOfCode ⟨Nat.le_of_ble_eq_true rfl, Nat.le_of_ble_eq_true rfl⟩ [] rfl rfl (rest := []) rfl rfl (Nat.le_of_ble_eq_true rfl) dX4_worth_10 ⟨Nat.le_refl _, Nat.le_refl _⟩) [] rfl (fun _ => rfl) (fun r2 _ hw => ?_)
    try dsimp only at hw
    refine j_istore C 15 rfl [1, 2, 3, 4, 0] (lv' := [(0, .ref a_this), (1, .int x1), (2, .int x2), (3, .int x3), (4, .int r2)]) dX4_worth_13 (by decide) rfl ?_
    refine j_iload C 17 rfl 4 dX4_worth_15 rfl ?_
    refine j_if_lt C 20 rfl 30 dX4_worth_17 rfl (fun c => ?_) (fun c => ?_)
    · have hw := hw.1 c
      refine j_bipush C 32 rfl dX4_worth_30 (v := (-2 : Int32)) (by decide) ?_
      exact j_iret C R (f_hill_worths, v_fairCut_n, v_bestCut_n) rfl dX4_worth_32 rfl hw
    · have hw := hw.2 c
      refine j_iload_n C 21 rfl 3 dX4_worth_20 rfl rfl ?_
      refine j_if_lt C 24 rfl 30 dX4_worth_21 rfl (fun c => ?_) (fun c => ?_)
      · have hw := hw.1 c
        refine j_bipush C 32 rfl dX4_worth_30 (v := (-2 : Int32)) (by decide) ?_
        exact j_iret C R (f_hill_worths, v_fairCut_n, v_bestCut_n) rfl dX4_worth_32 rfl hw
      · have hw := hw.2 c
        refine j_iload_n C 25 rfl 3 dX4_worth_24 rfl rfl ?_
        refine j_bipush C 27 rfl dX4_worth_25 (v := (99 : Int32)) (by decide) ?_
        refine j_icmp_le C 30 rfl 33 dX4_worth_27 rfl (fun c => ?_) (fun c => ?_)
        · have hw := hw.1 c
          refine j_aload_n C 34 rfl 0 dX4_worth_33 rfl rfl ?_
          refine j_rwv C 37 rfl (jc_V C (c_X4_forgetCuts l g a_this a_pad a_hill a_images a_fairCut a_bestCut a_leastFence a_fairCut_sums a_fairCut_shares a_fairCut_begins a_fairCut_heirs a_fairCut_foundBegins a_fairCut_foundHeirs a_bestCut_sums a_bestCut_shares a_bestCut_begins a_bestCut_heirs a_bestCut_foundBegins a_bestCut_foundHeirs v_fairCut_fair v_fairCut_n v_fairCut_leastShare v_bestCut_fair v_bestCut_n v_bestCut_leastShare _ hw) 0 gX4_worth_X4_forgetCuts rfl rfl rfl hd_X4_forgetCuts ⟨Nat.le_of_ble_eq_true rfl, Nat.le_of_ble_eq_true rfl⟩ (j_rec C 0 4 rfl rfl) [0, 3, 4] rfl rfl (rest := []) rfl rfl (Nat.le_of_ble_eq_true rfl) dX4_worth_34 ⟨Nat.le_refl _, Nat.le_refl _⟩) [0, 3, 4] [1, 2] [2, 0, 1, 3, 4] (wr := [(a_hill, .inr (2, [.ref a_hill_sorts, .ref a_hill_owners, .ref a_hill_worths, .ref a_hill_gave, .int v_hill_generation, .int v_hill_toll])), (a_hill_worths, gI g 30 f_hill_worths)]) (ws' := fun u => [(a_this, .inr (4, [.ref a_pad, .ref a_hill, .ref a_images, .ref a_fairCut, .ref a_bestCut, .ref a_leastFence])), (a_hill, .inr (2, [.ref a_hill_sorts, .ref a_hill_owners, .ref a_hill_worths, .ref a_hill_gave, .int v_hill_generation, .int v_hill_toll])), (a_hill_worths, gI g 30 f_hill_worths), (a_fairCut, .inr (0, [.int v_fairCut_fair, .ref a_fairCut_sums, .ref a_fairCut_shares, .ref a_fairCut_begins, .ref a_fairCut_heirs, .ref a_fairCut_foundBegins, .ref a_fairCut_foundHeirs, .int (u.1), .int v_fairCut_leastShare])), (a_bestCut, .inr (0, [.int v_bestCut_fair, .ref a_bestCut_sums, .ref a_bestCut_shares, .ref a_bestCut_begins, .ref a_bestCut_heirs, .ref a_bestCut_foundBegins, .ref a_bestCut_foundHeirs, .int (u.2), .int v_bestCut_leastShare]))]) rfl rfl rfl (by decide) rfl (fun _ => rfl) (fun u hw => ?_)
          obtain ⟨u3, u4⟩ := u
          try dsimp only at hw
          show J l g A x 5 0 0 37 [(0, .ref a_this), (1, .int x1), (2, .int x2), (3, .int x3), (4, .int r2)] [] [(a_this, .inr (4, [.ref a_pad, .ref a_hill, .ref a_images, .ref a_fairCut, .ref a_bestCut, .ref a_leastFence])), (a_hill, .inr (2, [.ref a_hill_sorts, .ref a_hill_owners, .ref a_hill_worths, .ref a_hill_gave, .int v_hill_generation, .int v_hill_toll])), (a_hill_worths, gI g 30 f_hill_worths), (a_fairCut, .inr (0, [.int v_fairCut_fair, .ref a_fairCut_sums, .ref a_fairCut_shares, .ref a_fairCut_begins, .ref a_fairCut_heirs, .ref a_fairCut_foundBegins, .ref a_fairCut_foundHeirs, .int u3, .int v_fairCut_leastShare])), (a_bestCut, .inr (0, [.int v_bestCut_fair, .ref a_bestCut_sums, .ref a_bestCut_shares, .ref a_bestCut_begins, .ref a_bestCut_heirs, .ref a_bestCut_foundBegins, .ref a_bestCut_foundHeirs, .int u4, .int v_bestCut_leastShare]))]
          refine j_aload_n C 38 rfl 0 dX4_worth_37 rfl rfl ?_
          refine j_get C 41 rfl 0 4 1 (T := TX4) (N := 6) hi_X4_worth_X4 rfl (by decide) (List.mem_of_getElem? (i := 1) rfl) rfl rfl rfl dX4_worth_38 ?_
          refine j_iload_n C 42 rfl 1 dX4_worth_41 rfl rfl ?_
          refine j_iload C 44 rfl 4 dX4_worth_42 rfl ?_
          refine j_iload_n C 45 rfl 3 dX4_worth_44 rfl rfl ?_
          refine j_rwi C 48 rfl (jc_V C (c_X2_setWorth l g a_hill a_hill_sorts a_hill_owners a_hill_worths a_hill_gave v_hill_generation v_hill_toll f_hill_worths x1 r2 x3 _ hw) 3 gX4_worth_X2_setWorth rfl rfl rfl hd_X2_setWorth ⟨Nat.le_of_ble_eq_true rfl, Nat.le_of_ble_eq_true rfl⟩ (j_rec C 1 2 rfl rfl) [1, 2] rfl rfl (rest := []) rfl rfl (Nat.le_of_ble_eq_true rfl) dX4_worth_45 ⟨Nat.le_refl _, Nat.le_refl _⟩) [1, 2] [0, 3, 4] [0, 3, 4, 1, 2] (wr := [(a_this, .inr (4, [.ref a_pad, .ref a_hill, .ref a_images, .ref a_fairCut, .ref a_bestCut, .ref a_leastFence])), (a_fairCut, .inr (0, [.int v_fairCut_fair, .ref a_fairCut_sums, .ref a_fairCut_shares, .ref a_fairCut_begins, .ref a_fairCut_heirs, .ref a_fairCut_foundBegins, .ref a_fairCut_foundHeirs, .int u3, .int v_fairCut_leastShare])), (a_bestCut, .inr (0, [.int v_bestCut_fair, .ref a_bestCut_sums, .ref a_bestCut_shares, .ref a_bestCut_begins, .ref a_bestCut_heirs, .ref a_bestCut_foundBegins, .ref a_bestCut_foundHeirs, .int u4, .int v_bestCut_leastShare]))]) (ws' := fun u => [(a_this, .inr (4, [.ref a_pad, .ref a_hill, .ref a_images, .ref a_fairCut, .ref a_bestCut, .ref a_leastFence])), (a_hill, .inr (2, [.ref a_hill_sorts, .ref a_hill_owners, .ref a_hill_worths, .ref a_hill_gave, .int v_hill_generation, .int v_hill_toll])), (a_hill_worths, gI g 30 u), (a_fairCut, .inr (0, [.int v_fairCut_fair, .ref a_fairCut_sums, .ref a_fairCut_shares, .ref a_fairCut_begins, .ref a_fairCut_heirs, .ref a_fairCut_foundBegins, .ref a_fairCut_foundHeirs, .int u3, .int v_fairCut_leastShare])), (a_bestCut, .inr (0, [.int v_bestCut_fair, .ref a_bestCut_sums, .ref a_bestCut_shares, .ref a_bestCut_begins, .ref a_bestCut_heirs, .ref a_bestCut_foundBegins, .ref a_bestCut_foundHeirs, .int u4, .int v_bestCut_leastShare]))]) rfl rfl rfl (by decide) rfl (fun _ => rfl) (fun r5 u hw => ?_)
          obtain ⟨u6, eu6⟩ : ∃ z, z = u := ⟨_, rfl⟩
          subst eu6
          try dsimp only at hw
          show J l g A x 5 0 0 48 [(0, .ref a_this), (1, .int x1), (2, .int x2), (3, .int x3), (4, .int r2)] [.int r5] [(a_this, .inr (4, [.ref a_pad, .ref a_hill, .ref a_images, .ref a_fairCut, .ref a_bestCut, .ref a_leastFence])), (a_hill, .inr (2, [.ref a_hill_sorts, .ref a_hill_owners, .ref a_hill_worths, .ref a_hill_gave, .int v_hill_generation, .int v_hill_toll])), (a_hill_worths, gI g 30 u6), (a_fairCut, .inr (0, [.int v_fairCut_fair, .ref a_fairCut_sums, .ref a_fairCut_shares, .ref a_fairCut_begins, .ref a_fairCut_heirs, .ref a_fairCut_foundBegins, .ref a_fairCut_foundHeirs, .int u3, .int v_fairCut_leastShare])), (a_bestCut, .inr (0, [.int v_bestCut_fair, .ref a_bestCut_sums, .ref a_bestCut_shares, .ref a_bestCut_begins, .ref a_bestCut_heirs, .ref a_bestCut_foundBegins, .ref a_bestCut_foundHeirs, .int u4, .int v_bestCut_leastShare]))]
          exact j_iret C R (u6, u3, u4) rfl dX4_worth_48 rfl hw
        · have hw := hw.2 c
          refine j_bipush C 32 rfl dX4_worth_30 (v := (-2 : Int32)) (by decide) ?_
          exact j_iret C R (f_hill_worths, v_fairCut_n, v_bestCut_n) rfl dX4_worth_32 rfl hw
  · have hw := hw.2 c
    refine j_iconst C 8 rfl dX4_worth_7 (v := (-1 : Int32)) (by decide) ?_
    exact j_iret C R (f_hill_worths, v_fairCut_n, v_bestCut_n) rfl dX4_worth_8 rfl hw
theorem hi_X4_share_X4 : ∀ w ∈ wsX40, w ∈ wsX4_share := fun _ h => List.mem_cons_of_mem _ (List.mem_append_left _ (List.mem_append_right _ h))
set_option maxRecDepth 20000 in
set_option maxHeartbeats 4000000 in
theorem c_X4_share (l : Launch) (g : gE) (a_this a_pad a_hill a_images a_fairCut a_bestCut a_leastFence a_hill_sorts a_hill_owners a_hill_worths a_hill_gave : Nat) (v_hill_generation : Int32) (v_hill_toll : Int32) (f_hill_sorts : (Nat → Int32)) (f_hill_worths : (Nat → Int32)) (x1 : Int32) (x2 : Int32)  (K : Int32 → Prop) (hw : wp_X4_share f_hill_sorts f_hill_worths x1 x2 K) : Ci l g yX4_share wsX4_share { frames := 3, cells := 0, slots := 0, locals := 70 } [.ref a_this, .int x1, .int x2] [(a_this, .inr (4, [.ref a_pad, .ref a_hill, .ref a_images, .ref a_fairCut, .ref a_bestCut, .ref a_leastFence])), (a_hill, .inr (2, [.ref a_hill_sorts, .ref a_hill_owners, .ref a_hill_worths, .ref a_hill_gave, .int v_hill_generation, .int v_hill_toll])), (a_hill_sorts, gI g 120 f_hill_sorts), (a_hill_worths, gI g 30 f_hill_worths)] (fun (r : Int32) (_ : Unit) => K r) (fun (_ : Unit) => [(a_this, .inr (4, [.ref a_pad, .ref a_hill, .ref a_images, .ref a_fairCut, .ref a_bestCut, .ref a_leastFence])), (a_hill, .inr (2, [.ref a_hill_sorts, .ref a_hill_owners, .ref a_hill_worths, .ref a_hill_gave, .int v_hill_generation, .int v_hill_toll])), (a_hill_sorts, gI g 120 f_hill_sorts), (a_hill_worths, gI g 30 f_hill_worths)]) 0 0 := by
  refine Ci_of (cc := cX4_share) (nL := 3) (ret := (some .int)) (own := RX4) (lv0 := [(0, .ref a_this), (1, .int x1), (2, .int x2)]) (by decide +kernel) rfl rfl (Nat.le_of_ble_eq_true rfl) rfl (fun A x C R => ?_)
  refine j_iload_n C 1 rfl 1 dX4_share_0 rfl rfl ?_
  refine j_ri C 4 rfl (jc_S C (c_X4_isHeir l g x1 _ hw) 1 gX4_share_X4_isHeir rfl rfl rfl hd_X4_isHeir ⟨Nat.le_of_ble_eq_true rfl, Nat.le_of_ble_eq_true rfl⟩ [] rfl rfl (rest := []) rfl rfl (Nat.le_of_ble_eq_true rfl) dX4_share_1 ⟨Nat.le_refl _, Nat.le_refl _⟩) [] rfl (fun _ => rfl) (fun r1 _ hw => ?_)
  try dsimp only at hw
  refine j_if_ne C 7 rfl 9 dX4_share_4 rfl (fun c => ?_) (fun c => ?_)
  · have hw := hw.1 c
    refine j_iload_n C 10 rfl 2 dX4_share_9 rfl rfl ?_
    refine j_if_lt C 13 rfl 19 dX4_share_10 rfl (fun c => ?_) (fun c => ?_)
    · have hw := hw.1 c
      refine j_bipush C 21 rfl dX4_share_19 (v := (-2 : Int32)) (by decide) ?_
      exact j_iret C R () rfl dX4_share_21 rfl hw
    · have hw := hw.2 c
      refine j_iload_n C 14 rfl 2 dX4_share_13 rfl rfl ?_
      refine j_ldc C 16 rfl (v := (16777215 : Int32)) (List.mem_of_getElem? (i := 1) rfl) dX4_share_14 ?_
      refine j_icmp_le C 19 rfl 22 dX4_share_16 rfl (fun c => ?_) (fun c => ?_)
      · have hw := hw.1 c
        refine j_aload_n C 23 rfl 0 dX4_share_22 rfl rfl ?_
        refine j_get C 26 rfl 0 4 1 (T := TX4) (N := 6) hi_X4_share_X4 rfl (by decide) (List.mem_of_getElem? (i := 2) rfl) rfl rfl rfl dX4_share_23 ?_
        refine j_iload_n C 27 rfl 1 dX4_share_26 rfl rfl ?_
        refine j_iload_n C 28 rfl 2 dX4_share_27 rfl rfl ?_
        refine j_ri C 31 rfl (jc_V C (c_X2_shareOf l g a_hill a_hill_sorts a_hill_owners a_hill_worths a_hill_gave v_hill_generation v_hill_toll f_hill_sorts f_hill_worths x1 x2 _ hw) 2 gX4_share_X2_shareOf rfl rfl rfl hd_X2_shareOf ⟨Nat.le_of_ble_eq_true rfl, Nat.le_of_ble_eq_true rfl⟩ (j_rec C 1 2 rfl rfl) [1, 2, 3] rfl rfl (rest := []) rfl rfl (Nat.le_of_ble_eq_true rfl) dX4_share_28 ⟨Nat.le_refl _, Nat.le_refl _⟩) [1, 2, 3] rfl (fun _ => rfl) (fun r2 _ hw => ?_)
        try dsimp only at hw
        exact j_iret C R () rfl dX4_share_31 rfl hw
      · have hw := hw.2 c
        refine j_bipush C 21 rfl dX4_share_19 (v := (-2 : Int32)) (by decide) ?_
        exact j_iret C R () rfl dX4_share_21 rfl hw
  · have hw := hw.2 c
    refine j_iconst C 8 rfl dX4_share_7 (v := (-1 : Int32)) (by decide) ?_
    exact j_iret C R () rfl dX4_share_8 rfl hw
theorem hi_X4_envies_X4 : ∀ w ∈ wsX40, w ∈ wsX4_envies := fun _ h => List.mem_cons_of_mem _ (List.mem_append_left _ (List.mem_append_right _ h))
set_option maxRecDepth 20000 in
set_option maxHeartbeats 4000000 in
theorem c_X4_envies (l : Launch) (g : gE) (a_this a_pad a_hill a_images a_fairCut a_bestCut a_leastFence a_hill_sorts a_hill_owners a_hill_worths a_hill_gave : Nat) (v_hill_generation : Int32) (v_hill_toll : Int32) (f_hill_sorts : (Nat → Int32)) (f_hill_owners : (Nat → Int32)) (f_hill_worths : (Nat → Int32)) (x1 : Int32)  (K : Int32 → Prop) (hw : wp_X4_envies v_hill_generation f_hill_sorts f_hill_owners f_hill_worths x1 K) : Ci l g yX4_envies wsX4_envies { frames := 3, cells := 0, slots := 0, locals := 70 } [.ref a_this, .int x1] [(a_this, .inr (4, [.ref a_pad, .ref a_hill, .ref a_images, .ref a_fairCut, .ref a_bestCut, .ref a_leastFence])), (a_hill, .inr (2, [.ref a_hill_sorts, .ref a_hill_owners, .ref a_hill_worths, .ref a_hill_gave, .int v_hill_generation, .int v_hill_toll])), (a_hill_sorts, gI g 120 f_hill_sorts), (a_hill_owners, gI g 504 f_hill_owners), (a_hill_worths, gI g 30 f_hill_worths)] (fun (r : Int32) (_ : Unit) => K r) (fun (_ : Unit) => [(a_this, .inr (4, [.ref a_pad, .ref a_hill, .ref a_images, .ref a_fairCut, .ref a_bestCut, .ref a_leastFence])), (a_hill, .inr (2, [.ref a_hill_sorts, .ref a_hill_owners, .ref a_hill_worths, .ref a_hill_gave, .int v_hill_generation, .int v_hill_toll])), (a_hill_sorts, gI g 120 f_hill_sorts), (a_hill_owners, gI g 504 f_hill_owners), (a_hill_worths, gI g 30 f_hill_worths)]) 0 0 := by
  refine Ci_of (cc := cX4_envies) (nL := 5) (ret := (some .int)) (own := RX4) (lv0 := [(0, .ref a_this), (1, .int x1)]) (by decide +kernel) rfl rfl (Nat.le_of_ble_eq_true rfl) rfl (fun A x C R => ?_)
  refine j_iload_n C 1 rfl 1 dX4_envies_0 rfl rfl ?_
  refine j_ri C 4 rfl (jc_S C (c_X4_isHeir l g x1 _ hw) 1 gX4_envies_X4_isHeir rfl rfl rfl hd_X4_isHeir ⟨Nat.le_of_ble_eq_true rfl, Nat.le_of_ble_eq_true rfl⟩ [] rfl rfl (rest := []) rfl rfl (Nat.le_of_ble_eq_true rfl) dX4_envies_1 ⟨Nat.le_refl _, Nat.le_refl _⟩) [] rfl (fun _ => rfl) (fun r1 _ hw => ?_)
  try dsimp only at hw
  refine j_if_ne C 7 rfl 9 dX4_envies_4 rfl (fun c => ?_) (fun c => ?_)
  · have hw := hw.1 c
    refine j_aload_n C 10 rfl 0 dX4_envies_9 rfl rfl ?_
    refine j_get C 13 rfl 0 4 1 (T := TX4) (N := 6) hi_X4_envies_X4 rfl (by decide) (List.mem_of_getElem? (i := 1) rfl) rfl rfl rfl dX4_envies_10 ?_
    refine j_iload_n C 14 rfl 1 dX4_envies_13 rfl rfl ?_
    refine j_aload_n C 15 rfl 0 dX4_envies_14 rfl rfl ?_
    refine j_get C 18 rfl 0 4 1 (T := TX4) (N := 6) hi_X4_envies_X4 rfl (by decide) (List.mem_of_getElem? (i := 1) rfl) rfl rfl rfl dX4_envies_15 ?_
    refine j_iload_n C 19 rfl 1 dX4_envies_18 rfl rfl ?_
    refine j_ri C 22 rfl (jc_V C (c_X2_sectorsOf l g a_hill a_hill_sorts a_hill_owners a_hill_worths a_hill_gave v_hill_generation v_hill_toll f_hill_owners x1 _ hw) 1 gX4_envies_X2_sectorsOf rfl rfl rfl hd_X2_sectorsOf ⟨Nat.le_of_ble_eq_true rfl, Nat.le_of_ble_eq_true rfl⟩ (j_rec C 1 2 rfl rfl) [1, 3] rfl rfl (rest := [.int x1, .ref a_hill]) rfl rfl (Nat.le_of_ble_eq_true rfl) dX4_envies_19 ⟨Nat.le_refl _, Nat.le_refl _⟩) [1, 3] rfl (fun _ => rfl) (fun r2 _ hw => ?_)
    try dsimp only at hw
    refine j_ri C 25 rfl (jc_V C (c_X2_shareOf l g a_hill a_hill_sorts a_hill_owners a_hill_worths a_hill_gave v_hill_generation v_hill_toll f_hill_sorts f_hill_worths x1 r2 _ hw) 2 gX4_envies_X2_shareOf rfl rfl rfl hd_X2_shareOf ⟨Nat.le_of_ble_eq_true rfl, Nat.le_of_ble_eq_true rfl⟩ (j_rec C 1 2 rfl rfl) [1, 2, 4] rfl rfl (rest := []) rfl rfl (Nat.le_of_ble_eq_true rfl) dX4_envies_22 ⟨Nat.le_refl _, Nat.le_refl _⟩) [1, 2, 4] rfl (fun _ => rfl) (fun r3 _ hw => ?_)
    try dsimp only at hw
    refine j_istore_n C 26 rfl [1, 2, 0] (lv' := [(0, .ref a_this), (1, .int x1), (2, .int r3)]) dX4_envies_25 rfl (by decide) rfl ?_
    refine j_iconst C 27 rfl dX4_envies_26 (v := (0 : Int32)) (by decide) ?_
    refine j_istore_n C 28 rfl [1, 2, 3, 0] (lv' := [(0, .ref a_this), (1, .int x1), (2, .int r3), (3, .int (0 : Int32))]) dX4_envies_27 rfl (by decide) rfl ?_
    refine j_iconst C 29 rfl dX4_envies_28 (v := (0 : Int32)) (by decide) ?_
    refine j_istore C 31 rfl [1, 2, 3, 4, 0] (lv' := [(0, .ref a_this), (1, .int x1), (2, .int r3), (3, .int (0 : Int32)), (4, .int (0 : Int32))]) dX4_envies_29 (by decide) rfl ?_
    refine lpW2_ind (G := fun x3 x4 => J l g A x 5 0 0 31 [(0, .ref a_this), (1, .int x1), (2, .int r3), (3, .int x3), (4, .int x4)] [] [(a_this, .inr (4, [.ref a_pad, .ref a_hill, .ref a_images, .ref a_fairCut, .ref a_bestCut, .ref a_leastFence])), (a_hill, .inr (2, [.ref a_hill_sorts, .ref a_hill_owners, .ref a_hill_worths, .ref a_hill_gave, .int v_hill_generation, .int v_hill_toll])), (a_hill_sorts, gI g 120 f_hill_sorts), (a_hill_owners, gI g 504 f_hill_owners), (a_hill_worths, gI g 30 f_hill_worths)]) (fun L31 x3 x4 hL31 hw => ?_) _ _ hw
    refine j_iload C 33 rfl 4 dX4_envies_31 rfl ?_
    refine j_bipush C 35 rfl dX4_envies_33 (v := (6 : Int32)) (by decide) ?_
    refine j_icmp_ge C 38 rfl 72 dX4_envies_35 rfl (fun c => ?_) (fun c => ?_)
    · have hw := hw.1 c
      refine j_iload_n C 73 rfl 3 dX4_envies_72 rfl rfl ?_
      exact j_iret C R () rfl dX4_envies_73 rfl hw
    · have hw := hw.2 c
      refine j_aload_n C 39 rfl 0 dX4_envies_38 rfl rfl ?_
      refine j_get C 42 rfl 0 4 1 (T := TX4) (N := 6) hi_X4_envies_X4 rfl (by decide) (List.mem_of_getElem? (i := 1) rfl) rfl rfl rfl dX4_envies_39 ?_
      refine j_iload_n C 43 rfl 1 dX4_envies_42 rfl rfl ?_
      refine j_aload_n C 44 rfl 0 dX4_envies_43 rfl rfl ?_
      refine j_get C 47 rfl 0 4 1 (T := TX4) (N := 6) hi_X4_envies_X4 rfl (by decide) (List.mem_of_getElem? (i := 1) rfl) rfl rfl rfl dX4_envies_44 ?_
      refine j_iload C 49 rfl 4 dX4_envies_47 rfl ?_
      refine j_ri C 52 rfl (jc_V C (c_X2_sectorsOf l g a_hill a_hill_sorts a_hill_owners a_hill_worths a_hill_gave v_hill_generation v_hill_toll f_hill_owners x4 _ hw) 1 gX4_envies_X2_sectorsOf rfl rfl rfl hd_X2_sectorsOf ⟨Nat.le_of_ble_eq_true rfl, Nat.le_of_ble_eq_true rfl⟩ (j_rec C 1 2 rfl rfl) [1, 3] rfl rfl (rest := [.int x1, .ref a_hill]) rfl rfl (Nat.le_of_ble_eq_true rfl) dX4_envies_49 ⟨Nat.le_refl _, Nat.le_refl _⟩) [1, 3] rfl (fun _ => rfl) (fun r4 _ hw => ?_)
      try dsimp only at hw
      refine j_ri C 55 rfl (jc_V C (c_X2_shareOf l g a_hill a_hill_sorts a_hill_owners a_hill_worths a_hill_gave v_hill_generation v_hill_toll f_hill_sorts f_hill_worths x1 r4 _ hw) 2 gX4_envies_X2_shareOf rfl rfl rfl hd_X2_shareOf ⟨Nat.le_of_ble_eq_true rfl, Nat.le_of_ble_eq_true rfl⟩ (j_rec C 1 2 rfl rfl) [1, 2, 4] rfl rfl (rest := []) rfl rfl (Nat.le_of_ble_eq_true rfl) dX4_envies_52 ⟨Nat.le_refl _, Nat.le_refl _⟩) [1, 2, 4] rfl (fun _ => rfl) (fun r5 _ hw => ?_)
      try dsimp only at hw
      refine j_iload_n C 56 rfl 2 dX4_envies_55 rfl rfl ?_
      refine j_icmp_le C 59 rfl 66 dX4_envies_56 rfl (fun c => ?_) (fun c => ?_)
      · have hw := hw.1 c
        refine j_iinc C 69 rfl 4 [1, 2, 3, 4, 0] (v' := (1 : Int32)) (lv' := fun z => [(0, .ref a_this), (1, .int x1), (2, .int r3), (3, .int x3), (4, .int z)]) dX4_envies_66 rfl (by decide) (by decide) (fun _ => rfl) (fun n6 en6 => ?_)
        have hw := hw n6 en6
        refine j_goto C 31 dX4_envies_69 rfl ?_
        exact hL31 _ _ hw
      · have hw := hw.2 c
        refine j_iload_n C 60 rfl 3 dX4_envies_59 rfl rfl ?_
        refine j_iconst C 61 rfl dX4_envies_60 (v := (1 : Int32)) (by decide) ?_
        refine j_iload C 63 rfl 4 dX4_envies_61 rfl ?_
        refine j_ishl C 64 rfl dX4_envies_63 ?_
        refine j_ior C 65 rfl dX4_envies_64 ?_
        refine j_top (fun n7 en7 => ?_)
        have hw := hw n7 en7
        refine j_istore_n C 66 rfl [1, 2, 3, 0, 4] (lv' := [(0, .ref a_this), (1, .int x1), (2, .int r3), (3, .int n7), (4, .int x4)]) dX4_envies_65 rfl (by decide) rfl ?_
        refine j_iinc C 69 rfl 4 [1, 2, 3, 4, 0] (v' := (1 : Int32)) (lv' := fun z => [(0, .ref a_this), (1, .int x1), (2, .int r3), (3, .int n7), (4, .int z)]) dX4_envies_66 rfl (by decide) (by decide) (fun _ => rfl) (fun n8 en8 => ?_)
        have hw := hw n8 en8
        refine j_goto C 31 dX4_envies_69 rfl ?_
        exact hL31 _ _ hw
  · have hw := hw.2 c
    refine j_iconst C 8 rfl dX4_envies_7 (v := (-1 : Int32)) (by decide) ?_
    exact j_iret C R () rfl dX4_envies_8 rfl hw
theorem hi_X4_answerOfCut_X4 : ∀ w ∈ wsX40, w ∈ wsX4_answerOfCut := fun _ h => List.mem_cons_of_mem _ (List.mem_append_left _ (List.mem_append_left _ (List.mem_append_right _ h)))
set_option maxRecDepth 20000 in
set_option maxHeartbeats 4000000 in
theorem c_X4_answerOfCut (l : Launch) (g : gE) (a_this a_pad a_hill a_images a_fairCut a_bestCut a_leastFence a_hill_sorts a_hill_owners a_hill_worths a_hill_gave a_p1 a_p1_sums a_p1_shares a_p1_begins a_p1_heirs a_p1_foundBegins a_p1_foundHeirs : Nat) (v_hill_generation : Int32) (v_hill_toll : Int32) (f_hill_sorts : (Nat → Int32)) (f_hill_worths : (Nat → Int32)) (v_p1_fair : Int32) (v_p1_n : Int32) (v_p1_leastShare : Int32) (f_p1_sums : (Nat → Int32)) (f_p1_shares : (Nat → Int32)) (f_p1_begins : (Nat → Int32)) (f_p1_heirs : (Nat → Int32)) (f_p1_foundBegins : (Nat → Int32)) (f_p1_foundHeirs : (Nat → Int32)) (x2 : Int32) (x3 : Int32)  (K : Int32 → Int32 → Int32 → (Nat → Int32) → (Nat → Int32) → (Nat → Int32) → (Nat → Int32) → (Nat → Int32) → (Nat → Int32) → Prop) (hw : wp_X4_answerOfCut f_hill_sorts f_hill_worths v_p1_fair v_p1_n v_p1_leastShare f_p1_sums f_p1_shares f_p1_begins f_p1_heirs f_p1_foundBegins f_p1_foundHeirs x2 x3 K) : Ci l g yX4_answerOfCut wsX4_answerOfCut { frames := 14, cells := 0, slots := 0, locals := 652 } [.ref a_this, .ref a_p1, .int x2, .int x3] [(a_this, .inr (4, [.ref a_pad, .ref a_hill, .ref a_images, .ref a_fairCut, .ref a_bestCut, .ref a_leastFence])), (a_hill, .inr (2, [.ref a_hill_sorts, .ref a_hill_owners, .ref a_hill_worths, .ref a_hill_gave, .int v_hill_generation, .int v_hill_toll])), (a_hill_sorts, gI g 120 f_hill_sorts), (a_hill_worths, gI g 30 f_hill_worths), (a_p1, .inr (0, [.int v_p1_fair, .ref a_p1_sums, .ref a_p1_shares, .ref a_p1_begins, .ref a_p1_heirs, .ref a_p1_foundBegins, .ref a_p1_foundHeirs, .int v_p1_n, .int v_p1_leastShare])), (a_p1_sums, gI g 192 f_p1_sums), (a_p1_shares, gI g 16 f_p1_shares), (a_p1_begins, gI g 4 f_p1_begins), (a_p1_heirs, gI g 4 f_p1_heirs), (a_p1_foundBegins, gI g 4 f_p1_foundBegins), (a_p1_foundHeirs, gI g 4 f_p1_foundHeirs)] (fun (r : Int32) (u : Int32 × Int32 × (Nat → Int32) × (Nat → Int32) × (Nat → Int32) × (Nat → Int32) × (Nat → Int32) × (Nat → Int32)) => K r u.1 u.2.1 u.2.2.1 u.2.2.2.1 u.2.2.2.2.1 u.2.2.2.2.2.1 u.2.2.2.2.2.2.1 u.2.2.2.2.2.2.2) (fun (u : Int32 × Int32 × (Nat → Int32) × (Nat → Int32) × (Nat → Int32) × (Nat → Int32) × (Nat → Int32) × (Nat → Int32)) => [(a_this, .inr (4, [.ref a_pad, .ref a_hill, .ref a_images, .ref a_fairCut, .ref a_bestCut, .ref a_leastFence])), (a_hill, .inr (2, [.ref a_hill_sorts, .ref a_hill_owners, .ref a_hill_worths, .ref a_hill_gave, .int v_hill_generation, .int v_hill_toll])), (a_hill_sorts, gI g 120 f_hill_sorts), (a_hill_worths, gI g 30 f_hill_worths), (a_p1, .inr (0, [.int v_p1_fair, .ref a_p1_sums, .ref a_p1_shares, .ref a_p1_begins, .ref a_p1_heirs, .ref a_p1_foundBegins, .ref a_p1_foundHeirs, .int (u.1), .int (u.2.1)])), (a_p1_sums, gI g 192 (u.2.2.1)), (a_p1_shares, gI g 16 (u.2.2.2.1)), (a_p1_begins, gI g 4 (u.2.2.2.2.1)), (a_p1_heirs, gI g 4 (u.2.2.2.2.2.1)), (a_p1_foundBegins, gI g 4 (u.2.2.2.2.2.2.1)), (a_p1_foundHeirs, gI g 4 (u.2.2.2.2.2.2.2))]) 0 0 := by
  refine Ci_of (cc := cX4_answerOfCut) (nL := 4) (ret := (some .int)) (own := RX4) (lv0 := [(0, .ref a_this), (1, .ref a_p1), (2, .int x2), (3, .int x3)]) (by decide +kernel) rfl rfl (Nat.le_of_ble_eq_true rfl) rfl (fun A x C R => ?_)
  refine j_iload_n C 1 rfl 2 dX4_answerOfCut_0 rfl rfl ?_
  refine j_iconst C 2 rfl dX4_answerOfCut_1 (v := (2 : Int32)) (by decide) ?_
  refine j_icmp_lt C 5 rfl 10 dX4_answerOfCut_2 rfl (fun c => ?_) (fun c => ?_)
  · have hw := hw.1 c
    refine j_bipush C 12 rfl dX4_answerOfCut_10 (v := (-2 : Int32)) (by decide) ?_
    exact j_iret C R (v_p1_n, v_p1_leastShare, f_p1_sums, f_p1_shares, f_p1_begins, f_p1_heirs, f_p1_foundBegins, f_p1_foundHeirs) rfl dX4_answerOfCut_12 rfl hw
  · have hw := hw.2 c
    refine j_iload_n C 6 rfl 2 dX4_answerOfCut_5 rfl rfl ?_
    refine j_iconst C 7 rfl dX4_answerOfCut_6 (v := (4 : Int32)) (by decide) ?_
    refine j_icmp_le C 10 rfl 13 dX4_answerOfCut_7 rfl (fun c => ?_) (fun c => ?_)
    · have hw := hw.1 c
      refine j_aload_n C 14 rfl 1 dX4_answerOfCut_13 rfl rfl ?_
      refine j_iload_n C 15 rfl 2 dX4_answerOfCut_14 rfl rfl ?_
      refine j_aload_n C 16 rfl 0 dX4_answerOfCut_15 rfl rfl ?_
      refine j_get C 19 rfl 0 4 1 (T := TX4) (N := 6) hi_X4_answerOfCut_X4 rfl (by decide) (List.mem_of_getElem? (i := 1) rfl) rfl rfl rfl dX4_answerOfCut_16 ?_
      refine j_rwv C 22 rfl (jc_V C (c_X0_searchAmong l g a_p1 a_p1_sums a_p1_shares a_p1_begins a_p1_heirs a_p1_foundBegins a_p1_foundHeirs a_hill a_hill_sorts a_hill_owners a_hill_worths a_hill_gave v_p1_fair v_p1_n v_p1_leastShare f_p1_sums f_p1_shares f_p1_begins f_p1_heirs f_p1_foundBegins f_p1_foundHeirs v_hill_generation v_hill_toll f_hill_sorts f_hill_worths x2 _ hw) 2 gX4_answerOfCut_X0_searchAmong rfl rfl rfl hd_X0_searchAmong ⟨Nat.le_of_ble_eq_true rfl, Nat.le_of_ble_eq_true rfl⟩ (j_rec C 4 0 rfl rfl) [4, 5, 6, 7, 8, 9, 10, 1, 2, 3] rfl rfl (rest := []) rfl rfl (Nat.le_of_ble_eq_true rfl) dX4_answerOfCut_19 ⟨Nat.le_refl _, Nat.le_refl _⟩) [4, 5, 6, 7, 8, 9, 10, 1, 2, 3] [0] [0, 8, 9, 10, 1, 2, 3, 4, 5, 6, 7] (wr := [(a_this, .inr (4, [.ref a_pad, .ref a_hill, .ref a_images, .ref a_fairCut, .ref a_bestCut, .ref a_leastFence]))]) (ws' := fun u => [(a_this, .inr (4, [.ref a_pad, .ref a_hill, .ref a_images, .ref a_fairCut, .ref a_bestCut, .ref a_leastFence])), (a_hill, .inr (2, [.ref a_hill_sorts, .ref a_hill_owners, .ref a_hill_worths, .ref a_hill_gave, .int v_hill_generation, .int v_hill_toll])), (a_hill_sorts, gI g 120 f_hill_sorts), (a_hill_worths, gI g 30 f_hill_worths), (a_p1, .inr (0, [.int v_p1_fair, .ref a_p1_sums, .ref a_p1_shares, .ref a_p1_begins, .ref a_p1_heirs, .ref a_p1_foundBegins, .ref a_p1_foundHeirs, .int (u.1), .int (u.2.1)])), (a_p1_sums, gI g 192 (u.2.2.1)), (a_p1_shares, gI g 16 (u.2.2.2.1)), (a_p1_begins, gI g 4 (u.2.2.2.2.1)), (a_p1_heirs, gI g 4 (u.2.2.2.2.2.1)), (a_p1_foundBegins, gI g 4 (u.2.2.2.2.2.2.1)), (a_p1_foundHeirs, gI g 4 (u.2.2.2.2.2.2.2))]) rfl rfl rfl (by decide) rfl (fun _ => rfl) (fun u hw => ?_)
      obtain ⟨u1, u2, u3, u4, u5, u6, u7, u8⟩ := u
      try dsimp only at hw
      show J l g A x 4 0 0 22 [(0, .ref a_this), (1, .ref a_p1), (2, .int x2), (3, .int x3)] [] [(a_this, .inr (4, [.ref a_pad, .ref a_hill, .ref a_images, .ref a_fairCut, .ref a_bestCut, .ref a_leastFence])), (a_hill, .inr (2, [.ref a_hill_sorts, .ref a_hill_owners, .ref a_hill_worths, .ref a_hill_gave, .int v_hill_generation, .int v_hill_toll])), (a_hill_sorts, gI g 120 f_hill_sorts), (a_hill_worths, gI g 30 f_hill_worths), (a_p1, .inr (0, [.int v_p1_fair, .ref a_p1_sums, .ref a_p1_shares, .ref a_p1_begins, .ref a_p1_heirs, .ref a_p1_foundBegins, .ref a_p1_foundHeirs, .int u1, .int u2])), (a_p1_sums, gI g 192 u3), (a_p1_shares, gI g 16 u4), (a_p1_begins, gI g 4 u5), (a_p1_heirs, gI g 4 u6), (a_p1_foundBegins, gI g 4 u7), (a_p1_foundHeirs, gI g 4 u8)]
      refine j_aload_n C 23 rfl 1 dX4_answerOfCut_22 rfl rfl ?_
      refine j_iload_n C 24 rfl 3 dX4_answerOfCut_23 rfl rfl ?_
      refine j_ri C 27 rfl (jc_V C (c_X0_answer l g a_p1 a_p1_sums a_p1_shares a_p1_begins a_p1_heirs a_p1_foundBegins a_p1_foundHeirs v_p1_fair u1 u2 u7 u8 x3 _ hw) 1 gX4_answerOfCut_X0_answer rfl rfl rfl hd_X0_answer ⟨Nat.le_of_ble_eq_true rfl, Nat.le_of_ble_eq_true rfl⟩ (j_rec C 4 0 rfl rfl) [4, 9, 10] rfl rfl (rest := []) rfl rfl (Nat.le_of_ble_eq_true rfl) dX4_answerOfCut_24 ⟨Nat.le_refl _, Nat.le_refl _⟩) [4, 9, 10] rfl (fun _ => rfl) (fun r9 _ hw => ?_)
      try dsimp only at hw
      exact j_iret C R (u1, u2, u3, u4, u5, u6, u7, u8) rfl dX4_answerOfCut_27 rfl hw
    · have hw := hw.2 c
      refine j_bipush C 12 rfl dX4_answerOfCut_10 (v := (-2 : Int32)) (by decide) ?_
      exact j_iret C R (v_p1_n, v_p1_leastShare, f_p1_sums, f_p1_shares, f_p1_begins, f_p1_heirs, f_p1_foundBegins, f_p1_foundHeirs) rfl dX4_answerOfCut_12 rfl hw
theorem hi_X4_fair_X4 : ∀ w ∈ wsX40, w ∈ wsX4_fair := fun _ h => List.mem_cons_of_mem _ (List.mem_append_left _ (List.mem_append_left _ (List.mem_append_right _ h)))
set_option maxRecDepth 20000 in
set_option maxHeartbeats 4000000 in
theorem c_X4_fair (l : Launch) (g : gE) (a_this a_pad a_hill a_images a_fairCut a_bestCut a_leastFence a_hill_sorts a_hill_owners a_hill_worths a_hill_gave a_fairCut_sums a_fairCut_shares a_fairCut_begins a_fairCut_heirs a_fairCut_foundBegins a_fairCut_foundHeirs : Nat) (v_hill_generation : Int32) (v_hill_toll : Int32) (f_hill_sorts : (Nat → Int32)) (f_hill_worths : (Nat → Int32)) (v_fairCut_fair : Int32) (v_fairCut_n : Int32) (v_fairCut_leastShare : Int32) (f_fairCut_sums : (Nat → Int32)) (f_fairCut_shares : (Nat → Int32)) (f_fairCut_begins : (Nat → Int32)) (f_fairCut_heirs : (Nat → Int32)) (f_fairCut_foundBegins : (Nat → Int32)) (f_fairCut_foundHeirs : (Nat → Int32)) (x1 : Int32) (x2 : Int32)  (K : Int32 → Int32 → Int32 → (Nat → Int32) → (Nat → Int32) → (Nat → Int32) → (Nat → Int32) → (Nat → Int32) → (Nat → Int32) → Prop) (hw : wp_X4_fair f_hill_sorts f_hill_worths v_fairCut_fair v_fairCut_n v_fairCut_leastShare f_fairCut_sums f_fairCut_shares f_fairCut_begins f_fairCut_heirs f_fairCut_foundBegins f_fairCut_foundHeirs x1 x2 K) : Ci l g yX4_fair wsX4_fair { frames := 15, cells := 0, slots := 0, locals := 675 } [.ref a_this, .int x1, .int x2] [(a_this, .inr (4, [.ref a_pad, .ref a_hill, .ref a_images, .ref a_fairCut, .ref a_bestCut, .ref a_leastFence])), (a_hill, .inr (2, [.ref a_hill_sorts, .ref a_hill_owners, .ref a_hill_worths, .ref a_hill_gave, .int v_hill_generation, .int v_hill_toll])), (a_hill_sorts, gI g 120 f_hill_sorts), (a_hill_worths, gI g 30 f_hill_worths), (a_fairCut, .inr (0, [.int v_fairCut_fair, .ref a_fairCut_sums, .ref a_fairCut_shares, .ref a_fairCut_begins, .ref a_fairCut_heirs, .ref a_fairCut_foundBegins, .ref a_fairCut_foundHeirs, .int v_fairCut_n, .int v_fairCut_leastShare])), (a_fairCut_sums, gI g 192 f_fairCut_sums), (a_fairCut_shares, gI g 16 f_fairCut_shares), (a_fairCut_begins, gI g 4 f_fairCut_begins), (a_fairCut_heirs, gI g 4 f_fairCut_heirs), (a_fairCut_foundBegins, gI g 4 f_fairCut_foundBegins), (a_fairCut_foundHeirs, gI g 4 f_fairCut_foundHeirs)] (fun (r : Int32) (u : Int32 × Int32 × (Nat → Int32) × (Nat → Int32) × (Nat → Int32) × (Nat → Int32) × (Nat → Int32) × (Nat → Int32)) => K r u.1 u.2.1 u.2.2.1 u.2.2.2.1 u.2.2.2.2.1 u.2.2.2.2.2.1 u.2.2.2.2.2.2.1 u.2.2.2.2.2.2.2) (fun (u : Int32 × Int32 × (Nat → Int32) × (Nat → Int32) × (Nat → Int32) × (Nat → Int32) × (Nat → Int32) × (Nat → Int32)) => [(a_this, .inr (4, [.ref a_pad, .ref a_hill, .ref a_images, .ref a_fairCut, .ref a_bestCut, .ref a_leastFence])), (a_hill, .inr (2, [.ref a_hill_sorts, .ref a_hill_owners, .ref a_hill_worths, .ref a_hill_gave, .int v_hill_generation, .int v_hill_toll])), (a_hill_sorts, gI g 120 f_hill_sorts), (a_hill_worths, gI g 30 f_hill_worths), (a_fairCut, .inr (0, [.int v_fairCut_fair, .ref a_fairCut_sums, .ref a_fairCut_shares, .ref a_fairCut_begins, .ref a_fairCut_heirs, .ref a_fairCut_foundBegins, .ref a_fairCut_foundHeirs, .int (u.1), .int (u.2.1)])), (a_fairCut_sums, gI g 192 (u.2.2.1)), (a_fairCut_shares, gI g 16 (u.2.2.2.1)), (a_fairCut_begins, gI g 4 (u.2.2.2.2.1)), (a_fairCut_heirs, gI g 4 (u.2.2.2.2.2.1)), (a_fairCut_foundBegins, gI g 4 (u.2.2.2.2.2.2.1)), (a_fairCut_foundHeirs, gI g 4 (u.2.2.2.2.2.2.2))]) 0 0 := by
  refine Ci_of (cc := cX4_fair) (nL := 3) (ret := (some .int)) (own := RX4) (lv0 := [(0, .ref a_this), (1, .int x1), (2, .int x2)]) (by decide +kernel) rfl rfl (Nat.le_of_ble_eq_true rfl) rfl (fun A x C R => ?_)
  refine j_aload_n C 1 rfl 0 dX4_fair_0 rfl rfl ?_
  refine j_aload_n C 2 rfl 0 dX4_fair_1 rfl rfl ?_
  refine j_get C 5 rfl 0 4 3 (T := TX4) (N := 6) hi_X4_fair_X4 rfl (by decide) (List.mem_of_getElem? (i := 1) rfl) rfl rfl rfl dX4_fair_2 ?_
  refine j_iload_n C 6 rfl 1 dX4_fair_5 rfl rfl ?_
  refine j_iload_n C 7 rfl 2 dX4_fair_6 rfl rfl ?_
  refine j_rwi C 10 rfl (jc_V C (c_X4_answerOfCut l g a_this a_pad a_hill a_images a_fairCut a_bestCut a_leastFence a_hill_sorts a_hill_owners a_hill_worths a_hill_gave a_fairCut a_fairCut_sums a_fairCut_shares a_fairCut_begins a_fairCut_heirs a_fairCut_foundBegins a_fairCut_foundHeirs v_hill_generation v_hill_toll f_hill_sorts f_hill_worths v_fairCut_fair v_fairCut_n v_fairCut_leastShare f_fairCut_sums f_fairCut_shares f_fairCut_begins f_fairCut_heirs f_fairCut_foundBegins f_fairCut_foundHeirs x1 x2 _ hw) 3 gX4_fair_X4_answerOfCut rfl rfl rfl hd_X4_answerOfCut ⟨Nat.le_of_ble_eq_true rfl, Nat.le_of_ble_eq_true rfl⟩ (j_rec C 0 4 rfl rfl) [0, 1, 2, 3, 4, 5, 6, 7, 8, 9, 10] rfl rfl (rest := []) rfl rfl (Nat.le_of_ble_eq_true rfl) dX4_fair_7 ⟨Nat.le_refl _, Nat.le_refl _⟩) [0, 1, 2, 3, 4, 5, 6, 7, 8, 9, 10] [] [0, 1, 2, 3, 4, 5, 6, 7, 8, 9, 10] (wr := []) (ws' := fun u => [(a_this, .inr (4, [.ref a_pad, .ref a_hill, .ref a_images, .ref a_fairCut, .ref a_bestCut, .ref a_leastFence])), (a_hill, .inr (2, [.ref a_hill_sorts, .ref a_hill_owners, .ref a_hill_worths, .ref a_hill_gave, .int v_hill_generation, .int v_hill_toll])), (a_hill_sorts, gI g 120 f_hill_sorts), (a_hill_worths, gI g 30 f_hill_worths), (a_fairCut, .inr (0, [.int v_fairCut_fair, .ref a_fairCut_sums, .ref a_fairCut_shares, .ref a_fairCut_begins, .ref a_fairCut_heirs, .ref a_fairCut_foundBegins, .ref a_fairCut_foundHeirs, .int (u.1), .int (u.2.1)])), (a_fairCut_sums, gI g 192 (u.2.2.1)), (a_fairCut_shares, gI g 16 (u.2.2.2.1)), (a_fairCut_begins, gI g 4 (u.2.2.2.2.1)), (a_fairCut_heirs, gI g 4 (u.2.2.2.2.2.1)), (a_fairCut_foundBegins, gI g 4 (u.2.2.2.2.2.2.1)), (a_fairCut_foundHeirs, gI g 4 (u.2.2.2.2.2.2.2))]) rfl rfl rfl (by decide) rfl (fun _ => rfl) (fun r1 u hw => ?_)
  obtain ⟨u2, u3, u4, u5, u6, u7, u8, u9⟩ := u
  try dsimp only at hw
  show J l g A x 3 0 0 10 [(0, .ref a_this), (1, .int x1), (2, .int x2)] [.int r1] [(a_this, .inr (4, [.ref a_pad, .ref a_hill, .ref a_images, .ref a_fairCut, .ref a_bestCut, .ref a_leastFence])), (a_hill, .inr (2, [.ref a_hill_sorts, .ref a_hill_owners, .ref a_hill_worths, .ref a_hill_gave, .int v_hill_generation, .int v_hill_toll])), (a_hill_sorts, gI g 120 f_hill_sorts), (a_hill_worths, gI g 30 f_hill_worths), (a_fairCut, .inr (0, [.int v_fairCut_fair, .ref a_fairCut_sums, .ref a_fairCut_shares, .ref a_fairCut_begins, .ref a_fairCut_heirs, .ref a_fairCut_foundBegins, .ref a_fairCut_foundHeirs, .int u2, .int u3])), (a_fairCut_sums, gI g 192 u4), (a_fairCut_shares, gI g 16 u5), (a_fairCut_begins, gI g 4 u6), (a_fairCut_heirs, gI g 4 u7), (a_fairCut_foundBegins, gI g 4 u8), (a_fairCut_foundHeirs, gI g 4 u9)]
  exact j_iret C R (u2, u3, u4, u5, u6, u7, u8, u9) rfl dX4_fair_10 rfl hw
theorem hi_X4_best_X4 : ∀ w ∈ wsX40, w ∈ wsX4_best := fun _ h => List.mem_cons_of_mem _ (List.mem_append_left _ (List.mem_append_left _ (List.mem_append_right _ h)))
set_option maxRecDepth 20000 in
set_option maxHeartbeats 4000000 in
theorem c_X4_best (l : Launch) (g : gE) (a_this a_pad a_hill a_images a_fairCut a_bestCut a_leastFence a_hill_sorts a_hill_owners a_hill_worths a_hill_gave a_bestCut_sums a_bestCut_shares a_bestCut_begins a_bestCut_heirs a_bestCut_foundBegins a_bestCut_foundHeirs : Nat) (v_hill_generation : Int32) (v_hill_toll : Int32) (f_hill_sorts : (Nat → Int32)) (f_hill_worths : (Nat → Int32)) (v_bestCut_fair : Int32) (v_bestCut_n : Int32) (v_bestCut_leastShare : Int32) (f_bestCut_sums : (Nat → Int32)) (f_bestCut_shares : (Nat → Int32)) (f_bestCut_begins : (Nat → Int32)) (f_bestCut_heirs : (Nat → Int32)) (f_bestCut_foundBegins : (Nat → Int32)) (f_bestCut_foundHeirs : (Nat → Int32)) (x1 : Int32) (x2 : Int32)  (K : Int32 → Int32 → Int32 → (Nat → Int32) → (Nat → Int32) → (Nat → Int32) → (Nat → Int32) → (Nat → Int32) → (Nat → Int32) → Prop) (hw : wp_X4_best f_hill_sorts f_hill_worths v_bestCut_fair v_bestCut_n v_bestCut_leastShare f_bestCut_sums f_bestCut_shares f_bestCut_begins f_bestCut_heirs f_bestCut_foundBegins f_bestCut_foundHeirs x1 x2 K) : Ci l g yX4_best wsX4_best { frames := 15, cells := 0, slots := 0, locals := 675 } [.ref a_this, .int x1, .int x2] [(a_this, .inr (4, [.ref a_pad, .ref a_hill, .ref a_images, .ref a_fairCut, .ref a_bestCut, .ref a_leastFence])), (a_hill, .inr (2, [.ref a_hill_sorts, .ref a_hill_owners, .ref a_hill_worths, .ref a_hill_gave, .int v_hill_generation, .int v_hill_toll])), (a_hill_sorts, gI g 120 f_hill_sorts), (a_hill_worths, gI g 30 f_hill_worths), (a_bestCut, .inr (0, [.int v_bestCut_fair, .ref a_bestCut_sums, .ref a_bestCut_shares, .ref a_bestCut_begins, .ref a_bestCut_heirs, .ref a_bestCut_foundBegins, .ref a_bestCut_foundHeirs, .int v_bestCut_n, .int v_bestCut_leastShare])), (a_bestCut_sums, gI g 192 f_bestCut_sums), (a_bestCut_shares, gI g 16 f_bestCut_shares), (a_bestCut_begins, gI g 4 f_bestCut_begins), (a_bestCut_heirs, gI g 4 f_bestCut_heirs), (a_bestCut_foundBegins, gI g 4 f_bestCut_foundBegins), (a_bestCut_foundHeirs, gI g 4 f_bestCut_foundHeirs)] (fun (r : Int32) (u : Int32 × Int32 × (Nat → Int32) × (Nat → Int32) × (Nat → Int32) × (Nat → Int32) × (Nat → Int32) × (Nat → Int32)) => K r u.1 u.2.1 u.2.2.1 u.2.2.2.1 u.2.2.2.2.1 u.2.2.2.2.2.1 u.2.2.2.2.2.2.1 u.2.2.2.2.2.2.2) (fun (u : Int32 × Int32 × (Nat → Int32) × (Nat → Int32) × (Nat → Int32) × (Nat → Int32) × (Nat → Int32) × (Nat → Int32)) => [(a_this, .inr (4, [.ref a_pad, .ref a_hill, .ref a_images, .ref a_fairCut, .ref a_bestCut, .ref a_leastFence])), (a_hill, .inr (2, [.ref a_hill_sorts, .ref a_hill_owners, .ref a_hill_worths, .ref a_hill_gave, .int v_hill_generation, .int v_hill_toll])), (a_hill_sorts, gI g 120 f_hill_sorts), (a_hill_worths, gI g 30 f_hill_worths), (a_bestCut, .inr (0, [.int v_bestCut_fair, .ref a_bestCut_sums, .ref a_bestCut_shares, .ref a_bestCut_begins, .ref a_bestCut_heirs, .ref a_bestCut_foundBegins, .ref a_bestCut_foundHeirs, .int (u.1), .int (u.2.1)])), (a_bestCut_sums, gI g 192 (u.2.2.1)), (a_bestCut_shares, gI g 16 (u.2.2.2.1)), (a_bestCut_begins, gI g 4 (u.2.2.2.2.1)), (a_bestCut_heirs, gI g 4 (u.2.2.2.2.2.1)), (a_bestCut_foundBegins, gI g 4 (u.2.2.2.2.2.2.1)), (a_bestCut_foundHeirs, gI g 4 (u.2.2.2.2.2.2.2))]) 0 0 := by
  refine Ci_of (cc := cX4_best) (nL := 3) (ret := (some .int)) (own := RX4) (lv0 := [(0, .ref a_this), (1, .int x1), (2, .int x2)]) (by decide +kernel) rfl rfl (Nat.le_of_ble_eq_true rfl) rfl (fun A x C R => ?_)
  refine j_aload_n C 1 rfl 0 dX4_best_0 rfl rfl ?_
  refine j_aload_n C 2 rfl 0 dX4_best_1 rfl rfl ?_
  refine j_get C 5 rfl 0 4 4 (T := TX4) (N := 6) hi_X4_best_X4 rfl (by decide) (List.mem_of_getElem? (i := 1) rfl) rfl rfl rfl dX4_best_2 ?_
  refine j_iload_n C 6 rfl 1 dX4_best_5 rfl rfl ?_
  refine j_iload_n C 7 rfl 2 dX4_best_6 rfl rfl ?_
  refine j_rwi C 10 rfl (jc_V C (c_X4_answerOfCut l g a_this a_pad a_hill a_images a_fairCut a_bestCut a_leastFence a_hill_sorts a_hill_owners a_hill_worths a_hill_gave a_bestCut a_bestCut_sums a_bestCut_shares a_bestCut_begins a_bestCut_heirs a_bestCut_foundBegins a_bestCut_foundHeirs v_hill_generation v_hill_toll f_hill_sorts f_hill_worths v_bestCut_fair v_bestCut_n v_bestCut_leastShare f_bestCut_sums f_bestCut_shares f_bestCut_begins f_bestCut_heirs f_bestCut_foundBegins f_bestCut_foundHeirs x1 x2 _ hw) 3 gX4_best_X4_answerOfCut rfl rfl rfl hd_X4_answerOfCut ⟨Nat.le_of_ble_eq_true rfl, Nat.le_of_ble_eq_true rfl⟩ (j_rec C 0 4 rfl rfl) [0, 1, 2, 3, 4, 5, 6, 7, 8, 9, 10] rfl rfl (rest := []) rfl rfl (Nat.le_of_ble_eq_true rfl) dX4_best_7 ⟨Nat.le_refl _, Nat.le_refl _⟩) [0, 1, 2, 3, 4, 5, 6, 7, 8, 9, 10] [] [0, 1, 2, 3, 4, 5, 6, 7, 8, 9, 10] (wr := []) (ws' := fun u => [(a_this, .inr (4, [.ref a_pad, .ref a_hill, .ref a_images, .ref a_fairCut, .ref a_bestCut, .ref a_leastFence])), (a_hill, .inr (2, [.ref a_hill_sorts, .ref a_hill_owners, .ref a_hill_worths, .ref a_hill_gave, .int v_hill_generation, .int v_hill_toll])), (a_hill_sorts, gI g 120 f_hill_sorts), (a_hill_worths, gI g 30 f_hill_worths), (a_bestCut, .inr (0, [.int v_bestCut_fair, .ref a_bestCut_sums, .ref a_bestCut_shares, .ref a_bestCut_begins, .ref a_bestCut_heirs, .ref a_bestCut_foundBegins, .ref a_bestCut_foundHeirs, .int (u.1), .int (u.2.1)])), (a_bestCut_sums, gI g 192 (u.2.2.1)), (a_bestCut_shares, gI g 16 (u.2.2.2.1)), (a_bestCut_begins, gI g 4 (u.2.2.2.2.1)), (a_bestCut_heirs, gI g 4 (u.2.2.2.2.2.1)), (a_bestCut_foundBegins, gI g 4 (u.2.2.2.2.2.2.1)), (a_bestCut_foundHeirs, gI g 4 (u.2.2.2.2.2.2.2))]) rfl rfl rfl (by decide) rfl (fun _ => rfl) (fun r1 u hw => ?_)
  obtain ⟨u2, u3, u4, u5, u6, u7, u8, u9⟩ := u
  try dsimp only at hw
  show J l g A x 3 0 0 10 [(0, .ref a_this), (1, .int x1), (2, .int x2)] [.int r1] [(a_this, .inr (4, [.ref a_pad, .ref a_hill, .ref a_images, .ref a_fairCut, .ref a_bestCut, .ref a_leastFence])), (a_hill, .inr (2, [.ref a_hill_sorts, .ref a_hill_owners, .ref a_hill_worths, .ref a_hill_gave, .int v_hill_generation, .int v_hill_toll])), (a_hill_sorts, gI g 120 f_hill_sorts), (a_hill_worths, gI g 30 f_hill_worths), (a_bestCut, .inr (0, [.int v_bestCut_fair, .ref a_bestCut_sums, .ref a_bestCut_shares, .ref a_bestCut_begins, .ref a_bestCut_heirs, .ref a_bestCut_foundBegins, .ref a_bestCut_foundHeirs, .int u2, .int u3])), (a_bestCut_sums, gI g 192 u4), (a_bestCut_shares, gI g 16 u5), (a_bestCut_begins, gI g 4 u6), (a_bestCut_heirs, gI g 4 u7), (a_bestCut_foundBegins, gI g 4 u8), (a_bestCut_foundHeirs, gI g 4 u9)]
  exact j_iret C R (u2, u3, u4, u5, u6, u7, u8, u9) rfl dX4_best_10 rfl hw
theorem hi_X4_toll_X2 : ∀ w ∈ wsX20, w ∈ wsX4_toll := fun _ h => List.mem_cons_of_mem _ (List.mem_append_right _ h)
theorem hi_X4_toll_X4 : ∀ w ∈ wsX40, w ∈ wsX4_toll := fun _ h => List.mem_cons_of_mem _ (List.mem_append_left _ (List.mem_append_right _ h))
set_option maxRecDepth 20000 in
set_option maxHeartbeats 4000000 in
theorem c_X4_toll (l : Launch) (g : gE) (a_this a_pad a_hill a_images a_fairCut a_bestCut a_leastFence a_hill_sorts a_hill_owners a_hill_worths a_hill_gave : Nat) (v_hill_generation : Int32) (v_hill_toll : Int32) (x1 : Int32)  (K : Int32 → Int32 → Prop) (hw : wp_X4_toll v_hill_toll x1 K) : Ci l g yX4_toll wsX4_toll { frames := 0, cells := 0, slots := 0, locals := 0 } [.ref a_this, .int x1] [(a_this, .inr (4, [.ref a_pad, .ref a_hill, .ref a_images, .ref a_fairCut, .ref a_bestCut, .ref a_leastFence])), (a_hill, .inr (2, [.ref a_hill_sorts, .ref a_hill_owners, .ref a_hill_worths, .ref a_hill_gave, .int v_hill_generation, .int v_hill_toll]))] (fun (r : Int32) (u : Int32) => K r u) (fun (u : Int32) => [(a_this, .inr (4, [.ref a_pad, .ref a_hill, .ref a_images, .ref a_fairCut, .ref a_bestCut, .ref a_leastFence])), (a_hill, .inr (2, [.ref a_hill_sorts, .ref a_hill_owners, .ref a_hill_worths, .ref a_hill_gave, .int v_hill_generation, .int u]))]) 0 0 := by
  refine Ci_of (cc := cX4_toll) (nL := 3) (ret := (some .int)) (own := RX4) (lv0 := [(0, .ref a_this), (1, .int x1)]) (by decide +kernel) rfl rfl (Nat.le_of_ble_eq_true rfl) rfl (fun A x C R => ?_)
  refine j_iload_n C 1 rfl 1 dX4_toll_0 rfl rfl ?_
  refine j_if_lt C 4 rfl 10 dX4_toll_1 rfl (fun c => ?_) (fun c => ?_)
  · have hw := hw.1 c
    refine j_bipush C 12 rfl dX4_toll_10 (v := (-2 : Int32)) (by decide) ?_
    exact j_iret C R (v_hill_toll) rfl dX4_toll_12 rfl hw
  · have hw := hw.2 c
    refine j_iload_n C 5 rfl 1 dX4_toll_4 rfl rfl ?_
    refine j_bipush C 7 rfl dX4_toll_5 (v := (99 : Int32)) (by decide) ?_
    refine j_icmp_le C 10 rfl 13 dX4_toll_7 rfl (fun c => ?_) (fun c => ?_)
    · have hw := hw.1 c
      refine j_aload_n C 14 rfl 0 dX4_toll_13 rfl rfl ?_
      refine j_get C 17 rfl 0 4 1 (T := TX4) (N := 6) hi_X4_toll_X4 rfl (by decide) (List.mem_of_getElem? (i := 1) rfl) rfl rfl rfl dX4_toll_14 ?_
      refine j_get C 20 rfl 1 2 5 (T := TX2) (N := 6) hi_X4_toll_X2 rfl (by decide) (List.mem_of_getElem? (i := 2) rfl) rfl rfl rfl dX4_toll_17 ?_
      refine j_istore_n C 21 rfl [1, 2, 0] (lv' := [(0, .ref a_this), (1, .int x1), (2, .int v_hill_toll)]) dX4_toll_20 rfl (by decide) rfl ?_
      refine j_aload_n C 22 rfl 0 dX4_toll_21 rfl rfl ?_
      refine j_get C 25 rfl 0 4 1 (T := TX4) (N := 6) hi_X4_toll_X4 rfl (by decide) (List.mem_of_getElem? (i := 1) rfl) rfl rfl rfl dX4_toll_22 ?_
      refine j_iload_n C 26 rfl 1 dX4_toll_25 rfl rfl ?_
      refine j_put C 29 rfl 1 2 5 (ws' := [(a_this, .inr (4, [.ref a_pad, .ref a_hill, .ref a_images, .ref a_fairCut, .ref a_bestCut, .ref a_leastFence])), (a_hill, .inr (2, [.ref a_hill_sorts, .ref a_hill_owners, .ref a_hill_worths, .ref a_hill_gave, .int v_hill_generation, .int x1]))]) (T := TX2) (N := 6) (ty := .int) tyX2_ok nmX2 hi_X4_toll_X2 rfl (by decide) (List.mem_of_getElem? (i := 2) rfl) rfl rfl rfl rfl rfl rfl (Nat.le_of_ble_eq_true rfl) rfl dX4_toll_26 ?_
      refine j_iload_n C 30 rfl 2 dX4_toll_29 rfl rfl ?_
      exact j_iret C R (x1) rfl dX4_toll_30 rfl hw
    · have hw := hw.2 c
      refine j_bipush C 12 rfl dX4_toll_10 (v := (-2 : Int32)) (by decide) ?_
      exact j_iret C R (v_hill_toll) rfl dX4_toll_12 rfl hw
theorem hi_X4_right_X4 : ∀ w ∈ wsX40, w ∈ wsX4_right := fun _ h => List.mem_cons_of_mem _ (List.mem_append_left _ (List.mem_append_right _ h))
set_option maxRecDepth 20000 in
set_option maxHeartbeats 4000000 in
theorem c_X4_right (l : Launch) (g : gE) (a_this a_pad a_hill a_images a_fairCut a_bestCut a_leastFence a_hill_sorts a_hill_owners a_hill_worths a_hill_gave : Nat) (v_hill_generation : Int32) (v_hill_toll : Int32) (f_hill_gave : (Nat → Int32)) (x1 : Int32) (x2 : Int32) (x3 : Int32)  (K : Int32 → (Nat → Int32) → Prop) (hw : wp_X4_right f_hill_gave x1 x2 x3 K) : Ci l g yX4_right wsX4_right { frames := 2, cells := 0, slots := 0, locals := 47 } [.ref a_this, .int x1, .int x2, .int x3] [(a_this, .inr (4, [.ref a_pad, .ref a_hill, .ref a_images, .ref a_fairCut, .ref a_bestCut, .ref a_leastFence])), (a_hill, .inr (2, [.ref a_hill_sorts, .ref a_hill_owners, .ref a_hill_worths, .ref a_hill_gave, .int v_hill_generation, .int v_hill_toll])), (a_hill_gave, gI g 6 f_hill_gave)] (fun (r : Int32) (u : (Nat → Int32)) => K r u) (fun (u : (Nat → Int32)) => [(a_this, .inr (4, [.ref a_pad, .ref a_hill, .ref a_images, .ref a_fairCut, .ref a_bestCut, .ref a_leastFence])), (a_hill, .inr (2, [.ref a_hill_sorts, .ref a_hill_owners, .ref a_hill_worths, .ref a_hill_gave, .int v_hill_generation, .int v_hill_toll])), (a_hill_gave, gI g 6 u)]) 0 0 := by
  refine Ci_of (cc := cX4_right) (nL := 4) (ret := (some .int)) (own := RX4) (lv0 := [(0, .ref a_this), (1, .int x1), (2, .int x2), (3, .int x3)]) (by decide +kernel) rfl rfl (Nat.le_of_ble_eq_true rfl) rfl (fun A x C R => ?_)
  refine j_iload_n C 1 rfl 1 dX4_right_0 rfl rfl ?_
  refine j_iload_n C 2 rfl 2 dX4_right_1 rfl rfl ?_
  refine j_ri C 5 rfl (jc_S C (c_X4_areTwoHeirs l g x1 x2 _ hw) 2 gX4_right_X4_areTwoHeirs rfl rfl rfl hd_X4_areTwoHeirs ⟨Nat.le_of_ble_eq_true rfl, Nat.le_of_ble_eq_true rfl⟩ [] rfl rfl (rest := []) rfl rfl (Nat.le_of_ble_eq_true rfl) dX4_right_2 ⟨Nat.le_refl _, Nat.le_refl _⟩) [] rfl (fun _ => rfl) (fun r1 _ hw => ?_)
  try dsimp only at hw
  refine j_if_ne C 8 rfl 10 dX4_right_5 rfl (fun c => ?_) (fun c => ?_)
  · have hw := hw.1 c
    refine j_aload_n C 11 rfl 0 dX4_right_10 rfl rfl ?_
    refine j_get C 14 rfl 0 4 1 (T := TX4) (N := 6) hi_X4_right_X4 rfl (by decide) (List.mem_of_getElem? (i := 1) rfl) rfl rfl rfl dX4_right_11 ?_
    refine j_iload_n C 15 rfl 1 dX4_right_14 rfl rfl ?_
    refine j_iload_n C 16 rfl 2 dX4_right_15 rfl rfl ?_
    refine j_iload_n C 17 rfl 3 dX4_right_16 rfl rfl ?_
    refine j_rwi C 20 rfl (jc_V C (c_X2_setRight l g a_hill a_hill_sorts a_hill_owners a_hill_worths a_hill_gave v_hill_generation v_hill_toll f_hill_gave x1 x2 x3 _ hw) 3 gX4_right_X2_setRight rfl rfl rfl hd_X2_setRight ⟨Nat.le_of_ble_eq_true rfl, Nat.le_of_ble_eq_true rfl⟩ (j_rec C 1 2 rfl rfl) [1, 2] rfl rfl (rest := []) rfl rfl (Nat.le_of_ble_eq_true rfl) dX4_right_17 ⟨Nat.le_refl _, Nat.le_refl _⟩) [1, 2] [0] [0, 1, 2] (wr := [(a_this, .inr (4, [.ref a_pad, .ref a_hill, .ref a_images, .ref a_fairCut, .ref a_bestCut, .ref a_leastFence]))]) (ws' := fun u => [(a_this, .inr (4, [.ref a_pad, .ref a_hill, .ref a_images, .ref a_fairCut, .ref a_bestCut, .ref a_leastFence])), (a_hill, .inr (2, [.ref a_hill_sorts, .ref a_hill_owners, .ref a_hill_worths, .ref a_hill_gave, .int v_hill_generation, .int v_hill_toll])), (a_hill_gave, gI g 6 u)]) rfl rfl rfl (by decide) rfl (fun _ => rfl) (fun r2 u hw => ?_)
    obtain ⟨u3, eu3⟩ : ∃ z, z = u := ⟨_, rfl⟩
    subst eu3
    try dsimp only at hw
    show J l g A x 4 0 0 20 [(0, .ref a_this), (1, .int x1), (2, .int x2), (3, .int x3)] [.int r2] [(a_this, .inr (4, [.ref a_pad, .ref a_hill, .ref a_images, .ref a_fairCut, .ref a_bestCut, .ref a_leastFence])), (a_hill, .inr (2, [.ref a_hill_sorts, .ref a_hill_owners, .ref a_hill_worths, .ref a_hill_gave, .int v_hill_generation, .int v_hill_toll])), (a_hill_gave, gI g 6 u3)]
    refine j_if_eq C 23 rfl 27 dX4_right_20 rfl (fun c => ?_) (fun c => ?_)
    · have hw := hw.1 c
      refine j_iconst C 28 rfl dX4_right_27 (v := (0 : Int32)) (by decide) ?_
      exact j_iret C R (u3) rfl dX4_right_28 rfl hw
    · have hw := hw.2 c
      refine j_iconst C 24 rfl dX4_right_23 (v := (1 : Int32)) (by decide) ?_
      refine j_goto C 28 dX4_right_24 rfl ?_
      exact j_iret C R (u3) rfl dX4_right_28 rfl hw
  · have hw := hw.2 c
    refine j_iconst C 9 rfl dX4_right_8 (v := (-1 : Int32)) (by decide) ?_
    exact j_iret C R (f_hill_gave) rfl dX4_right_9 rfl hw
set_option maxRecDepth 20000 in
set_option maxHeartbeats 4000000 in
theorem c_X4_costOfClimb (l : Launch) (g : gE)  (x0 : Int32)  (K : Int32 → Prop) (hw : wp_X4_costOfClimb x0 K) : Ci l g yX4_costOfClimb wsX4_costOfClimb { frames := 0, cells := 0, slots := 0, locals := 0 } [.int x0] [] (fun (r : Int32) (_ : Unit) => K r) (fun (_ : Unit) => []) 0 0 := by
  refine Ci_of (cc := cX4_costOfClimb) (nL := 1) (ret := (some .int)) (own := RX4) (lv0 := [(0, .int x0)]) (by decide +kernel) rfl rfl (Nat.le_of_ble_eq_true rfl) rfl (fun A x C R => ?_)
  refine j_iconst C 1 rfl dX4_costOfClimb_0 (v := (4 : Int32)) (by decide) ?_
  refine j_iload_n C 2 rfl 0 dX4_costOfClimb_1 rfl rfl ?_
  refine j_imul C 3 rfl dX4_costOfClimb_2 ?_
  exact j_iret C R () rfl dX4_costOfClimb_3 rfl hw
theorem hi_X4_costOfRound_X2 : ∀ w ∈ wsX20, w ∈ wsX4_costOfRound := fun _ h => List.mem_cons_of_mem _ (List.mem_append_right _ h)
theorem hi_X4_costOfRound_X4 : ∀ w ∈ wsX40, w ∈ wsX4_costOfRound := fun _ h => List.mem_cons_of_mem _ (List.mem_append_left _ (List.mem_append_right _ h))
set_option maxRecDepth 20000 in
set_option maxHeartbeats 4000000 in
theorem c_X4_costOfRound (l : Launch) (g : gE) (a_this a_pad a_hill a_images a_fairCut a_bestCut a_leastFence a_hill_sorts a_hill_owners a_hill_worths a_hill_gave : Nat) (v_hill_generation : Int32) (v_hill_toll : Int32) (f_hill_owners : (Nat → Int32)) (f_hill_gave : (Nat → Int32)) (x1 : Int32) (x2 : Int32) (x3 : Int32) (x4 : Int32)  (K : Int32 → Prop) (hw : wp_X4_costOfRound v_hill_generation v_hill_toll f_hill_owners f_hill_gave x1 x2 x3 x4 K) : Ci l g yX4_costOfRound wsX4_costOfRound { frames := 3, cells := 0, slots := 0, locals := 66 } [.ref a_this, .int x1, .int x2, .int x3, .int x4] [(a_this, .inr (4, [.ref a_pad, .ref a_hill, .ref a_images, .ref a_fairCut, .ref a_bestCut, .ref a_leastFence])), (a_hill, .inr (2, [.ref a_hill_sorts, .ref a_hill_owners, .ref a_hill_worths, .ref a_hill_gave, .int v_hill_generation, .int v_hill_toll])), (a_hill_owners, gI g 504 f_hill_owners), (a_hill_gave, gI g 6 f_hill_gave)] (fun (r : Int32) (_ : Unit) => K r) (fun (_ : Unit) => [(a_this, .inr (4, [.ref a_pad, .ref a_hill, .ref a_images, .ref a_fairCut, .ref a_bestCut, .ref a_leastFence])), (a_hill, .inr (2, [.ref a_hill_sorts, .ref a_hill_owners, .ref a_hill_worths, .ref a_hill_gave, .int v_hill_generation, .int v_hill_toll])), (a_hill_owners, gI g 504 f_hill_owners), (a_hill_gave, gI g 6 f_hill_gave)]) 0 0 := by
  refine Ci_of (cc := cX4_costOfRound) (nL := 7) (ret := (some .int)) (own := RX4) (lv0 := [(0, .ref a_this), (1, .int x1), (2, .int x2), (3, .int x3), (4, .int x4)]) (by decide +kernel) rfl rfl (Nat.le_of_ble_eq_true rfl) rfl (fun A x C R => ?_)
  refine j_iload_n C 1 rfl 3 dX4_costOfRound_0 rfl rfl ?_
  refine j_bipush C 3 rfl dX4_costOfRound_1 (v := (6 : Int32)) (by decide) ?_
  refine j_iload C 5 rfl 4 dX4_costOfRound_3 rfl ?_
  refine j_isub C 6 rfl dX4_costOfRound_5 ?_
  refine j_imul C 7 rfl dX4_costOfRound_6 ?_
  refine j_top (fun n1 en1 => ?_)
  have hw := hw n1 en1
  refine j_istore C 9 rfl [1, 2, 3, 4, 5, 0] (lv' := [(0, .ref a_this), (1, .int x1), (2, .int x2), (3, .int x3), (4, .int x4), (5, .int n1)]) dX4_costOfRound_7 (by decide) rfl ?_
  refine j_iconst C 10 rfl dX4_costOfRound_9 (v := (0 : Int32)) (by decide) ?_
  refine j_istore C 12 rfl [1, 2, 3, 4, 5, 6, 0] (lv' := [(0, .ref a_this), (1, .int x1), (2, .int x2), (3, .int x3), (4, .int x4), (5, .int n1), (6, .int (0 : Int32))]) dX4_costOfRound_10 (by decide) rfl ?_
  refine j_lv [0, 1, 2, 3, 5, 6] (lv' := [(0, .ref a_this), (1, .int x1), (2, .int x2), (3, .int x3), (5, .int n1), (6, .int (0 : Int32))]) rfl ?_
  refine lpW2_ind (G := fun x5 x6 => J l g A x 7 0 0 12 [(0, .ref a_this), (1, .int x1), (2, .int x2), (3, .int x3), (5, .int x5), (6, .int x6)] [] [(a_this, .inr (4, [.ref a_pad, .ref a_hill, .ref a_images, .ref a_fairCut, .ref a_bestCut, .ref a_leastFence])), (a_hill, .inr (2, [.ref a_hill_sorts, .ref a_hill_owners, .ref a_hill_worths, .ref a_hill_gave, .int v_hill_generation, .int v_hill_toll])), (a_hill_owners, gI g 504 f_hill_owners), (a_hill_gave, gI g 6 f_hill_gave)]) (fun L12 x5 x6 hL12 hw => ?_) _ _ hw
  refine j_iload C 14 rfl 5 dX4_costOfRound_12 rfl ?_
  refine j_iload_n C 15 rfl 3 dX4_costOfRound_14 rfl rfl ?_
  refine j_icmp_ge C 18 rfl 54 dX4_costOfRound_15 rfl (fun c => ?_) (fun c => ?_)
  · have hw := hw.1 c
    refine j_iload C 56 rfl 4 dX4_costOfRound_54 rfl ?_
    exact j_iret C R () rfl dX4_costOfRound_56 rfl hw
  · have hw := hw.2 c
    refine j_aload_n C 19 rfl 0 dX4_costOfRound_18 rfl rfl ?_
    refine j_get C 22 rfl 0 4 1 (T := TX4) (N := 6) hi_X4_costOfRound_X4 rfl (by decide) (List.mem_of_getElem? (i := 1) rfl) rfl rfl rfl dX4_costOfRound_19 ?_
    refine j_iload_n C 23 rfl 1 dX4_costOfRound_22 rfl rfl ?_
    refine j_iload_n C 24 rfl 2 dX4_costOfRound_23 rfl rfl ?_
    refine j_iload C 26 rfl 5 dX4_costOfRound_24 rfl ?_
    refine j_iadd C 27 rfl dX4_costOfRound_26 ?_
    refine j_bipush C 29 rfl dX4_costOfRound_27 (v := (24 : Int32)) (by decide) ?_
    refine j_irem C 30 rfl dX4_costOfRound_29 (by decide) ?_
    refine j_top (fun n2 en2 => ?_)
    have hw := hw n2 en2
    refine j_ri C 33 rfl (jc_V C (c_X2_isFreeFor l g a_hill a_hill_sorts a_hill_owners a_hill_worths a_hill_gave v_hill_generation v_hill_toll f_hill_owners f_hill_gave x1 n2 _ hw) 2 gX4_costOfRound_X2_isFreeFor rfl rfl rfl hd_X2_isFreeFor ⟨Nat.le_of_ble_eq_true rfl, Nat.le_of_ble_eq_true rfl⟩ (j_rec C 1 2 rfl rfl) [1, 2, 3] rfl rfl (rest := []) rfl rfl (Nat.le_of_ble_eq_true rfl) dX4_costOfRound_30 ⟨Nat.le_refl _, Nat.le_refl _⟩) [1, 2, 3] rfl (fun _ => rfl) (fun r3 _ hw => ?_)
    try dsimp only at hw
    refine j_if_ne C 36 rfl 48 dX4_costOfRound_33 rfl (fun c => ?_) (fun c => ?_)
    · have hw := hw.1 c
      refine j_iinc C 51 rfl 5 [1, 2, 3, 4, 5, 0] (v' := (1 : Int32)) (lv' := fun z => [(0, .ref a_this), (1, .int x1), (2, .int x2), (3, .int x3), (5, .int x5), (6, .int z)]) dX4_costOfRound_48 rfl (by decide) (by decide) (fun _ => rfl) (fun n4 en4 => ?_)
      have hw := hw n4 en4
      refine j_goto C 12 dX4_costOfRound_51 rfl ?_
      exact hL12 _ _ hw
    · have hw := hw.2 c
      refine j_iload C 38 rfl 4 dX4_costOfRound_36 rfl ?_
      refine j_aload_n C 39 rfl 0 dX4_costOfRound_38 rfl rfl ?_
      refine j_get C 42 rfl 0 4 1 (T := TX4) (N := 6) hi_X4_costOfRound_X4 rfl (by decide) (List.mem_of_getElem? (i := 1) rfl) rfl rfl rfl dX4_costOfRound_39 ?_
      refine j_get C 45 rfl 1 2 5 (T := TX2) (N := 6) hi_X4_costOfRound_X2 rfl (by decide) (List.mem_of_getElem? (i := 2) rfl) rfl rfl rfl dX4_costOfRound_42 ?_
      refine j_iadd C 46 rfl dX4_costOfRound_45 ?_
      refine j_top (fun n5 en5 => ?_)
      have hw := hw n5 en5
      refine j_istore C 48 rfl [1, 2, 3, 4, 0, 5] (lv' := [(0, .ref a_this), (1, .int x1), (2, .int x2), (3, .int x3), (5, .int n5), (6, .int x6)]) dX4_costOfRound_46 (by decide) rfl ?_
      refine j_iinc C 51 rfl 5 [1, 2, 3, 4, 5, 0] (v' := (1 : Int32)) (lv' := fun z => [(0, .ref a_this), (1, .int x1), (2, .int x2), (3, .int x3), (5, .int n5), (6, .int z)]) dX4_costOfRound_48 rfl (by decide) (by decide) (fun _ => rfl) (fun n6 en6 => ?_)
      have hw := hw n6 en6
      refine j_goto C 12 dX4_costOfRound_51 rfl ?_
      exact hL12 _ _ hw
set_option maxRecDepth 20000 in
set_option maxHeartbeats 4000000 in
theorem c_X4_costOfWay (l : Launch) (g : gE) (a_this a_pad a_hill a_images a_fairCut a_bestCut a_leastFence a_hill_sorts a_hill_owners a_hill_worths a_hill_gave : Nat) (v_hill_generation : Int32) (v_hill_toll : Int32) (f_hill_owners : (Nat → Int32)) (f_hill_gave : (Nat → Int32)) (x1 : Int32) (x2 : Int32) (x3 : Int32) (x4 : Int32)  (K : Int32 → Prop) (hw : wp_X4_costOfWay v_hill_generation v_hill_toll f_hill_owners f_hill_gave x1 x2 x3 x4 K) : Ci l g yX4_costOfWay wsX4_costOfWay { frames := 4, cells := 0, slots := 0, locals := 92 } [.ref a_this, .int x1, .int x2, .int x3, .int x4] [(a_this, .inr (4, [.ref a_pad, .ref a_hill, .ref a_images, .ref a_fairCut, .ref a_bestCut, .ref a_leastFence])), (a_hill, .inr (2, [.ref a_hill_sorts, .ref a_hill_owners, .ref a_hill_worths, .ref a_hill_gave, .int v_hill_generation, .int v_hill_toll])), (a_hill_owners, gI g 504 f_hill_owners), (a_hill_gave, gI g 6 f_hill_gave)] (fun (r : Int32) (_ : Unit) => K r) (fun (_ : Unit) => [(a_this, .inr (4, [.ref a_pad, .ref a_hill, .ref a_images, .ref a_fairCut, .ref a_bestCut, .ref a_leastFence])), (a_hill, .inr (2, [.ref a_hill_sorts, .ref a_hill_owners, .ref a_hill_worths, .ref a_hill_gave, .int v_hill_generation, .int v_hill_toll])), (a_hill_owners, gI g 504 f_hill_owners), (a_hill_gave, gI g 6 f_hill_gave)]) 0 0 := by
  refine Ci_of (cc := cX4_costOfWay) (nL := 6) (ret := (some .int)) (own := RX4) (lv0 := [(0, .ref a_this), (1, .int x1), (2, .int x2), (3, .int x3), (4, .int x4)]) (by decide +kernel) rfl rfl (Nat.le_of_ble_eq_true rfl) rfl (fun A x C R => ?_)
  refine j_iload_n C 1 rfl 3 dX4_costOfWay_0 rfl rfl ?_
  refine j_iload_n C 2 rfl 2 dX4_costOfWay_1 rfl rfl ?_
  refine j_isub C 3 rfl dX4_costOfWay_2 ?_
  refine j_bipush C 5 rfl dX4_costOfWay_3 (v := (24 : Int32)) (by decide) ?_
  refine j_iadd C 6 rfl dX4_costOfWay_5 ?_
  refine j_bipush C 8 rfl dX4_costOfWay_6 (v := (24 : Int32)) (by decide) ?_
  refine j_irem C 9 rfl dX4_costOfWay_8 (by decide) ?_
  refine j_top (fun n1 en1 => ?_)
  have hw := hw n1 en1
  refine j_istore C 11 rfl [1, 2, 3, 4, 5, 0] (lv' := [(0, .ref a_this), (1, .int x1), (2, .int x2), (3, .int x3), (4, .int x4), (5, .int n1)]) dX4_costOfWay_9 (by decide) rfl ?_
  refine j_iload C 13 rfl 4 dX4_costOfWay_11 rfl ?_
  refine j_ri C 16 rfl (jc_S C (c_X4_costOfClimb l g x4 _ hw) 1 gX4_costOfWay_X4_costOfClimb rfl rfl rfl hd_X4_costOfClimb ⟨Nat.le_of_ble_eq_true rfl, Nat.le_of_ble_eq_true rfl⟩ [] rfl rfl (rest := []) rfl rfl (Nat.le_of_ble_eq_true rfl) dX4_costOfWay_13 ⟨Nat.le_refl _, Nat.le_refl _⟩) [] rfl (fun _ => rfl) (fun r2 _ hw => ?_)
  try dsimp only at hw
  refine j_aload_n C 17 rfl 0 dX4_costOfWay_16 rfl rfl ?_
  refine j_iload_n C 18 rfl 1 dX4_costOfWay_17 rfl rfl ?_
  refine j_iload_n C 19 rfl 2 dX4_costOfWay_18 rfl rfl ?_
  refine j_iconst C 20 rfl dX4_costOfWay_19 (v := (1 : Int32)) (by decide) ?_
  refine j_iadd C 21 rfl dX4_costOfWay_20 ?_
  refine j_iload C 23 rfl 5 dX4_costOfWay_21 rfl ?_
  refine j_iload C 25 rfl 4 dX4_costOfWay_23 rfl ?_
  refine j_nm2 (fun n3 en3 => ?_)
  have hw := hw n3 en3
  refine j_ri C 28 rfl (jc_V C (c_X4_costOfRound l g a_this a_pad a_hill a_images a_fairCut a_bestCut a_leastFence a_hill_sorts a_hill_owners a_hill_worths a_hill_gave v_hill_generation v_hill_toll f_hill_owners f_hill_gave x1 n3 n1 x4 _ hw) 4 gX4_costOfWay_X4_costOfRound rfl rfl rfl hd_X4_costOfRound ⟨Nat.le_of_ble_eq_true rfl, Nat.le_of_ble_eq_true rfl⟩ (j_rec C 0 4 rfl rfl) [0, 1, 2, 3] rfl rfl (rest := [.int r2]) rfl rfl (Nat.le_of_ble_eq_true rfl) dX4_costOfWay_25 ⟨Nat.le_refl _, Nat.le_refl _⟩) [0, 1, 2, 3] rfl (fun _ => rfl) (fun r4 _ hw => ?_)
  try dsimp only at hw
  refine j_iadd C 29 rfl dX4_costOfWay_28 ?_
  exact j_iret C R () rfl dX4_costOfWay_29 rfl hw
set_option maxRecDepth 20000 in
set_option maxHeartbeats 4000000 in
theorem c_X4_costOfWayBack (l : Launch) (g : gE) (a_this a_pad a_hill a_images a_fairCut a_bestCut a_leastFence a_hill_sorts a_hill_owners a_hill_worths a_hill_gave : Nat) (v_hill_generation : Int32) (v_hill_toll : Int32) (f_hill_owners : (Nat → Int32)) (f_hill_gave : (Nat → Int32)) (x1 : Int32) (x2 : Int32) (x3 : Int32) (x4 : Int32)  (K : Int32 → Prop) (hw : wp_X4_costOfWayBack v_hill_generation v_hill_toll f_hill_owners f_hill_gave x1 x2 x3 x4 K) : Ci l g yX4_costOfWayBack wsX4_costOfWayBack { frames := 4, cells := 0, slots := 0, locals := 92 } [.ref a_this, .int x1, .int x2, .int x3, .int x4] [(a_this, .inr (4, [.ref a_pad, .ref a_hill, .ref a_images, .ref a_fairCut, .ref a_bestCut, .ref a_leastFence])), (a_hill, .inr (2, [.ref a_hill_sorts, .ref a_hill_owners, .ref a_hill_worths, .ref a_hill_gave, .int v_hill_generation, .int v_hill_toll])), (a_hill_owners, gI g 504 f_hill_owners), (a_hill_gave, gI g 6 f_hill_gave)] (fun (r : Int32) (_ : Unit) => K r) (fun (_ : Unit) => [(a_this, .inr (4, [.ref a_pad, .ref a_hill, .ref a_images, .ref a_fairCut, .ref a_bestCut, .ref a_leastFence])), (a_hill, .inr (2, [.ref a_hill_sorts, .ref a_hill_owners, .ref a_hill_worths, .ref a_hill_gave, .int v_hill_generation, .int v_hill_toll])), (a_hill_owners, gI g 504 f_hill_owners), (a_hill_gave, gI g 6 f_hill_gave)]) 0 0 := by
  refine Ci_of (cc := cX4_costOfWayBack) (nL := 6) (ret := (some .int)) (own := RX4) (lv0 := [(0, .ref a_this), (1, .int x1), (2, .int x2), (3, .int x3), (4, .int x4)]) (by decide +kernel) rfl rfl (Nat.le_of_ble_eq_true rfl) rfl (fun A x C R => ?_)
  refine j_iload_n C 1 rfl 2 dX4_costOfWayBack_0 rfl rfl ?_
  refine j_iload_n C 2 rfl 3 dX4_costOfWayBack_1 rfl rfl ?_
  refine j_isub C 3 rfl dX4_costOfWayBack_2 ?_
  refine j_bipush C 5 rfl dX4_costOfWayBack_3 (v := (24 : Int32)) (by decide) ?_
  refine j_iadd C 6 rfl dX4_costOfWayBack_5 ?_
  refine j_bipush C 8 rfl dX4_costOfWayBack_6 (v := (24 : Int32)) (by decide) ?_
  refine j_irem C 9 rfl dX4_costOfWayBack_8 (by decide) ?_
  refine j_top (fun n1 en1 => ?_)
  have hw := hw n1 en1
  refine j_istore C 11 rfl [1, 2, 3, 4, 5, 0] (lv' := [(0, .ref a_this), (1, .int x1), (2, .int x2), (3, .int x3), (4, .int x4), (5, .int n1)]) dX4_costOfWayBack_9 (by decide) rfl ?_
  refine j_iload C 13 rfl 4 dX4_costOfWayBack_11 rfl ?_
  refine j_ri C 16 rfl (jc_S C (c_X4_costOfClimb l g x4 _ hw) 1 gX4_costOfWayBack_X4_costOfClimb rfl rfl rfl hd_X4_costOfClimb ⟨Nat.le_of_ble_eq_true rfl, Nat.le_of_ble_eq_true rfl⟩ [] rfl rfl (rest := []) rfl rfl (Nat.le_of_ble_eq_true rfl) dX4_costOfWayBack_13 ⟨Nat.le_refl _, Nat.le_refl _⟩) [] rfl (fun _ => rfl) (fun r2 _ hw => ?_)
  try dsimp only at hw
  refine j_aload_n C 17 rfl 0 dX4_costOfWayBack_16 rfl rfl ?_
  refine j_iload_n C 18 rfl 1 dX4_costOfWayBack_17 rfl rfl ?_
  refine j_iload_n C 19 rfl 3 dX4_costOfWayBack_18 rfl rfl ?_
  refine j_iload C 21 rfl 5 dX4_costOfWayBack_19 rfl ?_
  refine j_iload C 23 rfl 4 dX4_costOfWayBack_21 rfl ?_
  refine j_ri C 26 rfl (jc_V C (c_X4_costOfRound l g a_this a_pad a_hill a_images a_fairCut a_bestCut a_leastFence a_hill_sorts a_hill_owners a_hill_worths a_hill_gave v_hill_generation v_hill_toll f_hill_owners f_hill_gave x1 x3 n1 x4 _ hw) 4 gX4_costOfWayBack_X4_costOfRound rfl rfl rfl hd_X4_costOfRound ⟨Nat.le_of_ble_eq_true rfl, Nat.le_of_ble_eq_true rfl⟩ (j_rec C 0 4 rfl rfl) [0, 1, 2, 3] rfl rfl (rest := [.int r2]) rfl rfl (Nat.le_of_ble_eq_true rfl) dX4_costOfWayBack_23 ⟨Nat.le_refl _, Nat.le_refl _⟩) [0, 1, 2, 3] rfl (fun _ => rfl) (fun r3 _ hw => ?_)
  try dsimp only at hw
  refine j_iadd C 27 rfl dX4_costOfWayBack_26 ?_
  exact j_iret C R () rfl dX4_costOfWayBack_27 rfl hw
set_option maxRecDepth 20000 in
set_option maxHeartbeats 4000000 in
theorem c_X4_bestWay (l : Launch) (g : gE) (a_this a_pad a_hill a_images a_fairCut a_bestCut a_leastFence a_hill_sorts a_hill_owners a_hill_worths a_hill_gave : Nat) (v_hill_generation : Int32) (v_hill_toll : Int32) (f_hill_owners : (Nat → Int32)) (f_hill_gave : (Nat → Int32)) (x1 : Int32) (x2 : Int32) (x3 : Int32) (x4 : Int32)  (K : Int32 → Prop) (hw : wp_X4_bestWay v_hill_generation v_hill_toll f_hill_owners f_hill_gave x1 x2 x3 x4 K) : Ci l g yX4_bestWay wsX4_bestWay { frames := 5, cells := 0, slots := 0, locals := 117 } [.ref a_this, .int x1, .int x2, .int x3, .int x4] [(a_this, .inr (4, [.ref a_pad, .ref a_hill, .ref a_images, .ref a_fairCut, .ref a_bestCut, .ref a_leastFence])), (a_hill, .inr (2, [.ref a_hill_sorts, .ref a_hill_owners, .ref a_hill_worths, .ref a_hill_gave, .int v_hill_generation, .int v_hill_toll])), (a_hill_owners, gI g 504 f_hill_owners), (a_hill_gave, gI g 6 f_hill_gave)] (fun (r : Int32) (_ : Unit) => K r) (fun (_ : Unit) => [(a_this, .inr (4, [.ref a_pad, .ref a_hill, .ref a_images, .ref a_fairCut, .ref a_bestCut, .ref a_leastFence])), (a_hill, .inr (2, [.ref a_hill_sorts, .ref a_hill_owners, .ref a_hill_worths, .ref a_hill_gave, .int v_hill_generation, .int v_hill_toll])), (a_hill_owners, gI g 504 f_hill_owners), (a_hill_gave, gI g 6 f_hill_gave)]) 0 0 := by
  refine Ci_of (cc := cX4_bestWay) (nL := 9) (ret := (some .int)) (own := RX4) (lv0 := [(0, .ref a_this), (1, .int x1), (2, .int x2), (3, .int x3), (4, .int x4)]) (by decide +kernel) rfl rfl (Nat.le_of_ble_eq_true rfl) rfl (fun A x C R => ?_)
  refine j_ldc C 2 rfl (v := (1073741824 : Int32)) (List.mem_of_getElem? (i := 1) rfl) dX4_bestWay_0 ?_
  refine j_istore C 4 rfl [1, 2, 3, 4, 5, 0] (lv' := [(0, .ref a_this), (1, .int x1), (2, .int x2), (3, .int x3), (4, .int x4), (5, .int (1073741824 : Int32))]) dX4_bestWay_2 (by decide) rfl ?_
  refine j_iconst C 5 rfl dX4_bestWay_4 (v := (0 : Int32)) (by decide) ?_
  refine j_istore C 7 rfl [1, 2, 3, 4, 5, 6, 0] (lv' := [(0, .ref a_this), (1, .int x1), (2, .int x2), (3, .int x3), (4, .int x4), (5, .int (1073741824 : Int32)), (6, .int (0 : Int32))]) dX4_bestWay_5 (by decide) rfl ?_
  refine lpW2_ind (G := fun x5 x6 => J l g A x 9 0 0 7 [(0, .ref a_this), (1, .int x1), (2, .int x2), (3, .int x3), (4, .int x4), (5, .int x5), (6, .int x6)] [] [(a_this, .inr (4, [.ref a_pad, .ref a_hill, .ref a_images, .ref a_fairCut, .ref a_bestCut, .ref a_leastFence])), (a_hill, .inr (2, [.ref a_hill_sorts, .ref a_hill_owners, .ref a_hill_worths, .ref a_hill_gave, .int v_hill_generation, .int v_hill_toll])), (a_hill_owners, gI g 504 f_hill_owners), (a_hill_gave, gI g 6 f_hill_gave)]) (fun L7 x5 x6 hL7 hw => ?_) _ _ hw
  refine j_iload C 9 rfl 6 dX4_bestWay_7 rfl ?_
  refine j_iconst C 10 rfl dX4_bestWay_9 (v := (5 : Int32)) (by decide) ?_
  refine j_icmp_ge C 13 rfl 75 dX4_bestWay_10 rfl (fun c => ?_) (fun c => ?_)
  · have hw := hw.1 c
    refine j_iload C 77 rfl 4 dX4_bestWay_75 rfl ?_
    refine j_if_ne C 80 rfl 86 dX4_bestWay_77 rfl (fun c => ?_) (fun c => ?_)
    · have hw := hw.1 c
      refine j_iload C 88 rfl 4 dX4_bestWay_86 rfl ?_
      refine j_iconst C 89 rfl dX4_bestWay_88 (v := (1 : Int32)) (by decide) ?_
      refine j_icmp_ne C 92 rfl 101 dX4_bestWay_89 rfl (fun c => ?_) (fun c => ?_)
      · have hw := hw.1 c
        refine j_iconst C 102 rfl dX4_bestWay_101 (v := (1 : Int32)) (by decide) ?_
        refine j_iload C 104 rfl 5 dX4_bestWay_102 rfl ?_
        refine j_iconst C 105 rfl dX4_bestWay_104 (v := (2 : Int32)) (by decide) ?_
        refine j_irem C 106 rfl dX4_bestWay_105 (by decide) ?_
        refine j_isub C 107 rfl dX4_bestWay_106 ?_
        exact j_iret C R () rfl dX4_bestWay_107 rfl hw
      · have hw := hw.2 c
        refine j_iload C 94 rfl 5 dX4_bestWay_92 rfl ?_
        refine j_iconst C 95 rfl dX4_bestWay_94 (v := (2 : Int32)) (by decide) ?_
        refine j_idiv C 96 rfl dX4_bestWay_95 (by decide) ?_
        refine j_iconst C 97 rfl dX4_bestWay_96 (v := (5 : Int32)) (by decide) ?_
        refine j_irem C 98 rfl dX4_bestWay_97 (by decide) ?_
        refine j_goto C 107 dX4_bestWay_98 rfl ?_
        exact j_iret C R () rfl dX4_bestWay_107 rfl hw
    · have hw := hw.2 c
      refine j_iload C 82 rfl 5 dX4_bestWay_80 rfl ?_
      refine j_bipush C 84 rfl dX4_bestWay_82 (v := (10 : Int32)) (by decide) ?_
      refine j_idiv C 85 rfl dX4_bestWay_84 (by decide) ?_
      exact j_iret C R () rfl dX4_bestWay_85 rfl hw
  · have hw := hw.2 c
    refine j_aload_n C 14 rfl 0 dX4_bestWay_13 rfl rfl ?_
    refine j_iload_n C 15 rfl 1 dX4_bestWay_14 rfl rfl ?_
    refine j_iload_n C 16 rfl 2 dX4_bestWay_15 rfl rfl ?_
    refine j_iload_n C 17 rfl 3 dX4_bestWay_16 rfl rfl ?_
    refine j_iload C 19 rfl 6 dX4_bestWay_17 rfl ?_
    refine j_ri C 22 rfl (jc_V C (c_X4_costOfWay l g a_this a_pad a_hill a_images a_fairCut a_bestCut a_leastFence a_hill_sorts a_hill_owners a_hill_worths a_hill_gave v_hill_generation v_hill_toll f_hill_owners f_hill_gave x1 x2 x3 x6 _ hw) 4 gX4_bestWay_X4_costOfWay rfl rfl rfl hd_X4_costOfWay ⟨Nat.le_of_ble_eq_true rfl, Nat.le_of_ble_eq_true rfl⟩ (j_rec C 0 4 rfl rfl) [0, 1, 2, 3] rfl rfl (rest := []) rfl rfl (Nat.le_of_ble_eq_true rfl) dX4_bestWay_19 ⟨Nat.le_refl _, Nat.le_refl _⟩) [0, 1, 2, 3] rfl (fun _ => rfl) (fun r1 _ hw => ?_)
    try dsimp only at hw
    refine j_istore C 24 rfl [1, 2, 3, 4, 5, 6, 7, 0] (lv' := [(0, .ref a_this), (1, .int x1), (2, .int x2), (3, .int x3), (4, .int x4), (5, .int x5), (6, .int x6), (7, .int r1)]) dX4_bestWay_22 (by decide) rfl ?_
    refine j_aload_n C 25 rfl 0 dX4_bestWay_24 rfl rfl ?_
    refine j_iload_n C 26 rfl 1 dX4_bestWay_25 rfl rfl ?_
    refine j_iload_n C 27 rfl 2 dX4_bestWay_26 rfl rfl ?_
    refine j_iload_n C 28 rfl 3 dX4_bestWay_27 rfl rfl ?_
    refine j_iload C 30 rfl 6 dX4_bestWay_28 rfl ?_
    refine j_ri C 33 rfl (jc_V C (c_X4_costOfWayBack l g a_this a_pad a_hill a_images a_fairCut a_bestCut a_leastFence a_hill_sorts a_hill_owners a_hill_worths a_hill_gave v_hill_generation v_hill_toll f_hill_owners f_hill_gave x1 x2 x3 x6 _ hw) 4 gX4_bestWay_X4_costOfWayBack rfl rfl rfl hd_X4_costOfWayBack ⟨Nat.le_of_ble_eq_true rfl, Nat.le_of_ble_eq_true rfl⟩ (j_rec C 0 4 rfl rfl) [0, 1, 2, 3] rfl rfl (rest := []) rfl rfl (Nat.le_of_ble_eq_true rfl) dX4_bestWay_30 ⟨Nat.le_refl _, Nat.le_refl _⟩) [0, 1, 2, 3] rfl (fun _ => rfl) (fun r2 _ hw => ?_)
    try dsimp only at hw
    refine j_istore C 35 rfl [1, 2, 3, 4, 5, 6, 7, 8, 0] (lv' := [(0, .ref a_this), (1, .int x1), (2, .int x2), (3, .int x3), (4, .int x4), (5, .int x5), (6, .int x6), (7, .int r1), (8, .int r2)]) dX4_bestWay_33 (by decide) rfl ?_
    refine j_iload C 37 rfl 5 dX4_bestWay_35 rfl ?_
    refine j_iload C 39 rfl 7 dX4_bestWay_37 rfl ?_
    refine j_iconst C 40 rfl dX4_bestWay_39 (v := (5 : Int32)) (by decide) ?_
    refine j_imul C 41 rfl dX4_bestWay_40 ?_
    refine j_iload C 43 rfl 6 dX4_bestWay_41 rfl ?_
    refine j_iadd C 44 rfl dX4_bestWay_43 ?_
    refine j_iconst C 45 rfl dX4_bestWay_44 (v := (2 : Int32)) (by decide) ?_
    refine j_imul C 46 rfl dX4_bestWay_45 ?_
    refine j_min C 49 rfl (List.mem_of_getElem? (i := 2) rfl) (List.mem_of_getElem? (i := 3) rfl) (List.mem_of_getElem? (i := 4) rfl) (List.mem_of_getElem? (i := 5) rfl) (by decide) (Nat.le_of_ble_eq_true rfl) (by decide) (by decide) dX4_bestWay_46 ?_
    refine j_top (fun n3 en3 => ?_)
    have hw := hw n3 en3
    refine j_istore C 51 rfl [1, 2, 3, 4, 5, 0, 6, 7, 8] (lv' := [(0, .ref a_this), (1, .int x1), (2, .int x2), (3, .int x3), (4, .int x4), (5, .int n3), (6, .int x6), (7, .int r1), (8, .int r2)]) dX4_bestWay_49 (by decide) rfl ?_
    refine j_iload C 53 rfl 5 dX4_bestWay_51 rfl ?_
    refine j_iload C 55 rfl 8 dX4_bestWay_53 rfl ?_
    refine j_iconst C 56 rfl dX4_bestWay_55 (v := (5 : Int32)) (by decide) ?_
    refine j_imul C 57 rfl dX4_bestWay_56 ?_
    refine j_iload C 59 rfl 6 dX4_bestWay_57 rfl ?_
    refine j_iadd C 60 rfl dX4_bestWay_59 ?_
    refine j_iconst C 61 rfl dX4_bestWay_60 (v := (2 : Int32)) (by decide) ?_
    refine j_imul C 62 rfl dX4_bestWay_61 ?_
    refine j_iconst C 63 rfl dX4_bestWay_62 (v := (1 : Int32)) (by decide) ?_
    refine j_iadd C 64 rfl dX4_bestWay_63 ?_
    refine j_min C 67 rfl (List.mem_of_getElem? (i := 2) rfl) (List.mem_of_getElem? (i := 3) rfl) (List.mem_of_getElem? (i := 4) rfl) (List.mem_of_getElem? (i := 5) rfl) (by decide) (Nat.le_of_ble_eq_true rfl) (by decide) (by decide) dX4_bestWay_64 ?_
    refine j_top (fun n4 en4 => ?_)
    have hw := hw n4 en4
    refine j_istore C 69 rfl [1, 2, 3, 4, 5, 0, 6, 7, 8] (lv' := [(0, .ref a_this), (1, .int x1), (2, .int x2), (3, .int x3), (4, .int x4), (5, .int n4), (6, .int x6), (7, .int r1), (8, .int r2)]) dX4_bestWay_67 (by decide) rfl ?_
    refine j_iinc C 72 rfl 6 [1, 2, 3, 4, 5, 6, 0, 7, 8] (v' := (1 : Int32)) (lv' := fun z => [(0, .ref a_this), (1, .int x1), (2, .int x2), (3, .int x3), (4, .int x4), (5, .int n4), (6, .int z), (7, .int r1), (8, .int r2)]) dX4_bestWay_69 rfl (by decide) (by decide) (fun _ => rfl) (fun n5 en5 => ?_)
    have hw := hw n5 en5
    refine j_goto C 7 dX4_bestWay_72 rfl ?_
    refine j_lv [0, 1, 2, 3, 4, 5, 6] (lv' := [(0, .ref a_this), (1, .int x1), (2, .int x2), (3, .int x3), (4, .int x4), (5, .int n4), (6, .int n5)]) rfl ?_
    exact hL7 _ _ hw
set_option maxRecDepth 20000 in
set_option maxHeartbeats 4000000 in
theorem c_X4_way (l : Launch) (g : gE) (a_this a_pad a_hill a_images a_fairCut a_bestCut a_leastFence a_hill_sorts a_hill_owners a_hill_worths a_hill_gave : Nat) (v_hill_generation : Int32) (v_hill_toll : Int32) (f_hill_owners : (Nat → Int32)) (f_hill_gave : (Nat → Int32)) (x1 : Int32) (x2 : Int32) (x3 : Int32) (x4 : Int32)  (K : Int32 → Prop) (hw : wp_X4_way v_hill_generation v_hill_toll f_hill_owners f_hill_gave x1 x2 x3 x4 K) : Ci l g yX4_way wsX4_way { frames := 6, cells := 0, slots := 0, locals := 145 } [.ref a_this, .int x1, .int x2, .int x3, .int x4] [(a_this, .inr (4, [.ref a_pad, .ref a_hill, .ref a_images, .ref a_fairCut, .ref a_bestCut, .ref a_leastFence])), (a_hill, .inr (2, [.ref a_hill_sorts, .ref a_hill_owners, .ref a_hill_worths, .ref a_hill_gave, .int v_hill_generation, .int v_hill_toll])), (a_hill_owners, gI g 504 f_hill_owners), (a_hill_gave, gI g 6 f_hill_gave)] (fun (r : Int32) (_ : Unit) => K r) (fun (_ : Unit) => [(a_this, .inr (4, [.ref a_pad, .ref a_hill, .ref a_images, .ref a_fairCut, .ref a_bestCut, .ref a_leastFence])), (a_hill, .inr (2, [.ref a_hill_sorts, .ref a_hill_owners, .ref a_hill_worths, .ref a_hill_gave, .int v_hill_generation, .int v_hill_toll])), (a_hill_owners, gI g 504 f_hill_owners), (a_hill_gave, gI g 6 f_hill_gave)]) 0 0 := by
  refine Ci_of (cc := cX4_way) (nL := 5) (ret := (some .int)) (own := RX4) (lv0 := [(0, .ref a_this), (1, .int x1), (2, .int x2), (3, .int x3), (4, .int x4)]) (by decide +kernel) rfl rfl (Nat.le_of_ble_eq_true rfl) rfl (fun A x C R => ?_)
  refine j_iload_n C 1 rfl 1 dX4_way_0 rfl rfl ?_
  refine j_ri C 4 rfl (jc_S C (c_X4_isHeir l g x1 _ hw) 1 gX4_way_X4_isHeir rfl rfl rfl hd_X4_isHeir ⟨Nat.le_of_ble_eq_true rfl, Nat.le_of_ble_eq_true rfl⟩ [] rfl rfl (rest := []) rfl rfl (Nat.le_of_ble_eq_true rfl) dX4_way_1 ⟨Nat.le_refl _, Nat.le_refl _⟩) [] rfl (fun _ => rfl) (fun r1 _ hw => ?_)
  try dsimp only at hw
  refine j_if_eq C 7 rfl 21 dX4_way_4 rfl (fun c => ?_) (fun c => ?_)
  · have hw := hw.1 c
    refine j_iconst C 22 rfl dX4_way_21 (v := (-1 : Int32)) (by decide) ?_
    exact j_iret C R () rfl dX4_way_22 rfl hw
  · have hw := hw.2 c
    refine j_iload_n C 8 rfl 2 dX4_way_7 rfl rfl ?_
    refine j_ri C 11 rfl (jc_S C (c_X4_isSector l g x2 _ hw) 1 gX4_way_X4_isSector rfl rfl rfl hd_X4_isSector ⟨Nat.le_of_ble_eq_true rfl, Nat.le_of_ble_eq_true rfl⟩ [] rfl rfl (rest := []) rfl rfl (Nat.le_of_ble_eq_true rfl) dX4_way_8 ⟨Nat.le_refl _, Nat.le_refl _⟩) [] rfl (fun _ => rfl) (fun r2 _ hw => ?_)
    try dsimp only at hw
    refine j_if_eq C 14 rfl 21 dX4_way_11 rfl (fun c => ?_) (fun c => ?_)
    · have hw := hw.1 c
      refine j_iconst C 22 rfl dX4_way_21 (v := (-1 : Int32)) (by decide) ?_
      exact j_iret C R () rfl dX4_way_22 rfl hw
    · have hw := hw.2 c
      refine j_iload_n C 15 rfl 3 dX4_way_14 rfl rfl ?_
      refine j_ri C 18 rfl (jc_S C (c_X4_isSector l g x3 _ hw) 1 gX4_way_X4_isSector rfl rfl rfl hd_X4_isSector ⟨Nat.le_of_ble_eq_true rfl, Nat.le_of_ble_eq_true rfl⟩ [] rfl rfl (rest := []) rfl rfl (Nat.le_of_ble_eq_true rfl) dX4_way_15 ⟨Nat.le_refl _, Nat.le_refl _⟩) [] rfl (fun _ => rfl) (fun r3 _ hw => ?_)
      try dsimp only at hw
      refine j_if_ne C 21 rfl 23 dX4_way_18 rfl (fun c => ?_) (fun c => ?_)
      · have hw := hw.1 c
        refine j_iload C 25 rfl 4 dX4_way_23 rfl ?_
        refine j_if_lt C 28 rfl 34 dX4_way_25 rfl (fun c => ?_) (fun c => ?_)
        · have hw := hw.1 c
          refine j_bipush C 36 rfl dX4_way_34 (v := (-2 : Int32)) (by decide) ?_
          exact j_iret C R () rfl dX4_way_36 rfl hw
        · have hw := hw.2 c
          refine j_iload C 30 rfl 4 dX4_way_28 rfl ?_
          refine j_iconst C 31 rfl dX4_way_30 (v := (2 : Int32)) (by decide) ?_
          refine j_icmp_le C 34 rfl 37 dX4_way_31 rfl (fun c => ?_) (fun c => ?_)
          · have hw := hw.1 c
            refine j_aload_n C 38 rfl 0 dX4_way_37 rfl rfl ?_
            refine j_iload_n C 39 rfl 1 dX4_way_38 rfl rfl ?_
            refine j_iload_n C 40 rfl 2 dX4_way_39 rfl rfl ?_
            refine j_iload_n C 41 rfl 3 dX4_way_40 rfl rfl ?_
            refine j_iload C 43 rfl 4 dX4_way_41 rfl ?_
            refine j_ri C 46 rfl (jc_V C (c_X4_bestWay l g a_this a_pad a_hill a_images a_fairCut a_bestCut a_leastFence a_hill_sorts a_hill_owners a_hill_worths a_hill_gave v_hill_generation v_hill_toll f_hill_owners f_hill_gave x1 x2 x3 x4 _ hw) 4 gX4_way_X4_bestWay rfl rfl rfl hd_X4_bestWay ⟨Nat.le_of_ble_eq_true rfl, Nat.le_of_ble_eq_true rfl⟩ (j_rec C 0 4 rfl rfl) [0, 1, 2, 3] rfl rfl (rest := []) rfl rfl (Nat.le_of_ble_eq_true rfl) dX4_way_43 ⟨Nat.le_refl _, Nat.le_refl _⟩) [0, 1, 2, 3] rfl (fun _ => rfl) (fun r4 _ hw => ?_)
            try dsimp only at hw
            exact j_iret C R () rfl dX4_way_46 rfl hw
          · have hw := hw.2 c
            refine j_bipush C 36 rfl dX4_way_34 (v := (-2 : Int32)) (by decide) ?_
            exact j_iret C R () rfl dX4_way_36 rfl hw
      · have hw := hw.2 c
        refine j_iconst C 22 rfl dX4_way_21 (v := (-1 : Int32)) (by decide) ?_
        exact j_iret C R () rfl dX4_way_22 rfl hw
theorem hi_X4_sectorBelow_X4 : ∀ w ∈ wsX40, w ∈ wsX4_sectorBelow := fun _ h => List.mem_cons_of_mem _ (List.mem_append_left _ (List.mem_append_right _ h))
set_option maxRecDepth 20000 in
set_option maxHeartbeats 4000000 in
theorem c_X4_sectorBelow (l : Launch) (g : gE) (a_this a_pad a_hill a_images a_fairCut a_bestCut a_leastFence a_hill_sorts a_hill_owners a_hill_worths a_hill_gave : Nat) (v_hill_generation : Int32) (v_hill_toll : Int32) (f_hill_sorts : (Nat → Int32)) (x1 : Int32) (x2 : Int32)  (K : Int32 → Prop) (hw : wp_X4_sectorBelow f_hill_sorts x1 x2 K) : Ci l g yX4_sectorBelow wsX4_sectorBelow { frames := 1, cells := 0, slots := 0, locals := 22 } [.ref a_this, .int x1, .int x2] [(a_this, .inr (4, [.ref a_pad, .ref a_hill, .ref a_images, .ref a_fairCut, .ref a_bestCut, .ref a_leastFence])), (a_hill, .inr (2, [.ref a_hill_sorts, .ref a_hill_owners, .ref a_hill_worths, .ref a_hill_gave, .int v_hill_generation, .int v_hill_toll])), (a_hill_sorts, gI g 120 f_hill_sorts)] (fun (r : Int32) (_ : Unit) => K r) (fun (_ : Unit) => [(a_this, .inr (4, [.ref a_pad, .ref a_hill, .ref a_images, .ref a_fairCut, .ref a_bestCut, .ref a_leastFence])), (a_hill, .inr (2, [.ref a_hill_sorts, .ref a_hill_owners, .ref a_hill_worths, .ref a_hill_gave, .int v_hill_generation, .int v_hill_toll])), (a_hill_sorts, gI g 120 f_hill_sorts)]) 0 0 := by
  refine Ci_of (cc := cX4_sectorBelow) (nL := 3) (ret := (some .int)) (own := RX4) (lv0 := [(0, .ref a_this), (1, .int x1), (2, .int x2)]) (by decide +kernel) rfl rfl (Nat.le_of_ble_eq_true rfl) rfl (fun A x C R => ?_)
  refine j_aload_n C 1 rfl 0 dX4_sectorBelow_0 rfl rfl ?_
  refine j_get C 4 rfl 0 4 1 (T := TX4) (N := 6) hi_X4_sectorBelow_X4 rfl (by decide) (List.mem_of_getElem? (i := 1) rfl) rfl rfl rfl dX4_sectorBelow_1 ?_
  refine j_iload_n C 5 rfl 1 dX4_sectorBelow_4 rfl rfl ?_
  refine j_iload_n C 6 rfl 2 dX4_sectorBelow_5 rfl rfl ?_
  refine j_ri C 9 rfl (jc_V C (c_X2_sortAt l g a_hill a_hill_sorts a_hill_owners a_hill_worths a_hill_gave v_hill_generation v_hill_toll f_hill_sorts x1 x2 _ hw) 2 gX4_sectorBelow_X2_sortAt rfl rfl rfl hd_X2_sortAt ⟨Nat.le_of_ble_eq_true rfl, Nat.le_of_ble_eq_true rfl⟩ (j_rec C 1 2 rfl rfl) [1, 2] rfl rfl (rest := []) rfl rfl (Nat.le_of_ble_eq_true rfl) dX4_sectorBelow_6 ⟨Nat.le_refl _, Nat.le_refl _⟩) [1, 2] rfl (fun _ => rfl) (fun r1 _ hw => ?_)
  try dsimp only at hw
  refine j_iconst C 10 rfl dX4_sectorBelow_9 (v := (3 : Int32)) (by decide) ?_
  refine j_icmp_ne C 13 rfl 22 dX4_sectorBelow_10 rfl (fun c => ?_) (fun c => ?_)
  · have hw := hw.1 c
    refine j_iload_n C 23 rfl 2 dX4_sectorBelow_22 rfl rfl ?_
    exact j_iret C R () rfl dX4_sectorBelow_23 rfl hw
  · have hw := hw.2 c
    refine j_iload_n C 14 rfl 2 dX4_sectorBelow_13 rfl rfl ?_
    refine j_iconst C 15 rfl dX4_sectorBelow_14 (v := (1 : Int32)) (by decide) ?_
    refine j_iadd C 16 rfl dX4_sectorBelow_15 ?_
    refine j_bipush C 18 rfl dX4_sectorBelow_16 (v := (24 : Int32)) (by decide) ?_
    refine j_irem C 19 rfl dX4_sectorBelow_18 (by decide) ?_
    refine j_goto C 23 dX4_sectorBelow_19 rfl ?_
    exact j_iret C R () rfl dX4_sectorBelow_23 rfl hw
theorem hi_X4_endOfStone_X4 : ∀ w ∈ wsX40, w ∈ wsX4_endOfStone := fun _ h => List.mem_cons_of_mem _ (List.mem_append_left _ (List.mem_append_right _ h))
set_option maxRecDepth 20000 in
set_option maxHeartbeats 4000000 in
theorem c_X4_endOfStone (l : Launch) (g : gE) (a_this a_pad a_hill a_images a_fairCut a_bestCut a_leastFence a_hill_sorts a_hill_owners a_hill_worths a_hill_gave : Nat) (v_hill_generation : Int32) (v_hill_toll : Int32) (f_hill_sorts : (Nat → Int32)) (x1 : Int32) (x2 : Int32)  (K : Int32 → Prop) (hw : wp_X4_endOfStone f_hill_sorts x1 x2 K) : Ci l g yX4_endOfStone wsX4_endOfStone { frames := 2, cells := 0, slots := 0, locals := 44 } [.ref a_this, .int x1, .int x2] [(a_this, .inr (4, [.ref a_pad, .ref a_hill, .ref a_images, .ref a_fairCut, .ref a_bestCut, .ref a_leastFence])), (a_hill, .inr (2, [.ref a_hill_sorts, .ref a_hill_owners, .ref a_hill_worths, .ref a_hill_gave, .int v_hill_generation, .int v_hill_toll])), (a_hill_sorts, gI g 120 f_hill_sorts)] (fun (r : Int32) (_ : Unit) => K r) (fun (_ : Unit) => [(a_this, .inr (4, [.ref a_pad, .ref a_hill, .ref a_images, .ref a_fairCut, .ref a_bestCut, .ref a_leastFence])), (a_hill, .inr (2, [.ref a_hill_sorts, .ref a_hill_owners, .ref a_hill_worths, .ref a_hill_gave, .int v_hill_generation, .int v_hill_toll])), (a_hill_sorts, gI g 120 f_hill_sorts)]) 0 0 := by
  refine Ci_of (cc := cX4_endOfStone) (nL := 5) (ret := (some .int)) (own := RX4) (lv0 := [(0, .ref a_this), (1, .int x1), (2, .int x2)]) (by decide +kernel) rfl rfl (Nat.le_of_ble_eq_true rfl) rfl (fun A x C R => ?_)
  refine j_iload_n C 1 rfl 2 dX4_endOfStone_0 rfl rfl ?_
  refine j_istore_n C 2 rfl [1, 2, 3, 0] (lv' := [(0, .ref a_this), (1, .int x1), (2, .int x2), (3, .int x2)]) dX4_endOfStone_1 rfl (by decide) rfl ?_
  refine j_iload_n C 3 rfl 1 dX4_endOfStone_2 rfl rfl ?_
  refine j_istore C 5 rfl [1, 2, 3, 4, 0] (lv' := [(0, .ref a_this), (1, .int x1), (2, .int x2), (3, .int x2), (4, .int x1)]) dX4_endOfStone_3 (by decide) rfl ?_
  refine j_lv [0, 3, 4] (lv' := [(0, .ref a_this), (3, .int x2), (4, .int x1)]) rfl ?_
  refine lpW2_ind (G := fun x3 x4 => J l g A x 5 0 0 5 [(0, .ref a_this), (3, .int x3), (4, .int x4)] [] [(a_this, .inr (4, [.ref a_pad, .ref a_hill, .ref a_images, .ref a_fairCut, .ref a_bestCut, .ref a_leastFence])), (a_hill, .inr (2, [.ref a_hill_sorts, .ref a_hill_owners, .ref a_hill_worths, .ref a_hill_gave, .int v_hill_generation, .int v_hill_toll])), (a_hill_sorts, gI g 120 f_hill_sorts)]) (fun L5 x3 x4 hL5 hw => ?_) _ _ hw
  refine j_iload C 7 rfl 2 dX4_endOfStone_5 rfl ?_
  refine j_if_lt C 10 rfl 40 dX4_endOfStone_7 rfl (fun c => ?_) (fun c => ?_)
  · have hw := hw.1 c
    refine j_bipush C 42 rfl dX4_endOfStone_40 (v := (-6 : Int32)) (by decide) ?_
    exact j_iret C R () rfl dX4_endOfStone_42 rfl hw
  · have hw := hw.2 c
    refine j_aload_n C 11 rfl 0 dX4_endOfStone_10 rfl rfl ?_
    refine j_get C 14 rfl 0 4 1 (T := TX4) (N := 6) hi_X4_endOfStone_X4 rfl (by decide) (List.mem_of_getElem? (i := 1) rfl) rfl rfl rfl dX4_endOfStone_11 ?_
    refine j_iload C 16 rfl 2 dX4_endOfStone_14 rfl ?_
    refine j_iload_n C 17 rfl 1 dX4_endOfStone_16 rfl rfl ?_
    refine j_ri C 20 rfl (jc_V C (c_X2_sortAt l g a_hill a_hill_sorts a_hill_owners a_hill_worths a_hill_gave v_hill_generation v_hill_toll f_hill_sorts x4 x3 _ hw) 2 gX4_endOfStone_X2_sortAt rfl rfl rfl hd_X2_sortAt ⟨Nat.le_of_ble_eq_true rfl, Nat.le_of_ble_eq_true rfl⟩ (j_rec C 1 2 rfl rfl) [1, 2] rfl rfl (rest := []) rfl rfl (Nat.le_of_ble_eq_true rfl) dX4_endOfStone_17 ⟨Nat.le_refl _, Nat.le_refl _⟩) [1, 2] rfl (fun _ => rfl) (fun r1 _ hw => ?_)
    try dsimp only at hw
    refine j_iconst C 21 rfl dX4_endOfStone_20 (v := (1 : Int32)) (by decide) ?_
    refine j_icmp_ne C 24 rfl 26 dX4_endOfStone_21 rfl (fun c => ?_) (fun c => ?_)
    · have hw := hw.1 c
      refine j_aload_n C 27 rfl 0 dX4_endOfStone_26 rfl rfl ?_
      refine j_iload C 29 rfl 2 dX4_endOfStone_27 rfl ?_
      refine j_iload_n C 30 rfl 1 dX4_endOfStone_29 rfl rfl ?_
      refine j_ri C 33 rfl (jc_V C (c_X4_sectorBelow l g a_this a_pad a_hill a_images a_fairCut a_bestCut a_leastFence a_hill_sorts a_hill_owners a_hill_worths a_hill_gave v_hill_generation v_hill_toll f_hill_sorts x4 x3 _ hw) 2 gX4_endOfStone_X4_sectorBelow rfl rfl rfl hd_X4_sectorBelow ⟨Nat.le_of_ble_eq_true rfl, Nat.le_of_ble_eq_true rfl⟩ (j_rec C 0 4 rfl rfl) [0, 1, 2] rfl rfl (rest := []) rfl rfl (Nat.le_of_ble_eq_true rfl) dX4_endOfStone_30 ⟨Nat.le_refl _, Nat.le_refl _⟩) [0, 1, 2] rfl (fun _ => rfl) (fun r2 _ hw => ?_)
      try dsimp only at hw
      refine j_istore_n C 34 rfl [1, 0, 2] (lv' := [(0, .ref a_this), (3, .int r2), (4, .int x4)]) dX4_endOfStone_33 rfl (by decide) rfl ?_
      refine j_iinc C 37 rfl 2 [1, 2, 0] (v' := (-1 : Int32)) (lv' := fun z => [(0, .ref a_this), (3, .int r2), (4, .int z)]) dX4_endOfStone_34 rfl (by decide) (by decide) (fun _ => rfl) (fun n3 en3 => ?_)
      have hw := hw n3 en3
      refine j_goto C 5 dX4_endOfStone_37 rfl ?_
      exact hL5 _ _ hw
    · have hw := hw.2 c
      refine j_iload_n C 25 rfl 1 dX4_endOfStone_24 rfl rfl ?_
      exact j_iret C R () rfl dX4_endOfStone_25 rfl hw
theorem hi_X4_hitByStone_X4 : ∀ w ∈ wsX40, w ∈ wsX4_hitByStone := fun _ h => List.mem_cons_of_mem _ (List.mem_append_left _ (List.mem_append_right _ h))
set_option maxRecDepth 20000 in
set_option maxHeartbeats 4000000 in
theorem c_X4_hitByStone (l : Launch) (g : gE) (a_this a_pad a_hill a_images a_fairCut a_bestCut a_leastFence a_hill_sorts a_hill_owners a_hill_worths a_hill_gave : Nat) (v_hill_generation : Int32) (v_hill_toll : Int32) (f_hill_sorts : (Nat → Int32)) (f_hill_owners : (Nat → Int32)) (x1 : Int32) (x2 : Int32)  (K : Int32 → Prop) (hw : wp_X4_hitByStone v_hill_generation f_hill_sorts f_hill_owners x1 x2 K) : Ci l g yX4_hitByStone wsX4_hitByStone { frames := 2, cells := 0, slots := 0, locals := 44 } [.ref a_this, .int x1, .int x2] [(a_this, .inr (4, [.ref a_pad, .ref a_hill, .ref a_images, .ref a_fairCut, .ref a_bestCut, .ref a_leastFence])), (a_hill, .inr (2, [.ref a_hill_sorts, .ref a_hill_owners, .ref a_hill_worths, .ref a_hill_gave, .int v_hill_generation, .int v_hill_toll])), (a_hill_sorts, gI g 120 f_hill_sorts), (a_hill_owners, gI g 504 f_hill_owners)] (fun (r : Int32) (_ : Unit) => K r) (fun (_ : Unit) => [(a_this, .inr (4, [.ref a_pad, .ref a_hill, .ref a_images, .ref a_fairCut, .ref a_bestCut, .ref a_leastFence])), (a_hill, .inr (2, [.ref a_hill_sorts, .ref a_hill_owners, .ref a_hill_worths, .ref a_hill_gave, .int v_hill_generation, .int v_hill_toll])), (a_hill_sorts, gI g 120 f_hill_sorts), (a_hill_owners, gI g 504 f_hill_owners)]) 0 0 := by
  refine Ci_of (cc := cX4_hitByStone) (nL := 6) (ret := (some .int)) (own := RX4) (lv0 := [(0, .ref a_this), (1, .int x1), (2, .int x2)]) (by decide +kernel) rfl rfl (Nat.le_of_ble_eq_true rfl) rfl (fun A x C R => ?_)
  refine j_iconst C 1 rfl dX4_hitByStone_0 (v := (0 : Int32)) (by decide) ?_
  refine j_istore_n C 2 rfl [1, 2, 3, 0] (lv' := [(0, .ref a_this), (1, .int x1), (2, .int x2), (3, .int (0 : Int32))]) dX4_hitByStone_1 rfl (by decide) rfl ?_
  refine j_iload_n C 3 rfl 2 dX4_hitByStone_2 rfl rfl ?_
  refine j_istore C 5 rfl [1, 2, 3, 4, 0] (lv' := [(0, .ref a_this), (1, .int x1), (2, .int x2), (3, .int (0 : Int32)), (4, .int x2)]) dX4_hitByStone_3 (by decide) rfl ?_
  refine j_iload_n C 6 rfl 1 dX4_hitByStone_5 rfl rfl ?_
  refine j_istore C 8 rfl [1, 2, 3, 4, 5, 0] (lv' := [(0, .ref a_this), (1, .int x1), (2, .int x2), (3, .int (0 : Int32)), (4, .int x2), (5, .int x1)]) dX4_hitByStone_6 (by decide) rfl ?_
  refine j_lv [0, 3, 4, 5] (lv' := [(0, .ref a_this), (3, .int (0 : Int32)), (4, .int x2), (5, .int x1)]) rfl ?_
  refine lpW3_ind (G := fun x3 x4 x5 => J l g A x 6 0 0 8 [(0, .ref a_this), (3, .int x3), (4, .int x4), (5, .int x5)] [] [(a_this, .inr (4, [.ref a_pad, .ref a_hill, .ref a_images, .ref a_fairCut, .ref a_bestCut, .ref a_leastFence])), (a_hill, .inr (2, [.ref a_hill_sorts, .ref a_hill_owners, .ref a_hill_worths, .ref a_hill_gave, .int v_hill_generation, .int v_hill_toll])), (a_hill_sorts, gI g 120 f_hill_sorts), (a_hill_owners, gI g 504 f_hill_owners)]) (fun L8 x3 x4 x5 hL8 hw => ?_) _ _ _ hw
  refine j_iload C 10 rfl 3 dX4_hitByStone_8 rfl ?_
  refine j_if_le C 13 rfl 58 dX4_hitByStone_10 rfl (fun c => ?_) (fun c => ?_)
  · have hw := hw.1 c
    refine j_iload_n C 59 rfl 1 dX4_hitByStone_58 rfl rfl ?_
    exact j_iret C R () rfl dX4_hitByStone_59 rfl hw
  · have hw := hw.2 c
    refine j_aload_n C 14 rfl 0 dX4_hitByStone_13 rfl rfl ?_
    refine j_get C 17 rfl 0 4 1 (T := TX4) (N := 6) hi_X4_hitByStone_X4 rfl (by decide) (List.mem_of_getElem? (i := 1) rfl) rfl rfl rfl dX4_hitByStone_14 ?_
    refine j_iload C 19 rfl 3 dX4_hitByStone_17 rfl ?_
    refine j_iload C 21 rfl 2 dX4_hitByStone_19 rfl ?_
    refine j_ri C 24 rfl (jc_V C (c_X2_sortAt l g a_hill a_hill_sorts a_hill_owners a_hill_worths a_hill_gave v_hill_generation v_hill_toll f_hill_sorts x5 x4 _ hw) 2 gX4_hitByStone_X2_sortAt rfl rfl rfl hd_X2_sortAt ⟨Nat.le_of_ble_eq_true rfl, Nat.le_of_ble_eq_true rfl⟩ (j_rec C 1 2 rfl rfl) [1, 2] rfl rfl (rest := []) rfl rfl (Nat.le_of_ble_eq_true rfl) dX4_hitByStone_21 ⟨Nat.le_refl _, Nat.le_refl _⟩) [1, 2] rfl (fun _ => rfl) (fun r1 _ hw => ?_)
    try dsimp only at hw
    refine j_iconst C 25 rfl dX4_hitByStone_24 (v := (1 : Int32)) (by decide) ?_
    refine j_icmp_eq C 28 rfl 58 dX4_hitByStone_25 rfl (fun c => ?_) (fun c => ?_)
    · have hw := hw.1 c
      refine j_iload_n C 59 rfl 1 dX4_hitByStone_58 rfl rfl ?_
      exact j_iret C R () rfl dX4_hitByStone_59 rfl hw
    · have hw := hw.2 c
      refine j_aload_n C 29 rfl 0 dX4_hitByStone_28 rfl rfl ?_
      refine j_iload C 31 rfl 3 dX4_hitByStone_29 rfl ?_
      refine j_iload C 33 rfl 2 dX4_hitByStone_31 rfl ?_
      refine j_ri C 36 rfl (jc_V C (c_X4_sectorBelow l g a_this a_pad a_hill a_images a_fairCut a_bestCut a_leastFence a_hill_sorts a_hill_owners a_hill_worths a_hill_gave v_hill_generation v_hill_toll f_hill_sorts x5 x4 _ hw) 2 gX4_hitByStone_X4_sectorBelow rfl rfl rfl hd_X4_sectorBelow ⟨Nat.le_of_ble_eq_true rfl, Nat.le_of_ble_eq_true rfl⟩ (j_rec C 0 4 rfl rfl) [0, 1, 2] rfl rfl (rest := []) rfl rfl (Nat.le_of_ble_eq_true rfl) dX4_hitByStone_33 ⟨Nat.le_refl _, Nat.le_refl _⟩) [0, 1, 2] rfl (fun _ => rfl) (fun r2 _ hw => ?_)
      try dsimp only at hw
      refine j_istore C 38 rfl [1, 2, 0, 3] (lv' := [(0, .ref a_this), (3, .int x3), (4, .int r2), (5, .int x5)]) dX4_hitByStone_36 (by decide) rfl ?_
      refine j_iload_n C 39 rfl 1 dX4_hitByStone_38 rfl rfl ?_
      refine j_iconst C 40 rfl dX4_hitByStone_39 (v := (1 : Int32)) (by decide) ?_
      refine j_aload_n C 41 rfl 0 dX4_hitByStone_40 rfl rfl ?_
      refine j_get C 44 rfl 0 4 1 (T := TX4) (N := 6) hi_X4_hitByStone_X4 rfl (by decide) (List.mem_of_getElem? (i := 1) rfl) rfl rfl rfl dX4_hitByStone_41 ?_
      refine j_iload C 46 rfl 2 dX4_hitByStone_44 rfl ?_
      refine j_ri C 49 rfl (jc_V C (c_X2_ownerOf l g a_hill a_hill_sorts a_hill_owners a_hill_worths a_hill_gave v_hill_generation v_hill_toll f_hill_owners r2 _ hw) 1 gX4_hitByStone_X2_ownerOf rfl rfl rfl hd_X2_ownerOf ⟨Nat.le_of_ble_eq_true rfl, Nat.le_of_ble_eq_true rfl⟩ (j_rec C 1 2 rfl rfl) [1, 3] rfl rfl (rest := [.int (1 : Int32), .int x3]) rfl rfl (Nat.le_of_ble_eq_true rfl) dX4_hitByStone_46 ⟨Nat.le_refl _, Nat.le_refl _⟩) [1, 3] rfl (fun _ => rfl) (fun r3 _ hw => ?_)
      try dsimp only at hw
      refine j_ishl C 50 rfl dX4_hitByStone_49 ?_
      refine j_ior C 51 rfl dX4_hitByStone_50 ?_
      refine j_top (fun n4 en4 => ?_)
      have hw := hw n4 en4
      refine j_istore_n C 52 rfl [1, 0, 2, 3] (lv' := [(0, .ref a_this), (3, .int n4), (4, .int r2), (5, .int x5)]) dX4_hitByStone_51 rfl (by decide) rfl ?_
      refine j_iinc C 55 rfl 3 [1, 2, 3, 0] (v' := (-1 : Int32)) (lv' := fun z => [(0, .ref a_this), (3, .int n4), (4, .int r2), (5, .int z)]) dX4_hitByStone_52 rfl (by decide) (by decide) (fun _ => rfl) (fun n5 en5 => ?_)
      have hw := hw n5 en5
      refine j_goto C 8 dX4_hitByStone_55 rfl ?_
      exact hL8 _ _ _ hw
set_option maxRecDepth 20000 in
set_option maxHeartbeats 4000000 in
theorem c_X4_stone (l : Launch) (g : gE) (a_this a_pad a_hill a_images a_fairCut a_bestCut a_leastFence a_hill_sorts a_hill_owners a_hill_worths a_hill_gave : Nat) (v_hill_generation : Int32) (v_hill_toll : Int32) (f_hill_sorts : (Nat → Int32)) (f_hill_owners : (Nat → Int32)) (x1 : Int32) (x2 : Int32) (x3 : Int32)  (K : Int32 → Prop) (hw : wp_X4_stone v_hill_generation f_hill_sorts f_hill_owners x1 x2 x3 K) : Ci l g yX4_stone wsX4_stone { frames := 3, cells := 0, slots := 0, locals := 69 } [.ref a_this, .int x1, .int x2, .int x3] [(a_this, .inr (4, [.ref a_pad, .ref a_hill, .ref a_images, .ref a_fairCut, .ref a_bestCut, .ref a_leastFence])), (a_hill, .inr (2, [.ref a_hill_sorts, .ref a_hill_owners, .ref a_hill_worths, .ref a_hill_gave, .int v_hill_generation, .int v_hill_toll])), (a_hill_sorts, gI g 120 f_hill_sorts), (a_hill_owners, gI g 504 f_hill_owners)] (fun (r : Int32) (_ : Unit) => K r) (fun (_ : Unit) => [(a_this, .inr (4, [.ref a_pad, .ref a_hill, .ref a_images, .ref a_fairCut, .ref a_bestCut, .ref a_leastFence])), (a_hill, .inr (2, [.ref a_hill_sorts, .ref a_hill_owners, .ref a_hill_worths, .ref a_hill_gave, .int v_hill_generation, .int v_hill_toll])), (a_hill_sorts, gI g 120 f_hill_sorts), (a_hill_owners, gI g 504 f_hill_owners)]) 0 0 := by
  refine Ci_of (cc := cX4_stone) (nL := 4) (ret := (some .int)) (own := RX4) (lv0 := [(0, .ref a_this), (1, .int x1), (2, .int x2), (3, .int x3)]) (by decide +kernel) rfl rfl (Nat.le_of_ble_eq_true rfl) rfl (fun A x C R => ?_)
  refine j_iload_n C 1 rfl 1 dX4_stone_0 rfl rfl ?_
  refine j_ri C 4 rfl (jc_S C (c_X4_isRing l g x1 _ hw) 1 gX4_stone_X4_isRing rfl rfl rfl hd_X4_isRing ⟨Nat.le_of_ble_eq_true rfl, Nat.le_of_ble_eq_true rfl⟩ [] rfl rfl (rest := []) rfl rfl (Nat.le_of_ble_eq_true rfl) dX4_stone_1 ⟨Nat.le_refl _, Nat.le_refl _⟩) [] rfl (fun _ => rfl) (fun r1 _ hw => ?_)
  try dsimp only at hw
  refine j_if_eq C 7 rfl 14 dX4_stone_4 rfl (fun c => ?_) (fun c => ?_)
  · have hw := hw.1 c
    refine j_iconst C 15 rfl dX4_stone_14 (v := (-1 : Int32)) (by decide) ?_
    exact j_iret C R () rfl dX4_stone_15 rfl hw
  · have hw := hw.2 c
    refine j_iload_n C 8 rfl 2 dX4_stone_7 rfl rfl ?_
    refine j_ri C 11 rfl (jc_S C (c_X4_isSector l g x2 _ hw) 1 gX4_stone_X4_isSector rfl rfl rfl hd_X4_isSector ⟨Nat.le_of_ble_eq_true rfl, Nat.le_of_ble_eq_true rfl⟩ [] rfl rfl (rest := []) rfl rfl (Nat.le_of_ble_eq_true rfl) dX4_stone_8 ⟨Nat.le_refl _, Nat.le_refl _⟩) [] rfl (fun _ => rfl) (fun r2 _ hw => ?_)
    try dsimp only at hw
    refine j_if_ne C 14 rfl 16 dX4_stone_11 rfl (fun c => ?_) (fun c => ?_)
    · have hw := hw.1 c
      refine j_iload_n C 17 rfl 3 dX4_stone_16 rfl rfl ?_
      refine j_if_lt C 20 rfl 25 dX4_stone_17 rfl (fun c => ?_) (fun c => ?_)
      · have hw := hw.1 c
        refine j_bipush C 27 rfl dX4_stone_25 (v := (-2 : Int32)) (by decide) ?_
        exact j_iret C R () rfl dX4_stone_27 rfl hw
      · have hw := hw.2 c
        refine j_iload_n C 21 rfl 3 dX4_stone_20 rfl rfl ?_
        refine j_iconst C 22 rfl dX4_stone_21 (v := (1 : Int32)) (by decide) ?_
        refine j_icmp_le C 25 rfl 28 dX4_stone_22 rfl (fun c => ?_) (fun c => ?_)
        · have hw := hw.1 c
          refine j_iload_n C 29 rfl 3 dX4_stone_28 rfl rfl ?_
          refine j_if_ne C 32 rfl 41 dX4_stone_29 rfl (fun c => ?_) (fun c => ?_)
          · have hw := hw.1 c
            refine j_aload_n C 42 rfl 0 dX4_stone_41 rfl rfl ?_
            refine j_iload_n C 43 rfl 1 dX4_stone_42 rfl rfl ?_
            refine j_iload_n C 44 rfl 2 dX4_stone_43 rfl rfl ?_
            refine j_ri C 47 rfl (jc_V C (c_X4_endOfStone l g a_this a_pad a_hill a_images a_fairCut a_bestCut a_leastFence a_hill_sorts a_hill_owners a_hill_worths a_hill_gave v_hill_generation v_hill_toll f_hill_sorts x1 x2 _ hw) 2 gX4_stone_X4_endOfStone rfl rfl rfl hd_X4_endOfStone ⟨Nat.le_of_ble_eq_true rfl, Nat.le_of_ble_eq_true rfl⟩ (j_rec C 0 4 rfl rfl) [0, 1, 2] rfl rfl (rest := []) rfl rfl (Nat.le_of_ble_eq_true rfl) dX4_stone_44 ⟨Nat.le_refl _, Nat.le_refl _⟩) [0, 1, 2] rfl (fun _ => rfl) (fun r3 _ hw => ?_)
            try dsimp only at hw
            exact j_iret C R () rfl dX4_stone_47 rfl hw
          · have hw := hw.2 c
            refine j_aload_n C 33 rfl 0 dX4_stone_32 rfl rfl ?_
            refine j_iload_n C 34 rfl 1 dX4_stone_33 rfl rfl ?_
            refine j_iload_n C 35 rfl 2 dX4_stone_34 rfl rfl ?_
            refine j_ri C 38 rfl (jc_V C (c_X4_hitByStone l g a_this a_pad a_hill a_images a_fairCut a_bestCut a_leastFence a_hill_sorts a_hill_owners a_hill_worths a_hill_gave v_hill_generation v_hill_toll f_hill_sorts f_hill_owners x1 x2 _ hw) 2 gX4_stone_X4_hitByStone rfl rfl rfl hd_X4_hitByStone ⟨Nat.le_of_ble_eq_true rfl, Nat.le_of_ble_eq_true rfl⟩ (j_rec C 0 4 rfl rfl) [0, 1, 2, 3] rfl rfl (rest := []) rfl rfl (Nat.le_of_ble_eq_true rfl) dX4_stone_35 ⟨Nat.le_refl _, Nat.le_refl _⟩) [0, 1, 2, 3] rfl (fun _ => rfl) (fun r4 _ hw => ?_)
            try dsimp only at hw
            refine j_goto C 47 dX4_stone_38 rfl ?_
            exact j_iret C R () rfl dX4_stone_47 rfl hw
        · have hw := hw.2 c
          refine j_bipush C 27 rfl dX4_stone_25 (v := (-2 : Int32)) (by decide) ?_
          exact j_iret C R () rfl dX4_stone_27 rfl hw
    · have hw := hw.2 c
      refine j_iconst C 15 rfl dX4_stone_14 (v := (-1 : Int32)) (by decide) ?_
      exact j_iret C R () rfl dX4_stone_15 rfl hw
set_option maxRecDepth 20000 in
set_option maxHeartbeats 4000000 in
theorem c_X4_withThoseBeside (l : Launch) (g : gE)  (x0 : Int32)  (K : Int32 → Prop) (hw : wp_X4_withThoseBeside x0 K) : Ci l g yX4_withThoseBeside wsX4_withThoseBeside { frames := 0, cells := 0, slots := 0, locals := 0 } [.int x0] [] (fun (r : Int32) (_ : Unit) => K r) (fun (_ : Unit) => []) 0 0 := by
  refine Ci_of (cc := cX4_withThoseBeside) (nL := 3) (ret := (some .int)) (own := RX4) (lv0 := [(0, .int x0)]) (by decide +kernel) rfl rfl (Nat.le_of_ble_eq_true rfl) rfl (fun A x C R => ?_)
  refine j_iload_n C 1 rfl 0 dX4_withThoseBeside_0 rfl rfl ?_
  refine j_iconst C 2 rfl dX4_withThoseBeside_1 (v := (1 : Int32)) (by decide) ?_
  refine j_ishl C 3 rfl dX4_withThoseBeside_2 ?_
  refine j_iload_n C 4 rfl 0 dX4_withThoseBeside_3 rfl rfl ?_
  refine j_bipush C 6 rfl dX4_withThoseBeside_4 (v := (23 : Int32)) (by decide) ?_
  refine j_ishr C 7 rfl dX4_withThoseBeside_6 ?_
  refine j_ior C 8 rfl dX4_withThoseBeside_7 ?_
  refine j_top (fun n1 en1 => ?_)
  have hw := hw n1 en1
  refine j_istore_n C 9 rfl [1, 0] (lv' := [(0, .int x0), (1, .int n1)]) dX4_withThoseBeside_8 rfl (by decide) rfl ?_
  refine j_iload_n C 10 rfl 0 dX4_withThoseBeside_9 rfl rfl ?_
  refine j_iconst C 11 rfl dX4_withThoseBeside_10 (v := (1 : Int32)) (by decide) ?_
  refine j_ishr C 12 rfl dX4_withThoseBeside_11 ?_
  refine j_iload_n C 13 rfl 0 dX4_withThoseBeside_12 rfl rfl ?_
  refine j_bipush C 15 rfl dX4_withThoseBeside_13 (v := (23 : Int32)) (by decide) ?_
  refine j_ishl C 16 rfl dX4_withThoseBeside_15 ?_
  refine j_ior C 17 rfl dX4_withThoseBeside_16 ?_
  refine j_top (fun n2 en2 => ?_)
  have hw := hw n2 en2
  refine j_istore_n C 18 rfl [1, 2, 0] (lv' := [(0, .int x0), (1, .int n1), (2, .int n2)]) dX4_withThoseBeside_17 rfl (by decide) rfl ?_
  refine j_iload_n C 19 rfl 0 dX4_withThoseBeside_18 rfl rfl ?_
  refine j_iload_n C 20 rfl 1 dX4_withThoseBeside_19 rfl rfl ?_
  refine j_ior C 21 rfl dX4_withThoseBeside_20 ?_
  refine j_iload_n C 22 rfl 2 dX4_withThoseBeside_21 rfl rfl ?_
  refine j_ior C 23 rfl dX4_withThoseBeside_22 ?_
  refine j_ldc C 25 rfl (v := (16777215 : Int32)) (List.mem_of_getElem? (i := 1) rfl) dX4_withThoseBeside_23 ?_
  refine j_iand C 26 rfl dX4_withThoseBeside_25 ?_
  exact j_iret C R () rfl dX4_withThoseBeside_26 rfl hw
theorem hi_X4_runOfAvalanche_X4 : ∀ w ∈ wsX40, w ∈ wsX4_runOfAvalanche := fun _ h => List.mem_cons_of_mem _ (List.mem_append_left _ (List.mem_append_right _ h))
set_option maxRecDepth 20000 in
set_option maxHeartbeats 4000000 in
theorem c_X4_runOfAvalanche (l : Launch) (g : gE) (a_this a_pad a_hill a_images a_fairCut a_bestCut a_leastFence a_hill_sorts a_hill_owners a_hill_worths a_hill_gave : Nat) (v_hill_generation : Int32) (v_hill_toll : Int32) (f_hill_sorts : (Nat → Int32)) (f_hill_owners : (Nat → Int32)) (x1 : Int32) (x2 : Int32) (x3 : Int32)  (K : Int32 → Prop) (hw : wp_X4_runOfAvalanche v_hill_generation f_hill_sorts f_hill_owners x1 x2 x3 K) : Ci l g yX4_runOfAvalanche wsX4_runOfAvalanche { frames := 3, cells := 0, slots := 0, locals := 66 } [.ref a_this, .int x1, .int x2, .int x3] [(a_this, .inr (4, [.ref a_pad, .ref a_hill, .ref a_images, .ref a_fairCut, .ref a_bestCut, .ref a_leastFence])), (a_hill, .inr (2, [.ref a_hill_sorts, .ref a_hill_owners, .ref a_hill_worths, .ref a_hill_gave, .int v_hill_generation, .int v_hill_toll])), (a_hill_sorts, gI g 120 f_hill_sorts), (a_hill_owners, gI g 504 f_hill_owners)] (fun (r : Int32) (_ : Unit) => K r) (fun (_ : Unit) => [(a_this, .inr (4, [.ref a_pad, .ref a_hill, .ref a_images, .ref a_fairCut, .ref a_bestCut, .ref a_leastFence])), (a_hill, .inr (2, [.ref a_hill_sorts, .ref a_hill_owners, .ref a_hill_worths, .ref a_hill_gave, .int v_hill_generation, .int v_hill_toll])), (a_hill_sorts, gI g 120 f_hill_sorts), (a_hill_owners, gI g 504 f_hill_owners)]) 0 0 := by
  refine Ci_of (cc := cX4_runOfAvalanche) (nL := 8) (ret := (some .int)) (own := RX4) (lv0 := [(0, .ref a_this), (1, .int x1), (2, .int x2), (3, .int x3)]) (by decide +kernel) rfl rfl (Nat.le_of_ble_eq_true rfl) rfl (fun A x C R => ?_)
  refine j_iconst C 1 rfl dX4_runOfAvalanche_0 (v := (0 : Int32)) (by decide) ?_
  refine j_istore C 3 rfl [1, 2, 3, 4, 0] (lv' := [(0, .ref a_this), (1, .int x1), (2, .int x2), (3, .int x3), (4, .int (0 : Int32))]) dX4_runOfAvalanche_1 (by decide) rfl ?_
  refine j_iconst C 4 rfl dX4_runOfAvalanche_3 (v := (1 : Int32)) (by decide) ?_
  refine j_istore C 6 rfl [1, 2, 3, 4, 5, 0] (lv' := [(0, .ref a_this), (1, .int x1), (2, .int x2), (3, .int x3), (4, .int (0 : Int32)), (5, .int (1 : Int32))]) dX4_runOfAvalanche_4 (by decide) rfl ?_
  refine j_iconst C 7 rfl dX4_runOfAvalanche_6 (v := (1 : Int32)) (by decide) ?_
  refine j_iload_n C 8 rfl 2 dX4_runOfAvalanche_7 rfl rfl ?_
  refine j_ishl C 9 rfl dX4_runOfAvalanche_8 ?_
  refine j_top (fun n1 en1 => ?_)
  have hw := hw n1 en1
  refine j_istore C 11 rfl [1, 2, 3, 4, 5, 6, 0] (lv' := [(0, .ref a_this), (1, .int x1), (2, .int x2), (3, .int x3), (4, .int (0 : Int32)), (5, .int (1 : Int32)), (6, .int n1)]) dX4_runOfAvalanche_9 (by decide) rfl ?_
  refine j_iload_n C 12 rfl 1 dX4_runOfAvalanche_11 rfl rfl ?_
  refine j_iconst C 13 rfl dX4_runOfAvalanche_12 (v := (1 : Int32)) (by decide) ?_
  refine j_isub C 14 rfl dX4_runOfAvalanche_13 ?_
  refine j_top (fun n2 en2 => ?_)
  have hw := hw n2 en2
  refine j_istore C 16 rfl [1, 2, 3, 4, 5, 6, 7, 0] (lv' := [(0, .ref a_this), (1, .int x1), (2, .int x2), (3, .int x3), (4, .int (0 : Int32)), (5, .int (1 : Int32)), (6, .int n1), (7, .int n2)]) dX4_runOfAvalanche_14 (by decide) rfl ?_
  refine j_lv [0, 3, 4, 5, 6, 7] (lv' := [(0, .ref a_this), (3, .int x3), (4, .int (0 : Int32)), (5, .int (1 : Int32)), (6, .int n1), (7, .int n2)]) rfl ?_
  refine lpW4_ind (G := fun x4 x5 x6 x7 => J l g A x 8 0 0 16 [(0, .ref a_this), (3, .int x3), (4, .int x4), (5, .int x5), (6, .int x6), (7, .int x7)] [] [(a_this, .inr (4, [.ref a_pad, .ref a_hill, .ref a_images, .ref a_fairCut, .ref a_bestCut, .ref a_leastFence])), (a_hill, .inr (2, [.ref a_hill_sorts, .ref a_hill_owners, .ref a_hill_worths, .ref a_hill_gave, .int v_hill_generation, .int v_hill_toll])), (a_hill_sorts, gI g 120 f_hill_sorts), (a_hill_owners, gI g 504 f_hill_owners)]) (fun L16 x4 x5 x6 x7 hL16 hw => ?_) _ _ _ _ hw
  refine j_iload C 18 rfl 5 dX4_runOfAvalanche_16 rfl ?_
  refine j_if_lt C 21 rfl 71 dX4_runOfAvalanche_18 rfl (fun c => ?_) (fun c => ?_)
  · have hw := hw.1 c
    refine j_iload_n C 72 rfl 1 dX4_runOfAvalanche_71 rfl rfl ?_
    refine j_if_ne C 75 rfl 80 dX4_runOfAvalanche_72 rfl (fun c => ?_) (fun c => ?_)
    · have hw := hw.1 c
      refine j_iload C 82 rfl 3 dX4_runOfAvalanche_80 rfl ?_
      exact j_iret C R () rfl dX4_runOfAvalanche_82 rfl hw
    · have hw := hw.2 c
      refine j_iload C 77 rfl 2 dX4_runOfAvalanche_75 rfl ?_
      refine j_goto C 82 dX4_runOfAvalanche_77 rfl ?_
      exact j_iret C R () rfl dX4_runOfAvalanche_82 rfl hw
  · have hw := hw.2 c
    refine j_iload C 23 rfl 4 dX4_runOfAvalanche_21 rfl ?_
    refine j_ri C 26 rfl (jc_S C (c_X4_withThoseBeside l g x6 _ hw) 1 gX4_runOfAvalanche_X4_withThoseBeside rfl rfl rfl hd_X4_withThoseBeside ⟨Nat.le_of_ble_eq_true rfl, Nat.le_of_ble_eq_true rfl⟩ [] rfl rfl (rest := []) rfl rfl (Nat.le_of_ble_eq_true rfl) dX4_runOfAvalanche_23 ⟨Nat.le_refl _, Nat.le_refl _⟩) [] rfl (fun _ => rfl) (fun r3 _ hw => ?_)
    try dsimp only at hw
    refine j_aload_n C 27 rfl 0 dX4_runOfAvalanche_26 rfl rfl ?_
    refine j_get C 30 rfl 0 4 1 (T := TX4) (N := 6) hi_X4_runOfAvalanche_X4 rfl (by decide) (List.mem_of_getElem? (i := 1) rfl) rfl rfl rfl dX4_runOfAvalanche_27 ?_
    refine j_iload C 32 rfl 5 dX4_runOfAvalanche_30 rfl ?_
    refine j_iconst C 33 rfl dX4_runOfAvalanche_32 (v := (1 : Int32)) (by decide) ?_
    refine j_ri C 36 rfl (jc_V C (c_X2_sectorsOfSort l g a_hill a_hill_sorts a_hill_owners a_hill_worths a_hill_gave v_hill_generation v_hill_toll f_hill_sorts x7 (1 : Int32) _ hw) 2 gX4_runOfAvalanche_X2_sectorsOfSort rfl rfl rfl hd_X2_sectorsOfSort ⟨Nat.le_of_ble_eq_true rfl, Nat.le_of_ble_eq_true rfl⟩ (j_rec C 1 2 rfl rfl) [1, 2] rfl rfl (rest := [.int r3]) rfl rfl (Nat.le_of_ble_eq_true rfl) dX4_runOfAvalanche_33 ⟨Nat.le_refl _, Nat.le_refl _⟩) [1, 2] rfl (fun _ => rfl) (fun r4 _ hw => ?_)
    try dsimp only at hw
    refine j_iconst C 37 rfl dX4_runOfAvalanche_36 (v := (-1 : Int32)) (by decide) ?_
    refine j_ixor C 38 rfl dX4_runOfAvalanche_37 ?_
    refine j_iand C 39 rfl dX4_runOfAvalanche_38 ?_
    refine j_top (fun n5 en5 => ?_)
    have hw := hw n5 en5
    refine j_istore C 41 rfl [1, 2, 3, 4, 0, 5] (lv' := [(0, .ref a_this), (3, .int x3), (4, .int x4), (5, .int x5), (6, .int n5), (7, .int x7)]) dX4_runOfAvalanche_39 (by decide) rfl ?_
    refine j_iload C 43 rfl 3 dX4_runOfAvalanche_41 rfl ?_
    refine j_iload C 45 rfl 4 dX4_runOfAvalanche_43 rfl ?_
    refine j_ri C 48 rfl (jc_S C (c_J6_bitCount_0f7a4 l g n5 _ hw) 1 gX4_runOfAvalanche_J6_bitCount_0f7a4 rfl rfl rfl hd_J6_bitCount_0f7a4 ⟨Nat.le_of_ble_eq_true rfl, Nat.le_of_ble_eq_true rfl⟩ [] rfl rfl (rest := [.int x5]) rfl rfl (Nat.le_of_ble_eq_true rfl) dX4_runOfAvalanche_45 ⟨Nat.le_refl _, Nat.le_refl _⟩) [] rfl (fun _ => rfl) (fun r6 _ hw => ?_)
    try dsimp only at hw
    refine j_iadd C 49 rfl dX4_runOfAvalanche_48 ?_
    refine j_top (fun n7 en7 => ?_)
    have hw := hw n7 en7
    refine j_istore C 51 rfl [1, 2, 3, 0, 4, 5] (lv' := [(0, .ref a_this), (3, .int x3), (4, .int x4), (5, .int n7), (6, .int n5), (7, .int x7)]) dX4_runOfAvalanche_49 (by decide) rfl ?_
    refine j_iload C 53 rfl 2 dX4_runOfAvalanche_51 rfl ?_
    refine j_aload_n C 54 rfl 0 dX4_runOfAvalanche_53 rfl rfl ?_
    refine j_get C 57 rfl 0 4 1 (T := TX4) (N := 6) hi_X4_runOfAvalanche_X4 rfl (by decide) (List.mem_of_getElem? (i := 1) rfl) rfl rfl rfl dX4_runOfAvalanche_54 ?_
    refine j_iload C 59 rfl 4 dX4_runOfAvalanche_57 rfl ?_
    refine j_ri C 62 rfl (jc_V C (c_X2_ownersOf l g a_hill a_hill_sorts a_hill_owners a_hill_worths a_hill_gave v_hill_generation v_hill_toll f_hill_owners n5 _ hw) 1 gX4_runOfAvalanche_X2_ownersOf rfl rfl rfl hd_X2_ownersOf ⟨Nat.le_of_ble_eq_true rfl, Nat.le_of_ble_eq_true rfl⟩ (j_rec C 1 2 rfl rfl) [1, 3] rfl rfl (rest := [.int x4]) rfl rfl (Nat.le_of_ble_eq_true rfl) dX4_runOfAvalanche_59 ⟨Nat.le_refl _, Nat.le_refl _⟩) [1, 3] rfl (fun _ => rfl) (fun r8 _ hw => ?_)
    try dsimp only at hw
    refine j_ior C 63 rfl dX4_runOfAvalanche_62 ?_
    refine j_top (fun n9 en9 => ?_)
    have hw := hw n9 en9
    refine j_istore C 65 rfl [1, 2, 0, 3, 4, 5] (lv' := [(0, .ref a_this), (3, .int x3), (4, .int n9), (5, .int n7), (6, .int n5), (7, .int x7)]) dX4_runOfAvalanche_63 (by decide) rfl ?_
    refine j_iinc C 68 rfl 5 [1, 2, 3, 4, 5, 0] (v' := (-1 : Int32)) (lv' := fun z => [(0, .ref a_this), (3, .int x3), (4, .int n9), (5, .int n7), (6, .int n5), (7, .int z)]) dX4_runOfAvalanche_65 rfl (by decide) (by decide) (fun _ => rfl) (fun n10 en10 => ?_)
    have hw := hw n10 en10
    refine j_goto C 16 dX4_runOfAvalanche_68 rfl ?_
    exact hL16 _ _ _ _ hw
theorem hi_X4_avalanche_X4 : ∀ w ∈ wsX40, w ∈ wsX4_avalanche := fun _ h => List.mem_cons_of_mem _ (List.mem_append_left _ (List.mem_append_right _ h))
set_option maxRecDepth 20000 in
set_option maxHeartbeats 4000000 in
theorem c_X4_avalanche (l : Launch) (g : gE) (a_this a_pad a_hill a_images a_fairCut a_bestCut a_leastFence a_hill_sorts a_hill_owners a_hill_worths a_hill_gave : Nat) (v_hill_generation : Int32) (v_hill_toll : Int32) (f_hill_sorts : (Nat → Int32)) (f_hill_owners : (Nat → Int32)) (x1 : Int32) (x2 : Int32) (x3 : Int32)  (K : Int32 → Prop) (hw : wp_X4_avalanche v_hill_generation f_hill_sorts f_hill_owners x1 x2 x3 K) : Ci l g yX4_avalanche wsX4_avalanche { frames := 4, cells := 0, slots := 0, locals := 93 } [.ref a_this, .int x1, .int x2, .int x3] [(a_this, .inr (4, [.ref a_pad, .ref a_hill, .ref a_images, .ref a_fairCut, .ref a_bestCut, .ref a_leastFence])), (a_hill, .inr (2, [.ref a_hill_sorts, .ref a_hill_owners, .ref a_hill_worths, .ref a_hill_gave, .int v_hill_generation, .int v_hill_toll])), (a_hill_sorts, gI g 120 f_hill_sorts), (a_hill_owners, gI g 504 f_hill_owners)] (fun (r : Int32) (_ : Unit) => K r) (fun (_ : Unit) => [(a_this, .inr (4, [.ref a_pad, .ref a_hill, .ref a_images, .ref a_fairCut, .ref a_bestCut, .ref a_leastFence])), (a_hill, .inr (2, [.ref a_hill_sorts, .ref a_hill_owners, .ref a_hill_worths, .ref a_hill_gave, .int v_hill_generation, .int v_hill_toll])), (a_hill_sorts, gI g 120 f_hill_sorts), (a_hill_owners, gI g 504 f_hill_owners)]) 0 0 := by
  refine Ci_of (cc := cX4_avalanche) (nL := 4) (ret := (some .int)) (own := RX4) (lv0 := [(0, .ref a_this), (1, .int x1), (2, .int x2), (3, .int x3)]) (by decide +kernel) rfl rfl (Nat.le_of_ble_eq_true rfl) rfl (fun A x C R => ?_)
  refine j_iload_n C 1 rfl 1 dX4_avalanche_0 rfl rfl ?_
  refine j_ri C 4 rfl (jc_S C (c_X4_isRing l g x1 _ hw) 1 gX4_avalanche_X4_isRing rfl rfl rfl hd_X4_isRing ⟨Nat.le_of_ble_eq_true rfl, Nat.le_of_ble_eq_true rfl⟩ [] rfl rfl (rest := []) rfl rfl (Nat.le_of_ble_eq_true rfl) dX4_avalanche_1 ⟨Nat.le_refl _, Nat.le_refl _⟩) [] rfl (fun _ => rfl) (fun r1 _ hw => ?_)
  try dsimp only at hw
  refine j_if_eq C 7 rfl 14 dX4_avalanche_4 rfl (fun c => ?_) (fun c => ?_)
  · have hw := hw.1 c
    refine j_iconst C 15 rfl dX4_avalanche_14 (v := (-1 : Int32)) (by decide) ?_
    exact j_iret C R () rfl dX4_avalanche_15 rfl hw
  · have hw := hw.2 c
    refine j_iload_n C 8 rfl 2 dX4_avalanche_7 rfl rfl ?_
    refine j_ri C 11 rfl (jc_S C (c_X4_isSector l g x2 _ hw) 1 gX4_avalanche_X4_isSector rfl rfl rfl hd_X4_isSector ⟨Nat.le_of_ble_eq_true rfl, Nat.le_of_ble_eq_true rfl⟩ [] rfl rfl (rest := []) rfl rfl (Nat.le_of_ble_eq_true rfl) dX4_avalanche_8 ⟨Nat.le_refl _, Nat.le_refl _⟩) [] rfl (fun _ => rfl) (fun r2 _ hw => ?_)
    try dsimp only at hw
    refine j_if_ne C 14 rfl 16 dX4_avalanche_11 rfl (fun c => ?_) (fun c => ?_)
    · have hw := hw.1 c
      refine j_iload_n C 17 rfl 3 dX4_avalanche_16 rfl rfl ?_
      refine j_if_lt C 20 rfl 25 dX4_avalanche_17 rfl (fun c => ?_) (fun c => ?_)
      · have hw := hw.1 c
        refine j_bipush C 27 rfl dX4_avalanche_25 (v := (-2 : Int32)) (by decide) ?_
        exact j_iret C R () rfl dX4_avalanche_27 rfl hw
      · have hw := hw.2 c
        refine j_iload_n C 21 rfl 3 dX4_avalanche_20 rfl rfl ?_
        refine j_iconst C 22 rfl dX4_avalanche_21 (v := (1 : Int32)) (by decide) ?_
        refine j_icmp_le C 25 rfl 28 dX4_avalanche_22 rfl (fun c => ?_) (fun c => ?_)
        · have hw := hw.1 c
          refine j_aload_n C 29 rfl 0 dX4_avalanche_28 rfl rfl ?_
          refine j_get C 32 rfl 0 4 1 (T := TX4) (N := 6) hi_X4_avalanche_X4 rfl (by decide) (List.mem_of_getElem? (i := 1) rfl) rfl rfl rfl dX4_avalanche_29 ?_
          refine j_iload_n C 33 rfl 1 dX4_avalanche_32 rfl rfl ?_
          refine j_iload_n C 34 rfl 2 dX4_avalanche_33 rfl rfl ?_
          refine j_ri C 37 rfl (jc_V C (c_X2_sortAt l g a_hill a_hill_sorts a_hill_owners a_hill_worths a_hill_gave v_hill_generation v_hill_toll f_hill_sorts x1 x2 _ hw) 2 gX4_avalanche_X2_sortAt rfl rfl rfl hd_X2_sortAt ⟨Nat.le_of_ble_eq_true rfl, Nat.le_of_ble_eq_true rfl⟩ (j_rec C 1 2 rfl rfl) [1, 2] rfl rfl (rest := []) rfl rfl (Nat.le_of_ble_eq_true rfl) dX4_avalanche_34 ⟨Nat.le_refl _, Nat.le_refl _⟩) [1, 2] rfl (fun _ => rfl) (fun r3 _ hw => ?_)
          try dsimp only at hw
          refine j_iconst C 38 rfl dX4_avalanche_37 (v := (4 : Int32)) (by decide) ?_
          refine j_icmp_eq C 41 rfl 44 dX4_avalanche_38 rfl (fun c => ?_) (fun c => ?_)
          · have hw := hw.1 c
            refine j_aload_n C 45 rfl 0 dX4_avalanche_44 rfl rfl ?_
            refine j_iload_n C 46 rfl 1 dX4_avalanche_45 rfl rfl ?_
            refine j_iload_n C 47 rfl 2 dX4_avalanche_46 rfl rfl ?_
            refine j_iload_n C 48 rfl 3 dX4_avalanche_47 rfl rfl ?_
            refine j_ri C 51 rfl (jc_V C (c_X4_runOfAvalanche l g a_this a_pad a_hill a_images a_fairCut a_bestCut a_leastFence a_hill_sorts a_hill_owners a_hill_worths a_hill_gave v_hill_generation v_hill_toll f_hill_sorts f_hill_owners x1 x2 x3 _ hw) 3 gX4_avalanche_X4_runOfAvalanche rfl rfl rfl hd_X4_runOfAvalanche ⟨Nat.le_of_ble_eq_true rfl, Nat.le_of_ble_eq_true rfl⟩ (j_rec C 0 4 rfl rfl) [0, 1, 2, 3] rfl rfl (rest := []) rfl rfl (Nat.le_of_ble_eq_true rfl) dX4_avalanche_48 ⟨Nat.le_refl _, Nat.le_refl _⟩) [0, 1, 2, 3] rfl (fun _ => rfl) (fun r4 _ hw => ?_)
            try dsimp only at hw
            exact j_iret C R () rfl dX4_avalanche_51 rfl hw
          · have hw := hw.2 c
            refine j_bipush C 43 rfl dX4_avalanche_41 (v := (-3 : Int32)) (by decide) ?_
            exact j_iret C R () rfl dX4_avalanche_43 rfl hw
        · have hw := hw.2 c
          refine j_bipush C 27 rfl dX4_avalanche_25 (v := (-2 : Int32)) (by decide) ?_
          exact j_iret C R () rfl dX4_avalanche_27 rfl hw
    · have hw := hw.2 c
      refine j_iconst C 15 rfl dX4_avalanche_14 (v := (-1 : Int32)) (by decide) ?_
      exact j_iret C R () rfl dX4_avalanche_15 rfl hw
theorem hi_X4_rolls_X4 : ∀ w ∈ wsX40, w ∈ wsX4_rolls := fun _ h => List.mem_cons_of_mem _ (List.mem_append_left _ (List.mem_append_right _ h))
set_option maxRecDepth 20000 in
set_option maxHeartbeats 4000000 in
theorem c_X4_rolls (l : Launch) (g : gE) (a_this a_pad a_hill a_images a_fairCut a_bestCut a_leastFence a_hill_sorts a_hill_owners a_hill_worths a_hill_gave : Nat) (v_hill_generation : Int32) (v_hill_toll : Int32) (f_hill_sorts : (Nat → Int32)) (f_hill_owners : (Nat → Int32)) (x1 : Int32)  (K : Int32 → Prop) (hw : wp_X4_rolls v_hill_generation f_hill_sorts f_hill_owners x1 K) : Ci l g yX4_rolls wsX4_rolls { frames := 3, cells := 0, slots := 0, locals := 69 } [.ref a_this, .int x1] [(a_this, .inr (4, [.ref a_pad, .ref a_hill, .ref a_images, .ref a_fairCut, .ref a_bestCut, .ref a_leastFence])), (a_hill, .inr (2, [.ref a_hill_sorts, .ref a_hill_owners, .ref a_hill_worths, .ref a_hill_gave, .int v_hill_generation, .int v_hill_toll])), (a_hill_sorts, gI g 120 f_hill_sorts), (a_hill_owners, gI g 504 f_hill_owners)] (fun (r : Int32) (_ : Unit) => K r) (fun (_ : Unit) => [(a_this, .inr (4, [.ref a_pad, .ref a_hill, .ref a_images, .ref a_fairCut, .ref a_bestCut, .ref a_leastFence])), (a_hill, .inr (2, [.ref a_hill_sorts, .ref a_hill_owners, .ref a_hill_worths, .ref a_hill_gave, .int v_hill_generation, .int v_hill_toll])), (a_hill_sorts, gI g 120 f_hill_sorts), (a_hill_owners, gI g 504 f_hill_owners)]) 0 0 := by
  refine Ci_of (cc := cX4_rolls) (nL := 5) (ret := (some .int)) (own := RX4) (lv0 := [(0, .ref a_this), (1, .int x1)]) (by decide +kernel) rfl rfl (Nat.le_of_ble_eq_true rfl) rfl (fun A x C R => ?_)
  refine j_iload_n C 1 rfl 1 dX4_rolls_0 rfl rfl ?_
  refine j_ri C 4 rfl (jc_S C (c_X4_isHeir l g x1 _ hw) 1 gX4_rolls_X4_isHeir rfl rfl rfl hd_X4_isHeir ⟨Nat.le_of_ble_eq_true rfl, Nat.le_of_ble_eq_true rfl⟩ [] rfl rfl (rest := []) rfl rfl (Nat.le_of_ble_eq_true rfl) dX4_rolls_1 ⟨Nat.le_refl _, Nat.le_refl _⟩) [] rfl (fun _ => rfl) (fun r1 _ hw => ?_)
  try dsimp only at hw
  refine j_if_ne C 7 rfl 9 dX4_rolls_4 rfl (fun c => ?_) (fun c => ?_)
  · have hw := hw.1 c
    refine j_iconst C 10 rfl dX4_rolls_9 (v := (0 : Int32)) (by decide) ?_
    refine j_istore_n C 11 rfl [1, 2, 0] (lv' := [(0, .ref a_this), (1, .int x1), (2, .int (0 : Int32))]) dX4_rolls_10 rfl (by decide) rfl ?_
    refine j_iconst C 12 rfl dX4_rolls_11 (v := (0 : Int32)) (by decide) ?_
    refine j_istore_n C 13 rfl [1, 2, 3, 0] (lv' := [(0, .ref a_this), (1, .int x1), (2, .int (0 : Int32)), (3, .int (0 : Int32))]) dX4_rolls_12 rfl (by decide) rfl ?_
    refine lpW2_ind (G := fun x2 x3 => J l g A x 5 0 0 13 [(0, .ref a_this), (1, .int x1), (2, .int x2), (3, .int x3)] [] [(a_this, .inr (4, [.ref a_pad, .ref a_hill, .ref a_images, .ref a_fairCut, .ref a_bestCut, .ref a_leastFence])), (a_hill, .inr (2, [.ref a_hill_sorts, .ref a_hill_owners, .ref a_hill_worths, .ref a_hill_gave, .int v_hill_generation, .int v_hill_toll])), (a_hill_sorts, gI g 120 f_hill_sorts), (a_hill_owners, gI g 504 f_hill_owners)]) (fun L13 x2 x3 hL13 hw => ?_) _ _ hw
    refine j_iload_n C 14 rfl 3 dX4_rolls_13 rfl rfl ?_
    refine j_bipush C 16 rfl dX4_rolls_14 (v := (24 : Int32)) (by decide) ?_
    refine j_icmp_ge C 19 rfl 62 dX4_rolls_16 rfl (fun c => ?_) (fun c => ?_)
    · have hw := hw.1 c
      refine j_iload_n C 63 rfl 2 dX4_rolls_62 rfl rfl ?_
      refine j_iconst C 64 rfl dX4_rolls_63 (v := (1 : Int32)) (by decide) ?_
      refine j_iload_n C 65 rfl 1 dX4_rolls_64 rfl rfl ?_
      refine j_ishl C 66 rfl dX4_rolls_65 ?_
      refine j_iconst C 67 rfl dX4_rolls_66 (v := (-1 : Int32)) (by decide) ?_
      refine j_ixor C 68 rfl dX4_rolls_67 ?_
      refine j_iand C 69 rfl dX4_rolls_68 ?_
      exact j_iret C R () rfl dX4_rolls_69 rfl hw
    · have hw := hw.2 c
      refine j_aload_n C 20 rfl 0 dX4_rolls_19 rfl rfl ?_
      refine j_get C 23 rfl 0 4 1 (T := TX4) (N := 6) hi_X4_rolls_X4 rfl (by decide) (List.mem_of_getElem? (i := 1) rfl) rfl rfl rfl dX4_rolls_20 ?_
      refine j_iload_n C 24 rfl 3 dX4_rolls_23 rfl rfl ?_
      refine j_ri C 27 rfl (jc_V C (c_X2_ownerOf l g a_hill a_hill_sorts a_hill_owners a_hill_worths a_hill_gave v_hill_generation v_hill_toll f_hill_owners x3 _ hw) 1 gX4_rolls_X2_ownerOf rfl rfl rfl hd_X2_ownerOf ⟨Nat.le_of_ble_eq_true rfl, Nat.le_of_ble_eq_true rfl⟩ (j_rec C 1 2 rfl rfl) [1, 3] rfl rfl (rest := []) rfl rfl (Nat.le_of_ble_eq_true rfl) dX4_rolls_24 ⟨Nat.le_refl _, Nat.le_refl _⟩) [1, 3] rfl (fun _ => rfl) (fun r2 _ hw => ?_)
      try dsimp only at hw
      refine j_iload_n C 28 rfl 1 dX4_rolls_27 rfl rfl ?_
      refine j_icmp_ne C 31 rfl 56 dX4_rolls_28 rfl (fun c => ?_) (fun c => ?_)
      · have hw := hw.1 c
        refine j_iinc C 59 rfl 3 [1, 2, 3, 0] (v' := (1 : Int32)) (lv' := fun z => [(0, .ref a_this), (1, .int x1), (2, .int x2), (3, .int z)]) dX4_rolls_56 rfl (by decide) (by decide) (fun _ => rfl) (fun n3 en3 => ?_)
        have hw := hw n3 en3
        refine j_goto C 13 dX4_rolls_59 rfl ?_
        exact hL13 _ _ hw
      · have hw := hw.2 c
        refine j_iconst C 32 rfl dX4_rolls_31 (v := (0 : Int32)) (by decide) ?_
        refine j_istore C 34 rfl [1, 2, 3, 4, 0] (lv' := [(0, .ref a_this), (1, .int x1), (2, .int x2), (3, .int x3), (4, .int (0 : Int32))]) dX4_rolls_32 (by decide) rfl ?_
        refine lpW2_ind (G := fun x2 x4 => J l g A x 5 0 0 34 [(0, .ref a_this), (1, .int x1), (2, .int x2), (3, .int x3), (4, .int x4)] [] [(a_this, .inr (4, [.ref a_pad, .ref a_hill, .ref a_images, .ref a_fairCut, .ref a_bestCut, .ref a_leastFence])), (a_hill, .inr (2, [.ref a_hill_sorts, .ref a_hill_owners, .ref a_hill_worths, .ref a_hill_gave, .int v_hill_generation, .int v_hill_toll])), (a_hill_sorts, gI g 120 f_hill_sorts), (a_hill_owners, gI g 504 f_hill_owners)]) (fun L34 x2 x4 hL34 hw => ?_) _ _ hw
        refine j_iload C 36 rfl 4 dX4_rolls_34 rfl ?_
        refine j_iconst C 37 rfl dX4_rolls_36 (v := (5 : Int32)) (by decide) ?_
        refine j_icmp_ge C 40 rfl 56 dX4_rolls_37 rfl (fun c => ?_) (fun c => ?_)
        · have hw := hw.1 c
          refine j_iinc C 59 rfl 3 [1, 2, 3, 0, 4] (v' := (1 : Int32)) (lv' := fun z => [(0, .ref a_this), (1, .int x1), (2, .int x2), (3, .int z), (4, .int x4)]) dX4_rolls_56 rfl (by decide) (by decide) (fun _ => rfl) (fun n4 en4 => ?_)
          have hw := hw n4 en4
          refine j_goto C 13 dX4_rolls_59 rfl ?_
          refine j_lv [0, 1, 2, 3] (lv' := [(0, .ref a_this), (1, .int x1), (2, .int x2), (3, .int n4)]) rfl ?_
          exact hL13 _ _ hw
        · have hw := hw.2 c
          refine j_iload_n C 41 rfl 2 dX4_rolls_40 rfl rfl ?_
          refine j_aload_n C 42 rfl 0 dX4_rolls_41 rfl rfl ?_
          refine j_iload C 44 rfl 4 dX4_rolls_42 rfl ?_
          refine j_iload_n C 45 rfl 3 dX4_rolls_44 rfl rfl ?_
          refine j_ri C 48 rfl (jc_V C (c_X4_hitByStone l g a_this a_pad a_hill a_images a_fairCut a_bestCut a_leastFence a_hill_sorts a_hill_owners a_hill_worths a_hill_gave v_hill_generation v_hill_toll f_hill_sorts f_hill_owners x4 x3 _ hw) 2 gX4_rolls_X4_hitByStone rfl rfl rfl hd_X4_hitByStone ⟨Nat.le_of_ble_eq_true rfl, Nat.le_of_ble_eq_true rfl⟩ (j_rec C 0 4 rfl rfl) [0, 1, 2, 3] rfl rfl (rest := [.int x2]) rfl rfl (Nat.le_of_ble_eq_true rfl) dX4_rolls_45 ⟨Nat.le_refl _, Nat.le_refl _⟩) [0, 1, 2, 3] rfl (fun _ => rfl) (fun r5 _ hw => ?_)
          try dsimp only at hw
          refine j_ior C 49 rfl dX4_rolls_48 ?_
          refine j_top (fun n6 en6 => ?_)
          have hw := hw n6 en6
          refine j_istore_n C 50 rfl [1, 2, 0, 3, 4] (lv' := [(0, .ref a_this), (1, .int x1), (2, .int n6), (3, .int x3), (4, .int x4)]) dX4_rolls_49 rfl (by decide) rfl ?_
          refine j_iinc C 53 rfl 4 [1, 2, 3, 4, 0] (v' := (1 : Int32)) (lv' := fun z => [(0, .ref a_this), (1, .int x1), (2, .int n6), (3, .int x3), (4, .int z)]) dX4_rolls_50 rfl (by decide) (by decide) (fun _ => rfl) (fun n7 en7 => ?_)
          have hw := hw n7 en7
          refine j_goto C 34 dX4_rolls_53 rfl ?_
          exact hL34 _ _ hw
  · have hw := hw.2 c
    refine j_iconst C 8 rfl dX4_rolls_7 (v := (-1 : Int32)) (by decide) ?_
    exact j_iret C R () rfl dX4_rolls_8 rfl hw
theorem hi_X4_fence_X4 : ∀ w ∈ wsX40, w ∈ wsX4_fence := fun _ h => List.mem_cons_of_mem _ (List.mem_append_left _ (List.mem_append_left _ (List.mem_append_right _ h)))
set_option maxRecDepth 20000 in
set_option maxHeartbeats 4000000 in
theorem c_X4_fence (l : Launch) (g : gE) (a_this a_pad a_hill a_images a_fairCut a_bestCut a_leastFence a_hill_sorts a_hill_owners a_hill_worths a_hill_gave a_leastFence_room a_leastFence_came a_leastFence_queue a_leastFence_goals : Nat) (v_hill_generation : Int32) (v_hill_toll : Int32) (f_hill_sorts : (Nat → Int32)) (f_hill_owners : (Nat → Int32)) (v_leastFence_queued : Int32) (f_leastFence_room : (Nat → Int32)) (f_leastFence_came : (Nat → Int32)) (f_leastFence_queue : (Nat → Int32)) (f_leastFence_goals : (Nat → Int32)) (x1 : Int32)  (K : Int32 → Int32 → (Nat → Int32) → (Nat → Int32) → (Nat → Int32) → (Nat → Int32) → Prop) (hw : wp_X4_fence v_hill_generation f_hill_sorts f_hill_owners v_leastFence_queued f_leastFence_room f_leastFence_came f_leastFence_queue f_leastFence_goals x1 K) : Ci l g yX4_fence wsX4_fence { frames := 4, cells := 0, slots := 0, locals := 93 } [.ref a_this, .int x1] [(a_this, .inr (4, [.ref a_pad, .ref a_hill, .ref a_images, .ref a_fairCut, .ref a_bestCut, .ref a_leastFence])), (a_hill, .inr (2, [.ref a_hill_sorts, .ref a_hill_owners, .ref a_hill_worths, .ref a_hill_gave, .int v_hill_generation, .int v_hill_toll])), (a_hill_sorts, gI g 120 f_hill_sorts), (a_hill_owners, gI g 504 f_hill_owners), (a_leastFence, .inr (1, [.ref a_leastFence_room, .ref a_leastFence_came, .ref a_leastFence_queue, .ref a_leastFence_goals, .int v_leastFence_queued])), (a_leastFence_room, gI g 480 f_leastFence_room), (a_leastFence_came, gI g 120 f_leastFence_came), (a_leastFence_queue, gI g 120 f_leastFence_queue), (a_leastFence_goals, gZ g 120 f_leastFence_goals)] (fun (r : Int32) (u : Int32 × (Nat → Int32) × (Nat → Int32) × (Nat → Int32) × (Nat → Int32)) => K r u.1 u.2.1 u.2.2.1 u.2.2.2.1 u.2.2.2.2) (fun (u : Int32 × (Nat → Int32) × (Nat → Int32) × (Nat → Int32) × (Nat → Int32)) => [(a_this, .inr (4, [.ref a_pad, .ref a_hill, .ref a_images, .ref a_fairCut, .ref a_bestCut, .ref a_leastFence])), (a_hill, .inr (2, [.ref a_hill_sorts, .ref a_hill_owners, .ref a_hill_worths, .ref a_hill_gave, .int v_hill_generation, .int v_hill_toll])), (a_hill_sorts, gI g 120 f_hill_sorts), (a_hill_owners, gI g 504 f_hill_owners), (a_leastFence, .inr (1, [.ref a_leastFence_room, .ref a_leastFence_came, .ref a_leastFence_queue, .ref a_leastFence_goals, .int (u.1)])), (a_leastFence_room, gI g 480 (u.2.1)), (a_leastFence_came, gI g 120 (u.2.2.1)), (a_leastFence_queue, gI g 120 (u.2.2.2.1)), (a_leastFence_goals, gZ g 120 (u.2.2.2.2))]) 0 0 := by
  refine Ci_of (cc := cX4_fence) (nL := 2) (ret := (some .int)) (own := RX4) (lv0 := [(0, .ref a_this), (1, .int x1)]) (by decide +kernel) rfl rfl (Nat.le_of_ble_eq_true rfl) rfl (fun A x C R => ?_)
  refine j_iload_n C 1 rfl 1 dX4_fence_0 rfl rfl ?_
  refine j_ri C 4 rfl (jc_S C (c_X4_isHeir l g x1 _ hw) 1 gX4_fence_X4_isHeir rfl rfl rfl hd_X4_isHeir ⟨Nat.le_of_ble_eq_true rfl, Nat.le_of_ble_eq_true rfl⟩ [] rfl rfl (rest := []) rfl rfl (Nat.le_of_ble_eq_true rfl) dX4_fence_1 ⟨Nat.le_refl _, Nat.le_refl _⟩) [] rfl (fun _ => rfl) (fun r1 _ hw => ?_)
  try dsimp only at hw
  refine j_if_eq C 7 rfl 22 dX4_fence_4 rfl (fun c => ?_) (fun c => ?_)
  · have hw := hw.1 c
    refine j_iconst C 23 rfl dX4_fence_22 (v := (-1 : Int32)) (by decide) ?_
    exact j_iret C R (v_leastFence_queued, f_leastFence_room, f_leastFence_came, f_leastFence_queue, f_leastFence_goals) rfl dX4_fence_23 rfl hw
  · have hw := hw.2 c
    refine j_aload_n C 8 rfl 0 dX4_fence_7 rfl rfl ?_
    refine j_get C 11 rfl 0 4 5 (T := TX4) (N := 6) hi_X4_fence_X4 rfl (by decide) (List.mem_of_getElem? (i := 1) rfl) rfl rfl rfl dX4_fence_8 ?_
    refine j_iload_n C 12 rfl 1 dX4_fence_11 rfl rfl ?_
    refine j_aload_n C 13 rfl 0 dX4_fence_12 rfl rfl ?_
    refine j_get C 16 rfl 0 4 1 (T := TX4) (N := 6) hi_X4_fence_X4 rfl (by decide) (List.mem_of_getElem? (i := 2) rfl) rfl rfl rfl dX4_fence_13 ?_
    refine j_rwi C 19 rfl (jc_V C (c_X1_lengthFor l g a_leastFence a_leastFence_room a_leastFence_came a_leastFence_queue a_leastFence_goals a_hill a_hill_sorts a_hill_owners a_hill_worths a_hill_gave v_leastFence_queued f_leastFence_room f_leastFence_came f_leastFence_queue f_leastFence_goals v_hill_generation v_hill_toll f_hill_sorts f_hill_owners x1 _ hw) 2 gX4_fence_X1_lengthFor rfl rfl rfl hd_X1_lengthFor ⟨Nat.le_of_ble_eq_true rfl, Nat.le_of_ble_eq_true rfl⟩ (j_rec C 4 1 rfl rfl) [4, 5, 6, 7, 8, 1, 2, 3] rfl rfl (rest := []) rfl rfl (Nat.le_of_ble_eq_true rfl) dX4_fence_16 ⟨Nat.le_refl _, Nat.le_refl _⟩) [4, 5, 6, 7, 8, 1, 2, 3] [0] [0, 6, 7, 8, 1, 2, 3, 4, 5] (wr := [(a_this, .inr (4, [.ref a_pad, .ref a_hill, .ref a_images, .ref a_fairCut, .ref a_bestCut, .ref a_leastFence]))]) (ws' := fun u => [(a_this, .inr (4, [.ref a_pad, .ref a_hill, .ref a_images, .ref a_fairCut, .ref a_bestCut, .ref a_leastFence])), (a_hill, .inr (2, [.ref a_hill_sorts, .ref a_hill_owners, .ref a_hill_worths, .ref a_hill_gave, .int v_hill_generation, .int v_hill_toll])), (a_hill_sorts, gI g 120 f_hill_sorts), (a_hill_owners, gI g 504 f_hill_owners), (a_leastFence, .inr (1, [.ref a_leastFence_room, .ref a_leastFence_came, .ref a_leastFence_queue, .ref a_leastFence_goals, .int (u.1)])), (a_leastFence_room, gI g 480 (u.2.1)), (a_leastFence_came, gI g 120 (u.2.2.1)), (a_leastFence_queue, gI g 120 (u.2.2.2.1)), (a_leastFence_goals, gZ g 120 (u.2.2.2.2))]) rfl rfl rfl (by decide) rfl (fun _ => rfl) (fun r2 u hw => ?_)
    obtain ⟨u3, u4, u5, u6, u7⟩ := u
    try dsimp only at hw
    show J l g A x 2 0 0 19 [(0, .ref a_this), (1, .int x1)] [.int r2] [(a_this, .inr (4, [.ref a_pad, .ref a_hill, .ref a_images, .ref a_fairCut, .ref a_bestCut, .ref a_leastFence])), (a_hill, .inr (2, [.ref a_hill_sorts, .ref a_hill_owners, .ref a_hill_worths, .ref a_hill_gave, .int v_hill_generation, .int v_hill_toll])), (a_hill_sorts, gI g 120 f_hill_sorts), (a_hill_owners, gI g 504 f_hill_owners), (a_leastFence, .inr (1, [.ref a_leastFence_room, .ref a_leastFence_came, .ref a_leastFence_queue, .ref a_leastFence_goals, .int u3])), (a_leastFence_room, gI g 480 u4), (a_leastFence_came, gI g 120 u5), (a_leastFence_queue, gI g 120 u6), (a_leastFence_goals, gZ g 120 u7)]
    refine j_goto C 23 dX4_fence_19 rfl ?_
    exact j_iret C R (u3, u4, u5, u6, u7) rfl dX4_fence_23 rfl hw
theorem hi_X4_firstYearOfSpring_X4 : ∀ w ∈ wsX40, w ∈ wsX4_firstYearOfSpring := fun _ h => List.mem_cons_of_mem _ (List.mem_append_left _ (List.mem_append_right _ h))
set_option maxRecDepth 20000 in
set_option maxHeartbeats 4000000 in
theorem c_X4_firstYearOfSpring (l : Launch) (g : gE) (a_this a_pad a_hill a_images a_fairCut a_bestCut a_leastFence a_hill_sorts a_hill_owners a_hill_worths a_hill_gave : Nat) (v_hill_generation : Int32) (v_hill_toll : Int32) (f_hill_owners : (Nat → Int32)) (x1 : Int32) (x2 : Int32) (x3 : Int32) (x4 : Int32)  (K : Int32 → Prop) (hw : wp_X4_firstYearOfSpring v_hill_generation f_hill_owners x1 x2 x3 x4 K) : Ci l g yX4_firstYearOfSpring wsX4_firstYearOfSpring { frames := 2, cells := 0, slots := 0, locals := 43 } [.ref a_this, .int x1, .int x2, .int x3, .int x4] [(a_this, .inr (4, [.ref a_pad, .ref a_hill, .ref a_images, .ref a_fairCut, .ref a_bestCut, .ref a_leastFence])), (a_hill, .inr (2, [.ref a_hill_sorts, .ref a_hill_owners, .ref a_hill_worths, .ref a_hill_gave, .int v_hill_generation, .int v_hill_toll])), (a_hill_owners, gI g 504 f_hill_owners)] (fun (r : Int32) (_ : Unit) => K r) (fun (_ : Unit) => [(a_this, .inr (4, [.ref a_pad, .ref a_hill, .ref a_images, .ref a_fairCut, .ref a_bestCut, .ref a_leastFence])), (a_hill, .inr (2, [.ref a_hill_sorts, .ref a_hill_owners, .ref a_hill_worths, .ref a_hill_gave, .int v_hill_generation, .int v_hill_toll])), (a_hill_owners, gI g 504 f_hill_owners)]) 0 0 := by
  refine Ci_of (cc := cX4_firstYearOfSpring) (nL := 6) (ret := (some .int)) (own := RX4) (lv0 := [(0, .ref a_this), (1, .int x1), (2, .int x2), (3, .int x3), (4, .int x4)]) (by decide +kernel) rfl rfl (Nat.le_of_ble_eq_true rfl) rfl (fun A x C R => ?_)
  refine j_iconst C 1 rfl dX4_firstYearOfSpring_0 (v := (0 : Int32)) (by decide) ?_
  refine j_istore C 3 rfl [1, 2, 3, 4, 5, 0] (lv' := [(0, .ref a_this), (1, .int x1), (2, .int x2), (3, .int x3), (4, .int x4), (5, .int (0 : Int32))]) dX4_firstYearOfSpring_1 (by decide) rfl ?_
  refine lpW1_ind (G := fun x5 => J l g A x 6 0 0 3 [(0, .ref a_this), (1, .int x1), (2, .int x2), (3, .int x3), (4, .int x4), (5, .int x5)] [] [(a_this, .inr (4, [.ref a_pad, .ref a_hill, .ref a_images, .ref a_fairCut, .ref a_bestCut, .ref a_leastFence])), (a_hill, .inr (2, [.ref a_hill_sorts, .ref a_hill_owners, .ref a_hill_worths, .ref a_hill_gave, .int v_hill_generation, .int v_hill_toll])), (a_hill_owners, gI g 504 f_hill_owners)]) (fun L3 x5 hL3 hw => ?_) _ hw
  refine j_iload C 5 rfl 5 dX4_firstYearOfSpring_3 rfl ?_
  refine j_iload_n C 6 rfl 3 dX4_firstYearOfSpring_5 rfl rfl ?_
  refine j_icmp_gt C 9 rfl 39 dX4_firstYearOfSpring_6 rfl (fun c => ?_) (fun c => ?_)
  · have hw := hw.1 c
    refine j_bipush C 41 rfl dX4_firstYearOfSpring_39 (v := (-6 : Int32)) (by decide) ?_
    exact j_iret C R () rfl dX4_firstYearOfSpring_41 rfl hw
  · have hw := hw.2 c
    refine j_aload_n C 10 rfl 0 dX4_firstYearOfSpring_9 rfl rfl ?_
    refine j_get C 13 rfl 0 4 1 (T := TX4) (N := 6) hi_X4_firstYearOfSpring_X4 rfl (by decide) (List.mem_of_getElem? (i := 1) rfl) rfl rfl rfl dX4_firstYearOfSpring_10 ?_
    refine j_iload_n C 14 rfl 1 dX4_firstYearOfSpring_13 rfl rfl ?_
    refine j_iload_n C 15 rfl 2 dX4_firstYearOfSpring_14 rfl rfl ?_
    refine j_iload C 17 rfl 5 dX4_firstYearOfSpring_15 rfl ?_
    refine j_imul C 18 rfl dX4_firstYearOfSpring_17 ?_
    refine j_iadd C 19 rfl dX4_firstYearOfSpring_18 ?_
    refine j_bipush C 21 rfl dX4_firstYearOfSpring_19 (v := (24 : Int32)) (by decide) ?_
    refine j_irem C 22 rfl dX4_firstYearOfSpring_21 (by decide) ?_
    refine j_top (fun n1 en1 => ?_)
    have hw := hw n1 en1
    refine j_ri C 25 rfl (jc_V C (c_X2_ownerOf l g a_hill a_hill_sorts a_hill_owners a_hill_worths a_hill_gave v_hill_generation v_hill_toll f_hill_owners n1 _ hw) 1 gX4_firstYearOfSpring_X2_ownerOf rfl rfl rfl hd_X2_ownerOf ⟨Nat.le_of_ble_eq_true rfl, Nat.le_of_ble_eq_true rfl⟩ (j_rec C 1 2 rfl rfl) [1, 2] rfl rfl (rest := []) rfl rfl (Nat.le_of_ble_eq_true rfl) dX4_firstYearOfSpring_22 ⟨Nat.le_refl _, Nat.le_refl _⟩) [1, 2] rfl (fun _ => rfl) (fun r2 _ hw => ?_)
    try dsimp only at hw
    refine j_iload C 27 rfl 4 dX4_firstYearOfSpring_25 rfl ?_
    refine j_icmp_ne C 30 rfl 33 dX4_firstYearOfSpring_27 rfl (fun c => ?_) (fun c => ?_)
    · have hw := hw.1 c
      refine j_iinc C 36 rfl 5 [1, 2, 3, 4, 5, 0] (v' := (1 : Int32)) (lv' := fun z => [(0, .ref a_this), (1, .int x1), (2, .int x2), (3, .int x3), (4, .int x4), (5, .int z)]) dX4_firstYearOfSpring_33 rfl (by decide) (by decide) (fun _ => rfl) (fun n3 en3 => ?_)
      have hw := hw n3 en3
      refine j_goto C 3 dX4_firstYearOfSpring_36 rfl ?_
      exact hL3 _ hw
    · have hw := hw.2 c
      refine j_iload C 32 rfl 5 dX4_firstYearOfSpring_30 rfl ?_
      exact j_iret C R () rfl dX4_firstYearOfSpring_32 rfl hw
theorem hi_X4_yearsOfSpring_X4 : ∀ w ∈ wsX40, w ∈ wsX4_yearsOfSpring := fun _ h => List.mem_cons_of_mem _ (List.mem_append_left _ (List.mem_append_right _ h))
set_option maxRecDepth 20000 in
set_option maxHeartbeats 4000000 in
theorem c_X4_yearsOfSpring (l : Launch) (g : gE) (a_this a_pad a_hill a_images a_fairCut a_bestCut a_leastFence a_hill_sorts a_hill_owners a_hill_worths a_hill_gave : Nat) (v_hill_generation : Int32) (v_hill_toll : Int32) (f_hill_owners : (Nat → Int32)) (x1 : Int32) (x2 : Int32) (x3 : Int32) (x4 : Int32)  (K : Int32 → Prop) (hw : wp_X4_yearsOfSpring v_hill_generation f_hill_owners x1 x2 x3 x4 K) : Ci l g yX4_yearsOfSpring wsX4_yearsOfSpring { frames := 2, cells := 0, slots := 0, locals := 43 } [.ref a_this, .int x1, .int x2, .int x3, .int x4] [(a_this, .inr (4, [.ref a_pad, .ref a_hill, .ref a_images, .ref a_fairCut, .ref a_bestCut, .ref a_leastFence])), (a_hill, .inr (2, [.ref a_hill_sorts, .ref a_hill_owners, .ref a_hill_worths, .ref a_hill_gave, .int v_hill_generation, .int v_hill_toll])), (a_hill_owners, gI g 504 f_hill_owners)] (fun (r : Int32) (_ : Unit) => K r) (fun (_ : Unit) => [(a_this, .inr (4, [.ref a_pad, .ref a_hill, .ref a_images, .ref a_fairCut, .ref a_bestCut, .ref a_leastFence])), (a_hill, .inr (2, [.ref a_hill_sorts, .ref a_hill_owners, .ref a_hill_worths, .ref a_hill_gave, .int v_hill_generation, .int v_hill_toll])), (a_hill_owners, gI g 504 f_hill_owners)]) 0 0 := by
  refine Ci_of (cc := cX4_yearsOfSpring) (nL := 7) (ret := (some .int)) (own := RX4) (lv0 := [(0, .ref a_this), (1, .int x1), (2, .int x2), (3, .int x3), (4, .int x4)]) (by decide +kernel) rfl rfl (Nat.le_of_ble_eq_true rfl) rfl (fun A x C R => ?_)
  refine j_iconst C 1 rfl dX4_yearsOfSpring_0 (v := (0 : Int32)) (by decide) ?_
  refine j_istore C 3 rfl [1, 2, 3, 4, 5, 0] (lv' := [(0, .ref a_this), (1, .int x1), (2, .int x2), (3, .int x3), (4, .int x4), (5, .int (0 : Int32))]) dX4_yearsOfSpring_1 (by decide) rfl ?_
  refine j_iconst C 4 rfl dX4_yearsOfSpring_3 (v := (0 : Int32)) (by decide) ?_
  refine j_istore C 6 rfl [1, 2, 3, 4, 5, 6, 0] (lv' := [(0, .ref a_this), (1, .int x1), (2, .int x2), (3, .int x3), (4, .int x4), (5, .int (0 : Int32)), (6, .int (0 : Int32))]) dX4_yearsOfSpring_4 (by decide) rfl ?_
  refine lpW2_ind (G := fun x5 x6 => J l g A x 7 0 0 6 [(0, .ref a_this), (1, .int x1), (2, .int x2), (3, .int x3), (4, .int x4), (5, .int x5), (6, .int x6)] [] [(a_this, .inr (4, [.ref a_pad, .ref a_hill, .ref a_images, .ref a_fairCut, .ref a_bestCut, .ref a_leastFence])), (a_hill, .inr (2, [.ref a_hill_sorts, .ref a_hill_owners, .ref a_hill_worths, .ref a_hill_gave, .int v_hill_generation, .int v_hill_toll])), (a_hill_owners, gI g 504 f_hill_owners)]) (fun L6 x5 x6 hL6 hw => ?_) _ _ hw
  refine j_iload C 8 rfl 6 dX4_yearsOfSpring_6 rfl ?_
  refine j_iload_n C 9 rfl 3 dX4_yearsOfSpring_8 rfl rfl ?_
  refine j_icmp_gt C 12 rfl 42 dX4_yearsOfSpring_9 rfl (fun c => ?_) (fun c => ?_)
  · have hw := hw.1 c
    refine j_iload C 44 rfl 5 dX4_yearsOfSpring_42 rfl ?_
    exact j_iret C R () rfl dX4_yearsOfSpring_44 rfl hw
  · have hw := hw.2 c
    refine j_aload_n C 13 rfl 0 dX4_yearsOfSpring_12 rfl rfl ?_
    refine j_get C 16 rfl 0 4 1 (T := TX4) (N := 6) hi_X4_yearsOfSpring_X4 rfl (by decide) (List.mem_of_getElem? (i := 1) rfl) rfl rfl rfl dX4_yearsOfSpring_13 ?_
    refine j_iload_n C 17 rfl 1 dX4_yearsOfSpring_16 rfl rfl ?_
    refine j_iload_n C 18 rfl 2 dX4_yearsOfSpring_17 rfl rfl ?_
    refine j_iload C 20 rfl 6 dX4_yearsOfSpring_18 rfl ?_
    refine j_imul C 21 rfl dX4_yearsOfSpring_20 ?_
    refine j_iadd C 22 rfl dX4_yearsOfSpring_21 ?_
    refine j_bipush C 24 rfl dX4_yearsOfSpring_22 (v := (24 : Int32)) (by decide) ?_
    refine j_irem C 25 rfl dX4_yearsOfSpring_24 (by decide) ?_
    refine j_top (fun n1 en1 => ?_)
    have hw := hw n1 en1
    refine j_ri C 28 rfl (jc_V C (c_X2_ownerOf l g a_hill a_hill_sorts a_hill_owners a_hill_worths a_hill_gave v_hill_generation v_hill_toll f_hill_owners n1 _ hw) 1 gX4_yearsOfSpring_X2_ownerOf rfl rfl rfl hd_X2_ownerOf ⟨Nat.le_of_ble_eq_true rfl, Nat.le_of_ble_eq_true rfl⟩ (j_rec C 1 2 rfl rfl) [1, 2] rfl rfl (rest := []) rfl rfl (Nat.le_of_ble_eq_true rfl) dX4_yearsOfSpring_25 ⟨Nat.le_refl _, Nat.le_refl _⟩) [1, 2] rfl (fun _ => rfl) (fun r2 _ hw => ?_)
    try dsimp only at hw
    refine j_iload C 30 rfl 4 dX4_yearsOfSpring_28 rfl ?_
    refine j_icmp_ne C 33 rfl 36 dX4_yearsOfSpring_30 rfl (fun c => ?_) (fun c => ?_)
    · have hw := hw.1 c
      refine j_iinc C 39 rfl 6 [1, 2, 3, 4, 5, 6, 0] (v' := (1 : Int32)) (lv' := fun z => [(0, .ref a_this), (1, .int x1), (2, .int x2), (3, .int x3), (4, .int x4), (5, .int x5), (6, .int z)]) dX4_yearsOfSpring_36 rfl (by decide) (by decide) (fun _ => rfl) (fun n3 en3 => ?_)
      have hw := hw n3 en3
      refine j_goto C 6 dX4_yearsOfSpring_39 rfl ?_
      exact hL6 _ _ hw
    · have hw := hw.2 c
      refine j_iinc C 36 rfl 5 [1, 2, 3, 4, 5, 0, 6] (v' := (1 : Int32)) (lv' := fun z => [(0, .ref a_this), (1, .int x1), (2, .int x2), (3, .int x3), (4, .int x4), (5, .int z), (6, .int x6)]) dX4_yearsOfSpring_33 rfl (by decide) (by decide) (fun _ => rfl) (fun n4 en4 => ?_)
      have hw := hw n4 en4
      refine j_iinc C 39 rfl 6 [1, 2, 3, 4, 5, 6, 0] (v' := (1 : Int32)) (lv' := fun z => [(0, .ref a_this), (1, .int x1), (2, .int x2), (3, .int x3), (4, .int x4), (5, .int n4), (6, .int z)]) dX4_yearsOfSpring_36 rfl (by decide) (by decide) (fun _ => rfl) (fun n5 en5 => ?_)
      have hw := hw n5 en5
      refine j_goto C 6 dX4_yearsOfSpring_39 rfl ?_
      exact hL6 _ _ hw
theorem hi_X4_spring_X4 : ∀ w ∈ wsX40, w ∈ wsX4_spring := fun _ h => List.mem_cons_of_mem _ (List.mem_append_left _ (List.mem_append_right _ h))
set_option maxRecDepth 20000 in
set_option maxHeartbeats 4000000 in
theorem c_X4_spring (l : Launch) (g : gE) (a_this a_pad a_hill a_images a_fairCut a_bestCut a_leastFence a_hill_sorts a_hill_owners a_hill_worths a_hill_gave : Nat) (v_hill_generation : Int32) (v_hill_toll : Int32) (f_hill_owners : (Nat → Int32)) (x1 : Int32) (x2 : Int32) (x3 : Int32) (x4 : Int32)  (K : Int32 → Prop) (hw : wp_X4_spring v_hill_generation f_hill_owners x1 x2 x3 x4 K) : Ci l g yX4_spring wsX4_spring { frames := 3, cells := 0, slots := 0, locals := 69 } [.ref a_this, .int x1, .int x2, .int x3, .int x4] [(a_this, .inr (4, [.ref a_pad, .ref a_hill, .ref a_images, .ref a_fairCut, .ref a_bestCut, .ref a_leastFence])), (a_hill, .inr (2, [.ref a_hill_sorts, .ref a_hill_owners, .ref a_hill_worths, .ref a_hill_gave, .int v_hill_generation, .int v_hill_toll])), (a_hill_owners, gI g 504 f_hill_owners)] (fun (r : Int32) (_ : Unit) => K r) (fun (_ : Unit) => [(a_this, .inr (4, [.ref a_pad, .ref a_hill, .ref a_images, .ref a_fairCut, .ref a_bestCut, .ref a_leastFence])), (a_hill, .inr (2, [.ref a_hill_sorts, .ref a_hill_owners, .ref a_hill_worths, .ref a_hill_gave, .int v_hill_generation, .int v_hill_toll])), (a_hill_owners, gI g 504 f_hill_owners)]) 0 0 := by
  refine Ci_of (cc := cX4_spring) (nL := 5) (ret := (some .int)) (own := RX4) (lv0 := [(0, .ref a_this), (1, .int x1), (2, .int x2), (3, .int x3), (4, .int x4)]) (by decide +kernel) rfl rfl (Nat.le_of_ble_eq_true rfl) rfl (fun A x C R => ?_)
  have hj81 : wj_X4_spring_81 v_hill_generation f_hill_owners x1 x2 x3 x4 K → J l g A x 5 0 0 81 [(0, .ref a_this), (1, .int x1), (2, .int x2), (3, .int x3), (4, .int x4)] [] [(a_this, .inr (4, [.ref a_pad, .ref a_hill, .ref a_images, .ref a_fairCut, .ref a_bestCut, .ref a_leastFence])), (a_hill, .inr (2, [.ref a_hill_sorts, .ref a_hill_owners, .ref a_hill_worths, .ref a_hill_gave, .int v_hill_generation, .int v_hill_toll])), (a_hill_owners, gI g 504 f_hill_owners)] := by
    intro  hw
    refine j_iload C 83 rfl 4 dX4_spring_81 rfl ?_
    refine j_bipush C 85 rfl dX4_spring_83 (v := (20 : Int32)) (by decide) ?_
    refine j_icmp_lt C 88 rfl 108 dX4_spring_85 rfl (fun c => ?_) (fun c => ?_)
    · have hw := hw.1 c
      refine j_bipush C 110 rfl dX4_spring_108 (v := (-2 : Int32)) (by decide) ?_
      exact j_iret C R () rfl dX4_spring_110 rfl hw
    · have hw := hw.2 c
      refine j_iload C 90 rfl 4 dX4_spring_88 rfl ?_
      refine j_bipush C 92 rfl dX4_spring_90 (v := (26 : Int32)) (by decide) ?_
      refine j_icmp_ge C 95 rfl 108 dX4_spring_92 rfl (fun c => ?_) (fun c => ?_)
      · have hw := hw.1 c
        refine j_bipush C 110 rfl dX4_spring_108 (v := (-2 : Int32)) (by decide) ?_
        exact j_iret C R () rfl dX4_spring_110 rfl hw
      · have hw := hw.2 c
        refine j_aload_n C 96 rfl 0 dX4_spring_95 rfl rfl ?_
        refine j_iload_n C 97 rfl 1 dX4_spring_96 rfl rfl ?_
        refine j_iload_n C 98 rfl 2 dX4_spring_97 rfl rfl ?_
        refine j_iload_n C 99 rfl 3 dX4_spring_98 rfl rfl ?_
        refine j_iload C 101 rfl 4 dX4_spring_99 rfl ?_
        refine j_bipush C 103 rfl dX4_spring_101 (v := (20 : Int32)) (by decide) ?_
        refine j_isub C 104 rfl dX4_spring_103 ?_
        refine j_top (fun n1 en1 => ?_)
        have hw := hw n1 en1
        refine j_ri C 107 rfl (jc_V C (c_X4_firstYearOfSpring l g a_this a_pad a_hill a_images a_fairCut a_bestCut a_leastFence a_hill_sorts a_hill_owners a_hill_worths a_hill_gave v_hill_generation v_hill_toll f_hill_owners x1 x2 x3 n1 _ hw) 4 gX4_spring_X4_firstYearOfSpring rfl rfl rfl hd_X4_firstYearOfSpring ⟨Nat.le_of_ble_eq_true rfl, Nat.le_of_ble_eq_true rfl⟩ (j_rec C 0 4 rfl rfl) [0, 1, 2] rfl rfl (rest := []) rfl rfl (Nat.le_of_ble_eq_true rfl) dX4_spring_104 ⟨Nat.le_refl _, Nat.le_refl _⟩) [0, 1, 2] rfl (fun _ => rfl) (fun r2 _ hw => ?_)
        try dsimp only at hw
        exact j_iret C R () rfl dX4_spring_107 rfl hw
  refine j_iload_n C 1 rfl 1 dX4_spring_0 rfl rfl ?_
  refine j_ri C 4 rfl (jc_S C (c_X4_isSector l g x1 _ hw) 1 gX4_spring_X4_isSector rfl rfl rfl hd_X4_isSector ⟨Nat.le_of_ble_eq_true rfl, Nat.le_of_ble_eq_true rfl⟩ [] rfl rfl (rest := []) rfl rfl (Nat.le_of_ble_eq_true rfl) dX4_spring_1 ⟨Nat.le_refl _, Nat.le_refl _⟩) [] rfl (fun _ => rfl) (fun r3 _ hw => ?_)
  try dsimp only at hw
  refine j_if_ne C 7 rfl 9 dX4_spring_4 rfl (fun c => ?_) (fun c => ?_)
  · have hw := hw.1 c
    refine j_iload_n C 10 rfl 2 dX4_spring_9 rfl rfl ?_
    refine j_if_lt C 13 rfl 30 dX4_spring_10 rfl (fun c => ?_) (fun c => ?_)
    · have hw := hw.1 c
      refine j_bipush C 32 rfl dX4_spring_30 (v := (-2 : Int32)) (by decide) ?_
      exact j_iret C R () rfl dX4_spring_32 rfl hw
    · have hw := hw.2 c
      refine j_iload_n C 14 rfl 2 dX4_spring_13 rfl rfl ?_
      refine j_bipush C 16 rfl dX4_spring_14 (v := (24 : Int32)) (by decide) ?_
      refine j_icmp_ge C 19 rfl 30 dX4_spring_16 rfl (fun c => ?_) (fun c => ?_)
      · have hw := hw.1 c
        refine j_bipush C 32 rfl dX4_spring_30 (v := (-2 : Int32)) (by decide) ?_
        exact j_iret C R () rfl dX4_spring_32 rfl hw
      · have hw := hw.2 c
        refine j_iload_n C 20 rfl 3 dX4_spring_19 rfl rfl ?_
        refine j_if_lt C 23 rfl 30 dX4_spring_20 rfl (fun c => ?_) (fun c => ?_)
        · have hw := hw.1 c
          refine j_bipush C 32 rfl dX4_spring_30 (v := (-2 : Int32)) (by decide) ?_
          exact j_iret C R () rfl dX4_spring_32 rfl hw
        · have hw := hw.2 c
          refine j_iload_n C 24 rfl 3 dX4_spring_23 rfl rfl ?_
          refine j_sipush C 27 rfl dX4_spring_24 (v := (999 : Int32)) (by decide) ?_
          refine j_icmp_le C 30 rfl 33 dX4_spring_27 rfl (fun c => ?_) (fun c => ?_)
          · have hw := hw.1 c
            refine j_iload C 35 rfl 4 dX4_spring_33 rfl ?_
            refine j_if_ne C 38 rfl 54 dX4_spring_35 rfl (fun c => ?_) (fun c => ?_)
            · have hw := hw.1 c
              refine j_iload C 56 rfl 4 dX4_spring_54 rfl ?_
              refine j_bipush C 58 rfl dX4_spring_56 (v := (10 : Int32)) (by decide) ?_
              refine j_icmp_lt C 61 rfl 81 dX4_spring_58 rfl (fun c => ?_) (fun c => ?_)
              · have hw := hw.1 c
                exact hj81 hw
              · have hw := hw.2 c
                refine j_iload C 63 rfl 4 dX4_spring_61 rfl ?_
                refine j_bipush C 65 rfl dX4_spring_63 (v := (16 : Int32)) (by decide) ?_
                refine j_icmp_ge C 68 rfl 81 dX4_spring_65 rfl (fun c => ?_) (fun c => ?_)
                · have hw := hw.1 c
                  exact hj81 hw
                · have hw := hw.2 c
                  refine j_aload_n C 69 rfl 0 dX4_spring_68 rfl rfl ?_
                  refine j_iload_n C 70 rfl 1 dX4_spring_69 rfl rfl ?_
                  refine j_iload_n C 71 rfl 2 dX4_spring_70 rfl rfl ?_
                  refine j_iload_n C 72 rfl 3 dX4_spring_71 rfl rfl ?_
                  refine j_iload C 74 rfl 4 dX4_spring_72 rfl ?_
                  refine j_bipush C 76 rfl dX4_spring_74 (v := (10 : Int32)) (by decide) ?_
                  refine j_isub C 77 rfl dX4_spring_76 ?_
                  refine j_top (fun n4 en4 => ?_)
                  have hw := hw n4 en4
                  refine j_ri C 80 rfl (jc_V C (c_X4_yearsOfSpring l g a_this a_pad a_hill a_images a_fairCut a_bestCut a_leastFence a_hill_sorts a_hill_owners a_hill_worths a_hill_gave v_hill_generation v_hill_toll f_hill_owners x1 x2 x3 n4 _ hw) 4 gX4_spring_X4_yearsOfSpring rfl rfl rfl hd_X4_yearsOfSpring ⟨Nat.le_of_ble_eq_true rfl, Nat.le_of_ble_eq_true rfl⟩ (j_rec C 0 4 rfl rfl) [0, 1, 2] rfl rfl (rest := []) rfl rfl (Nat.le_of_ble_eq_true rfl) dX4_spring_77 ⟨Nat.le_refl _, Nat.le_refl _⟩) [0, 1, 2] rfl (fun _ => rfl) (fun r5 _ hw => ?_)
                  try dsimp only at hw
                  exact j_iret C R () rfl dX4_spring_80 rfl hw
            · have hw := hw.2 c
              refine j_aload_n C 39 rfl 0 dX4_spring_38 rfl rfl ?_
              refine j_get C 42 rfl 0 4 1 (T := TX4) (N := 6) hi_X4_spring_X4 rfl (by decide) (List.mem_of_getElem? (i := 1) rfl) rfl rfl rfl dX4_spring_39 ?_
              refine j_iload_n C 43 rfl 1 dX4_spring_42 rfl rfl ?_
              refine j_iload_n C 44 rfl 2 dX4_spring_43 rfl rfl ?_
              refine j_iload_n C 45 rfl 3 dX4_spring_44 rfl rfl ?_
              refine j_imul C 46 rfl dX4_spring_45 ?_
              refine j_iadd C 47 rfl dX4_spring_46 ?_
              refine j_bipush C 49 rfl dX4_spring_47 (v := (24 : Int32)) (by decide) ?_
              refine j_irem C 50 rfl dX4_spring_49 (by decide) ?_
              refine j_top (fun n6 en6 => ?_)
              have hw := hw n6 en6
              refine j_ri C 53 rfl (jc_V C (c_X2_ownerOf l g a_hill a_hill_sorts a_hill_owners a_hill_worths a_hill_gave v_hill_generation v_hill_toll f_hill_owners n6 _ hw) 1 gX4_spring_X2_ownerOf rfl rfl rfl hd_X2_ownerOf ⟨Nat.le_of_ble_eq_true rfl, Nat.le_of_ble_eq_true rfl⟩ (j_rec C 1 2 rfl rfl) [1, 2] rfl rfl (rest := []) rfl rfl (Nat.le_of_ble_eq_true rfl) dX4_spring_50 ⟨Nat.le_refl _, Nat.le_refl _⟩) [1, 2] rfl (fun _ => rfl) (fun r7 _ hw => ?_)
              try dsimp only at hw
              exact j_iret C R () rfl dX4_spring_53 rfl hw
          · have hw := hw.2 c
            refine j_bipush C 32 rfl dX4_spring_30 (v := (-2 : Int32)) (by decide) ?_
            exact j_iret C R () rfl dX4_spring_32 rfl hw
  · have hw := hw.2 c
    refine j_iconst C 8 rfl dX4_spring_7 (v := (-1 : Int32)) (by decide) ?_
    exact j_iret C R () rfl dX4_spring_8 rfl hw
set_option maxRecDepth 20000 in
set_option maxHeartbeats 4000000 in
theorem c_X4_asOne (l : Launch) (g : gE)  (x0 : Int32) (x1 : Int32) (x2 : Int32)  (K : Int32 → Prop) (hw : wp_X4_asOne x0 x1 x2 K) : Ci l g yX4_asOne wsX4_asOne { frames := 0, cells := 0, slots := 0, locals := 0 } [.int x0, .int x1, .int x2] [] (fun (r : Int32) (_ : Unit) => K r) (fun (_ : Unit) => []) 0 0 := by
  refine Ci_of (cc := cX4_asOne) (nL := 3) (ret := (some .int)) (own := RX4) (lv0 := [(0, .int x0), (1, .int x1), (2, .int x2)]) (by decide +kernel) rfl rfl (Nat.le_of_ble_eq_true rfl) rfl (fun A x C R => ?_)
  refine j_iload_n C 1 rfl 0 dX4_asOne_0 rfl rfl ?_
  refine j_iload_n C 2 rfl 2 dX4_asOne_1 rfl rfl ?_
  refine j_icmp_ne C 5 rfl 9 dX4_asOne_2 rfl (fun c => ?_) (fun c => ?_)
  · have hw := hw.1 c
    refine j_iload_n C 10 rfl 0 dX4_asOne_9 rfl rfl ?_
    exact j_iret C R () rfl dX4_asOne_10 rfl hw
  · have hw := hw.2 c
    refine j_iload_n C 6 rfl 1 dX4_asOne_5 rfl rfl ?_
    refine j_goto C 10 dX4_asOne_6 rfl ?_
    exact j_iret C R () rfl dX4_asOne_10 rfl hw
theorem hi_X4_boundsAsOne_X4 : ∀ w ∈ wsX40, w ∈ wsX4_boundsAsOne := fun _ h => List.mem_cons_of_mem _ (List.mem_append_left _ (List.mem_append_right _ h))
set_option maxRecDepth 20000 in
set_option maxHeartbeats 4000000 in
theorem c_X4_boundsAsOne (l : Launch) (g : gE) (a_this a_pad a_hill a_images a_fairCut a_bestCut a_leastFence a_hill_sorts a_hill_owners a_hill_worths a_hill_gave : Nat) (v_hill_generation : Int32) (v_hill_toll : Int32) (f_hill_owners : (Nat → Int32)) (x1 : Int32) (x2 : Int32)  (K : Int32 → Prop) (hw : wp_X4_boundsAsOne v_hill_generation f_hill_owners x1 x2 K) : Ci l g yX4_boundsAsOne wsX4_boundsAsOne { frames := 2, cells := 0, slots := 0, locals := 43 } [.ref a_this, .int x1, .int x2] [(a_this, .inr (4, [.ref a_pad, .ref a_hill, .ref a_images, .ref a_fairCut, .ref a_bestCut, .ref a_leastFence])), (a_hill, .inr (2, [.ref a_hill_sorts, .ref a_hill_owners, .ref a_hill_worths, .ref a_hill_gave, .int v_hill_generation, .int v_hill_toll])), (a_hill_owners, gI g 504 f_hill_owners)] (fun (r : Int32) (_ : Unit) => K r) (fun (_ : Unit) => [(a_this, .inr (4, [.ref a_pad, .ref a_hill, .ref a_images, .ref a_fairCut, .ref a_bestCut, .ref a_leastFence])), (a_hill, .inr (2, [.ref a_hill_sorts, .ref a_hill_owners, .ref a_hill_worths, .ref a_hill_gave, .int v_hill_generation, .int v_hill_toll])), (a_hill_owners, gI g 504 f_hill_owners)]) 0 0 := by
  refine Ci_of (cc := cX4_boundsAsOne) (nL := 7) (ret := (some .int)) (own := RX4) (lv0 := [(0, .ref a_this), (1, .int x1), (2, .int x2)]) (by decide +kernel) rfl rfl (Nat.le_of_ble_eq_true rfl) rfl (fun A x C R => ?_)
  refine j_iconst C 1 rfl dX4_boundsAsOne_0 (v := (0 : Int32)) (by decide) ?_
  refine j_istore_n C 2 rfl [1, 2, 3, 0] (lv' := [(0, .ref a_this), (1, .int x1), (2, .int x2), (3, .int (0 : Int32))]) dX4_boundsAsOne_1 rfl (by decide) rfl ?_
  refine j_aload_n C 3 rfl 0 dX4_boundsAsOne_2 rfl rfl ?_
  refine j_get C 6 rfl 0 4 1 (T := TX4) (N := 6) hi_X4_boundsAsOne_X4 rfl (by decide) (List.mem_of_getElem? (i := 1) rfl) rfl rfl rfl dX4_boundsAsOne_3 ?_
  refine j_bipush C 8 rfl dX4_boundsAsOne_6 (v := (23 : Int32)) (by decide) ?_
  refine j_ri C 11 rfl (jc_V C (c_X2_ownerOf l g a_hill a_hill_sorts a_hill_owners a_hill_worths a_hill_gave v_hill_generation v_hill_toll f_hill_owners (23 : Int32) _ hw) 1 gX4_boundsAsOne_X2_ownerOf rfl rfl rfl hd_X2_ownerOf ⟨Nat.le_of_ble_eq_true rfl, Nat.le_of_ble_eq_true rfl⟩ (j_rec C 1 2 rfl rfl) [1, 2] rfl rfl (rest := []) rfl rfl (Nat.le_of_ble_eq_true rfl) dX4_boundsAsOne_8 ⟨Nat.le_refl _, Nat.le_refl _⟩) [1, 2] rfl (fun _ => rfl) (fun r1 _ hw => ?_)
  try dsimp only at hw
  refine j_iload_n C 12 rfl 1 dX4_boundsAsOne_11 rfl rfl ?_
  refine j_iload_n C 13 rfl 2 dX4_boundsAsOne_12 rfl rfl ?_
  refine j_ri C 16 rfl (jc_S C (c_X4_asOne l g r1 x1 x2 _ hw) 3 gX4_boundsAsOne_X4_asOne rfl rfl rfl hd_X4_asOne ⟨Nat.le_of_ble_eq_true rfl, Nat.le_of_ble_eq_true rfl⟩ [] rfl rfl (rest := []) rfl rfl (Nat.le_of_ble_eq_true rfl) dX4_boundsAsOne_13 ⟨Nat.le_refl _, Nat.le_refl _⟩) [] rfl (fun _ => rfl) (fun r2 _ hw => ?_)
  try dsimp only at hw
  refine j_istore C 18 rfl [1, 2, 3, 4, 0] (lv' := [(0, .ref a_this), (1, .int x1), (2, .int x2), (3, .int (0 : Int32)), (4, .int r2)]) dX4_boundsAsOne_16 (by decide) rfl ?_
  refine j_iconst C 19 rfl dX4_boundsAsOne_18 (v := (0 : Int32)) (by decide) ?_
  refine j_istore C 21 rfl [1, 2, 3, 4, 5, 0] (lv' := [(0, .ref a_this), (1, .int x1), (2, .int x2), (3, .int (0 : Int32)), (4, .int r2), (5, .int (0 : Int32))]) dX4_boundsAsOne_19 (by decide) rfl ?_
  refine lpW3_ind (G := fun x3 x4 x5 => J l g A x 7 0 0 21 [(0, .ref a_this), (1, .int x1), (2, .int x2), (3, .int x3), (4, .int x4), (5, .int x5)] [] [(a_this, .inr (4, [.ref a_pad, .ref a_hill, .ref a_images, .ref a_fairCut, .ref a_bestCut, .ref a_leastFence])), (a_hill, .inr (2, [.ref a_hill_sorts, .ref a_hill_owners, .ref a_hill_worths, .ref a_hill_gave, .int v_hill_generation, .int v_hill_toll])), (a_hill_owners, gI g 504 f_hill_owners)]) (fun L21 x3 x4 x5 hL21 hw => ?_) _ _ _ hw
  refine j_iload C 23 rfl 5 dX4_boundsAsOne_21 rfl ?_
  refine j_bipush C 25 rfl dX4_boundsAsOne_23 (v := (24 : Int32)) (by decide) ?_
  refine j_icmp_ge C 28 rfl 64 dX4_boundsAsOne_25 rfl (fun c => ?_) (fun c => ?_)
  · have hw := hw.1 c
    refine j_iload_n C 65 rfl 3 dX4_boundsAsOne_64 rfl rfl ?_
    exact j_iret C R () rfl dX4_boundsAsOne_65 rfl hw
  · have hw := hw.2 c
    refine j_aload_n C 29 rfl 0 dX4_boundsAsOne_28 rfl rfl ?_
    refine j_get C 32 rfl 0 4 1 (T := TX4) (N := 6) hi_X4_boundsAsOne_X4 rfl (by decide) (List.mem_of_getElem? (i := 1) rfl) rfl rfl rfl dX4_boundsAsOne_29 ?_
    refine j_iload C 34 rfl 5 dX4_boundsAsOne_32 rfl ?_
    refine j_ri C 37 rfl (jc_V C (c_X2_ownerOf l g a_hill a_hill_sorts a_hill_owners a_hill_worths a_hill_gave v_hill_generation v_hill_toll f_hill_owners x5 _ hw) 1 gX4_boundsAsOne_X2_ownerOf rfl rfl rfl hd_X2_ownerOf ⟨Nat.le_of_ble_eq_true rfl, Nat.le_of_ble_eq_true rfl⟩ (j_rec C 1 2 rfl rfl) [1, 2] rfl rfl (rest := []) rfl rfl (Nat.le_of_ble_eq_true rfl) dX4_boundsAsOne_34 ⟨Nat.le_refl _, Nat.le_refl _⟩) [1, 2] rfl (fun _ => rfl) (fun r3 _ hw => ?_)
    try dsimp only at hw
    refine j_iload_n C 38 rfl 1 dX4_boundsAsOne_37 rfl rfl ?_
    refine j_iload_n C 39 rfl 2 dX4_boundsAsOne_38 rfl rfl ?_
    refine j_ri C 42 rfl (jc_S C (c_X4_asOne l g r3 x1 x2 _ hw) 3 gX4_boundsAsOne_X4_asOne rfl rfl rfl hd_X4_asOne ⟨Nat.le_of_ble_eq_true rfl, Nat.le_of_ble_eq_true rfl⟩ [] rfl rfl (rest := []) rfl rfl (Nat.le_of_ble_eq_true rfl) dX4_boundsAsOne_39 ⟨Nat.le_refl _, Nat.le_refl _⟩) [] rfl (fun _ => rfl) (fun r4 _ hw => ?_)
    try dsimp only at hw
    refine j_istore C 44 rfl [1, 2, 3, 4, 5, 6, 0] (lv' := [(0, .ref a_this), (1, .int x1), (2, .int x2), (3, .int x3), (4, .int x4), (5, .int x5), (6, .int r4)]) dX4_boundsAsOne_42 (by decide) rfl ?_
    refine j_iload C 46 rfl 6 dX4_boundsAsOne_44 rfl ?_
    refine j_iload C 48 rfl 4 dX4_boundsAsOne_46 rfl ?_
    refine j_icmp_eq C 51 rfl 54 dX4_boundsAsOne_48 rfl (fun c => ?_) (fun c => ?_)
    · have hw := hw.1 c
      refine j_iload C 56 rfl 6 dX4_boundsAsOne_54 rfl ?_
      refine j_istore C 58 rfl [1, 2, 3, 4, 0, 5, 6] (lv' := [(0, .ref a_this), (1, .int x1), (2, .int x2), (3, .int x3), (4, .int r4), (5, .int x5), (6, .int r4)]) dX4_boundsAsOne_56 (by decide) rfl ?_
      refine j_iinc C 61 rfl 5 [1, 2, 3, 4, 5, 0, 6] (v' := (1 : Int32)) (lv' := fun z => [(0, .ref a_this), (1, .int x1), (2, .int x2), (3, .int x3), (4, .int r4), (5, .int z), (6, .int r4)]) dX4_boundsAsOne_58 rfl (by decide) (by decide) (fun _ => rfl) (fun n5 en5 => ?_)
      have hw := hw n5 en5
      refine j_goto C 21 dX4_boundsAsOne_61 rfl ?_
      refine j_lv [0, 1, 2, 3, 4, 5] (lv' := [(0, .ref a_this), (1, .int x1), (2, .int x2), (3, .int x3), (4, .int r4), (5, .int n5)]) rfl ?_
      exact hL21 _ _ _ hw
    · have hw := hw.2 c
      refine j_iinc C 54 rfl 3 [1, 2, 3, 0, 4, 5, 6] (v' := (1 : Int32)) (lv' := fun z => [(0, .ref a_this), (1, .int x1), (2, .int x2), (3, .int z), (4, .int x4), (5, .int x5), (6, .int r4)]) dX4_boundsAsOne_51 rfl (by decide) (by decide) (fun _ => rfl) (fun n6 en6 => ?_)
      have hw := hw n6 en6
      refine j_iload C 56 rfl 6 dX4_boundsAsOne_54 rfl ?_
      refine j_istore C 58 rfl [1, 2, 3, 4, 0, 5, 6] (lv' := [(0, .ref a_this), (1, .int x1), (2, .int x2), (3, .int n6), (4, .int r4), (5, .int x5), (6, .int r4)]) dX4_boundsAsOne_56 (by decide) rfl ?_
      refine j_iinc C 61 rfl 5 [1, 2, 3, 4, 5, 0, 6] (v' := (1 : Int32)) (lv' := fun z => [(0, .ref a_this), (1, .int x1), (2, .int x2), (3, .int n6), (4, .int r4), (5, .int z), (6, .int r4)]) dX4_boundsAsOne_58 rfl (by decide) (by decide) (fun _ => rfl) (fun n7 en7 => ?_)
      have hw := hw n7 en7
      refine j_goto C 21 dX4_boundsAsOne_61 rfl ?_
      refine j_lv [0, 1, 2, 3, 4, 5] (lv' := [(0, .ref a_this), (1, .int x1), (2, .int x2), (3, .int n6), (4, .int r4), (5, .int n7)]) rfl ?_
      exact hL21 _ _ _ hw
theorem hi_X4_bestWedding_X4 : ∀ w ∈ wsX40, w ∈ wsX4_bestWedding := fun _ h => List.mem_cons_of_mem _ (List.mem_append_left _ (List.mem_append_right _ h))
set_option maxRecDepth 20000 in
set_option maxHeartbeats 4000000 in
theorem c_X4_bestWedding (l : Launch) (g : gE) (a_this a_pad a_hill a_images a_fairCut a_bestCut a_leastFence a_hill_sorts a_hill_owners a_hill_worths a_hill_gave : Nat) (v_hill_generation : Int32) (v_hill_toll : Int32) (f_hill_owners : (Nat → Int32))   (K : Int32 → Prop) (hw : wp_X4_bestWedding v_hill_generation f_hill_owners K) : Ci l g yX4_bestWedding wsX4_bestWedding { frames := 3, cells := 0, slots := 0, locals := 69 } [.ref a_this] [(a_this, .inr (4, [.ref a_pad, .ref a_hill, .ref a_images, .ref a_fairCut, .ref a_bestCut, .ref a_leastFence])), (a_hill, .inr (2, [.ref a_hill_sorts, .ref a_hill_owners, .ref a_hill_worths, .ref a_hill_gave, .int v_hill_generation, .int v_hill_toll])), (a_hill_owners, gI g 504 f_hill_owners)] (fun (r : Int32) (_ : Unit) => K r) (fun (_ : Unit) => [(a_this, .inr (4, [.ref a_pad, .ref a_hill, .ref a_images, .ref a_fairCut, .ref a_bestCut, .ref a_leastFence])), (a_hill, .inr (2, [.ref a_hill_sorts, .ref a_hill_owners, .ref a_hill_worths, .ref a_hill_gave, .int v_hill_generation, .int v_hill_toll])), (a_hill_owners, gI g 504 f_hill_owners)]) 0 0 := by
  refine Ci_of (cc := cX4_bestWedding) (nL := 6) (ret := (some .int)) (own := RX4) (lv0 := [(0, .ref a_this)]) (by decide +kernel) rfl rfl (Nat.le_of_ble_eq_true rfl) rfl (fun A x C R => ?_)
  refine j_bipush C 2 rfl dX4_bestWedding_0 (v := (25 : Int32)) (by decide) ?_
  refine j_istore_n C 3 rfl [1, 0] (lv' := [(0, .ref a_this), (1, .int (25 : Int32))]) dX4_bestWedding_2 rfl (by decide) rfl ?_
  refine j_bipush C 5 rfl dX4_bestWedding_3 (v := (-6 : Int32)) (by decide) ?_
  refine j_istore_n C 6 rfl [1, 2, 0] (lv' := [(0, .ref a_this), (1, .int (25 : Int32)), (2, .int (-6 : Int32))]) dX4_bestWedding_5 rfl (by decide) rfl ?_
  refine j_iconst C 7 rfl dX4_bestWedding_6 (v := (0 : Int32)) (by decide) ?_
  refine j_istore_n C 8 rfl [1, 2, 3, 0] (lv' := [(0, .ref a_this), (1, .int (25 : Int32)), (2, .int (-6 : Int32)), (3, .int (0 : Int32))]) dX4_bestWedding_7 rfl (by decide) rfl ?_
  refine lpW3_ind (G := fun x1 x2 x3 => J l g A x 6 0 0 8 [(0, .ref a_this), (1, .int x1), (2, .int x2), (3, .int x3)] [] [(a_this, .inr (4, [.ref a_pad, .ref a_hill, .ref a_images, .ref a_fairCut, .ref a_bestCut, .ref a_leastFence])), (a_hill, .inr (2, [.ref a_hill_sorts, .ref a_hill_owners, .ref a_hill_worths, .ref a_hill_gave, .int v_hill_generation, .int v_hill_toll])), (a_hill_owners, gI g 504 f_hill_owners)]) (fun L8 x1 x2 x3 hL8 hw => ?_) _ _ _ hw
  refine j_iload_n C 9 rfl 3 dX4_bestWedding_8 rfl rfl ?_
  refine j_bipush C 11 rfl dX4_bestWedding_9 (v := (6 : Int32)) (by decide) ?_
  refine j_icmp_ge C 14 rfl 87 dX4_bestWedding_11 rfl (fun c => ?_) (fun c => ?_)
  · have hw := hw.1 c
    refine j_iload_n C 88 rfl 2 dX4_bestWedding_87 rfl rfl ?_
    exact j_iret C R () rfl dX4_bestWedding_88 rfl hw
  · have hw := hw.2 c
    refine j_iload_n C 15 rfl 3 dX4_bestWedding_14 rfl rfl ?_
    refine j_iconst C 16 rfl dX4_bestWedding_15 (v := (1 : Int32)) (by decide) ?_
    refine j_iadd C 17 rfl dX4_bestWedding_16 ?_
    refine j_top (fun n1 en1 => ?_)
    have hw := hw n1 en1
    refine j_istore C 19 rfl [1, 2, 3, 4, 0] (lv' := [(0, .ref a_this), (1, .int x1), (2, .int x2), (3, .int x3), (4, .int n1)]) dX4_bestWedding_17 (by decide) rfl ?_
    refine lpW3_ind (G := fun x1 x2 x4 => J l g A x 6 0 0 19 [(0, .ref a_this), (1, .int x1), (2, .int x2), (3, .int x3), (4, .int x4)] [] [(a_this, .inr (4, [.ref a_pad, .ref a_hill, .ref a_images, .ref a_fairCut, .ref a_bestCut, .ref a_leastFence])), (a_hill, .inr (2, [.ref a_hill_sorts, .ref a_hill_owners, .ref a_hill_worths, .ref a_hill_gave, .int v_hill_generation, .int v_hill_toll])), (a_hill_owners, gI g 504 f_hill_owners)]) (fun L19 x1 x2 x4 hL19 hw => ?_) _ _ _ hw
    refine j_iload C 21 rfl 4 dX4_bestWedding_19 rfl ?_
    refine j_bipush C 23 rfl dX4_bestWedding_21 (v := (6 : Int32)) (by decide) ?_
    refine j_icmp_ge C 26 rfl 81 dX4_bestWedding_23 rfl (fun c => ?_) (fun c => ?_)
    · have hw := hw.1 c
      refine j_iinc C 84 rfl 3 [1, 2, 3, 0, 4] (v' := (1 : Int32)) (lv' := fun z => [(0, .ref a_this), (1, .int x1), (2, .int x2), (3, .int z), (4, .int x4)]) dX4_bestWedding_81 rfl (by decide) (by decide) (fun _ => rfl) (fun n2 en2 => ?_)
      have hw := hw n2 en2
      refine j_goto C 8 dX4_bestWedding_84 rfl ?_
      refine j_lv [0, 1, 2, 3] (lv' := [(0, .ref a_this), (1, .int x1), (2, .int x2), (3, .int n2)]) rfl ?_
      exact hL8 _ _ _ hw
    · have hw := hw.2 c
      refine j_aload_n C 27 rfl 0 dX4_bestWedding_26 rfl rfl ?_
      refine j_get C 30 rfl 0 4 1 (T := TX4) (N := 6) hi_X4_bestWedding_X4 rfl (by decide) (List.mem_of_getElem? (i := 1) rfl) rfl rfl rfl dX4_bestWedding_27 ?_
      refine j_iload_n C 31 rfl 3 dX4_bestWedding_30 rfl rfl ?_
      refine j_ri C 34 rfl (jc_V C (c_X2_sectorsOf l g a_hill a_hill_sorts a_hill_owners a_hill_worths a_hill_gave v_hill_generation v_hill_toll f_hill_owners x3 _ hw) 1 gX4_bestWedding_X2_sectorsOf rfl rfl rfl hd_X2_sectorsOf ⟨Nat.le_of_ble_eq_true rfl, Nat.le_of_ble_eq_true rfl⟩ (j_rec C 1 2 rfl rfl) [1, 2] rfl rfl (rest := []) rfl rfl (Nat.le_of_ble_eq_true rfl) dX4_bestWedding_31 ⟨Nat.le_refl _, Nat.le_refl _⟩) [1, 2] rfl (fun _ => rfl) (fun r3 _ hw => ?_)
      try dsimp only at hw
      refine j_if_eq C 37 rfl 75 dX4_bestWedding_34 rfl (fun c => ?_) (fun c => ?_)
      · have hw := hw.1 c
        refine j_iinc C 78 rfl 4 [1, 2, 3, 4, 0] (v' := (1 : Int32)) (lv' := fun z => [(0, .ref a_this), (1, .int x1), (2, .int x2), (3, .int x3), (4, .int z)]) dX4_bestWedding_75 rfl (by decide) (by decide) (fun _ => rfl) (fun n4 en4 => ?_)
        have hw := hw n4 en4
        refine j_goto C 19 dX4_bestWedding_78 rfl ?_
        exact hL19 _ _ _ hw
      · have hw := hw.2 c
        refine j_aload_n C 38 rfl 0 dX4_bestWedding_37 rfl rfl ?_
        refine j_get C 41 rfl 0 4 1 (T := TX4) (N := 6) hi_X4_bestWedding_X4 rfl (by decide) (List.mem_of_getElem? (i := 1) rfl) rfl rfl rfl dX4_bestWedding_38 ?_
        refine j_iload C 43 rfl 4 dX4_bestWedding_41 rfl ?_
        refine j_ri C 46 rfl (jc_V C (c_X2_sectorsOf l g a_hill a_hill_sorts a_hill_owners a_hill_worths a_hill_gave v_hill_generation v_hill_toll f_hill_owners x4 _ hw) 1 gX4_bestWedding_X2_sectorsOf rfl rfl rfl hd_X2_sectorsOf ⟨Nat.le_of_ble_eq_true rfl, Nat.le_of_ble_eq_true rfl⟩ (j_rec C 1 2 rfl rfl) [1, 2] rfl rfl (rest := []) rfl rfl (Nat.le_of_ble_eq_true rfl) dX4_bestWedding_43 ⟨Nat.le_refl _, Nat.le_refl _⟩) [1, 2] rfl (fun _ => rfl) (fun r5 _ hw => ?_)
        try dsimp only at hw
        refine j_if_eq C 49 rfl 75 dX4_bestWedding_46 rfl (fun c => ?_) (fun c => ?_)
        · have hw := hw.1 c
          refine j_iinc C 78 rfl 4 [1, 2, 3, 4, 0] (v' := (1 : Int32)) (lv' := fun z => [(0, .ref a_this), (1, .int x1), (2, .int x2), (3, .int x3), (4, .int z)]) dX4_bestWedding_75 rfl (by decide) (by decide) (fun _ => rfl) (fun n6 en6 => ?_)
          have hw := hw n6 en6
          refine j_goto C 19 dX4_bestWedding_78 rfl ?_
          exact hL19 _ _ _ hw
        · have hw := hw.2 c
          refine j_aload_n C 50 rfl 0 dX4_bestWedding_49 rfl rfl ?_
          refine j_iload_n C 51 rfl 3 dX4_bestWedding_50 rfl rfl ?_
          refine j_iload C 53 rfl 4 dX4_bestWedding_51 rfl ?_
          refine j_ri C 56 rfl (jc_V C (c_X4_boundsAsOne l g a_this a_pad a_hill a_images a_fairCut a_bestCut a_leastFence a_hill_sorts a_hill_owners a_hill_worths a_hill_gave v_hill_generation v_hill_toll f_hill_owners x3 x4 _ hw) 2 gX4_bestWedding_X4_boundsAsOne rfl rfl rfl hd_X4_boundsAsOne ⟨Nat.le_of_ble_eq_true rfl, Nat.le_of_ble_eq_true rfl⟩ (j_rec C 0 4 rfl rfl) [0, 1, 2] rfl rfl (rest := []) rfl rfl (Nat.le_of_ble_eq_true rfl) dX4_bestWedding_53 ⟨Nat.le_refl _, Nat.le_refl _⟩) [0, 1, 2] rfl (fun _ => rfl) (fun r7 _ hw => ?_)
          try dsimp only at hw
          refine j_istore C 58 rfl [1, 2, 3, 4, 5, 0] (lv' := [(0, .ref a_this), (1, .int x1), (2, .int x2), (3, .int x3), (4, .int x4), (5, .int r7)]) dX4_bestWedding_56 (by decide) rfl ?_
          refine j_iload C 60 rfl 5 dX4_bestWedding_58 rfl ?_
          refine j_iload_n C 61 rfl 1 dX4_bestWedding_60 rfl rfl ?_
          refine j_icmp_ge C 64 rfl 75 dX4_bestWedding_61 rfl (fun c => ?_) (fun c => ?_)
          · have hw := hw.1 c
            refine j_iinc C 78 rfl 4 [1, 2, 3, 4, 0, 5] (v' := (1 : Int32)) (lv' := fun z => [(0, .ref a_this), (1, .int x1), (2, .int x2), (3, .int x3), (4, .int z), (5, .int r7)]) dX4_bestWedding_75 rfl (by decide) (by decide) (fun _ => rfl) (fun n8 en8 => ?_)
            have hw := hw n8 en8
            refine j_goto C 19 dX4_bestWedding_78 rfl ?_
            refine j_lv [0, 1, 2, 3, 4] (lv' := [(0, .ref a_this), (1, .int x1), (2, .int x2), (3, .int x3), (4, .int n8)]) rfl ?_
            exact hL19 _ _ _ hw
          · have hw := hw.2 c
            refine j_iload C 66 rfl 5 dX4_bestWedding_64 rfl ?_
            refine j_istore_n C 67 rfl [1, 0, 2, 3, 4, 5] (lv' := [(0, .ref a_this), (1, .int r7), (2, .int x2), (3, .int x3), (4, .int x4), (5, .int r7)]) dX4_bestWedding_66 rfl (by decide) rfl ?_
            refine j_bipush C 69 rfl dX4_bestWedding_67 (v := (10 : Int32)) (by decide) ?_
            refine j_iload_n C 70 rfl 3 dX4_bestWedding_69 rfl rfl ?_
            refine j_imul C 71 rfl dX4_bestWedding_70 ?_
            refine j_iload C 73 rfl 4 dX4_bestWedding_71 rfl ?_
            refine j_iadd C 74 rfl dX4_bestWedding_73 ?_
            refine j_top (fun n9 en9 => ?_)
            have hw := hw n9 en9
            refine j_istore_n C 75 rfl [1, 2, 0, 3, 4, 5] (lv' := [(0, .ref a_this), (1, .int r7), (2, .int n9), (3, .int x3), (4, .int x4), (5, .int r7)]) dX4_bestWedding_74 rfl (by decide) rfl ?_
            refine j_iinc C 78 rfl 4 [1, 2, 3, 4, 0, 5] (v' := (1 : Int32)) (lv' := fun z => [(0, .ref a_this), (1, .int r7), (2, .int n9), (3, .int x3), (4, .int z), (5, .int r7)]) dX4_bestWedding_75 rfl (by decide) (by decide) (fun _ => rfl) (fun n10 en10 => ?_)
            have hw := hw n10 en10
            refine j_goto C 19 dX4_bestWedding_78 rfl ?_
            refine j_lv [0, 1, 2, 3, 4] (lv' := [(0, .ref a_this), (1, .int r7), (2, .int n9), (3, .int x3), (4, .int n10)]) rfl ?_
            exact hL19 _ _ _ hw
theorem hi_X4_pieceBehind_X4 : ∀ w ∈ wsX40, w ∈ wsX4_pieceBehind := fun _ h => List.mem_cons_of_mem _ (List.mem_append_left _ (List.mem_append_right _ h))
set_option maxRecDepth 20000 in
set_option maxHeartbeats 4000000 in
theorem c_X4_pieceBehind (l : Launch) (g : gE) (a_this a_pad a_hill a_images a_fairCut a_bestCut a_leastFence a_hill_sorts a_hill_owners a_hill_worths a_hill_gave : Nat) (v_hill_generation : Int32) (v_hill_toll : Int32) (f_hill_owners : (Nat → Int32)) (x1 : Int32)  (K : Int32 → Prop) (hw : wp_X4_pieceBehind v_hill_generation f_hill_owners x1 K) : Ci l g yX4_pieceBehind wsX4_pieceBehind { frames := 2, cells := 0, slots := 0, locals := 43 } [.ref a_this, .int x1] [(a_this, .inr (4, [.ref a_pad, .ref a_hill, .ref a_images, .ref a_fairCut, .ref a_bestCut, .ref a_leastFence])), (a_hill, .inr (2, [.ref a_hill_sorts, .ref a_hill_owners, .ref a_hill_worths, .ref a_hill_gave, .int v_hill_generation, .int v_hill_toll])), (a_hill_owners, gI g 504 f_hill_owners)] (fun (r : Int32) (_ : Unit) => K r) (fun (_ : Unit) => [(a_this, .inr (4, [.ref a_pad, .ref a_hill, .ref a_images, .ref a_fairCut, .ref a_bestCut, .ref a_leastFence])), (a_hill, .inr (2, [.ref a_hill_sorts, .ref a_hill_owners, .ref a_hill_worths, .ref a_hill_gave, .int v_hill_generation, .int v_hill_toll])), (a_hill_owners, gI g 504 f_hill_owners)]) 0 0 := by
  refine Ci_of (cc := cX4_pieceBehind) (nL := 4) (ret := (some .int)) (own := RX4) (lv0 := [(0, .ref a_this), (1, .int x1)]) (by decide +kernel) rfl rfl (Nat.le_of_ble_eq_true rfl) rfl (fun A x C R => ?_)
  refine j_aload_n C 1 rfl 0 dX4_pieceBehind_0 rfl rfl ?_
  refine j_get C 4 rfl 0 4 1 (T := TX4) (N := 6) hi_X4_pieceBehind_X4 rfl (by decide) (List.mem_of_getElem? (i := 1) rfl) rfl rfl rfl dX4_pieceBehind_1 ?_
  refine j_iload_n C 5 rfl 1 dX4_pieceBehind_4 rfl rfl ?_
  refine j_iconst C 6 rfl dX4_pieceBehind_5 (v := (1 : Int32)) (by decide) ?_
  refine j_iadd C 7 rfl dX4_pieceBehind_6 ?_
  refine j_bipush C 9 rfl dX4_pieceBehind_7 (v := (24 : Int32)) (by decide) ?_
  refine j_irem C 10 rfl dX4_pieceBehind_9 (by decide) ?_
  refine j_top (fun n1 en1 => ?_)
  have hw := hw n1 en1
  refine j_ri C 13 rfl (jc_V C (c_X2_ownerOf l g a_hill a_hill_sorts a_hill_owners a_hill_worths a_hill_gave v_hill_generation v_hill_toll f_hill_owners n1 _ hw) 1 gX4_pieceBehind_X2_ownerOf rfl rfl rfl hd_X2_ownerOf ⟨Nat.le_of_ble_eq_true rfl, Nat.le_of_ble_eq_true rfl⟩ (j_rec C 1 2 rfl rfl) [1, 2] rfl rfl (rest := []) rfl rfl (Nat.le_of_ble_eq_true rfl) dX4_pieceBehind_10 ⟨Nat.le_refl _, Nat.le_refl _⟩) [1, 2] rfl (fun _ => rfl) (fun r2 _ hw => ?_)
  try dsimp only at hw
  refine j_istore_n C 14 rfl [1, 2, 0] (lv' := [(0, .ref a_this), (1, .int x1), (2, .int r2)]) dX4_pieceBehind_13 rfl (by decide) rfl ?_
  refine j_iconst C 15 rfl dX4_pieceBehind_14 (v := (1 : Int32)) (by decide) ?_
  refine j_istore_n C 16 rfl [1, 2, 3, 0] (lv' := [(0, .ref a_this), (1, .int x1), (2, .int r2), (3, .int (1 : Int32))]) dX4_pieceBehind_15 rfl (by decide) rfl ?_
  refine lpW1_ind (G := fun x3 => J l g A x 4 0 0 16 [(0, .ref a_this), (1, .int x1), (2, .int r2), (3, .int x3)] [] [(a_this, .inr (4, [.ref a_pad, .ref a_hill, .ref a_images, .ref a_fairCut, .ref a_bestCut, .ref a_leastFence])), (a_hill, .inr (2, [.ref a_hill_sorts, .ref a_hill_owners, .ref a_hill_worths, .ref a_hill_gave, .int v_hill_generation, .int v_hill_toll])), (a_hill_owners, gI g 504 f_hill_owners)]) (fun L16 x3 hL16 hw => ?_) _ hw
  refine j_iload_n C 17 rfl 3 dX4_pieceBehind_16 rfl rfl ?_
  refine j_bipush C 19 rfl dX4_pieceBehind_17 (v := (24 : Int32)) (by decide) ?_
  refine j_icmp_ge C 22 rfl 47 dX4_pieceBehind_19 rfl (fun c => ?_) (fun c => ?_)
  · have hw := hw.1 c
    refine j_iload_n C 48 rfl 3 dX4_pieceBehind_47 rfl rfl ?_
    exact j_iret C R () rfl dX4_pieceBehind_48 rfl hw
  · have hw := hw.2 c
    refine j_aload_n C 23 rfl 0 dX4_pieceBehind_22 rfl rfl ?_
    refine j_get C 26 rfl 0 4 1 (T := TX4) (N := 6) hi_X4_pieceBehind_X4 rfl (by decide) (List.mem_of_getElem? (i := 1) rfl) rfl rfl rfl dX4_pieceBehind_23 ?_
    refine j_iload_n C 27 rfl 1 dX4_pieceBehind_26 rfl rfl ?_
    refine j_iconst C 28 rfl dX4_pieceBehind_27 (v := (1 : Int32)) (by decide) ?_
    refine j_iadd C 29 rfl dX4_pieceBehind_28 ?_
    refine j_iload_n C 30 rfl 3 dX4_pieceBehind_29 rfl rfl ?_
    refine j_iadd C 31 rfl dX4_pieceBehind_30 ?_
    refine j_bipush C 33 rfl dX4_pieceBehind_31 (v := (24 : Int32)) (by decide) ?_
    refine j_irem C 34 rfl dX4_pieceBehind_33 (by decide) ?_
    refine j_top (fun n3 en3 => ?_)
    have hw := hw n3 en3
    refine j_ri C 37 rfl (jc_V C (c_X2_ownerOf l g a_hill a_hill_sorts a_hill_owners a_hill_worths a_hill_gave v_hill_generation v_hill_toll f_hill_owners n3 _ hw) 1 gX4_pieceBehind_X2_ownerOf rfl rfl rfl hd_X2_ownerOf ⟨Nat.le_of_ble_eq_true rfl, Nat.le_of_ble_eq_true rfl⟩ (j_rec C 1 2 rfl rfl) [1, 2] rfl rfl (rest := []) rfl rfl (Nat.le_of_ble_eq_true rfl) dX4_pieceBehind_34 ⟨Nat.le_refl _, Nat.le_refl _⟩) [1, 2] rfl (fun _ => rfl) (fun r4 _ hw => ?_)
    try dsimp only at hw
    refine j_iload_n C 38 rfl 2 dX4_pieceBehind_37 rfl rfl ?_
    refine j_icmp_ne C 41 rfl 47 dX4_pieceBehind_38 rfl (fun c => ?_) (fun c => ?_)
    · have hw := hw.1 c
      refine j_iload_n C 48 rfl 3 dX4_pieceBehind_47 rfl rfl ?_
      exact j_iret C R () rfl dX4_pieceBehind_48 rfl hw
    · have hw := hw.2 c
      refine j_iinc C 44 rfl 3 [1, 2, 3, 0] (v' := (1 : Int32)) (lv' := fun z => [(0, .ref a_this), (1, .int x1), (2, .int r2), (3, .int z)]) dX4_pieceBehind_41 rfl (by decide) (by decide) (fun _ => rfl) (fun n5 en5 => ?_)
      have hw := hw n5 en5
      refine j_goto C 16 dX4_pieceBehind_44 rfl ?_
      exact hL16 _ hw
theorem hi_X4_narrowestPiece_X4 : ∀ w ∈ wsX40, w ∈ wsX4_narrowestPiece := fun _ h => List.mem_cons_of_mem _ (List.mem_append_left _ (List.mem_append_right _ h))
set_option maxRecDepth 20000 in
set_option maxHeartbeats 4000000 in
theorem c_X4_narrowestPiece (l : Launch) (g : gE) (a_this a_pad a_hill a_images a_fairCut a_bestCut a_leastFence a_hill_sorts a_hill_owners a_hill_worths a_hill_gave : Nat) (v_hill_generation : Int32) (v_hill_toll : Int32) (f_hill_owners : (Nat → Int32))   (K : Int32 → Prop) (hw : wp_X4_narrowestPiece v_hill_generation f_hill_owners K) : Ci l g yX4_narrowestPiece wsX4_narrowestPiece { frames := 3, cells := 0, slots := 0, locals := 66 } [.ref a_this] [(a_this, .inr (4, [.ref a_pad, .ref a_hill, .ref a_images, .ref a_fairCut, .ref a_bestCut, .ref a_leastFence])), (a_hill, .inr (2, [.ref a_hill_sorts, .ref a_hill_owners, .ref a_hill_worths, .ref a_hill_gave, .int v_hill_generation, .int v_hill_toll])), (a_hill_owners, gI g 504 f_hill_owners)] (fun (r : Int32) (_ : Unit) => K r) (fun (_ : Unit) => [(a_this, .inr (4, [.ref a_pad, .ref a_hill, .ref a_images, .ref a_fairCut, .ref a_bestCut, .ref a_leastFence])), (a_hill, .inr (2, [.ref a_hill_sorts, .ref a_hill_owners, .ref a_hill_worths, .ref a_hill_gave, .int v_hill_generation, .int v_hill_toll])), (a_hill_owners, gI g 504 f_hill_owners)]) 0 0 := by
  refine Ci_of (cc := cX4_narrowestPiece) (nL := 3) (ret := (some .int)) (own := RX4) (lv0 := [(0, .ref a_this)]) (by decide +kernel) rfl rfl (Nat.le_of_ble_eq_true rfl) rfl (fun A x C R => ?_)
  refine j_bipush C 2 rfl dX4_narrowestPiece_0 (v := (24 : Int32)) (by decide) ?_
  refine j_istore_n C 3 rfl [1, 0] (lv' := [(0, .ref a_this), (1, .int (24 : Int32))]) dX4_narrowestPiece_2 rfl (by decide) rfl ?_
  refine j_iconst C 4 rfl dX4_narrowestPiece_3 (v := (0 : Int32)) (by decide) ?_
  refine j_istore_n C 5 rfl [1, 2, 0] (lv' := [(0, .ref a_this), (1, .int (24 : Int32)), (2, .int (0 : Int32))]) dX4_narrowestPiece_4 rfl (by decide) rfl ?_
  refine lpW2_ind (G := fun x1 x2 => J l g A x 3 0 0 5 [(0, .ref a_this), (1, .int x1), (2, .int x2)] [] [(a_this, .inr (4, [.ref a_pad, .ref a_hill, .ref a_images, .ref a_fairCut, .ref a_bestCut, .ref a_leastFence])), (a_hill, .inr (2, [.ref a_hill_sorts, .ref a_hill_owners, .ref a_hill_worths, .ref a_hill_gave, .int v_hill_generation, .int v_hill_toll])), (a_hill_owners, gI g 504 f_hill_owners)]) (fun L5 x1 x2 hL5 hw => ?_) _ _ hw
  refine j_iload_n C 6 rfl 2 dX4_narrowestPiece_5 rfl rfl ?_
  refine j_bipush C 8 rfl dX4_narrowestPiece_6 (v := (24 : Int32)) (by decide) ?_
  refine j_icmp_ge C 11 rfl 51 dX4_narrowestPiece_8 rfl (fun c => ?_) (fun c => ?_)
  · have hw := hw.1 c
    refine j_iload_n C 52 rfl 1 dX4_narrowestPiece_51 rfl rfl ?_
    exact j_iret C R () rfl dX4_narrowestPiece_52 rfl hw
  · have hw := hw.2 c
    refine j_aload_n C 12 rfl 0 dX4_narrowestPiece_11 rfl rfl ?_
    refine j_get C 15 rfl 0 4 1 (T := TX4) (N := 6) hi_X4_narrowestPiece_X4 rfl (by decide) (List.mem_of_getElem? (i := 1) rfl) rfl rfl rfl dX4_narrowestPiece_12 ?_
    refine j_iload_n C 16 rfl 2 dX4_narrowestPiece_15 rfl rfl ?_
    refine j_ri C 19 rfl (jc_V C (c_X2_ownerOf l g a_hill a_hill_sorts a_hill_owners a_hill_worths a_hill_gave v_hill_generation v_hill_toll f_hill_owners x2 _ hw) 1 gX4_narrowestPiece_X2_ownerOf rfl rfl rfl hd_X2_ownerOf ⟨Nat.le_of_ble_eq_true rfl, Nat.le_of_ble_eq_true rfl⟩ (j_rec C 1 2 rfl rfl) [1, 2] rfl rfl (rest := []) rfl rfl (Nat.le_of_ble_eq_true rfl) dX4_narrowestPiece_16 ⟨Nat.le_refl _, Nat.le_refl _⟩) [1, 2] rfl (fun _ => rfl) (fun r1 _ hw => ?_)
    try dsimp only at hw
    refine j_aload_n C 20 rfl 0 dX4_narrowestPiece_19 rfl rfl ?_
    refine j_get C 23 rfl 0 4 1 (T := TX4) (N := 6) hi_X4_narrowestPiece_X4 rfl (by decide) (List.mem_of_getElem? (i := 1) rfl) rfl rfl rfl dX4_narrowestPiece_20 ?_
    refine j_iload_n C 24 rfl 2 dX4_narrowestPiece_23 rfl rfl ?_
    refine j_iconst C 25 rfl dX4_narrowestPiece_24 (v := (1 : Int32)) (by decide) ?_
    refine j_iadd C 26 rfl dX4_narrowestPiece_25 ?_
    refine j_bipush C 28 rfl dX4_narrowestPiece_26 (v := (24 : Int32)) (by decide) ?_
    refine j_irem C 29 rfl dX4_narrowestPiece_28 (by decide) ?_
    refine j_top (fun n2 en2 => ?_)
    have hw := hw n2 en2
    refine j_ri C 32 rfl (jc_V C (c_X2_ownerOf l g a_hill a_hill_sorts a_hill_owners a_hill_worths a_hill_gave v_hill_generation v_hill_toll f_hill_owners n2 _ hw) 1 gX4_narrowestPiece_X2_ownerOf rfl rfl rfl hd_X2_ownerOf ⟨Nat.le_of_ble_eq_true rfl, Nat.le_of_ble_eq_true rfl⟩ (j_rec C 1 2 rfl rfl) [1, 2] rfl rfl (rest := [.int r1]) rfl rfl (Nat.le_of_ble_eq_true rfl) dX4_narrowestPiece_29 ⟨Nat.le_refl _, Nat.le_refl _⟩) [1, 2] rfl (fun _ => rfl) (fun r3 _ hw => ?_)
    try dsimp only at hw
    refine j_icmp_eq C 35 rfl 45 dX4_narrowestPiece_32 rfl (fun c => ?_) (fun c => ?_)
    · have hw := hw.1 c
      refine j_iinc C 48 rfl 2 [1, 2, 0] (v' := (1 : Int32)) (lv' := fun z => [(0, .ref a_this), (1, .int x1), (2, .int z)]) dX4_narrowestPiece_45 rfl (by decide) (by decide) (fun _ => rfl) (fun n4 en4 => ?_)
      have hw := hw n4 en4
      refine j_goto C 5 dX4_narrowestPiece_48 rfl ?_
      exact hL5 _ _ hw
    · have hw := hw.2 c
      refine j_iload_n C 36 rfl 1 dX4_narrowestPiece_35 rfl rfl ?_
      refine j_aload_n C 37 rfl 0 dX4_narrowestPiece_36 rfl rfl ?_
      refine j_iload_n C 38 rfl 2 dX4_narrowestPiece_37 rfl rfl ?_
      refine j_ri C 41 rfl (jc_V C (c_X4_pieceBehind l g a_this a_pad a_hill a_images a_fairCut a_bestCut a_leastFence a_hill_sorts a_hill_owners a_hill_worths a_hill_gave v_hill_generation v_hill_toll f_hill_owners x2 _ hw) 1 gX4_narrowestPiece_X4_pieceBehind rfl rfl rfl hd_X4_pieceBehind ⟨Nat.le_of_ble_eq_true rfl, Nat.le_of_ble_eq_true rfl⟩ (j_rec C 0 4 rfl rfl) [0, 1, 2] rfl rfl (rest := [.int x1]) rfl rfl (Nat.le_of_ble_eq_true rfl) dX4_narrowestPiece_38 ⟨Nat.le_refl _, Nat.le_refl _⟩) [0, 1, 2] rfl (fun _ => rfl) (fun r5 _ hw => ?_)
      try dsimp only at hw
      refine j_min C 44 rfl (List.mem_of_getElem? (i := 2) rfl) (List.mem_of_getElem? (i := 3) rfl) (List.mem_of_getElem? (i := 4) rfl) (List.mem_of_getElem? (i := 5) rfl) (by decide) (Nat.le_of_ble_eq_true rfl) (by decide) (by decide) dX4_narrowestPiece_41 ?_
      refine j_top (fun n6 en6 => ?_)
      have hw := hw n6 en6
      refine j_istore_n C 45 rfl [1, 0, 2] (lv' := [(0, .ref a_this), (1, .int n6), (2, .int x2)]) dX4_narrowestPiece_44 rfl (by decide) rfl ?_
      refine j_iinc C 48 rfl 2 [1, 2, 0] (v' := (1 : Int32)) (lv' := fun z => [(0, .ref a_this), (1, .int n6), (2, .int z)]) dX4_narrowestPiece_45 rfl (by decide) (by decide) (fun _ => rfl) (fun n7 en7 => ?_)
      have hw := hw n7 en7
      refine j_goto C 5 dX4_narrowestPiece_48 rfl ?_
      exact hL5 _ _ hw
set_option maxRecDepth 20000 in
set_option maxHeartbeats 4000000 in
theorem c_X4_bounds (l : Launch) (g : gE) (a_this a_pad a_hill a_images a_fairCut a_bestCut a_leastFence a_hill_sorts a_hill_owners a_hill_worths a_hill_gave : Nat) (v_hill_generation : Int32) (v_hill_toll : Int32) (f_hill_owners : (Nat → Int32)) (x1 : Int32)  (K : Int32 → Prop) (hw : wp_X4_bounds v_hill_generation f_hill_owners x1 K) : Ci l g yX4_bounds wsX4_bounds { frames := 4, cells := 0, slots := 0, locals := 94 } [.ref a_this, .int x1] [(a_this, .inr (4, [.ref a_pad, .ref a_hill, .ref a_images, .ref a_fairCut, .ref a_bestCut, .ref a_leastFence])), (a_hill, .inr (2, [.ref a_hill_sorts, .ref a_hill_owners, .ref a_hill_worths, .ref a_hill_gave, .int v_hill_generation, .int v_hill_toll])), (a_hill_owners, gI g 504 f_hill_owners)] (fun (r : Int32) (_ : Unit) => K r) (fun (_ : Unit) => [(a_this, .inr (4, [.ref a_pad, .ref a_hill, .ref a_images, .ref a_fairCut, .ref a_bestCut, .ref a_leastFence])), (a_hill, .inr (2, [.ref a_hill_sorts, .ref a_hill_owners, .ref a_hill_worths, .ref a_hill_gave, .int v_hill_generation, .int v_hill_toll])), (a_hill_owners, gI g 504 f_hill_owners)]) 0 0 := by
  refine Ci_of (cc := cX4_bounds) (nL := 2) (ret := (some .int)) (own := RX4) (lv0 := [(0, .ref a_this), (1, .int x1)]) (by decide +kernel) rfl rfl (Nat.le_of_ble_eq_true rfl) rfl (fun A x C R => ?_)
  refine j_iload_n C 1 rfl 1 dX4_bounds_0 rfl rfl ?_
  by_cases hsw : x1.toInt < 0 ∨ 2 < x1.toInt
  · have hw := hw.1 hsw
    refine j_tout C 45 dX4_bounds_1 hsw rfl ?_
    refine j_bipush C 47 rfl dX4_bounds_45 (v := (-2 : Int32)) (by decide) ?_
    exact j_iret C R () rfl dX4_bounds_47 rfl hw
  have hcs : x1.toInt = 0 ∨ x1.toInt = 1 ∨ x1.toInt = 2 := by omega
  rcases hcs with hcs | hcs | hcs
  · have hcs := tc_eq (0 : Int32) hcs (by decide)
    have hw := hw.2.1 hcs
    refine j_tin C (off := 27) 28 (0 : Int32) hcs dX4_bounds_1 (by decide) (by decide) (by decide) rfl ?_
    refine j_aload_n C 29 rfl 0 dX4_bounds_28 rfl rfl ?_
    refine j_iconst C 30 rfl dX4_bounds_29 (v := (0 : Int32)) (by decide) ?_
    refine j_iconst C 31 rfl dX4_bounds_30 (v := (0 : Int32)) (by decide) ?_
    refine j_ri C 34 rfl (jc_V C (c_X4_boundsAsOne l g a_this a_pad a_hill a_images a_fairCut a_bestCut a_leastFence a_hill_sorts a_hill_owners a_hill_worths a_hill_gave v_hill_generation v_hill_toll f_hill_owners (0 : Int32) (0 : Int32) _ hw) 2 gX4_bounds_X4_boundsAsOne rfl rfl rfl hd_X4_boundsAsOne ⟨Nat.le_of_ble_eq_true rfl, Nat.le_of_ble_eq_true rfl⟩ (j_rec C 0 4 rfl rfl) [0, 1, 2] rfl rfl (rest := []) rfl rfl (Nat.le_of_ble_eq_true rfl) dX4_bounds_31 ⟨Nat.le_refl _, Nat.le_refl _⟩) [0, 1, 2] rfl (fun _ => rfl) (fun r1 _ hw => ?_)
    try dsimp only at hw
    exact j_iret C R () rfl dX4_bounds_34 rfl hw
  · have hcs := tc_eq (1 : Int32) hcs (by decide)
    have hw := hw.2.2.1 hcs
    refine j_tin C (off := 34) 35 (1 : Int32) hcs dX4_bounds_1 (by decide) (by decide) (by decide) rfl ?_
    refine j_aload_n C 36 rfl 0 dX4_bounds_35 rfl rfl ?_
    refine j_ri C 39 rfl (jc_V C (c_X4_bestWedding l g a_this a_pad a_hill a_images a_fairCut a_bestCut a_leastFence a_hill_sorts a_hill_owners a_hill_worths a_hill_gave v_hill_generation v_hill_toll f_hill_owners _ hw) 0 gX4_bounds_X4_bestWedding rfl rfl rfl hd_X4_bestWedding ⟨Nat.le_of_ble_eq_true rfl, Nat.le_of_ble_eq_true rfl⟩ (j_rec C 0 4 rfl rfl) [0, 1, 2] rfl rfl (rest := []) rfl rfl (Nat.le_of_ble_eq_true rfl) dX4_bounds_36 ⟨Nat.le_refl _, Nat.le_refl _⟩) [0, 1, 2] rfl (fun _ => rfl) (fun r2 _ hw => ?_)
    try dsimp only at hw
    exact j_iret C R () rfl dX4_bounds_39 rfl hw
  · have hcs := tc_eq (2 : Int32) hcs (by decide)
    have hw := hw.2.2.2 hcs
    refine j_tin C (off := 39) 40 (2 : Int32) hcs dX4_bounds_1 (by decide) (by decide) (by decide) rfl ?_
    refine j_aload_n C 41 rfl 0 dX4_bounds_40 rfl rfl ?_
    refine j_ri C 44 rfl (jc_V C (c_X4_narrowestPiece l g a_this a_pad a_hill a_images a_fairCut a_bestCut a_leastFence a_hill_sorts a_hill_owners a_hill_worths a_hill_gave v_hill_generation v_hill_toll f_hill_owners _ hw) 0 gX4_bounds_X4_narrowestPiece rfl rfl rfl hd_X4_narrowestPiece ⟨Nat.le_of_ble_eq_true rfl, Nat.le_of_ble_eq_true rfl⟩ (j_rec C 0 4 rfl rfl) [0, 1, 2] rfl rfl (rest := []) rfl rfl (Nat.le_of_ble_eq_true rfl) dX4_bounds_41 ⟨Nat.le_refl _, Nat.le_refl _⟩) [0, 1, 2] rfl (fun _ => rfl) (fun r3 _ hw => ?_)
    try dsimp only at hw
    exact j_iret C R () rfl dX4_bounds_44 rfl hw
theorem hi_X4_told_X2 : ∀ w ∈ wsX20, w ∈ wsX4_told := fun _ h => List.mem_cons_of_mem _ (List.mem_append_right _ h)
theorem hi_X4_told_X3 : ∀ w ∈ wsX30, w ∈ wsX4_told := fun _ h => List.mem_cons_of_mem _ (List.mem_append_left _ (List.mem_append_right _ h))
theorem hi_X4_told_X4 : ∀ w ∈ wsX40, w ∈ wsX4_told := fun _ h => List.mem_cons_of_mem _ (List.mem_append_left _ (List.mem_append_left _ (List.mem_append_right _ h)))
set_option maxRecDepth 20000 in
set_option maxHeartbeats 4000000 in
theorem c_X4_told (l : Launch) (g : gE) (a_this a_pad a_hill a_images a_fairCut a_bestCut a_leastFence a_pad_signs a_pad_row a_hill_sorts a_hill_owners a_hill_worths a_hill_gave : Nat) (v_pad_count : Int32) (v_hill_generation : Int32) (v_hill_toll : Int32) (f_hill_owners : (Nat → Int32)) (f_hill_worths : (Nat → Int32)) (f_hill_gave : (Nat → Int32)) (x1 : Int32)  (K : Int32 → Prop) (hw : wp_X4_told v_pad_count v_hill_generation v_hill_toll f_hill_owners f_hill_worths f_hill_gave x1 K) : Ci l g yX4_told wsX4_told { frames := 3, cells := 0, slots := 0, locals := 66 } [.ref a_this, .int x1] [(a_this, .inr (4, [.ref a_pad, .ref a_hill, .ref a_images, .ref a_fairCut, .ref a_bestCut, .ref a_leastFence])), (a_pad, .inr (3, [.ref a_pad_signs, .ref a_pad_row, .int v_pad_count])), (a_hill, .inr (2, [.ref a_hill_sorts, .ref a_hill_owners, .ref a_hill_worths, .ref a_hill_gave, .int v_hill_generation, .int v_hill_toll])), (a_hill_owners, gI g 504 f_hill_owners), (a_hill_worths, gI g 30 f_hill_worths), (a_hill_gave, gI g 6 f_hill_gave)] (fun (r : Int32) (_ : Unit) => K r) (fun (_ : Unit) => [(a_this, .inr (4, [.ref a_pad, .ref a_hill, .ref a_images, .ref a_fairCut, .ref a_bestCut, .ref a_leastFence])), (a_pad, .inr (3, [.ref a_pad_signs, .ref a_pad_row, .int v_pad_count])), (a_hill, .inr (2, [.ref a_hill_sorts, .ref a_hill_owners, .ref a_hill_worths, .ref a_hill_gave, .int v_hill_generation, .int v_hill_toll])), (a_hill_owners, gI g 504 f_hill_owners), (a_hill_worths, gI g 30 f_hill_worths), (a_hill_gave, gI g 6 f_hill_gave)]) 0 0 := by
  refine Ci_of (cc := cX4_told) (nL := 2) (ret := (some .int)) (own := RX4) (lv0 := [(0, .ref a_this), (1, .int x1)]) (by decide +kernel) rfl rfl (Nat.le_of_ble_eq_true rfl) rfl (fun A x C R => ?_)
  have hj90 : wj_X4_told_90 f_hill_worths x1 K → J l g A x 2 0 0 90 [(0, .ref a_this), (1, .int x1)] [] [(a_this, .inr (4, [.ref a_pad, .ref a_hill, .ref a_images, .ref a_fairCut, .ref a_bestCut, .ref a_leastFence])), (a_pad, .inr (3, [.ref a_pad_signs, .ref a_pad_row, .int v_pad_count])), (a_hill, .inr (2, [.ref a_hill_sorts, .ref a_hill_owners, .ref a_hill_worths, .ref a_hill_gave, .int v_hill_generation, .int v_hill_toll])), (a_hill_owners, gI g 504 f_hill_owners), (a_hill_worths, gI g 30 f_hill_worths), (a_hill_gave, gI g 6 f_hill_gave)] := by
    intro  hw
    refine j_iload_n C 91 rfl 1 dX4_told_90 rfl rfl ?_
    refine j_bipush C 93 rfl dX4_told_91 (v := (100 : Int32)) (by decide) ?_
    refine j_icmp_lt C 96 rfl 116 dX4_told_93 rfl (fun c => ?_) (fun c => ?_)
    · have hw := hw.1 c
      refine j_bipush C 118 rfl dX4_told_116 (v := (-2 : Int32)) (by decide) ?_
      exact j_iret C R () rfl dX4_told_118 rfl hw
    · have hw := hw.2 c
      refine j_iload_n C 97 rfl 1 dX4_told_96 rfl rfl ?_
      refine j_sipush C 100 rfl dX4_told_97 (v := (130 : Int32)) (by decide) ?_
      refine j_icmp_ge C 103 rfl 116 dX4_told_100 rfl (fun c => ?_) (fun c => ?_)
      · have hw := hw.1 c
        refine j_bipush C 118 rfl dX4_told_116 (v := (-2 : Int32)) (by decide) ?_
        exact j_iret C R () rfl dX4_told_118 rfl hw
      · have hw := hw.2 c
        refine j_aload_n C 104 rfl 0 dX4_told_103 rfl rfl ?_
        refine j_get C 107 rfl 0 4 1 (T := TX4) (N := 6) hi_X4_told_X4 rfl (by decide) (List.mem_of_getElem? (i := 3) rfl) rfl rfl rfl dX4_told_104 ?_
        refine j_get C 110 rfl 2 2 2 (T := TX2) (N := 6) hi_X4_told_X2 rfl (by decide) (List.mem_of_getElem? (i := 7) rfl) rfl rfl rfl dX4_told_107 ?_
        refine j_iload_n C 111 rfl 1 dX4_told_110 rfl rfl ?_
        refine j_bipush C 113 rfl dX4_told_111 (v := (100 : Int32)) (by decide) ?_
        refine j_isub C 114 rfl dX4_told_113 ?_
        obtain ⟨k1, ek1, hk1, hw⟩ := hw
        refine j_iald C 115 rfl 4 k1 rfl ek1 hk1 (by decide) dX4_told_114 ?_
        exact j_iret C R () rfl dX4_told_115 rfl hw
  have hj65 : wj_X4_told_65 f_hill_worths f_hill_gave x1 K → J l g A x 2 0 0 65 [(0, .ref a_this), (1, .int x1)] [] [(a_this, .inr (4, [.ref a_pad, .ref a_hill, .ref a_images, .ref a_fairCut, .ref a_bestCut, .ref a_leastFence])), (a_pad, .inr (3, [.ref a_pad_signs, .ref a_pad_row, .int v_pad_count])), (a_hill, .inr (2, [.ref a_hill_sorts, .ref a_hill_owners, .ref a_hill_worths, .ref a_hill_gave, .int v_hill_generation, .int v_hill_toll])), (a_hill_owners, gI g 504 f_hill_owners), (a_hill_worths, gI g 30 f_hill_worths), (a_hill_gave, gI g 6 f_hill_gave)] := by
    intro  hw
    refine j_iload_n C 66 rfl 1 dX4_told_65 rfl rfl ?_
    refine j_bipush C 68 rfl dX4_told_66 (v := (20 : Int32)) (by decide) ?_
    refine j_icmp_lt C 71 rfl 90 dX4_told_68 rfl (fun c => ?_) (fun c => ?_)
    · have hw := hw.1 c
      exact hj90 hw
    · have hw := hw.2 c
      refine j_iload_n C 72 rfl 1 dX4_told_71 rfl rfl ?_
      refine j_bipush C 74 rfl dX4_told_72 (v := (26 : Int32)) (by decide) ?_
      refine j_icmp_ge C 77 rfl 90 dX4_told_74 rfl (fun c => ?_) (fun c => ?_)
      · have hw := hw.1 c
        exact hj90 hw
      · have hw := hw.2 c
        refine j_aload_n C 78 rfl 0 dX4_told_77 rfl rfl ?_
        refine j_get C 81 rfl 0 4 1 (T := TX4) (N := 6) hi_X4_told_X4 rfl (by decide) (List.mem_of_getElem? (i := 3) rfl) rfl rfl rfl dX4_told_78 ?_
        refine j_get C 84 rfl 2 2 3 (T := TX2) (N := 6) hi_X4_told_X2 rfl (by decide) (List.mem_of_getElem? (i := 6) rfl) rfl rfl rfl dX4_told_81 ?_
        refine j_iload_n C 85 rfl 1 dX4_told_84 rfl rfl ?_
        refine j_bipush C 87 rfl dX4_told_85 (v := (20 : Int32)) (by decide) ?_
        refine j_isub C 88 rfl dX4_told_87 ?_
        obtain ⟨k2, ek2, hk2, hw⟩ := hw
        refine j_iald C 89 rfl 5 k2 rfl ek2 hk2 (by decide) dX4_told_88 ?_
        exact j_iret C R () rfl dX4_told_89 rfl hw
  refine j_iload_n C 1 rfl 1 dX4_told_0 rfl rfl ?_
  refine j_if_ne C 4 rfl 12 dX4_told_1 rfl (fun c => ?_) (fun c => ?_)
  · have hw := hw.1 c
    refine j_iload_n C 13 rfl 1 dX4_told_12 rfl rfl ?_
    refine j_iconst C 14 rfl dX4_told_13 (v := (1 : Int32)) (by decide) ?_
    refine j_icmp_ne C 17 rfl 25 dX4_told_14 rfl (fun c => ?_) (fun c => ?_)
    · have hw := hw.1 c
      refine j_iload_n C 26 rfl 1 dX4_told_25 rfl rfl ?_
      refine j_iconst C 27 rfl dX4_told_26 (v := (2 : Int32)) (by decide) ?_
      refine j_icmp_ne C 30 rfl 38 dX4_told_27 rfl (fun c => ?_) (fun c => ?_)
      · have hw := hw.1 c
        refine j_iload_n C 39 rfl 1 dX4_told_38 rfl rfl ?_
        refine j_bipush C 41 rfl dX4_told_39 (v := (10 : Int32)) (by decide) ?_
        refine j_icmp_lt C 44 rfl 65 dX4_told_41 rfl (fun c => ?_) (fun c => ?_)
        · have hw := hw.1 c
          exact hj65 hw
        · have hw := hw.2 c
          refine j_iload_n C 45 rfl 1 dX4_told_44 rfl rfl ?_
          refine j_bipush C 47 rfl dX4_told_45 (v := (16 : Int32)) (by decide) ?_
          refine j_icmp_ge C 50 rfl 65 dX4_told_47 rfl (fun c => ?_) (fun c => ?_)
          · have hw := hw.1 c
            exact hj65 hw
          · have hw := hw.2 c
            refine j_aload_n C 51 rfl 0 dX4_told_50 rfl rfl ?_
            refine j_get C 54 rfl 0 4 1 (T := TX4) (N := 6) hi_X4_told_X4 rfl (by decide) (List.mem_of_getElem? (i := 3) rfl) rfl rfl rfl dX4_told_51 ?_
            refine j_iload_n C 55 rfl 1 dX4_told_54 rfl rfl ?_
            refine j_bipush C 57 rfl dX4_told_55 (v := (10 : Int32)) (by decide) ?_
            refine j_isub C 58 rfl dX4_told_57 ?_
            refine j_top (fun n3 en3 => ?_)
            have hw := hw n3 en3
            refine j_ri C 61 rfl (jc_V C (c_X2_sectorsOf l g a_hill a_hill_sorts a_hill_owners a_hill_worths a_hill_gave v_hill_generation v_hill_toll f_hill_owners n3 _ hw) 1 gX4_told_X2_sectorsOf rfl rfl rfl hd_X2_sectorsOf ⟨Nat.le_of_ble_eq_true rfl, Nat.le_of_ble_eq_true rfl⟩ (j_rec C 2 2 rfl rfl) [2, 3] rfl rfl (rest := []) rfl rfl (Nat.le_of_ble_eq_true rfl) dX4_told_58 ⟨Nat.le_refl _, Nat.le_refl _⟩) [2, 3] rfl (fun _ => rfl) (fun r4 _ hw => ?_)
            try dsimp only at hw
            refine j_ri C 64 rfl (jc_S C (c_J6_bitCount_0f7a4 l g r4 _ hw) 1 gX4_told_J6_bitCount_0f7a4 rfl rfl rfl hd_J6_bitCount_0f7a4 ⟨Nat.le_of_ble_eq_true rfl, Nat.le_of_ble_eq_true rfl⟩ [] rfl rfl (rest := []) rfl rfl (Nat.le_of_ble_eq_true rfl) dX4_told_61 ⟨Nat.le_refl _, Nat.le_refl _⟩) [] rfl (fun _ => rfl) (fun r5 _ hw => ?_)
            try dsimp only at hw
            exact j_iret C R () rfl dX4_told_64 rfl hw
      · have hw := hw.2 c
        refine j_aload_n C 31 rfl 0 dX4_told_30 rfl rfl ?_
        refine j_get C 34 rfl 0 4 1 (T := TX4) (N := 6) hi_X4_told_X4 rfl (by decide) (List.mem_of_getElem? (i := 3) rfl) rfl rfl rfl dX4_told_31 ?_
        refine j_get C 37 rfl 2 2 5 (T := TX2) (N := 6) hi_X4_told_X2 rfl (by decide) (List.mem_of_getElem? (i := 5) rfl) rfl rfl rfl dX4_told_34 ?_
        exact j_iret C R () rfl dX4_told_37 rfl hw
    · have hw := hw.2 c
      refine j_aload_n C 18 rfl 0 dX4_told_17 rfl rfl ?_
      refine j_get C 21 rfl 0 4 1 (T := TX4) (N := 6) hi_X4_told_X4 rfl (by decide) (List.mem_of_getElem? (i := 3) rfl) rfl rfl rfl dX4_told_18 ?_
      refine j_get C 24 rfl 2 2 4 (T := TX2) (N := 6) hi_X4_told_X2 rfl (by decide) (List.mem_of_getElem? (i := 4) rfl) rfl rfl rfl dX4_told_21 ?_
      exact j_iret C R () rfl dX4_told_24 rfl hw
  · have hw := hw.2 c
    refine j_aload_n C 5 rfl 0 dX4_told_4 rfl rfl ?_
    refine j_get C 8 rfl 0 4 0 (T := TX4) (N := 6) hi_X4_told_X4 rfl (by decide) (List.mem_of_getElem? (i := 1) rfl) rfl rfl rfl dX4_told_5 ?_
    refine j_get C 11 rfl 1 3 2 (T := TX3) (N := 3) hi_X4_told_X3 rfl (by decide) (List.mem_of_getElem? (i := 2) rfl) rfl rfl rfl dX4_told_8 ?_
    exact j_iret C R () rfl dX4_told_11 rfl hw
set_option maxRecDepth 20000 in
set_option maxHeartbeats 4000000 in
theorem c_X4_isImage (l : Launch) (g : gE)  (x0 : Int32)  (K : Int32 → Prop) (hw : wp_X4_isImage x0 K) : Ci l g yX4_isImage wsX4_isImage { frames := 0, cells := 0, slots := 0, locals := 0 } [.int x0] [] (fun (r : Int32) (_ : Unit) => K r) (fun (_ : Unit) => []) 0 0 := by
  refine Ci_of (cc := cX4_isImage) (nL := 1) (ret := (some .boolean)) (own := RX4) (lv0 := [(0, .int x0)]) (by decide +kernel) rfl rfl (Nat.le_of_ble_eq_true rfl) rfl (fun A x C R => ?_)
  refine j_iload_n C 1 rfl 0 dX4_isImage_0 rfl rfl ?_
  refine j_if_lt C 4 rfl 13 dX4_isImage_1 rfl (fun c => ?_) (fun c => ?_)
  · have hw := hw.1 c
    refine j_iconst C 14 rfl dX4_isImage_13 (v := (0 : Int32)) (by decide) ?_
    exact j_iret C R () rfl dX4_isImage_14 rfl hw
  · have hw := hw.2 c
    refine j_iload_n C 5 rfl 0 dX4_isImage_4 rfl rfl ?_
    refine j_iconst C 6 rfl dX4_isImage_5 (v := (2 : Int32)) (by decide) ?_
    refine j_icmp_ge C 9 rfl 13 dX4_isImage_6 rfl (fun c => ?_) (fun c => ?_)
    · have hw := hw.1 c
      refine j_iconst C 14 rfl dX4_isImage_13 (v := (0 : Int32)) (by decide) ?_
      exact j_iret C R () rfl dX4_isImage_14 rfl hw
    · have hw := hw.2 c
      refine j_iconst C 10 rfl dX4_isImage_9 (v := (1 : Int32)) (by decide) ?_
      refine j_goto C 14 dX4_isImage_10 rfl ?_
      exact j_iret C R () rfl dX4_isImage_14 rfl hw
