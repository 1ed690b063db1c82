/-! printed by wip/whole/gen: contracts over the machine -/
theorem hi_X2_sortAt_X2 : ∀ w ∈ wsX20, w ∈ wsX2_sortAt := fun _ h => List.mem_cons_of_mem _ (List.mem_append_right _ h)
set_option maxRecDepth 20000 in
set_option maxHeartbeats 4000000 in
theorem c_X2_sortAt (l : Launch) (g : gE) (a_this a_sorts a_owners a_worths a_gave : Nat) (v_generation : Int32) (v_toll : Int32) (f_sorts : (Nat → Int32)) (x1 : Int32) (x2 : Int32)  (K : Int32 → Prop) (hw : wp_X2_sortAt f_sorts x1 x2 K) : Ci l g yX2_sortAt wsX2_sortAt { frames := 0, cells := 0, slots := 0, locals := 0 } [.ref a_this, .int x1, .int x2] [(a_this, .inr (2, [.ref a_sorts, .ref a_owners, .ref a_worths, .ref a_gave, .int v_generation, .int v_toll])), (a_sorts, gI g 120 f_sorts)] (fun (r : Int32) (_ : Unit) => K r) (fun (_ : Unit) => [(a_this, .inr (2, [.ref a_sorts, .ref a_owners, .ref a_worths, .ref a_gave, .int v_generation, .int v_toll])), (a_sorts, gI g 120 f_sorts)]) 0 0 := by
  refine Ci_of (cc := cX2_sortAt) (nL := 3) (ret := (some .int)) (own := RX2) (lv0 := [(0, .ref a_this), (1, .int x1), (2, .int x2)]) (by decide +kernel) rfl rfl (Nat.le_of_ble_eq_true rfl) rfl (fun A x C R => ?_)
  refine j_aload_n C 1 rfl 0 dX2_sortAt_0 rfl rfl ?_
  refine j_get C 4 rfl 0 2 0 (T := TX2) (N := 6) hi_X2_sortAt_X2 rfl (by decide) (List.mem_of_getElem? (i := 1) rfl) rfl rfl rfl dX2_sortAt_1 ?_
  refine j_iload_n C 5 rfl 1 dX2_sortAt_4 rfl rfl ?_
  refine j_bipush C 7 rfl dX2_sortAt_5 (v := (24 : Int32)) (by decide) ?_
  refine j_imul C 8 rfl dX2_sortAt_7 ?_
  refine j_iload_n C 9 rfl 2 dX2_sortAt_8 rfl rfl ?_
  refine j_iadd C 10 rfl dX2_sortAt_9 ?_
  obtain ⟨k1, ek1, hk1, hw⟩ := hw
  refine j_iald C 11 rfl 1 k1 rfl ek1 hk1 (by decide) dX2_sortAt_10 ?_
  exact j_iret C R () rfl dX2_sortAt_11 rfl hw
theorem hi_X2_shareOfSector_X2 : ∀ w ∈ wsX20, w ∈ wsX2_shareOfSector := fun _ h => List.mem_cons_of_mem _ (List.mem_append_right _ h)
set_option maxRecDepth 20000 in
set_option maxHeartbeats 4000000 in
theorem c_X2_shareOfSector (l : Launch) (g : gE) (a_this a_sorts a_owners a_worths a_gave : Nat) (v_generation : Int32) (v_toll : Int32) (f_sorts : (Nat → Int32)) (f_worths : (Nat → Int32)) (x1 : Int32) (x2 : Int32)  (K : Int32 → Prop) (hw : wp_X2_shareOfSector f_sorts f_worths x1 x2 K) : Ci l g yX2_shareOfSector wsX2_shareOfSector { frames := 1, cells := 0, slots := 0, locals := 22 } [.ref a_this, .int x1, .int x2] [(a_this, .inr (2, [.ref a_sorts, .ref a_owners, .ref a_worths, .ref a_gave, .int v_generation, .int v_toll])), (a_sorts, gI g 120 f_sorts), (a_worths, gI g 30 f_worths)] (fun (r : Int32) (_ : Unit) => K r) (fun (_ : Unit) => [(a_this, .inr (2, [.ref a_sorts, .ref a_owners, .ref a_worths, .ref a_gave, .int v_generation, .int v_toll])), (a_sorts, gI g 120 f_sorts), (a_worths, gI g 30 f_worths)]) 0 0 := by
  refine Ci_of (cc := cX2_shareOfSector) (nL := 5) (ret := (some .int)) (own := RX2) (lv0 := [(0, .ref a_this), (1, .int x1), (2, .int x2)]) (by decide +kernel) rfl rfl (Nat.le_of_ble_eq_true rfl) rfl (fun A x C R => ?_)
  refine j_iconst C 1 rfl dX2_shareOfSector_0 (v := (0 : Int32)) (by decide) ?_
  refine j_istore_n C 2 rfl [1, 2, 3, 0] (lv' := [(0, .ref a_this), (1, .int x1), (2, .int x2), (3, .int (0 : Int32))]) dX2_shareOfSector_1 rfl (by decide) rfl ?_
  refine j_iconst C 3 rfl dX2_shareOfSector_2 (v := (0 : Int32)) (by decide) ?_
  refine j_istore C 5 rfl [1, 2, 3, 4, 0] (lv' := [(0, .ref a_this), (1, .int x1), (2, .int x2), (3, .int (0 : Int32)), (4, .int (0 : Int32))]) dX2_shareOfSector_3 (by decide) rfl ?_
  refine lpW2_ind (G := fun x3 x4 => J l g A x 5 0 0 5 [(0, .ref a_this), (1, .int x1), (2, .int x2), (3, .int x3), (4, .int x4)] [] [(a_this, .inr (2, [.ref a_sorts, .ref a_owners, .ref a_worths, .ref a_gave, .int v_generation, .int v_toll])), (a_sorts, gI g 120 f_sorts), (a_worths, gI g 30 f_worths)]) (fun L5 x3 x4 hL5 hw => ?_) _ _ hw
  refine j_iload C 7 rfl 4 dX2_shareOfSector_5 rfl ?_
  refine j_iconst C 8 rfl dX2_shareOfSector_7 (v := (5 : Int32)) (by decide) ?_
  refine j_icmp_ge C 11 rfl 36 dX2_shareOfSector_8 rfl (fun c => ?_) (fun c => ?_)
  · have hw := hw.1 c
    refine j_iload_n C 37 rfl 3 dX2_shareOfSector_36 rfl rfl ?_
    exact j_iret C R () rfl dX2_shareOfSector_37 rfl hw
  · have hw := hw.2 c
    refine j_iload_n C 12 rfl 3 dX2_shareOfSector_11 rfl rfl ?_
    refine j_aload_n C 13 rfl 0 dX2_shareOfSector_12 rfl rfl ?_
    refine j_get C 16 rfl 0 2 2 (T := TX2) (N := 6) hi_X2_shareOfSector_X2 rfl (by decide) (List.mem_of_getElem? (i := 1) rfl) rfl rfl rfl dX2_shareOfSector_13 ?_
    refine j_iload_n C 17 rfl 1 dX2_shareOfSector_16 rfl rfl ?_
    refine j_iconst C 18 rfl dX2_shareOfSector_17 (v := (5 : Int32)) (by decide) ?_
    refine j_imul C 19 rfl dX2_shareOfSector_18 ?_
    refine j_aload_n C 20 rfl 0 dX2_shareOfSector_19 rfl rfl ?_
    refine j_iload C 22 rfl 4 dX2_shareOfSector_20 rfl ?_
    refine j_iload_n C 23 rfl 2 dX2_shareOfSector_22 rfl rfl ?_
    refine j_ri C 26 rfl (jc_V C (c_X2_sortAt l g a_this a_sorts a_owners a_worths a_gave v_generation v_toll f_sorts x4 x2 _ hw) 2 gX2_shareOfSector_X2_sortAt rfl rfl rfl hd_X2_sortAt ⟨Nat.le_of_ble_eq_true rfl, Nat.le_of_ble_eq_true rfl⟩ (j_rec C 0 2 rfl rfl) [0, 1] rfl rfl (rest := [.int (x1 * (5 : Int32)), .ref a_worths, .int x3]) rfl rfl (Nat.le_of_ble_eq_true rfl) dX2_shareOfSector_23 ⟨Nat.le_refl _, Nat.le_refl _⟩) [0, 1] rfl (fun _ => rfl) (fun r1 _ hw => ?_)
    try dsimp only at hw
    refine j_iadd C 27 rfl dX2_shareOfSector_26 ?_
    obtain ⟨k2, ek2, hk2, hw⟩ := hw
    refine j_iald C 28 rfl 2 k2 rfl ek2 hk2 (by decide) dX2_shareOfSector_27 ?_
    refine j_iadd C 29 rfl dX2_shareOfSector_28 ?_
    refine j_top (fun n3 en3 => ?_)
    have hw := hw n3 en3
    refine j_istore_n C 30 rfl [1, 2, 3, 0, 4] (lv' := [(0, .ref a_this), (1, .int x1), (2, .int x2), (3, .int n3), (4, .int x4)]) dX2_shareOfSector_29 rfl (by decide) rfl ?_
    refine j_iinc C 33 rfl 4 [1, 2, 3, 4, 0] (v' := (1 : Int32)) (lv' := fun z => [(0, .ref a_this), (1, .int x1), (2, .int x2), (3, .int n3), (4, .int z)]) dX2_shareOfSector_30 rfl (by decide) (by decide) (fun _ => rfl) (fun n4 en4 => ?_)
    have hw := hw n4 en4
    refine j_goto C 5 dX2_shareOfSector_33 rfl ?_
    exact hL5 _ _ hw
theorem hi_X2_ownerBehind_X2 : ∀ w ∈ wsX20, w ∈ wsX2_ownerBehind := fun _ h => List.mem_cons_of_mem _ (List.mem_append_right _ h)
set_option maxRecDepth 20000 in
set_option maxHeartbeats 4000000 in
theorem c_X2_ownerBehind (l : Launch) (g : gE) (a_this a_sorts a_owners a_worths a_gave : Nat) (v_generation : Int32) (v_toll : Int32) (f_owners : (Nat → Int32)) (x1 : Int32) (x2 : Int32)  (K : Int32 → Prop) (hw : wp_X2_ownerBehind f_owners x1 x2 K) : Ci l g yX2_ownerBehind wsX2_ownerBehind { frames := 0, cells := 0, slots := 0, locals := 0 } [.ref a_this, .int x1, .int x2] [(a_this, .inr (2, [.ref a_sorts, .ref a_owners, .ref a_worths, .ref a_gave, .int v_generation, .int v_toll])), (a_owners, gI g 504 f_owners)] (fun (r : Int32) (_ : Unit) => K r) (fun (_ : Unit) => [(a_this, .inr (2, [.ref a_sorts, .ref a_owners, .ref a_worths, .ref a_gave, .int v_generation, .int v_toll])), (a_owners, gI g 504 f_owners)]) 0 0 := by
  refine Ci_of (cc := cX2_ownerBehind) (nL := 3) (ret := (some .int)) (own := RX2) (lv0 := [(0, .ref a_this), (1, .int x1), (2, .int x2)]) (by decide +kernel) rfl rfl (Nat.le_of_ble_eq_true rfl) rfl (fun A x C R => ?_)
  refine j_aload_n C 1 rfl 0 dX2_ownerBehind_0 rfl rfl ?_
  refine j_get C 4 rfl 0 2 1 (T := TX2) (N := 6) hi_X2_ownerBehind_X2 rfl (by decide) (List.mem_of_getElem? (i := 1) rfl) rfl rfl rfl dX2_ownerBehind_1 ?_
  refine j_iload_n C 5 rfl 1 dX2_ownerBehind_4 rfl rfl ?_
  refine j_bipush C 7 rfl dX2_ownerBehind_5 (v := (24 : Int32)) (by decide) ?_
  refine j_imul C 8 rfl dX2_ownerBehind_7 ?_
  refine j_iload_n C 9 rfl 2 dX2_ownerBehind_8 rfl rfl ?_
  refine j_iadd C 10 rfl dX2_ownerBehind_9 ?_
  obtain ⟨k1, ek1, hk1, hw⟩ := hw
  refine j_iald C 11 rfl 1 k1 rfl ek1 hk1 (by decide) dX2_ownerBehind_10 ?_
  exact j_iret C R () rfl dX2_ownerBehind_11 rfl hw
theorem hi_X2_ownerOf_X2 : ∀ w ∈ wsX20, w ∈ wsX2_ownerOf := fun _ h => List.mem_cons_of_mem _ (List.mem_append_right _ h)
set_option maxRecDepth 20000 in
set_option maxHeartbeats 4000000 in
theorem c_X2_ownerOf (l : Launch) (g : gE) (a_this a_sorts a_owners a_worths a_gave : Nat) (v_generation : Int32) (v_toll : Int32) (f_owners : (Nat → Int32)) (x1 : Int32)  (K : Int32 → Prop) (hw : wp_X2_ownerOf v_generation f_owners x1 K) : Ci l g yX2_ownerOf wsX2_ownerOf { frames := 1, cells := 0, slots := 0, locals := 22 } [.ref a_this, .int x1] [(a_this, .inr (2, [.ref a_sorts, .ref a_owners, .ref a_worths, .ref a_gave, .int v_generation, .int v_toll])), (a_owners, gI g 504 f_owners)] (fun (r : Int32) (_ : Unit) => K r) (fun (_ : Unit) => [(a_this, .inr (2, [.ref a_sorts, .ref a_owners, .ref a_worths, .ref a_gave, .int v_generation, .int v_toll])), (a_owners, gI g 504 f_owners)]) 0 0 := by
  refine Ci_of (cc := cX2_ownerOf) (nL := 2) (ret := (some .int)) (own := RX2) (lv0 := [(0, .ref a_this), (1, .int x1)]) (by decide +kernel) rfl rfl (Nat.le_of_ble_eq_true rfl) rfl (fun A x C R => ?_)
  refine j_aload_n C 1 rfl 0 dX2_ownerOf_0 rfl rfl ?_
  refine j_aload_n C 2 rfl 0 dX2_ownerOf_1 rfl rfl ?_
  refine j_get C 5 rfl 0 2 4 (T := TX2) (N := 6) hi_X2_ownerOf_X2 rfl (by decide) (List.mem_of_getElem? (i := 1) rfl) rfl rfl rfl dX2_ownerOf_2 ?_
  refine j_iload_n C 6 rfl 1 dX2_ownerOf_5 rfl rfl ?_
  refine j_ri C 9 rfl (jc_V C (c_X2_ownerBehind l g a_this a_sorts a_owners a_worths a_gave v_generation v_toll f_owners v_generation x1 _ hw) 2 gX2_ownerOf_X2_ownerBehind rfl rfl rfl hd_X2_ownerBehind ⟨Nat.le_of_ble_eq_true rfl, Nat.le_of_ble_eq_true rfl⟩ (j_rec C 0 2 rfl rfl) [0, 1] rfl rfl (rest := []) rfl rfl (Nat.le_of_ble_eq_true rfl) dX2_ownerOf_6 ⟨Nat.le_refl _, Nat.le_refl _⟩) [0, 1] rfl (fun _ => rfl) (fun r1 _ hw => ?_)
  try dsimp only at hw
  exact j_iret C R () rfl dX2_ownerOf_9 rfl hw
theorem hi_X2_copyFrom_X2 : ∀ w ∈ wsX20, w ∈ wsX2_copyFrom := fun _ h => List.mem_cons_of_mem _ (List.mem_append_right _ h)
set_option maxRecDepth 20000 in
set_option maxHeartbeats 4000000 in
theorem c_X2_copyFrom (l : Launch) (g : gE) (a_this a_sorts a_owners a_worths a_gave a_p1 a_p1_sorts a_p1_owners a_p1_worths a_p1_gave : Nat) (v_generation : Int32) (v_toll : Int32) (f_sorts : (Nat → Int32)) (f_owners : (Nat → Int32)) (f_worths : (Nat → Int32)) (f_gave : (Nat → Int32)) (v_p1_generation : Int32) (v_p1_toll : Int32) (f_p1_sorts : (Nat → Int32)) (f_p1_owners : (Nat → Int32)) (f_p1_worths : (Nat → Int32)) (f_p1_gave : (Nat → Int32))   (K : Int32 → Int32 → (Nat → Int32) → (Nat → Int32) → (Nat → Int32) → (Nat → Int32) → Prop) (hw : wp_X2_copyFrom v_generation v_toll f_sorts f_owners f_worths f_gave v_p1_generation v_p1_toll f_p1_sorts f_p1_owners f_p1_worths f_p1_gave K) : Cv l g yX2_copyFrom wsX2_copyFrom { frames := 1, cells := 0, slots := 0, locals := 60 } [.ref a_this, .ref a_p1] [(a_this, .inr (2, [.ref a_sorts, .ref a_owners, .ref a_worths, .ref a_gave, .int v_generation, .int v_toll])), (a_sorts, gI g 120 f_sorts), (a_owners, gI g 504 f_owners), (a_worths, gI g 30 f_worths), (a_gave, gI g 6 f_gave), (a_p1, .inr (2, [.ref a_p1_sorts, .ref a_p1_owners, .ref a_p1_worths, .ref a_p1_gave, .int v_p1_generation, .int v_p1_toll])), (a_p1_sorts, gI g 120 f_p1_sorts), (a_p1_owners, gI g 504 f_p1_owners), (a_p1_worths, gI g 30 f_p1_worths), (a_p1_gave, gI g 6 f_p1_gave)] (fun (u : Int32 × Int32 × (Nat → Int32) × (Nat → Int32) × (Nat → Int32) × (Nat → Int32)) => K u.1 u.2.1 u.2.2.1 u.2.2.2.1 u.2.2.2.2.1 u.2.2.2.2.2) (fun (u : Int32 × Int32 × (Nat → Int32) × (Nat → Int32) × (Nat → Int32) × (Nat → Int32)) => [(a_this, .inr (2, [.ref a_sorts, .ref a_owners, .ref a_worths, .ref a_gave, .int (u.1), .int (u.2.1)])), (a_sorts, gI g 120 (u.2.2.1)), (a_owners, gI g 504 (u.2.2.2.1)), (a_worths, gI g 30 (u.2.2.2.2.1)), (a_gave, gI g 6 (u.2.2.2.2.2)), (a_p1, .inr (2, [.ref a_p1_sorts, .ref a_p1_owners, .ref a_p1_worths, .ref a_p1_gave, .int v_p1_generation, .int v_p1_toll])), (a_p1_sorts, gI g 120 f_p1_sorts), (a_p1_owners, gI g 504 f_p1_owners), (a_p1_worths, gI g 30 f_p1_worths), (a_p1_gave, gI g 6 f_p1_gave)]) 0 0 := by
  refine Cv_of (cc := cX2_copyFrom) (nL := 2) (ret := none) (own := RX2) (lv0 := [(0, .ref a_this), (1, .ref a_p1)]) (by decide +kernel) rfl rfl (Nat.le_of_ble_eq_true rfl) rfl (fun A x C R => ?_)
  refine j_aload_n C 1 rfl 1 dX2_copyFrom_0 rfl rfl ?_
  refine j_get C 4 rfl 5 2 0 (T := TX2) (N := 6) hi_X2_copyFrom_X2 rfl (by decide) (List.mem_of_getElem? (i := 1) rfl) rfl rfl rfl dX2_copyFrom_1 ?_
  refine j_iconst C 5 rfl dX2_copyFrom_4 (v := (0 : Int32)) (by decide) ?_
  refine j_aload_n C 6 rfl 0 dX2_copyFrom_5 rfl rfl ?_
  refine j_get C 9 rfl 0 2 0 (T := TX2) (N := 6) hi_X2_copyFrom_X2 rfl (by decide) (List.mem_of_getElem? (i := 1) rfl) rfl rfl rfl dX2_copyFrom_6 ?_
  refine j_iconst C 10 rfl dX2_copyFrom_9 (v := (0 : Int32)) (by decide) ?_
  refine j_bipush C 12 rfl dX2_copyFrom_10 (v := (120 : Int32)) (by decide) ?_
  obtain ⟨sk1, dk1, nk1, e1, e2, e3, e4, e5, hw⟩ := hw
  refine j_copy C 15 rfl 6 1 sk1 dk1 nk1 (ws' := [(a_this, .inr (2, [.ref a_sorts, .ref a_owners, .ref a_worths, .ref a_gave, .int v_generation, .int v_toll])), (a_sorts, gI g 120 (va_cpy f_p1_sorts f_sorts sk1 dk1 nk1)), (a_owners, gI g 504 f_owners), (a_worths, gI g 30 f_worths), (a_gave, gI g 6 f_gave), (a_p1, .inr (2, [.ref a_p1_sorts, .ref a_p1_owners, .ref a_p1_worths, .ref a_p1_gave, .int v_p1_generation, .int v_p1_toll])), (a_p1_sorts, gI g 120 f_p1_sorts), (a_p1_owners, gI g 504 f_p1_owners), (a_p1_worths, gI g 30 f_p1_worths), (a_p1_gave, gI g 6 f_p1_gave)]) (List.mem_of_getElem? (i := 2) rfl) (List.mem_of_getElem? (i := 3) rfl) (List.mem_of_getElem? (i := 4) rfl) (List.mem_of_getElem? (i := 5) rfl) rfl rfl e1 e2 e3 e4 e5 (by decide) (by decide) (by decide) (Nat.le_of_ble_eq_true rfl) rfl dX2_copyFrom_12 ?_
  refine j_aload_n C 16 rfl 1 dX2_copyFrom_15 rfl rfl ?_
  refine j_get C 19 rfl 5 2 1 (T := TX2) (N := 6) hi_X2_copyFrom_X2 rfl (by decide) (List.mem_of_getElem? (i := 6) rfl) rfl rfl rfl dX2_copyFrom_16 ?_
  refine j_iconst C 20 rfl dX2_copyFrom_19 (v := (0 : Int32)) (by decide) ?_
  refine j_aload_n C 21 rfl 0 dX2_copyFrom_20 rfl rfl ?_
  refine j_get C 24 rfl 0 2 1 (T := TX2) (N := 6) hi_X2_copyFrom_X2 rfl (by decide) (List.mem_of_getElem? (i := 6) rfl) rfl rfl rfl dX2_copyFrom_21 ?_
  refine j_iconst C 25 rfl dX2_copyFrom_24 (v := (0 : Int32)) (by decide) ?_
  refine j_sipush C 28 rfl dX2_copyFrom_25 (v := (504 : Int32)) (by decide) ?_
  obtain ⟨sk2, dk2, nk2, e1, e2, e3, e4, e5, hw⟩ := hw
  refine j_copy C 31 rfl 7 2 sk2 dk2 nk2 (ws' := [(a_this, .inr (2, [.ref a_sorts, .ref a_owners, .ref a_worths, .ref a_gave, .int v_generation, .int v_toll])), (a_sorts, gI g 120 (va_cpy f_p1_sorts f_sorts sk1 dk1 nk1)), (a_owners, gI g 504 (va_cpy f_p1_owners f_owners sk2 dk2 nk2)), (a_worths, gI g 30 f_worths), (a_gave, gI g 6 f_gave), (a_p1, .inr (2, [.ref a_p1_sorts, .ref a_p1_owners, .ref a_p1_worths, .ref a_p1_gave, .int v_p1_generation, .int v_p1_toll])), (a_p1_sorts, gI g 120 f_p1_sorts), (a_p1_owners, gI g 504 f_p1_owners), (a_p1_worths, gI g 30 f_p1_worths), (a_p1_gave, gI g 6 f_p1_gave)]) (List.mem_of_getElem? (i := 2) rfl) (List.mem_of_getElem? (i := 3) rfl) (List.mem_of_getElem? (i := 4) rfl) (List.mem_of_getElem? (i := 5) rfl) rfl rfl e1 e2 e3 e4 e5 (by decide) (by decide) (by decide) (Nat.le_of_ble_eq_true rfl) rfl dX2_copyFrom_28 ?_
  refine j_aload_n C 32 rfl 1 dX2_copyFrom_31 rfl rfl ?_
  refine j_get C 35 rfl 5 2 2 (T := TX2) (N := 6) hi_X2_copyFrom_X2 rfl (by decide) (List.mem_of_getElem? (i := 7) rfl) rfl rfl rfl dX2_copyFrom_32 ?_
  refine j_iconst C 36 rfl dX2_copyFrom_35 (v := (0 : Int32)) (by decide) ?_
  refine j_aload_n C 37 rfl 0 dX2_copyFrom_36 rfl rfl ?_
  refine j_get C 40 rfl 0 2 2 (T := TX2) (N := 6) hi_X2_copyFrom_X2 rfl (by decide) (List.mem_of_getElem? (i := 7) rfl) rfl rfl rfl dX2_copyFrom_37 ?_
  refine j_iconst C 41 rfl dX2_copyFrom_40 (v := (0 : Int32)) (by decide) ?_
  refine j_bipush C 43 rfl dX2_copyFrom_41 (v := (30 : Int32)) (by decide) ?_
  obtain ⟨sk3, dk3, nk3, e1, e2, e3, e4, e5, hw⟩ := hw
  refine j_copy C 46 rfl 8 3 sk3 dk3 nk3 (ws' := [(a_this, .inr (2, [.ref a_sorts, .ref a_owners, .ref a_worths, .ref a_gave, .int v_generation, .int v_toll])), (a_sorts, gI g 120 (va_cpy f_p1_sorts f_sorts sk1 dk1 nk1)), (a_owners, gI g 504 (va_cpy f_p1_owners f_owners sk2 dk2 nk2)), (a_worths, gI g 30 (va_cpy f_p1_worths f_worths sk3 dk3 nk3)), (a_gave, gI g 6 f_gave), (a_p1, .inr (2, [.ref a_p1_sorts, .ref a_p1_owners, .ref a_p1_worths, .ref a_p1_gave, .int v_p1_generation, .int v_p1_toll])), (a_p1_sorts, gI g 120 f_p1_sorts), (a_p1_owners, gI g 504 f_p1_owners), (a_p1_worths, gI g 30 f_p1_worths), (a_p1_gave, gI g 6 f_p1_gave)]) (List.mem_of_getElem? (i := 2) rfl) (List.mem_of_getElem? (i := 3) rfl) (List.mem_of_getElem? (i := 4) rfl) (List.mem_of_getElem? (i := 5) rfl) rfl rfl e1 e2 e3 e4 e5 (by decide) (by decide) (by decide) (Nat.le_of_ble_eq_true rfl) rfl dX2_copyFrom_43 ?_
  refine j_aload_n C 47 rfl 1 dX2_copyFrom_46 rfl rfl ?_
  refine j_get C 50 rfl 5 2 3 (T := TX2) (N := 6) hi_X2_copyFrom_X2 rfl (by decide) (List.mem_of_getElem? (i := 8) rfl) rfl rfl rfl dX2_copyFrom_47 ?_
  refine j_iconst C 51 rfl dX2_copyFrom_50 (v := (0 : Int32)) (by decide) ?_
  refine j_aload_n C 52 rfl 0 dX2_copyFrom_51 rfl rfl ?_
  refine j_get C 55 rfl 0 2 3 (T := TX2) (N := 6) hi_X2_copyFrom_X2 rfl (by decide) (List.mem_of_getElem? (i := 8) rfl) rfl rfl rfl dX2_copyFrom_52 ?_
  refine j_iconst C 56 rfl dX2_copyFrom_55 (v := (0 : Int32)) (by decide) ?_
  refine j_bipush C 58 rfl dX2_copyFrom_56 (v := (6 : Int32)) (by decide) ?_
  obtain ⟨sk4, dk4, nk4, e1, e2, e3, e4, e5, hw⟩ := hw
  refine j_copy C 61 rfl 9 4 sk4 dk4 nk4 (ws' := [(a_this, .inr (2, [.ref a_sorts, .ref a_owners, .ref a_worths, .ref a_gave, .int v_generation, .int v_toll])), (a_sorts, gI g 120 (va_cpy f_p1_sorts f_sorts sk1 dk1 nk1)), (a_owners, gI g 504 (va_cpy f_p1_owners f_owners sk2 dk2 nk2)), (a_worths, gI g 30 (va_cpy f_p1_worths f_worths sk3 dk3 nk3)), (a_gave, gI g 6 (va_cpy f_p1_gave f_gave sk4 dk4 nk4)), (a_p1, .inr (2, [.ref a_p1_sorts, .ref a_p1_owners, .ref a_p1_worths, .ref a_p1_gave, .int v_p1_generation, .int v_p1_toll])), (a_p1_sorts, gI g 120 f_p1_sorts), (a_p1_owners, gI g 504 f_p1_owners), (a_p1_worths, gI g 30 f_p1_worths), (a_p1_gave, gI g 6 f_p1_gave)]) (List.mem_of_getElem? (i := 2) rfl) (List.mem_of_getElem? (i := 3) rfl) (List.mem_of_getElem? (i := 4) rfl) (List.mem_of_getElem? (i := 5) rfl) rfl rfl e1 e2 e3 e4 e5 (by decide) (by decide) (by decide) (Nat.le_of_ble_eq_true rfl) rfl dX2_copyFrom_58 ?_
  refine j_aload_n C 62 rfl 0 dX2_copyFrom_61 rfl rfl ?_
  refine j_aload_n C 63 rfl 1 dX2_copyFrom_62 rfl rfl ?_
  refine j_get C 66 rfl 5 2 4 (T := TX2) (N := 6) hi_X2_copyFrom_X2 rfl (by decide) (List.mem_of_getElem? (i := 9) rfl) rfl rfl rfl dX2_copyFrom_63 ?_
  refine j_put C 69 rfl 0 2 4 (ws' := [(a_this, .inr (2, [.ref a_sorts, .ref a_owners, .ref a_worths, .ref a_gave, .int v_p1_generation, .int v_toll])), (a_sorts, gI g 120 (va_cpy f_p1_sorts f_sorts sk1 dk1 nk1)), (a_owners, gI g 504 (va_cpy f_p1_owners f_owners sk2 dk2 nk2)), (a_worths, gI g 30 (va_cpy f_p1_worths f_worths sk3 dk3 nk3)), (a_gave, gI g 6 (va_cpy f_p1_gave f_gave sk4 dk4 nk4)), (a_p1, .inr (2, [.ref a_p1_sorts, .ref a_p1_owners, .ref a_p1_worths, .ref a_p1_gave, .int v_p1_generation, .int v_p1_toll])), (a_p1_sorts, gI g 120 f_p1_sorts), (a_p1_owners, gI g 504 f_p1_owners), (a_p1_worths, gI g 30 f_p1_worths), (a_p1_gave, gI g 6 f_p1_gave)]) (T := TX2) (N := 6) (ty := .int) tyX2_ok nmX2 hi_X2_copyFrom_X2 rfl (by decide) (List.mem_of_getElem? (i := 9) rfl) rfl rfl rfl rfl rfl rfl (Nat.le_of_ble_eq_true rfl) rfl dX2_copyFrom_66 ?_
  refine j_aload_n C 70 rfl 0 dX2_copyFrom_69 rfl rfl ?_
  refine j_aload_n C 71 rfl 1 dX2_copyFrom_70 rfl rfl ?_
  refine j_get C 74 rfl 5 2 5 (T := TX2) (N := 6) hi_X2_copyFrom_X2 rfl (by decide) (List.mem_of_getElem? (i := 10) rfl) rfl rfl rfl dX2_copyFrom_71 ?_
  refine j_put C 77 rfl 0 2 5 (ws' := [(a_this, .inr (2, [.ref a_sorts, .ref a_owners, .ref a_worths, .ref a_gave, .int v_p1_generation, .int v_p1_toll])), (a_sorts, gI g 120 (va_cpy f_p1_sorts f_sorts sk1 dk1 nk1)), (a_owners, gI g 504 (va_cpy f_p1_owners f_owners sk2 dk2 nk2)), (a_worths, gI g 30 (va_cpy f_p1_worths f_worths sk3 dk3 nk3)), (a_gave, gI g 6 (va_cpy f_p1_gave f_gave sk4 dk4 nk4)), (a_p1, .inr (2, [.ref a_p1_sorts, .ref a_p1_owners, .ref a_p1_worths, .ref a_p1_gave, .int v_p1_generation, .int v_p1_toll])), (a_p1_sorts, gI g 120 f_p1_sorts), (a_p1_owners, gI g 504 f_p1_owners), (a_p1_worths, gI g 30 f_p1_worths), (a_p1_gave, gI g 6 f_p1_gave)]) (T := TX2) (N := 6) (ty := .int) tyX2_ok nmX2 hi_X2_copyFrom_X2 rfl (by decide) (List.mem_of_getElem? (i := 10) rfl) rfl rfl rfl rfl rfl rfl (Nat.le_of_ble_eq_true rfl) rfl dX2_copyFrom_74 ?_
  exact j_vret C R (v_p1_generation, v_p1_toll, va_cpy f_p1_sorts f_sorts sk1 dk1 nk1, va_cpy f_p1_owners f_owners sk2 dk2 nk2, va_cpy f_p1_worths f_worths sk3 dk3 nk3, va_cpy f_p1_gave f_gave sk4 dk4 nk4) dX2_copyFrom_77 rfl hw
theorem hi_X2_setRing_X2 : ∀ w ∈ wsX20, w ∈ wsX2_setRing := fun _ h => List.mem_cons_of_mem _ (List.mem_append_right _ h)
set_option maxRecDepth 20000 in
set_option maxHeartbeats 4000000 in
theorem c_X2_setRing (l : Launch) (g : gE) (a_this a_sorts a_owners a_worths a_gave a_p2 : Nat) (v_generation : Int32) (v_toll : Int32) (f_sorts : (Nat → Int32)) (f_p2 : (Nat → Int32)) (x1 : Int32)  (K : (Nat → Int32) → Prop) (hw : wp_X2_setRing f_sorts f_p2 x1 K) : Cv l g yX2_setRing wsX2_setRing { frames := 1, cells := 0, slots := 0, locals := 60 } [.ref a_this, .int x1, .ref a_p2] [(a_this, .inr (2, [.ref a_sorts, .ref a_owners, .ref a_worths, .ref a_gave, .int v_generation, .int v_toll])), (a_sorts, gI g 120 f_sorts), (a_p2, gI g 24 f_p2)] (fun (u : (Nat → Int32)) => K u) (fun (u : (Nat → Int32)) => [(a_this, .inr (2, [.ref a_sorts, .ref a_owners, .ref a_worths, .ref a_gave, .int v_generation, .int v_toll])), (a_sorts, gI g 120 u), (a_p2, gI g 24 f_p2)]) 0 0 := by
  refine Cv_of (cc := cX2_setRing) (nL := 3) (ret := none) (own := RX2) (lv0 := [(0, .ref a_this), (1, .int x1), (2, .ref a_p2)]) (by decide +kernel) rfl rfl (Nat.le_of_ble_eq_true rfl) rfl (fun A x C R => ?_)
  refine j_aload_n C 1 rfl 2 dX2_setRing_0 rfl rfl ?_
  refine j_iconst C 2 rfl dX2_setRing_1 (v := (0 : Int32)) (by decide) ?_
  refine j_aload_n C 3 rfl 0 dX2_setRing_2 rfl rfl ?_
  refine j_get C 6 rfl 0 2 0 (T := TX2) (N := 6) hi_X2_setRing_X2 rfl (by decide) (List.mem_of_getElem? (i := 1) rfl) rfl rfl rfl dX2_setRing_3 ?_
  refine j_iload_n C 7 rfl 1 dX2_setRing_6 rfl rfl ?_
  refine j_bipush C 9 rfl dX2_setRing_7 (v := (24 : Int32)) (by decide) ?_
  refine j_imul C 10 rfl dX2_setRing_9 ?_
  refine j_bipush C 12 rfl dX2_setRing_10 (v := (24 : Int32)) (by decide) ?_
  obtain ⟨sk1, dk1, nk1, e1, e2, e3, e4, e5, hw⟩ := hw
  refine j_copy C 15 rfl 2 1 sk1 dk1 nk1 (ws' := [(a_this, .inr (2, [.ref a_sorts, .ref a_owners, .ref a_worths, .ref a_gave, .int v_generation, .int v_toll])), (a_sorts, gI g 120 (va_cpy f_p2 f_sorts sk1 dk1 nk1)), (a_p2, gI g 24 f_p2)]) (List.mem_of_getElem? (i := 2) rfl) (List.mem_of_getElem? (i := 3) rfl) (List.mem_of_getElem? (i := 4) rfl) (List.mem_of_getElem? (i := 5) rfl) rfl rfl e1 e2 e3 e4 e5 (by decide) (by decide) (by decide) (Nat.le_of_ble_eq_true rfl) rfl dX2_setRing_12 ?_
  exact j_vret C R (va_cpy f_p2 f_sorts sk1 dk1 nk1) dX2_setRing_15 rfl hw
set_option maxRecDepth 20000 in
set_option maxHeartbeats 4000000 in
theorem c_X2_sectorsOfSort (l : Launch) (g : gE) (a_this a_sorts a_owners a_worths a_gave : Nat) (v_generation : Int32) (v_toll : Int32) (f_sorts : (Nat → Int32)) (x1 : Int32) (x2 : Int32)  (K : Int32 → Prop) (hw : wp_X2_sectorsOfSort f_sorts x1 x2 K) : Ci l g yX2_sectorsOfSort wsX2_sectorsOfSort { frames := 1, cells := 0, slots := 0, locals := 22 } [.ref a_this, .int x1, .int x2] [(a_this, .inr (2, [.ref a_sorts, .ref a_owners, .ref a_worths, .ref a_gave, .int v_generation, .int v_toll])), (a_sorts, gI g 120 f_sorts)] (fun (r : Int32) (_ : Unit) => K r) (fun (_ : Unit) => [(a_this, .inr (2, [.ref a_sorts, .ref a_owners, .ref a_worths, .ref a_gave, .int v_generation, .int v_toll])), (a_sorts, gI g 120 f_sorts)]) 0 0 := by
  refine Ci_of (cc := cX2_sectorsOfSort) (nL := 5) (ret := (some .int)) (own := RX2) (lv0 := [(0, .ref a_this), (1, .int x1), (2, .int x2)]) (by decide +kernel) rfl rfl (Nat.le_of_ble_eq_true rfl) rfl (fun A x C R => ?_)
  refine j_iconst C 1 rfl dX2_sectorsOfSort_0 (v := (0 : Int32)) (by decide) ?_
  refine j_istore_n C 2 rfl [1, 2, 3, 0] (lv' := [(0, .ref a_this), (1, .int x1), (2, .int x2), (3, .int (0 : Int32))]) dX2_sectorsOfSort_1 rfl (by decide) rfl ?_
  refine j_iconst C 3 rfl dX2_sectorsOfSort_2 (v := (0 : Int32)) (by decide) ?_
  refine j_istore C 5 rfl [1, 2, 3, 4, 0] (lv' := [(0, .ref a_this), (1, .int x1), (2, .int x2), (3, .int (0 : Int32)), (4, .int (0 : Int32))]) dX2_sectorsOfSort_3 (by decide) rfl ?_
  refine lpW2_ind (G := fun x3 x4 => J l g A x 5 0 0 5 [(0, .ref a_this), (1, .int x1), (2, .int x2), (3, .int x3), (4, .int x4)] [] [(a_this, .inr (2, [.ref a_sorts, .ref a_owners, .ref a_worths, .ref a_gave, .int v_generation, .int v_toll])), (a_sorts, gI g 120 f_sorts)]) (fun L5 x3 x4 hL5 hw => ?_) _ _ hw
  refine j_iload C 7 rfl 4 dX2_sectorsOfSort_5 rfl ?_
  refine j_bipush C 9 rfl dX2_sectorsOfSort_7 (v := (24 : Int32)) (by decide) ?_
  refine j_icmp_ge C 12 rfl 36 dX2_sectorsOfSort_9 rfl (fun c => ?_) (fun c => ?_)
  · have hw := hw.1 c
    refine j_iload_n C 37 rfl 3 dX2_sectorsOfSort_36 rfl rfl ?_
    exact j_iret C R () rfl dX2_sectorsOfSort_37 rfl hw
  · have hw := hw.2 c
    refine j_aload_n C 13 rfl 0 dX2_sectorsOfSort_12 rfl rfl ?_
    refine j_iload_n C 14 rfl 1 dX2_sectorsOfSort_13 rfl rfl ?_
    refine j_iload C 16 rfl 4 dX2_sectorsOfSort_14 rfl ?_
    refine j_ri C 19 rfl (jc_V C (c_X2_sortAt l g a_this a_sorts a_owners a_worths a_gave v_generation v_toll f_sorts x1 x4 _ hw) 2 gX2_sectorsOfSort_X2_sortAt rfl rfl rfl hd_X2_sortAt ⟨Nat.le_of_ble_eq_true rfl, Nat.le_of_ble_eq_true rfl⟩ (j_rec C 0 2 rfl rfl) [0, 1] rfl rfl (rest := []) rfl rfl (Nat.le_of_ble_eq_true rfl) dX2_sectorsOfSort_16 ⟨Nat.le_refl _, Nat.le_refl _⟩) [0, 1] rfl (fun _ => rfl) (fun r1 _ hw => ?_)
    try dsimp only at hw
    refine j_iload_n C 20 rfl 2 dX2_sectorsOfSort_19 rfl rfl ?_
    refine j_icmp_ne C 23 rfl 30 dX2_sectorsOfSort_20 rfl (fun c => ?_) (fun c => ?_)
    · have hw := hw.1 c
      refine j_iinc C 33 rfl 4 [1, 2, 3, 4, 0] (v' := (1 : Int32)) (lv' := fun z => [(0, .ref a_this), (1, .int x1), (2, .int x2), (3, .int x3), (4, .int z)]) dX2_sectorsOfSort_30 rfl (by decide) (by decide) (fun _ => rfl) (fun n2 en2 => ?_)
      have hw := hw n2 en2
      refine j_goto C 5 dX2_sectorsOfSort_33 rfl ?_
      exact hL5 _ _ hw
    · have hw := hw.2 c
      refine j_iload_n C 24 rfl 3 dX2_sectorsOfSort_23 rfl rfl ?_
      refine j_iconst C 25 rfl dX2_sectorsOfSort_24 (v := (1 : Int32)) (by decide) ?_
      refine j_iload C 27 rfl 4 dX2_sectorsOfSort_25 rfl ?_
      refine j_ishl C 28 rfl dX2_sectorsOfSort_27 ?_
      refine j_ior C 29 rfl dX2_sectorsOfSort_28 ?_
      refine j_top (fun n3 en3 => ?_)
      have hw := hw n3 en3
      refine j_istore_n C 30 rfl [1, 2, 3, 0, 4] (lv' := [(0, .ref a_this), (1, .int x1), (2, .int x2), (3, .int n3), (4, .int x4)]) dX2_sectorsOfSort_29 rfl (by decide) rfl ?_
      refine j_iinc C 33 rfl 4 [1, 2, 3, 4, 0] (v' := (1 : Int32)) (lv' := fun z => [(0, .ref a_this), (1, .int x1), (2, .int x2), (3, .int n3), (4, .int z)]) dX2_sectorsOfSort_30 rfl (by decide) (by decide) (fun _ => rfl) (fun n4 en4 => ?_)
      have hw := hw n4 en4
      refine j_goto C 5 dX2_sectorsOfSort_33 rfl ?_
      exact hL5 _ _ hw
set_option maxRecDepth 20000 in
set_option maxHeartbeats 4000000 in
theorem c_X2_sectorsOf (l : Launch) (g : gE) (a_this a_sorts a_owners a_worths a_gave : Nat) (v_generation : Int32) (v_toll : Int32) (f_owners : (Nat → Int32)) (x1 : Int32)  (K : Int32 → Prop) (hw : wp_X2_sectorsOf v_generation f_owners x1 K) : Ci l g yX2_sectorsOf wsX2_sectorsOf { frames := 2, cells := 0, slots := 0, locals := 43 } [.ref a_this, .int x1] [(a_this, .inr (2, [.ref a_sorts, .ref a_owners, .ref a_worths, .ref a_gave, .int v_generation, .int v_toll])), (a_owners, gI g 504 f_owners)] (fun (r : Int32) (_ : Unit) => K r) (fun (_ : Unit) => [(a_this, .inr (2, [.ref a_sorts, .ref a_owners, .ref a_worths, .ref a_gave, .int v_generation, .int v_toll])), (a_owners, gI g 504 f_owners)]) 0 0 := by
  refine Ci_of (cc := cX2_sectorsOf) (nL := 4) (ret := (some .int)) (own := RX2) (lv0 := [(0, .ref a_this), (1, .int x1)]) (by decide +kernel) rfl rfl (Nat.le_of_ble_eq_true rfl) rfl (fun A x C R => ?_)
  refine j_iconst C 1 rfl dX2_sectorsOf_0 (v := (0 : Int32)) (by decide) ?_
  refine j_istore_n C 2 rfl [1, 2, 0] (lv' := [(0, .ref a_this), (1, .int x1), (2, .int (0 : Int32))]) dX2_sectorsOf_1 rfl (by decide) rfl ?_
  refine j_iconst C 3 rfl dX2_sectorsOf_2 (v := (0 : Int32)) (by decide) ?_
  refine j_istore_n C 4 rfl [1, 2, 3, 0] (lv' := [(0, .ref a_this), (1, .int x1), (2, .int (0 : Int32)), (3, .int (0 : Int32))]) dX2_sectorsOf_3 rfl (by decide) rfl ?_
  refine lpW2_ind (G := fun x2 x3 => J l g A x 4 0 0 4 [(0, .ref a_this), (1, .int x1), (2, .int x2), (3, .int x3)] [] [(a_this, .inr (2, [.ref a_sorts, .ref a_owners, .ref a_worths, .ref a_gave, .int v_generation, .int v_toll])), (a_owners, gI g 504 f_owners)]) (fun L4 x2 x3 hL4 hw => ?_) _ _ hw
  refine j_iload_n C 5 rfl 3 dX2_sectorsOf_4 rfl rfl ?_
  refine j_bipush C 7 rfl dX2_sectorsOf_5 (v := (24 : Int32)) (by decide) ?_
  refine j_icmp_ge C 10 rfl 31 dX2_sectorsOf_7 rfl (fun c => ?_) (fun c => ?_)
  · have hw := hw.1 c
    refine j_iload_n C 32 rfl 2 dX2_sectorsOf_31 rfl rfl ?_
    exact j_iret C R () rfl dX2_sectorsOf_32 rfl hw
  · have hw := hw.2 c
    refine j_aload_n C 11 rfl 0 dX2_sectorsOf_10 rfl rfl ?_
    refine j_iload_n C 12 rfl 3 dX2_sectorsOf_11 rfl rfl ?_
    refine j_ri C 15 rfl (jc_V C (c_X2_ownerOf l g a_this a_sorts a_owners a_worths a_gave v_generation v_toll f_owners x3 _ hw) 1 gX2_sectorsOf_X2_ownerOf rfl rfl rfl hd_X2_ownerOf ⟨Nat.le_of_ble_eq_true rfl, Nat.le_of_ble_eq_true rfl⟩ (j_rec C 0 2 rfl rfl) [0, 1] rfl rfl (rest := []) rfl rfl (Nat.le_of_ble_eq_true rfl) dX2_sectorsOf_12 ⟨Nat.le_refl _, Nat.le_refl _⟩) [0, 1] rfl (fun _ => rfl) (fun r1 _ hw => ?_)
    try dsimp only at hw
    refine j_iload_n C 16 rfl 1 dX2_sectorsOf_15 rfl rfl ?_
    refine j_icmp_ne C 19 rfl 25 dX2_sectorsOf_16 rfl (fun c => ?_) (fun c => ?_)
    · have hw := hw.1 c
      refine j_iinc C 28 rfl 3 [1, 2, 3, 0] (v' := (1 : Int32)) (lv' := fun z => [(0, .ref a_this), (1, .int x1), (2, .int x2), (3, .int z)]) dX2_sectorsOf_25 rfl (by decide) (by decide) (fun _ => rfl) (fun n2 en2 => ?_)
      have hw := hw n2 en2
      refine j_goto C 4 dX2_sectorsOf_28 rfl ?_
      exact hL4 _ _ hw
    · have hw := hw.2 c
      refine j_iload_n C 20 rfl 2 dX2_sectorsOf_19 rfl rfl ?_
      refine j_iconst C 21 rfl dX2_sectorsOf_20 (v := (1 : Int32)) (by decide) ?_
      refine j_iload_n C 22 rfl 3 dX2_sectorsOf_21 rfl rfl ?_
      refine j_ishl C 23 rfl dX2_sectorsOf_22 ?_
      refine j_ior C 24 rfl dX2_sectorsOf_23 ?_
      refine j_top (fun n3 en3 => ?_)
      have hw := hw n3 en3
      refine j_istore_n C 25 rfl [1, 2, 0, 3] (lv' := [(0, .ref a_this), (1, .int x1), (2, .int n3), (3, .int x3)]) dX2_sectorsOf_24 rfl (by decide) rfl ?_
      refine j_iinc C 28 rfl 3 [1, 2, 3, 0] (v' := (1 : Int32)) (lv' := fun z => [(0, .ref a_this), (1, .int x1), (2, .int n3), (3, .int z)]) dX2_sectorsOf_25 rfl (by decide) (by decide) (fun _ => rfl) (fun n4 en4 => ?_)
      have hw := hw n4 en4
      refine j_goto C 4 dX2_sectorsOf_28 rfl ?_
      exact hL4 _ _ hw
set_option maxRecDepth 20000 in
set_option maxHeartbeats 4000000 in
theorem c_X2_ownersOf (l : Launch) (g : gE) (a_this a_sorts a_owners a_worths a_gave : Nat) (v_generation : Int32) (v_toll : Int32) (f_owners : (Nat → Int32)) (x1 : Int32)  (K : Int32 → Prop) (hw : wp_X2_ownersOf v_generation f_owners x1 K) : Ci l g yX2_ownersOf wsX2_ownersOf { frames := 2, cells := 0, slots := 0, locals := 43 } [.ref a_this, .int x1] [(a_this, .inr (2, [.ref a_sorts, .ref a_owners, .ref a_worths, .ref a_gave, .int v_generation, .int v_toll])), (a_owners, gI g 504 f_owners)] (fun (r : Int32) (_ : Unit) => K r) (fun (_ : Unit) => [(a_this, .inr (2, [.ref a_sorts, .ref a_owners, .ref a_worths, .ref a_gave, .int v_generation, .int v_toll])), (a_owners, gI g 504 f_owners)]) 0 0 := by
  refine Ci_of (cc := cX2_ownersOf) (nL := 4) (ret := (some .int)) (own := RX2) (lv0 := [(0, .ref a_this), (1, .int x1)]) (by decide +kernel) rfl rfl (Nat.le_of_ble_eq_true rfl) rfl (fun A x C R => ?_)
  refine j_iconst C 1 rfl dX2_ownersOf_0 (v := (0 : Int32)) (by decide) ?_
  refine j_istore_n C 2 rfl [1, 2, 0] (lv' := [(0, .ref a_this), (1, .int x1), (2, .int (0 : Int32))]) dX2_ownersOf_1 rfl (by decide) rfl ?_
  refine j_iconst C 3 rfl dX2_ownersOf_2 (v := (0 : Int32)) (by decide) ?_
  refine j_istore_n C 4 rfl [1, 2, 3, 0] (lv' := [(0, .ref a_this), (1, .int x1), (2, .int (0 : Int32)), (3, .int (0 : Int32))]) dX2_ownersOf_3 rfl (by decide) rfl ?_
  refine lpW2_ind (G := fun x2 x3 => J l g A x 4 0 0 4 [(0, .ref a_this), (1, .int x1), (2, .int x2), (3, .int x3)] [] [(a_this, .inr (2, [.ref a_sorts, .ref a_owners, .ref a_worths, .ref a_gave, .int v_generation, .int v_toll])), (a_owners, gI g 504 f_owners)]) (fun L4 x2 x3 hL4 hw => ?_) _ _ hw
  refine j_iload_n C 5 rfl 3 dX2_ownersOf_4 rfl rfl ?_
  refine j_bipush C 7 rfl dX2_ownersOf_5 (v := (24 : Int32)) (by decide) ?_
  refine j_icmp_ge C 10 rfl 34 dX2_ownersOf_7 rfl (fun c => ?_) (fun c => ?_)
  · have hw := hw.1 c
    refine j_iload_n C 35 rfl 2 dX2_ownersOf_34 rfl rfl ?_
    exact j_iret C R () rfl dX2_ownersOf_35 rfl hw
  · have hw := hw.2 c
    refine j_iload_n C 11 rfl 1 dX2_ownersOf_10 rfl rfl ?_
    refine j_iload_n C 12 rfl 3 dX2_ownersOf_11 rfl rfl ?_
    refine j_ishr C 13 rfl dX2_ownersOf_12 ?_
    refine j_iconst C 14 rfl dX2_ownersOf_13 (v := (1 : Int32)) (by decide) ?_
    refine j_iand C 15 rfl dX2_ownersOf_14 ?_
    refine j_if_eq C 18 rfl 28 dX2_ownersOf_15 rfl (fun c => ?_) (fun c => ?_)
    · have hw := hw.1 c
      refine j_iinc C 31 rfl 3 [1, 2, 3, 0] (v' := (1 : Int32)) (lv' := fun z => [(0, .ref a_this), (1, .int x1), (2, .int x2), (3, .int z)]) dX2_ownersOf_28 rfl (by decide) (by decide) (fun _ => rfl) (fun n1 en1 => ?_)
      have hw := hw n1 en1
      refine j_goto C 4 dX2_ownersOf_31 rfl ?_
      exact hL4 _ _ hw
    · have hw := hw.2 c
      refine j_iload_n C 19 rfl 2 dX2_ownersOf_18 rfl rfl ?_
      refine j_iconst C 20 rfl dX2_ownersOf_19 (v := (1 : Int32)) (by decide) ?_
      refine j_aload_n C 21 rfl 0 dX2_ownersOf_20 rfl rfl ?_
      refine j_iload_n C 22 rfl 3 dX2_ownersOf_21 rfl rfl ?_
      refine j_ri C 25 rfl (jc_V C (c_X2_ownerOf l g a_this a_sorts a_owners a_worths a_gave v_generation v_toll f_owners x3 _ hw) 1 gX2_ownersOf_X2_ownerOf rfl rfl rfl hd_X2_ownerOf ⟨Nat.le_of_ble_eq_true rfl, Nat.le_of_ble_eq_true rfl⟩ (j_rec C 0 2 rfl rfl) [0, 1] rfl rfl (rest := [.int (1 : Int32), .int x2]) rfl rfl (Nat.le_of_ble_eq_true rfl) dX2_ownersOf_22 ⟨Nat.le_refl _, Nat.le_refl _⟩) [0, 1] rfl (fun _ => rfl) (fun r2 _ hw => ?_)
      try dsimp only at hw
      refine j_ishl C 26 rfl dX2_ownersOf_25 ?_
      refine j_ior C 27 rfl dX2_ownersOf_26 ?_
      refine j_top (fun n3 en3 => ?_)
      have hw := hw n3 en3
      refine j_istore_n C 28 rfl [1, 2, 0, 3] (lv' := [(0, .ref a_this), (1, .int x1), (2, .int n3), (3, .int x3)]) dX2_ownersOf_27 rfl (by decide) rfl ?_
      refine j_iinc C 31 rfl 3 [1, 2, 3, 0] (v' := (1 : Int32)) (lv' := fun z => [(0, .ref a_this), (1, .int x1), (2, .int n3), (3, .int z)]) dX2_ownersOf_28 rfl (by decide) (by decide) (fun _ => rfl) (fun n4 en4 => ?_)
      have hw := hw n4 en4
      refine j_goto C 4 dX2_ownersOf_31 rfl ?_
      exact hL4 _ _ hw
theorem hi_X2_setSlices_X2 : ∀ w ∈ wsX20, w ∈ wsX2_setSlices := fun _ h => List.mem_cons_of_mem _ (List.mem_append_right _ h)
set_option maxRecDepth 20000 in
set_option maxHeartbeats 4000000 in
theorem c_X2_setSlices (l : Launch) (g : gE) (a_this a_sorts a_owners a_worths a_gave a_p1 : Nat) (v_generation : Int32) (v_toll : Int32) (f_owners : (Nat → Int32)) (f_p1 : (Nat → Int32))   (K : Int32 → (Nat → Int32) → Prop) (hw : wp_X2_setSlices v_generation f_owners f_p1 K) : Cv l g yX2_setSlices wsX2_setSlices { frames := 1, cells := 0, slots := 0, locals := 60 } [.ref a_this, .ref a_p1] [(a_this, .inr (2, [.ref a_sorts, .ref a_owners, .ref a_worths, .ref a_gave, .int v_generation, .int v_toll])), (a_owners, gI g 504 f_owners), (a_p1, gI g 24 f_p1)] (fun (u : Int32 × (Nat → Int32)) => K u.1 u.2) (fun (u : Int32 × (Nat → Int32)) => [(a_this, .inr (2, [.ref a_sorts, .ref a_owners, .ref a_worths, .ref a_gave, .int (u.1), .int v_toll])), (a_owners, gI g 504 (u.2)), (a_p1, gI g 24 f_p1)]) 0 0 := by
  refine Cv_of (cc := cX2_setSlices) (nL := 2) (ret := none) (own := RX2) (lv0 := [(0, .ref a_this), (1, .ref a_p1)]) (by decide +kernel) rfl rfl (Nat.le_of_ble_eq_true rfl) rfl (fun A x C R => ?_)
  refine j_aload_n C 1 rfl 0 dX2_setSlices_0 rfl rfl ?_
  refine j_iconst C 2 rfl dX2_setSlices_1 (v := (0 : Int32)) (by decide) ?_
  refine j_put C 5 rfl 0 2 4 (ws' := [(a_this, .inr (2, [.ref a_sorts, .ref a_owners, .ref a_worths, .ref a_gave, .int (0 : Int32), .int v_toll])), (a_owners, gI g 504 f_owners), (a_p1, gI g 24 f_p1)]) (T := TX2) (N := 6) (ty := .int) tyX2_ok nmX2 hi_X2_setSlices_X2 rfl (by decide) (List.mem_of_getElem? (i := 1) rfl) rfl rfl rfl rfl rfl rfl (Nat.le_of_ble_eq_true rfl) rfl dX2_setSlices_2 ?_
  refine j_aload_n C 6 rfl 1 dX2_setSlices_5 rfl rfl ?_
  refine j_iconst C 7 rfl dX2_setSlices_6 (v := (0 : Int32)) (by decide) ?_
  refine j_aload_n C 8 rfl 0 dX2_setSlices_7 rfl rfl ?_
  refine j_get C 11 rfl 0 2 1 (T := TX2) (N := 6) hi_X2_setSlices_X2 rfl (by decide) (List.mem_of_getElem? (i := 2) rfl) rfl rfl rfl dX2_setSlices_8 ?_
  refine j_iconst C 12 rfl dX2_setSlices_11 (v := (0 : Int32)) (by decide) ?_
  refine j_bipush C 14 rfl dX2_setSlices_12 (v := (24 : Int32)) (by decide) ?_
  obtain ⟨sk1, dk1, nk1, e1, e2, e3, e4, e5, hw⟩ := hw
  refine j_copy C 17 rfl 2 1 sk1 dk1 nk1 (ws' := [(a_this, .inr (2, [.ref a_sorts, .ref a_owners, .ref a_worths, .ref a_gave, .int (0 : Int32), .int v_toll])), (a_owners, gI g 504 (va_cpy f_p1 f_owners sk1 dk1 nk1)), (a_p1, gI g 24 f_p1)]) (List.mem_of_getElem? (i := 3) rfl) (List.mem_of_getElem? (i := 4) rfl) (List.mem_of_getElem? (i := 5) rfl) (List.mem_of_getElem? (i := 6) rfl) rfl rfl e1 e2 e3 e4 e5 (by decide) (by decide) (by decide) (Nat.le_of_ble_eq_true rfl) rfl dX2_setSlices_14 ?_
  exact j_vret C R ((0 : Int32), va_cpy f_p1 f_owners sk1 dk1 nk1) dX2_setSlices_17 rfl hw
theorem hi_X2_beginGeneration_X2 : ∀ w ∈ wsX20, w ∈ wsX2_beginGeneration := fun _ h => List.mem_cons_of_mem _ (List.mem_append_right _ h)
set_option maxRecDepth 20000 in
set_option maxHeartbeats 4000000 in
theorem c_X2_beginGeneration (l : Launch) (g : gE) (a_this a_sorts a_owners a_worths a_gave : Nat) (v_generation : Int32) (v_toll : Int32) (f_owners : (Nat → Int32))   (K : Int32 → (Nat → Int32) → Prop) (hw : wp_X2_beginGeneration v_generation f_owners K) : Cv l g yX2_beginGeneration wsX2_beginGeneration { frames := 1, cells := 0, slots := 0, locals := 60 } [.ref a_this] [(a_this, .inr (2, [.ref a_sorts, .ref a_owners, .ref a_worths, .ref a_gave, .int v_generation, .int v_toll])), (a_owners, gI g 504 f_owners)] (fun (u : Int32 × (Nat → Int32)) => K u.1 u.2) (fun (u : Int32 × (Nat → Int32)) => [(a_this, .inr (2, [.ref a_sorts, .ref a_owners, .ref a_worths, .ref a_gave, .int (u.1), .int v_toll])), (a_owners, gI g 504 (u.2))]) 0 0 := by
  refine Cv_of (cc := cX2_beginGeneration) (nL := 1) (ret := none) (own := RX2) (lv0 := [(0, .ref a_this)]) (by decide +kernel) rfl rfl (Nat.le_of_ble_eq_true rfl) rfl (fun A x C R => ?_)
  refine j_aload_n C 1 rfl 0 dX2_beginGeneration_0 rfl rfl ?_
  refine j_get C 4 rfl 0 2 1 (T := TX2) (N := 6) hi_X2_beginGeneration_X2 rfl (by decide) (List.mem_of_getElem? (i := 1) rfl) rfl rfl rfl dX2_beginGeneration_1 ?_
  refine j_aload_n C 5 rfl 0 dX2_beginGeneration_4 rfl rfl ?_
  refine j_get C 8 rfl 0 2 4 (T := TX2) (N := 6) hi_X2_beginGeneration_X2 rfl (by decide) (List.mem_of_getElem? (i := 2) rfl) rfl rfl rfl dX2_beginGeneration_5 ?_
  refine j_bipush C 10 rfl dX2_beginGeneration_8 (v := (24 : Int32)) (by decide) ?_
  refine j_imul C 11 rfl dX2_beginGeneration_10 ?_
  refine j_aload_n C 12 rfl 0 dX2_beginGeneration_11 rfl rfl ?_
  refine j_get C 15 rfl 0 2 1 (T := TX2) (N := 6) hi_X2_beginGeneration_X2 rfl (by decide) (List.mem_of_getElem? (i := 1) rfl) rfl rfl rfl dX2_beginGeneration_12 ?_
  refine j_aload_n C 16 rfl 0 dX2_beginGeneration_15 rfl rfl ?_
  refine j_get C 19 rfl 0 2 4 (T := TX2) (N := 6) hi_X2_beginGeneration_X2 rfl (by decide) (List.mem_of_getElem? (i := 2) rfl) rfl rfl rfl dX2_beginGeneration_16 ?_
  refine j_iconst C 20 rfl dX2_beginGeneration_19 (v := (1 : Int32)) (by decide) ?_
  refine j_iadd C 21 rfl dX2_beginGeneration_20 ?_
  refine j_bipush C 23 rfl dX2_beginGeneration_21 (v := (24 : Int32)) (by decide) ?_
  refine j_imul C 24 rfl dX2_beginGeneration_23 ?_
  refine j_bipush C 26 rfl dX2_beginGeneration_24 (v := (24 : Int32)) (by decide) ?_
  obtain ⟨sk1, dk1, nk1, e1, e2, e3, e4, e5, hw⟩ := hw
  refine j_copy C 29 rfl 1 1 sk1 dk1 nk1 (ws' := [(a_this, .inr (2, [.ref a_sorts, .ref a_owners, .ref a_worths, .ref a_gave, .int v_generation, .int v_toll])), (a_owners, gI g 504 (va_cpy f_owners f_owners sk1 dk1 nk1))]) (List.mem_of_getElem? (i := 3) rfl) (List.mem_of_getElem? (i := 4) rfl) (List.mem_of_getElem? (i := 5) rfl) (List.mem_of_getElem? (i := 6) rfl) rfl rfl e1 e2 e3 e4 e5 (by decide) (by decide) (by decide) (Nat.le_of_ble_eq_true rfl) rfl dX2_beginGeneration_26 ?_
  refine j_aload_n C 30 rfl 0 dX2_beginGeneration_29 rfl rfl ?_
  refine j_dup C 31 rfl dX2_beginGeneration_30 rfl ?_
  refine j_get C 34 rfl 0 2 4 (T := TX2) (N := 6) hi_X2_beginGeneration_X2 rfl (by decide) (List.mem_of_getElem? (i := 2) rfl) rfl rfl rfl dX2_beginGeneration_31 ?_
  refine j_iconst C 35 rfl dX2_beginGeneration_34 (v := (1 : Int32)) (by decide) ?_
  refine j_iadd C 36 rfl dX2_beginGeneration_35 ?_
  refine j_top (fun n2 en2 => ?_)
  have hw := hw n2 en2
  refine j_put C 39 rfl 0 2 4 (ws' := [(a_this, .inr (2, [.ref a_sorts, .ref a_owners, .ref a_worths, .ref a_gave, .int n2, .int v_toll])), (a_owners, gI g 504 (va_cpy f_owners f_owners sk1 dk1 nk1))]) (T := TX2) (N := 6) (ty := .int) tyX2_ok nmX2 hi_X2_beginGeneration_X2 rfl (by decide) (List.mem_of_getElem? (i := 2) rfl) rfl rfl rfl rfl rfl rfl (Nat.le_of_ble_eq_true rfl) rfl dX2_beginGeneration_36 ?_
  exact j_vret C R (n2, va_cpy f_owners f_owners sk1 dk1 nk1) dX2_beginGeneration_39 rfl hw
theorem hi_X2_give_X2 : ∀ w ∈ wsX20, w ∈ wsX2_give := fun _ h => List.mem_cons_of_mem _ (List.mem_append_right _ h)
set_option maxRecDepth 20000 in
set_option maxHeartbeats 4000000 in
theorem c_X2_give (l : Launch) (g : gE) (a_this a_sorts a_owners a_worths a_gave : Nat) (v_generation : Int32) (v_toll : Int32) (f_owners : (Nat → Int32)) (x1 : Int32) (x2 : Int32)  (K : (Nat → Int32) → Prop) (hw : wp_X2_give v_generation f_owners x1 x2 K) : Cv l g yX2_give wsX2_give { frames := 0, cells := 0, slots := 0, locals := 0 } [.ref a_this, .int x1, .int x2] [(a_this, .inr (2, [.ref a_sorts, .ref a_owners, .ref a_worths, .ref a_gave, .int v_generation, .int v_toll])), (a_owners, gI g 504 f_owners)] (fun (u : (Nat → Int32)) => K u) (fun (u : (Nat → Int32)) => [(a_this, .inr (2, [.ref a_sorts, .ref a_owners, .ref a_worths, .ref a_gave, .int v_generation, .int v_toll])), (a_owners, gI g 504 u)]) 0 0 := by
  refine Cv_of (cc := cX2_give) (nL := 3) (ret := none) (own := RX2) (lv0 := [(0, .ref a_this), (1, .int x1), (2, .int x2)]) (by decide +kernel) rfl rfl (Nat.le_of_ble_eq_true rfl) rfl (fun A x C R => ?_)
  refine j_aload_n C 1 rfl 0 dX2_give_0 rfl rfl ?_
  refine j_get C 4 rfl 0 2 1 (T := TX2) (N := 6) hi_X2_give_X2 rfl (by decide) (List.mem_of_getElem? (i := 1) rfl) rfl rfl rfl dX2_give_1 ?_
  refine j_aload_n C 5 rfl 0 dX2_give_4 rfl rfl ?_
  refine j_get C 8 rfl 0 2 4 (T := TX2) (N := 6) hi_X2_give_X2 rfl (by decide) (List.mem_of_getElem? (i := 2) rfl) rfl rfl rfl dX2_give_5 ?_
  refine j_bipush C 10 rfl dX2_give_8 (v := (24 : Int32)) (by decide) ?_
  refine j_imul C 11 rfl dX2_give_10 ?_
  refine j_iload_n C 12 rfl 1 dX2_give_11 rfl rfl ?_
  refine j_iadd C 13 rfl dX2_give_12 ?_
  refine j_iload_n C 14 rfl 2 dX2_give_13 rfl rfl ?_
  obtain ⟨k1, ek1, hk1, hw⟩ := hw
  refine j_iast C 15 rfl 1 k1 (ws' := [(a_this, .inr (2, [.ref a_sorts, .ref a_owners, .ref a_worths, .ref a_gave, .int v_generation, .int v_toll])), (a_owners, gI g 504 (upd f_owners k1 x2))]) rfl ek1 hk1 (by decide) rfl dX2_give_14 ?_
  exact j_vret C R (upd f_owners k1 x2) dX2_give_15 rfl hw
set_option maxRecDepth 20000 in
set_option maxHeartbeats 4000000 in
theorem c_X2_giveAway (l : Launch) (g : gE) (a_this a_sorts a_owners a_worths a_gave a_p2 : Nat) (v_generation : Int32) (v_toll : Int32) (f_owners : (Nat → Int32)) (f_p2 : (Nat → Int32)) (x1 : Int32)  (K : (Nat → Int32) → Prop) (hw : wp_X2_giveAway v_generation f_owners f_p2 x1 K) : Cv l g yX2_giveAway wsX2_giveAway { frames := 2, cells := 0, slots := 0, locals := 43 } [.ref a_this, .int x1, .ref a_p2] [(a_this, .inr (2, [.ref a_sorts, .ref a_owners, .ref a_worths, .ref a_gave, .int v_generation, .int v_toll])), (a_owners, gI g 504 f_owners), (a_p2, gI g 24 f_p2)] (fun (u : (Nat → Int32)) => K u) (fun (u : (Nat → Int32)) => [(a_this, .inr (2, [.ref a_sorts, .ref a_owners, .ref a_worths, .ref a_gave, .int v_generation, .int v_toll])), (a_owners, gI g 504 u), (a_p2, gI g 24 f_p2)]) 0 0 := by
  refine Cv_of (cc := cX2_giveAway) (nL := 5) (ret := none) (own := RX2) (lv0 := [(0, .ref a_this), (1, .int x1), (2, .ref a_p2)]) (by decide +kernel) rfl rfl (Nat.le_of_ble_eq_true rfl) rfl (fun A x C R => ?_)
  refine j_iconst C 1 rfl dX2_giveAway_0 (v := (0 : Int32)) (by decide) ?_
  refine j_istore_n C 2 rfl [1, 2, 3, 0] (lv' := [(0, .ref a_this), (1, .int x1), (2, .ref a_p2), (3, .int (0 : Int32))]) dX2_giveAway_1 rfl (by decide) rfl ?_
  refine j_iconst C 3 rfl dX2_giveAway_2 (v := (0 : Int32)) (by decide) ?_
  refine j_istore C 5 rfl [1, 2, 3, 4, 0] (lv' := [(0, .ref a_this), (1, .int x1), (2, .ref a_p2), (3, .int (0 : Int32)), (4, .int (0 : Int32))]) dX2_giveAway_3 (by decide) rfl ?_
  refine lpW3_ind (G := fun x3 x4 f_owners => J l g A x 5 0 0 5 [(0, .ref a_this), (1, .int x1), (2, .ref a_p2), (3, .int x3), (4, .int x4)] [] [(a_this, .inr (2, [.ref a_sorts, .ref a_owners, .ref a_worths, .ref a_gave, .int v_generation, .int v_toll])), (a_owners, gI g 504 f_owners), (a_p2, gI g 24 f_p2)]) (fun L5 x3 x4 f_owners hL5 hw => ?_) _ _ _ hw
  refine j_iload C 7 rfl 4 dX2_giveAway_5 rfl ?_
  refine j_bipush C 9 rfl dX2_giveAway_7 (v := (24 : Int32)) (by decide) ?_
  refine j_icmp_ge C 12 rfl 40 dX2_giveAway_9 rfl (fun c => ?_) (fun c => ?_)
  · have hw := hw.1 c
    exact j_vret C R (f_owners) dX2_giveAway_40 rfl hw
  · have hw := hw.2 c
    refine j_aload_n C 13 rfl 0 dX2_giveAway_12 rfl rfl ?_
    refine j_iload C 15 rfl 4 dX2_giveAway_13 rfl ?_
    refine j_ri C 18 rfl (jc_V C (c_X2_ownerOf l g a_this a_sorts a_owners a_worths a_gave v_generation v_toll f_owners x4 _ hw) 1 gX2_giveAway_X2_ownerOf rfl rfl rfl hd_X2_ownerOf ⟨Nat.le_of_ble_eq_true rfl, Nat.le_of_ble_eq_true rfl⟩ (j_rec C 0 2 rfl rfl) [0, 1] rfl rfl (rest := []) rfl rfl (Nat.le_of_ble_eq_true rfl) dX2_giveAway_15 ⟨Nat.le_refl _, Nat.le_refl _⟩) [0, 1] rfl (fun _ => rfl) (fun r1 _ hw => ?_)
    try dsimp only at hw
    refine j_iload_n C 19 rfl 1 dX2_giveAway_18 rfl rfl ?_
    refine j_icmp_ne C 22 rfl 34 dX2_giveAway_19 rfl (fun c => ?_) (fun c => ?_)
    · have hw := hw.1 c
      refine j_iinc C 37 rfl 4 [1, 2, 3, 4, 0] (v' := (1 : Int32)) (lv' := fun z => [(0, .ref a_this), (1, .int x1), (2, .ref a_p2), (3, .int x3), (4, .int z)]) dX2_giveAway_34 rfl (by decide) (by decide) (fun _ => rfl) (fun n2 en2 => ?_)
      have hw := hw n2 en2
      refine j_goto C 5 dX2_giveAway_37 rfl ?_
      exact hL5 _ _ _ hw
    · have hw := hw.2 c
      refine j_aload_n C 23 rfl 0 dX2_giveAway_22 rfl rfl ?_
      refine j_iload C 25 rfl 4 dX2_giveAway_23 rfl ?_
      refine j_aload_n C 26 rfl 2 dX2_giveAway_25 rfl rfl ?_
      refine j_iload_n C 27 rfl 3 dX2_giveAway_26 rfl rfl ?_
      obtain ⟨k3, ek3, hk3, hw⟩ := hw
      refine j_iald C 28 rfl 2 k3 rfl ek3 hk3 (by decide) dX2_giveAway_27 ?_
      refine j_top (fun n4 en4 => ?_)
      have hw := hw n4 en4
      refine j_rwv C 31 rfl (jc_V C (c_X2_give l g a_this a_sorts a_owners a_worths a_gave v_generation v_toll f_owners x4 n4 _ hw) 2 gX2_giveAway_X2_give rfl rfl rfl hd_X2_give ⟨Nat.le_of_ble_eq_true rfl, Nat.le_of_ble_eq_true rfl⟩ (j_rec C 0 2 rfl rfl) [0, 1] rfl rfl (rest := []) rfl rfl (Nat.le_of_ble_eq_true rfl) dX2_giveAway_28 ⟨Nat.le_refl _, Nat.le_refl _⟩) [0, 1] [2] [1, 2, 0] (wr := [(a_p2, gI g 24 f_p2)]) (ws' := fun u => [(a_this, .inr (2, [.ref a_sorts, .ref a_owners, .ref a_worths, .ref a_gave, .int v_generation, .int v_toll])), (a_owners, gI g 504 u), (a_p2, gI g 24 f_p2)]) rfl rfl rfl (by decide) rfl (fun _ => rfl) (fun u hw => ?_)
      obtain ⟨u5, eu5⟩ : ∃ z, z = u := ⟨_, rfl⟩
      subst eu5
      try dsimp only at hw
      show J l g A x 5 0 0 31 [(0, .ref a_this), (1, .int x1), (2, .ref a_p2), (3, .int x3), (4, .int x4)] [] [(a_this, .inr (2, [.ref a_sorts, .ref a_owners, .ref a_worths, .ref a_gave, .int v_generation, .int v_toll])), (a_owners, gI g 504 u5), (a_p2, gI g 24 f_p2)]
      refine j_iinc C 34 rfl 3 [1, 2, 3, 0, 4] (v' := (1 : Int32)) (lv' := fun z => [(0, .ref a_this), (1, .int x1), (2, .ref a_p2), (3, .int z), (4, .int x4)]) dX2_giveAway_31 rfl (by decide) (by decide) (fun _ => rfl) (fun n6 en6 => ?_)
      have hw := hw n6 en6
      refine j_iinc C 37 rfl 4 [1, 2, 3, 4, 0] (v' := (1 : Int32)) (lv' := fun z => [(0, .ref a_this), (1, .int x1), (2, .ref a_p2), (3, .int n6), (4, .int z)]) dX2_giveAway_34 rfl (by decide) (by decide) (fun _ => rfl) (fun n7 en7 => ?_)
      have hw := hw n7 en7
      refine j_goto C 5 dX2_giveAway_37 rfl ?_
      exact hL5 _ _ _ hw
set_option maxRecDepth 20000 in
set_option maxHeartbeats 4000000 in
theorem c_X2_join (l : Launch) (g : gE) (a_this a_sorts a_owners a_worths a_gave : Nat) (v_generation : Int32) (v_toll : Int32) (f_owners : (Nat → Int32)) (x1 : Int32) (x2 : Int32)  (K : (Nat → Int32) → Prop) (hw : wp_X2_join v_generation f_owners x1 x2 K) : Cv l g yX2_join wsX2_join { frames := 2, cells := 0, slots := 0, locals := 43 } [.ref a_this, .int x1, .int x2] [(a_this, .inr (2, [.ref a_sorts, .ref a_owners, .ref a_worths, .ref a_gave, .int v_generation, .int v_toll])), (a_owners, gI g 504 f_owners)] (fun (u : (Nat → Int32)) => K u) (fun (u : (Nat → Int32)) => [(a_this, .inr (2, [.ref a_sorts, .ref a_owners, .ref a_worths, .ref a_gave, .int v_generation, .int v_toll])), (a_owners, gI g 504 u)]) 0 0 := by
  refine Cv_of (cc := cX2_join) (nL := 4) (ret := none) (own := RX2) (lv0 := [(0, .ref a_this), (1, .int x1), (2, .int x2)]) (by decide +kernel) rfl rfl (Nat.le_of_ble_eq_true rfl) rfl (fun A x C R => ?_)
  refine j_iconst C 1 rfl dX2_join_0 (v := (0 : Int32)) (by decide) ?_
  refine j_istore_n C 2 rfl [1, 2, 3, 0] (lv' := [(0, .ref a_this), (1, .int x1), (2, .int x2), (3, .int (0 : Int32))]) dX2_join_1 rfl (by decide) rfl ?_
  refine lpW2_ind (G := fun x3 f_owners => J l g A x 4 0 0 2 [(0, .ref a_this), (1, .int x1), (2, .int x2), (3, .int x3)] [] [(a_this, .inr (2, [.ref a_sorts, .ref a_owners, .ref a_worths, .ref a_gave, .int v_generation, .int v_toll])), (a_owners, gI g 504 f_owners)]) (fun L2 x3 f_owners hL2 hw => ?_) _ _ hw
  refine j_iload_n C 3 rfl 3 dX2_join_2 rfl rfl ?_
  refine j_bipush C 5 rfl dX2_join_3 (v := (24 : Int32)) (by decide) ?_
  refine j_icmp_ge C 8 rfl 29 dX2_join_5 rfl (fun c => ?_) (fun c => ?_)
  · have hw := hw.1 c
    exact j_vret C R (f_owners) dX2_join_29 rfl hw
  · have hw := hw.2 c
    refine j_aload_n C 9 rfl 0 dX2_join_8 rfl rfl ?_
    refine j_iload_n C 10 rfl 3 dX2_join_9 rfl rfl ?_
    refine j_ri C 13 rfl (jc_V C (c_X2_ownerOf l g a_this a_sorts a_owners a_worths a_gave v_generation v_toll f_owners x3 _ hw) 1 gX2_join_X2_ownerOf rfl rfl rfl hd_X2_ownerOf ⟨Nat.le_of_ble_eq_true rfl, Nat.le_of_ble_eq_true rfl⟩ (j_rec C 0 2 rfl rfl) [0, 1] rfl rfl (rest := []) rfl rfl (Nat.le_of_ble_eq_true rfl) dX2_join_10 ⟨Nat.le_refl _, Nat.le_refl _⟩) [0, 1] rfl (fun _ => rfl) (fun r1 _ hw => ?_)
    try dsimp only at hw
    refine j_iload_n C 14 rfl 2 dX2_join_13 rfl rfl ?_
    refine j_icmp_ne C 17 rfl 23 dX2_join_14 rfl (fun c => ?_) (fun c => ?_)
    · have hw := hw.1 c
      refine j_iinc C 26 rfl 3 [1, 2, 3, 0] (v' := (1 : Int32)) (lv' := fun z => [(0, .ref a_this), (1, .int x1), (2, .int x2), (3, .int z)]) dX2_join_23 rfl (by decide) (by decide) (fun _ => rfl) (fun n2 en2 => ?_)
      have hw := hw n2 en2
      refine j_goto C 2 dX2_join_26 rfl ?_
      exact hL2 _ _ hw
    · have hw := hw.2 c
      refine j_aload_n C 18 rfl 0 dX2_join_17 rfl rfl ?_
      refine j_iload_n C 19 rfl 3 dX2_join_18 rfl rfl ?_
      refine j_iload_n C 20 rfl 1 dX2_join_19 rfl rfl ?_
      refine j_rwv C 23 rfl (jc_V C (c_X2_give l g a_this a_sorts a_owners a_worths a_gave v_generation v_toll f_owners x3 x1 _ hw) 2 gX2_join_X2_give rfl rfl rfl hd_X2_give ⟨Nat.le_of_ble_eq_true rfl, Nat.le_of_ble_eq_true rfl⟩ (j_rec C 0 2 rfl rfl) [0, 1] rfl rfl (rest := []) rfl rfl (Nat.le_of_ble_eq_true rfl) dX2_join_20 ⟨Nat.le_refl _, Nat.le_refl _⟩) [0, 1] [] [0, 1] (wr := []) (ws' := fun u => [(a_this, .inr (2, [.ref a_sorts, .ref a_owners, .ref a_worths, .ref a_gave, .int v_generation, .int v_toll])), (a_owners, gI g 504 u)]) rfl rfl rfl (by decide) rfl (fun _ => rfl) (fun u hw => ?_)
      obtain ⟨u3, eu3⟩ : ∃ z, z = u := ⟨_, rfl⟩
      subst eu3
      try dsimp only at hw
      show J l g A x 4 0 0 23 [(0, .ref a_this), (1, .int x1), (2, .int x2), (3, .int x3)] [] [(a_this, .inr (2, [.ref a_sorts, .ref a_owners, .ref a_worths, .ref a_gave, .int v_generation, .int v_toll])), (a_owners, gI g 504 u3)]
      refine j_iinc C 26 rfl 3 [1, 2, 3, 0] (v' := (1 : Int32)) (lv' := fun z => [(0, .ref a_this), (1, .int x1), (2, .int x2), (3, .int z)]) dX2_join_23 rfl (by decide) (by decide) (fun _ => rfl) (fun n4 en4 => ?_)
      have hw := hw n4 en4
      refine j_goto C 2 dX2_join_26 rfl ?_
      exact hL2 _ _ hw
theorem hi_X2_setWorth_X2 : ∀ w ∈ wsX20, w ∈ wsX2_setWorth := fun _ h => List.mem_cons_of_mem _ (List.mem_append_right _ h)
set_option maxRecDepth 20000 in
set_option maxHeartbeats 4000000 in
theorem c_X2_setWorth (l : Launch) (g : gE) (a_this a_sorts a_owners a_worths a_gave : Nat) (v_generation : Int32) (v_toll : Int32) (f_worths : (Nat → Int32)) (x1 : Int32) (x2 : Int32) (x3 : Int32)  (K : Int32 → (Nat → Int32) → Prop) (hw : wp_X2_setWorth f_worths x1 x2 x3 K) : Ci l g yX2_setWorth wsX2_setWorth { frames := 0, cells := 0, slots := 0, locals := 0 } [.ref a_this, .int x1, .int x2, .int x3] [(a_this, .inr (2, [.ref a_sorts, .ref a_owners, .ref a_worths, .ref a_gave, .int v_generation, .int v_toll])), (a_worths, gI g 30 f_worths)] (fun (r : Int32) (u : (Nat → Int32)) => K r u) (fun (u : (Nat → Int32)) => [(a_this, .inr (2, [.ref a_sorts, .ref a_owners, .ref a_worths, .ref a_gave, .int v_generation, .int v_toll])), (a_worths, gI g 30 u)]) 0 0 := by
  refine Ci_of (cc := cX2_setWorth) (nL := 5) (ret := (some .int)) (own := RX2) (lv0 := [(0, .ref a_this), (1, .int x1), (2, .int x2), (3, .int x3)]) (by decide +kernel) rfl rfl (Nat.le_of_ble_eq_true rfl) rfl (fun A x C R => ?_)
  refine j_aload_n C 1 rfl 0 dX2_setWorth_0 rfl rfl ?_
  refine j_get C 4 rfl 0 2 2 (T := TX2) (N := 6) hi_X2_setWorth_X2 rfl (by decide) (List.mem_of_getElem? (i := 1) rfl) rfl rfl rfl dX2_setWorth_1 ?_
  refine j_iload_n C 5 rfl 1 dX2_setWorth_4 rfl rfl ?_
  refine j_iconst C 6 rfl dX2_setWorth_5 (v := (5 : Int32)) (by decide) ?_
  refine j_imul C 7 rfl dX2_setWorth_6 ?_
  refine j_iload_n C 8 rfl 2 dX2_setWorth_7 rfl rfl ?_
  refine j_iadd C 9 rfl dX2_setWorth_8 ?_
  obtain ⟨k1, ek1, hk1, hw⟩ := hw
  refine j_iald C 10 rfl 1 k1 rfl ek1 hk1 (by decide) dX2_setWorth_9 ?_
  refine j_top (fun n2 en2 => ?_)
  have hw := hw n2 en2
  refine j_istore C 12 rfl [1, 2, 3, 4, 0] (lv' := [(0, .ref a_this), (1, .int x1), (2, .int x2), (3, .int x3), (4, .int n2)]) dX2_setWorth_10 (by decide) rfl ?_
  refine j_aload_n C 13 rfl 0 dX2_setWorth_12 rfl rfl ?_
  refine j_get C 16 rfl 0 2 2 (T := TX2) (N := 6) hi_X2_setWorth_X2 rfl (by decide) (List.mem_of_getElem? (i := 1) rfl) rfl rfl rfl dX2_setWorth_13 ?_
  refine j_iload_n C 17 rfl 1 dX2_setWorth_16 rfl rfl ?_
  refine j_iconst C 18 rfl dX2_setWorth_17 (v := (5 : Int32)) (by decide) ?_
  refine j_imul C 19 rfl dX2_setWorth_18 ?_
  refine j_iload_n C 20 rfl 2 dX2_setWorth_19 rfl rfl ?_
  refine j_iadd C 21 rfl dX2_setWorth_20 ?_
  refine j_iload_n C 22 rfl 3 dX2_setWorth_21 rfl rfl ?_
  obtain ⟨k3, ek3, hk3, hw⟩ := hw
  refine j_iast C 23 rfl 1 k3 (ws' := [(a_this, .inr (2, [.ref a_sorts, .ref a_owners, .ref a_worths, .ref a_gave, .int v_generation, .int v_toll])), (a_worths, gI g 30 (upd f_worths k3 x3))]) rfl ek3 hk3 (by decide) rfl dX2_setWorth_22 ?_
  refine j_iload C 25 rfl 4 dX2_setWorth_23 rfl ?_
  exact j_iret C R (upd f_worths k3 x3) rfl dX2_setWorth_25 rfl hw
set_option maxRecDepth 20000 in
set_option maxHeartbeats 4000000 in
theorem c_X2_shareOf (l : Launch) (g : gE) (a_this a_sorts a_owners a_worths a_gave : Nat) (v_generation : Int32) (v_toll : Int32) (f_sorts : (Nat → Int32)) (f_worths : (Nat → Int32)) (x1 : Int32) (x2 : Int32)  (K : Int32 → Prop) (hw : wp_X2_shareOf f_sorts f_worths x1 x2 K) : Ci l g yX2_shareOf wsX2_shareOf { frames := 2, cells := 0, slots := 0, locals := 46 } [.ref a_this, .int x1, .int x2] [(a_this, .inr (2, [.ref a_sorts, .ref a_owners, .ref a_worths, .ref a_gave, .int v_generation, .int v_toll])), (a_sorts, gI g 120 f_sorts), (a_worths, gI g 30 f_worths)] (fun (r : Int32) (_ : Unit) => K r) (fun (_ : Unit) => [(a_this, .inr (2, [.ref a_sorts, .ref a_owners, .ref a_worths, .ref a_gave, .int v_generation, .int v_toll])), (a_sorts, gI g 120 f_sorts), (a_worths, gI g 30 f_worths)]) 0 0 := by
  refine Ci_of (cc := cX2_shareOf) (nL := 5) (ret := (some .int)) (own := RX2) (lv0 := [(0, .ref a_this), (1, .int x1), (2, .int x2)]) (by decide +kernel) rfl rfl (Nat.le_of_ble_eq_true rfl) rfl (fun A x C R => ?_)
  refine j_iconst C 1 rfl dX2_shareOf_0 (v := (0 : Int32)) (by decide) ?_
  refine j_istore_n C 2 rfl [1, 2, 3, 0] (lv' := [(0, .ref a_this), (1, .int x1), (2, .int x2), (3, .int (0 : Int32))]) dX2_shareOf_1 rfl (by decide) rfl ?_
  refine j_iconst C 3 rfl dX2_shareOf_2 (v := (0 : Int32)) (by decide) ?_
  refine j_istore C 5 rfl [1, 2, 3, 4, 0] (lv' := [(0, .ref a_this), (1, .int x1), (2, .int x2), (3, .int (0 : Int32)), (4, .int (0 : Int32))]) dX2_shareOf_3 (by decide) rfl ?_
  refine lpW2_ind (G := fun x3 x4 => J l g A x 5 0 0 5 [(0, .ref a_this), (1, .int x1), (2, .int x2), (3, .int x3), (4, .int x4)] [] [(a_this, .inr (2, [.ref a_sorts, .ref a_owners, .ref a_worths, .ref a_gave, .int v_generation, .int v_toll])), (a_sorts, gI g 120 f_sorts), (a_worths, gI g 30 f_worths)]) (fun L5 x3 x4 hL5 hw => ?_) _ _ hw
  refine j_iload C 7 rfl 4 dX2_shareOf_5 rfl ?_
  refine j_bipush C 9 rfl dX2_shareOf_7 (v := (24 : Int32)) (by decide) ?_
  refine j_icmp_ge C 12 rfl 37 dX2_shareOf_9 rfl (fun c => ?_) (fun c => ?_)
  · have hw := hw.1 c
    refine j_iload_n C 38 rfl 3 dX2_shareOf_37 rfl rfl ?_
    exact j_iret C R () rfl dX2_shareOf_38 rfl hw
  · have hw := hw.2 c
    refine j_iload_n C 13 rfl 2 dX2_shareOf_12 rfl rfl ?_
    refine j_iload C 15 rfl 4 dX2_shareOf_13 rfl ?_
    refine j_ishr C 16 rfl dX2_shareOf_15 ?_
    refine j_iconst C 17 rfl dX2_shareOf_16 (v := (1 : Int32)) (by decide) ?_
    refine j_iand C 18 rfl dX2_shareOf_17 ?_
    refine j_if_eq C 21 rfl 31 dX2_shareOf_18 rfl (fun c => ?_) (fun c => ?_)
    · have hw := hw.1 c
      refine j_iinc C 34 rfl 4 [1, 2, 3, 4, 0] (v' := (1 : Int32)) (lv' := fun z => [(0, .ref a_this), (1, .int x1), (2, .int x2), (3, .int x3), (4, .int z)]) dX2_shareOf_31 rfl (by decide) (by decide) (fun _ => rfl) (fun n1 en1 => ?_)
      have hw := hw n1 en1
      refine j_goto C 5 dX2_shareOf_34 rfl ?_
      exact hL5 _ _ hw
    · have hw := hw.2 c
      refine j_iload_n C 22 rfl 3 dX2_shareOf_21 rfl rfl ?_
      refine j_aload_n C 23 rfl 0 dX2_shareOf_22 rfl rfl ?_
      refine j_iload_n C 24 rfl 1 dX2_shareOf_23 rfl rfl ?_
      refine j_iload C 26 rfl 4 dX2_shareOf_24 rfl ?_
      refine j_ri C 29 rfl (jc_V C (c_X2_shareOfSector l g a_this a_sorts a_owners a_worths a_gave v_generation v_toll f_sorts f_worths x1 x4 _ hw) 2 gX2_shareOf_X2_shareOfSector rfl rfl rfl hd_X2_shareOfSector ⟨Nat.le_of_ble_eq_true rfl, Nat.le_of_ble_eq_true rfl⟩ (j_rec C 0 2 rfl rfl) [0, 1, 2] rfl rfl (rest := [.int x3]) rfl rfl (Nat.le_of_ble_eq_true rfl) dX2_shareOf_26 ⟨Nat.le_refl _, Nat.le_refl _⟩) [0, 1, 2] rfl (fun _ => rfl) (fun r2 _ hw => ?_)
      try dsimp only at hw
      refine j_iadd C 30 rfl dX2_shareOf_29 ?_
      refine j_top (fun n3 en3 => ?_)
      have hw := hw n3 en3
      refine j_istore_n C 31 rfl [1, 2, 3, 0, 4] (lv' := [(0, .ref a_this), (1, .int x1), (2, .int x2), (3, .int n3), (4, .int x4)]) dX2_shareOf_30 rfl (by decide) rfl ?_
      refine j_iinc C 34 rfl 4 [1, 2, 3, 4, 0] (v' := (1 : Int32)) (lv' := fun z => [(0, .ref a_this), (1, .int x1), (2, .int x2), (3, .int n3), (4, .int z)]) dX2_shareOf_31 rfl (by decide) (by decide) (fun _ => rfl) (fun n4 en4 => ?_)
      have hw := hw n4 en4
      refine j_goto C 5 dX2_shareOf_34 rfl ?_
      exact hL5 _ _ hw
theorem hi_X2_hasRight_X2 : ∀ w ∈ wsX20, w ∈ wsX2_hasRight := fun _ h => List.mem_cons_of_mem _ (List.mem_append_right _ h)
set_option maxRecDepth 20000 in
set_option maxHeartbeats 4000000 in
theorem c_X2_hasRight (l : Launch) (g : gE) (a_this a_sorts a_owners a_worths a_gave : Nat) (v_generation : Int32) (v_toll : Int32) (f_gave : (Nat → Int32)) (x1 : Int32) (x2 : Int32)  (K : Int32 → Prop) (hw : wp_X2_hasRight f_gave x1 x2 K) : Ci l g yX2_hasRight wsX2_hasRight { frames := 0, cells := 0, slots := 0, locals := 0 } [.ref a_this, .int x1, .int x2] [(a_this, .inr (2, [.ref a_sorts, .ref a_owners, .ref a_worths, .ref a_gave, .int v_generation, .int v_toll])), (a_gave, gI g 6 f_gave)] (fun (r : Int32) (_ : Unit) => K r) (fun (_ : Unit) => [(a_this, .inr (2, [.ref a_sorts, .ref a_owners, .ref a_worths, .ref a_gave, .int v_generation, .int v_toll])), (a_gave, gI g 6 f_gave)]) 0 0 := by
  refine Ci_of (cc := cX2_hasRight) (nL := 3) (ret := (some .boolean)) (own := RX2) (lv0 := [(0, .ref a_this), (1, .int x1), (2, .int x2)]) (by decide +kernel) rfl rfl (Nat.le_of_ble_eq_true rfl) rfl (fun A x C R => ?_)
  refine j_aload_n C 1 rfl 0 dX2_hasRight_0 rfl rfl ?_
  refine j_get C 4 rfl 0 2 3 (T := TX2) (N := 6) hi_X2_hasRight_X2 rfl (by decide) (List.mem_of_getElem? (i := 1) rfl) rfl rfl rfl dX2_hasRight_1 ?_
  refine j_iload_n C 5 rfl 2 dX2_hasRight_4 rfl rfl ?_
  obtain ⟨k1, ek1, hk1, hw⟩ := hw
  refine j_iald C 6 rfl 1 k1 rfl ek1 hk1 (by decide) dX2_hasRight_5 ?_
  refine j_iload_n C 7 rfl 1 dX2_hasRight_6 rfl rfl ?_
  refine j_ishr C 8 rfl dX2_hasRight_7 ?_
  refine j_iconst C 9 rfl dX2_hasRight_8 (v := (1 : Int32)) (by decide) ?_
  refine j_iand C 10 rfl dX2_hasRight_9 ?_
  refine j_if_eq C 13 rfl 17 dX2_hasRight_10 rfl (fun c => ?_) (fun c => ?_)
  · have hw := hw.1 c
    refine j_iconst C 18 rfl dX2_hasRight_17 (v := (0 : Int32)) (by decide) ?_
    exact j_iret C R () rfl dX2_hasRight_18 rfl hw
  · have hw := hw.2 c
    refine j_iconst C 14 rfl dX2_hasRight_13 (v := (1 : Int32)) (by decide) ?_
    refine j_goto C 18 dX2_hasRight_14 rfl ?_
    exact j_iret C R () rfl dX2_hasRight_18 rfl hw
theorem hi_X2_setRight_X2 : ∀ w ∈ wsX20, w ∈ wsX2_setRight := fun _ h => List.mem_cons_of_mem _ (List.mem_append_right _ h)
set_option maxRecDepth 20000 in
set_option maxHeartbeats 4000000 in
theorem c_X2_setRight (l : Launch) (g : gE) (a_this a_sorts a_owners a_worths a_gave : Nat) (v_generation : Int32) (v_toll : Int32) (f_gave : (Nat → Int32)) (x1 : Int32) (x2 : Int32) (x3 : Int32)  (K : Int32 → (Nat → Int32) → Prop) (hw : wp_X2_setRight f_gave x1 x2 x3 K) : Ci l g yX2_setRight wsX2_setRight { frames := 1, cells := 0, slots := 0, locals := 22 } [.ref a_this, .int x1, .int x2, .int x3] [(a_this, .inr (2, [.ref a_sorts, .ref a_owners, .ref a_worths, .ref a_gave, .int v_generation, .int v_toll])), (a_gave, gI g 6 f_gave)] (fun (r : Int32) (u : (Nat → Int32)) => K r u) (fun (u : (Nat → Int32)) => [(a_this, .inr (2, [.ref a_sorts, .ref a_owners, .ref a_worths, .ref a_gave, .int v_generation, .int v_toll])), (a_gave, gI g 6 u)]) 0 0 := by
  refine Ci_of (cc := cX2_setRight) (nL := 6) (ret := (some .boolean)) (own := RX2) (lv0 := [(0, .ref a_this), (1, .int x1), (2, .int x2), (3, .int x3)]) (by decide +kernel) rfl rfl (Nat.le_of_ble_eq_true rfl) rfl (fun A x C R => ?_)
  refine j_aload_n C 1 rfl 0 dX2_setRight_0 rfl rfl ?_
  refine j_iload_n C 2 rfl 2 dX2_setRight_1 rfl rfl ?_
  refine j_iload_n C 3 rfl 1 dX2_setRight_2 rfl rfl ?_
  refine j_ri C 6 rfl (jc_V C (c_X2_hasRight l g a_this a_sorts a_owners a_worths a_gave v_generation v_toll f_gave x2 x1 _ hw) 2 gX2_setRight_X2_hasRight rfl rfl rfl hd_X2_hasRight ⟨Nat.le_of_ble_eq_true rfl, Nat.le_of_ble_eq_true rfl⟩ (j_rec C 0 2 rfl rfl) [0, 1] rfl rfl (rest := []) rfl rfl (Nat.le_of_ble_eq_true rfl) dX2_setRight_3 ⟨Nat.le_refl _, Nat.le_refl _⟩) [0, 1] rfl (fun _ => rfl) (fun r1 _ hw => ?_)
  try dsimp only at hw
  refine j_istore C 8 rfl [1, 2, 3, 4, 0] (lv' := [(0, .ref a_this), (1, .int x1), (2, .int x2), (3, .int x3), (4, .int r1)]) dX2_setRight_6 (by decide) rfl ?_
  refine j_iconst C 9 rfl dX2_setRight_8 (v := (1 : Int32)) (by decide) ?_
  refine j_iload_n C 10 rfl 2 dX2_setRight_9 rfl rfl ?_
  refine j_ishl C 11 rfl dX2_setRight_10 ?_
  refine j_top (fun n2 en2 => ?_)
  have hw := hw n2 en2
  refine j_istore C 13 rfl [1, 2, 3, 4, 5, 0] (lv' := [(0, .ref a_this), (1, .int x1), (2, .int x2), (3, .int x3), (4, .int r1), (5, .int n2)]) dX2_setRight_11 (by decide) rfl ?_
  refine j_aload_n C 14 rfl 0 dX2_setRight_13 rfl rfl ?_
  refine j_get C 17 rfl 0 2 3 (T := TX2) (N := 6) hi_X2_setRight_X2 rfl (by decide) (List.mem_of_getElem? (i := 1) rfl) rfl rfl rfl dX2_setRight_14 ?_
  refine j_iload_n C 18 rfl 1 dX2_setRight_17 rfl rfl ?_
  refine j_iload_n C 19 rfl 3 dX2_setRight_18 rfl rfl ?_
  refine j_if_eq C 22 rfl 34 dX2_setRight_19 rfl (fun c => ?_) (fun c => ?_)
  · have hw := hw.1 c
    refine j_aload_n C 35 rfl 0 dX2_setRight_34 rfl rfl ?_
    refine j_get C 38 rfl 0 2 3 (T := TX2) (N := 6) hi_X2_setRight_X2 rfl (by decide) (List.mem_of_getElem? (i := 1) rfl) rfl rfl rfl dX2_setRight_35 ?_
    refine j_iload_n C 39 rfl 1 dX2_setRight_38 rfl rfl ?_
    obtain ⟨k3, ek3, hk3, hw⟩ := hw
    refine j_iald C 40 rfl 1 k3 rfl ek3 hk3 (by decide) dX2_setRight_39 ?_
    refine j_iload C 42 rfl 5 dX2_setRight_40 rfl ?_
    refine j_iconst C 43 rfl dX2_setRight_42 (v := (-1 : Int32)) (by decide) ?_
    refine j_ixor C 44 rfl dX2_setRight_43 ?_
    refine j_iand C 45 rfl dX2_setRight_44 ?_
    refine j_top (fun n4 en4 => ?_)
    have hw := hw n4 en4
    obtain ⟨k5, ek5, hk5, hw⟩ := hw
    refine j_iast C 46 rfl 1 k5 (ws' := [(a_this, .inr (2, [.ref a_sorts, .ref a_owners, .ref a_worths, .ref a_gave, .int v_generation, .int v_toll])), (a_gave, gI g 6 (upd f_gave k5 n4))]) rfl ek5 hk5 (by decide) rfl dX2_setRight_45 ?_
    refine j_iload C 48 rfl 4 dX2_setRight_46 rfl ?_
    obtain ⟨hn, hw⟩ := hw
    exact j_iret C R (upd f_gave k5 n4) hn dX2_setRight_48 rfl hw
  · have hw := hw.2 c
    refine j_aload_n C 23 rfl 0 dX2_setRight_22 rfl rfl ?_
    refine j_get C 26 rfl 0 2 3 (T := TX2) (N := 6) hi_X2_setRight_X2 rfl (by decide) (List.mem_of_getElem? (i := 1) rfl) rfl rfl rfl dX2_setRight_23 ?_
    refine j_iload_n C 27 rfl 1 dX2_setRight_26 rfl rfl ?_
    obtain ⟨k6, ek6, hk6, hw⟩ := hw
    refine j_iald C 28 rfl 1 k6 rfl ek6 hk6 (by decide) dX2_setRight_27 ?_
    refine j_iload C 30 rfl 5 dX2_setRight_28 rfl ?_
    refine j_ior C 31 rfl dX2_setRight_30 ?_
    refine j_goto C 45 dX2_setRight_31 rfl ?_
    refine j_top (fun n7 en7 => ?_)
    have hw := hw n7 en7
    obtain ⟨k8, ek8, hk8, hw⟩ := hw
    refine j_iast C 46 rfl 1 k8 (ws' := [(a_this, .inr (2, [.ref a_sorts, .ref a_owners, .ref a_worths, .ref a_gave, .int v_generation, .int v_toll])), (a_gave, gI g 6 (upd f_gave k8 n7))]) rfl ek8 hk8 (by decide) rfl dX2_setRight_45 ?_
    refine j_iload C 48 rfl 4 dX2_setRight_46 rfl ?_
    obtain ⟨hn, hw⟩ := hw
    exact j_iret C R (upd f_gave k8 n7) hn dX2_setRight_48 rfl hw
set_option maxRecDepth 20000 in
set_option maxHeartbeats 4000000 in
theorem c_X2_isFreeFor (l : Launch) (g : gE) (a_this a_sorts a_owners a_worths a_gave : Nat) (v_generation : Int32) (v_toll : Int32) (f_owners : (Nat → Int32)) (f_gave : (Nat → Int32)) (x1 : Int32) (x2 : Int32)  (K : Int32 → Prop) (hw : wp_X2_isFreeFor v_generation f_owners f_gave x1 x2 K) : Ci l g yX2_isFreeFor wsX2_isFreeFor { frames := 2, cells := 0, slots := 0, locals := 43 } [.ref a_this, .int x1, .int x2] [(a_this, .inr (2, [.ref a_sorts, .ref a_owners, .ref a_worths, .ref a_gave, .int v_generation, .int v_toll])), (a_owners, gI g 504 f_owners), (a_gave, gI g 6 f_gave)] (fun (r : Int32) (_ : Unit) => K r) (fun (_ : Unit) => [(a_this, .inr (2, [.ref a_sorts, .ref a_owners, .ref a_worths, .ref a_gave, .int v_generation, .int v_toll])), (a_owners, gI g 504 f_owners), (a_gave, gI g 6 f_gave)]) 0 0 := by
  refine Ci_of (cc := cX2_isFreeFor) (nL := 4) (ret := (some .boolean)) (own := RX2) (lv0 := [(0, .ref a_this), (1, .int x1), (2, .int x2)]) (by decide +kernel) rfl rfl (Nat.le_of_ble_eq_true rfl) rfl (fun A x C R => ?_)
  refine j_aload_n C 1 rfl 0 dX2_isFreeFor_0 rfl rfl ?_
  refine j_iload_n C 2 rfl 2 dX2_isFreeFor_1 rfl rfl ?_
  refine j_ri C 5 rfl (jc_V C (c_X2_ownerOf l g a_this a_sorts a_owners a_worths a_gave v_generation v_toll f_owners x2 _ hw) 1 gX2_isFreeFor_X2_ownerOf rfl rfl rfl hd_X2_ownerOf ⟨Nat.le_of_ble_eq_true rfl, Nat.le_of_ble_eq_true rfl⟩ (j_rec C 0 2 rfl rfl) [0, 1] rfl rfl (rest := []) rfl rfl (Nat.le_of_ble_eq_true rfl) dX2_isFreeFor_2 ⟨Nat.le_refl _, Nat.le_refl _⟩) [0, 1] rfl (fun _ => rfl) (fun r1 _ hw => ?_)
  try dsimp only at hw
  refine j_istore_n C 6 rfl [1, 2, 3, 0] (lv' := [(0, .ref a_this), (1, .int x1), (2, .int x2), (3, .int r1)]) dX2_isFreeFor_5 rfl (by decide) rfl ?_
  refine j_iload_n C 7 rfl 3 dX2_isFreeFor_6 rfl rfl ?_
  refine j_iload_n C 8 rfl 1 dX2_isFreeFor_7 rfl rfl ?_
  refine j_icmp_eq C 11 rfl 20 dX2_isFreeFor_8 rfl (fun c => ?_) (fun c => ?_)
  · have hw := hw.1 c
    refine j_iconst C 21 rfl dX2_isFreeFor_20 (v := (1 : Int32)) (by decide) ?_
    refine j_goto C 25 dX2_isFreeFor_21 rfl ?_
    exact j_iret C R () rfl dX2_isFreeFor_25 rfl hw
  · have hw := hw.2 c
    refine j_aload_n C 12 rfl 0 dX2_isFreeFor_11 rfl rfl ?_
    refine j_iload_n C 13 rfl 1 dX2_isFreeFor_12 rfl rfl ?_
    refine j_iload_n C 14 rfl 3 dX2_isFreeFor_13 rfl rfl ?_
    refine j_ri C 17 rfl (jc_V C (c_X2_hasRight l g a_this a_sorts a_owners a_worths a_gave v_generation v_toll f_gave x1 r1 _ hw) 2 gX2_isFreeFor_X2_hasRight rfl rfl rfl hd_X2_hasRight ⟨Nat.le_of_ble_eq_true rfl, Nat.le_of_ble_eq_true rfl⟩ (j_rec C 0 2 rfl rfl) [0, 2] rfl rfl (rest := []) rfl rfl (Nat.le_of_ble_eq_true rfl) dX2_isFreeFor_14 ⟨Nat.le_refl _, Nat.le_refl _⟩) [0, 2] rfl (fun _ => rfl) (fun r2 _ hw => ?_)
    try dsimp only at hw
    refine j_if_eq C 20 rfl 24 dX2_isFreeFor_17 rfl (fun c => ?_) (fun c => ?_)
    · have hw := hw.1 c
      refine j_iconst C 25 rfl dX2_isFreeFor_24 (v := (0 : Int32)) (by decide) ?_
      exact j_iret C R () rfl dX2_isFreeFor_25 rfl hw
    · have hw := hw.2 c
      refine j_iconst C 21 rfl dX2_isFreeFor_20 (v := (1 : Int32)) (by decide) ?_
      refine j_goto C 25 dX2_isFreeFor_21 rfl ?_
      exact j_iret C R () rfl dX2_isFreeFor_25 rfl hw
theorem hi_X3_add_X3 : ∀ w ∈ wsX30, w ∈ wsX3_add := fun _ h => List.mem_cons_of_mem _ (List.mem_append_right _ h)
set_option maxRecDepth 20000 in
set_option maxHeartbeats 4000000 in
theorem c_X3_add (l : Launch) (g : gE) (a_this a_signs a_row : Nat) (v_count : Int32) (f_signs : (Nat → Int32)) (x1 : Int32)  (K : Int32 → Int32 → (Nat → Int32) → Prop) (hw : wp_X3_add v_count f_signs x1 K) : Ci l g yX3_add wsX3_add { frames := 0, cells := 0, slots := 0, locals := 0 } [.ref a_this, .int x1] [(a_this, .inr (3, [.ref a_signs, .ref a_row, .int v_count])), (a_signs, gC g 60 f_signs)] (fun (r : Int32) (u : Int32 × (Nat → Int32)) => K r u.1 u.2) (fun (u : Int32 × (Nat → Int32)) => [(a_this, .inr (3, [.ref a_signs, .ref a_row, .int (u.1)])), (a_signs, gC g 60 (u.2))]) 0 0 := by
  refine Ci_of (cc := cX3_add) (nL := 2) (ret := (some .int)) (own := RX3) (lv0 := [(0, .ref a_this), (1, .int x1)]) (by decide +kernel) rfl rfl (Nat.le_of_ble_eq_true rfl) rfl (fun A x C R => ?_)
  refine j_aload_n C 1 rfl 0 dX3_add_0 rfl rfl ?_
  refine j_get C 4 rfl 0 3 2 (T := TX3) (N := 3) hi_X3_add_X3 rfl (by decide) (List.mem_of_getElem? (i := 1) rfl) rfl rfl rfl dX3_add_1 ?_
  refine j_bipush C 6 rfl dX3_add_4 (v := (60 : Int32)) (by decide) ?_
  refine j_icmp_lt C 9 rfl 12 dX3_add_6 rfl (fun c => ?_) (fun c => ?_)
  · have hw := hw.1 c
    refine j_aload_n C 13 rfl 0 dX3_add_12 rfl rfl ?_
    refine j_get C 16 rfl 0 3 0 (T := TX3) (N := 3) hi_X3_add_X3 rfl (by decide) (List.mem_of_getElem? (i := 2) rfl) rfl rfl rfl dX3_add_13 ?_
    refine j_aload_n C 17 rfl 0 dX3_add_16 rfl rfl ?_
    refine j_get C 20 rfl 0 3 2 (T := TX3) (N := 3) hi_X3_add_X3 rfl (by decide) (List.mem_of_getElem? (i := 1) rfl) rfl rfl rfl dX3_add_17 ?_
    refine j_iload_n C 21 rfl 1 dX3_add_20 rfl rfl ?_
    obtain ⟨k1, ek1, hk1, hw⟩ := hw
    refine j_cast C 22 rfl 1 k1 (ws' := [(a_this, .inr (3, [.ref a_signs, .ref a_row, .int v_count])), (a_signs, gC g 60 (upd f_signs k1 (vp_nar .char x1)))]) rfl ek1 hk1 (by decide) rfl dX3_add_21 ?_
    refine j_aload_n C 23 rfl 0 dX3_add_22 rfl rfl ?_
    refine j_dup C 24 rfl dX3_add_23 rfl ?_
    refine j_get C 27 rfl 0 3 2 (T := TX3) (N := 3) hi_X3_add_X3 rfl (by decide) (List.mem_of_getElem? (i := 1) rfl) rfl rfl rfl dX3_add_24 ?_
    refine j_iconst C 28 rfl dX3_add_27 (v := (1 : Int32)) (by decide) ?_
    refine j_iadd C 29 rfl dX3_add_28 ?_
    refine j_top (fun n2 en2 => ?_)
    have hw := hw n2 en2
    refine j_put C 32 rfl 0 3 2 (ws' := [(a_this, .inr (3, [.ref a_signs, .ref a_row, .int n2])), (a_signs, gC g 60 (upd f_signs k1 (vp_nar .char x1)))]) (T := TX3) (N := 3) (ty := .int) tyX3_ok nmX3 hi_X3_add_X3 rfl (by decide) (List.mem_of_getElem? (i := 1) rfl) rfl rfl rfl rfl rfl rfl (Nat.le_of_ble_eq_true rfl) rfl dX3_add_29 ?_
    refine j_aload_n C 33 rfl 0 dX3_add_32 rfl rfl ?_
    refine j_get C 36 rfl 0 3 2 (T := TX3) (N := 3) hi_X3_add_X3 rfl (by decide) (List.mem_of_getElem? (i := 1) rfl) rfl rfl rfl dX3_add_33 ?_
    exact j_iret C R (n2, upd f_signs k1 (vp_nar .char x1)) rfl dX3_add_36 rfl hw
  · have hw := hw.2 c
    refine j_bipush C 11 rfl dX3_add_9 (v := (-4 : Int32)) (by decide) ?_
    exact j_iret C R (v_count, f_signs) rfl dX3_add_11 rfl hw
theorem hi_X3_empty_X3 : ∀ w ∈ wsX30, w ∈ wsX3_empty := fun _ h => List.mem_cons_of_mem _ (List.mem_append_right _ h)
set_option maxRecDepth 20000 in
set_option maxHeartbeats 4000000 in
theorem c_X3_empty (l : Launch) (g : gE) (a_this a_signs a_row : Nat) (v_count : Int32)   (K : Int32 → Int32 → Prop) (hw : wp_X3_empty v_count K) : Ci l g yX3_empty wsX3_empty { frames := 0, cells := 0, slots := 0, locals := 0 } [.ref a_this] [(a_this, .inr (3, [.ref a_signs, .ref a_row, .int v_count]))] (fun (r : Int32) (u : Int32) => K r u) (fun (u : Int32) => [(a_this, .inr (3, [.ref a_signs, .ref a_row, .int u]))]) 0 0 := by
  refine Ci_of (cc := cX3_empty) (nL := 2) (ret := (some .int)) (own := RX3) (lv0 := [(0, .ref a_this)]) (by decide +kernel) rfl rfl (Nat.le_of_ble_eq_true rfl) rfl (fun A x C R => ?_)
  refine j_aload_n C 1 rfl 0 dX3_empty_0 rfl rfl ?_
  refine j_get C 4 rfl 0 3 2 (T := TX3) (N := 3) hi_X3_empty_X3 rfl (by decide) (List.mem_of_getElem? (i := 1) rfl) rfl rfl rfl dX3_empty_1 ?_
  refine j_istore_n C 5 rfl [1, 0] (lv' := [(0, .ref a_this), (1, .int v_count)]) dX3_empty_4 rfl (by decide) rfl ?_
  refine j_aload_n C 6 rfl 0 dX3_empty_5 rfl rfl ?_
  refine j_iconst C 7 rfl dX3_empty_6 (v := (0 : Int32)) (by decide) ?_
  refine j_put C 10 rfl 0 3 2 (ws' := [(a_this, .inr (3, [.ref a_signs, .ref a_row, .int (0 : Int32)]))]) (T := TX3) (N := 3) (ty := .int) tyX3_ok nmX3 hi_X3_empty_X3 rfl (by decide) (List.mem_of_getElem? (i := 1) rfl) rfl rfl rfl rfl rfl rfl (Nat.le_of_ble_eq_true rfl) rfl dX3_empty_7 ?_
  refine j_iload_n C 11 rfl 1 dX3_empty_10 rfl rfl ?_
  exact j_iret C R ((0 : Int32)) rfl dX3_empty_11 rfl hw
theorem hi_X3_hasAt_X3 : ∀ w ∈ wsX30, w ∈ wsX3_hasAt := fun _ h => List.mem_cons_of_mem _ (List.mem_append_right _ h)
set_option maxRecDepth 20000 in
set_option maxHeartbeats 4000000 in
theorem c_X3_hasAt (l : Launch) (g : gE) (a_this a_signs a_row : Nat) (v_count : Int32) (f_signs : (Nat → Int32)) (x1 : Int32) (x2 : Int32)  (K : Int32 → Prop) (hw : wp_X3_hasAt v_count f_signs x1 x2 K) : Ci l g yX3_hasAt wsX3_hasAt { frames := 0, cells := 0, slots := 0, locals := 0 } [.ref a_this, .int x1, .int x2] [(a_this, .inr (3, [.ref a_signs, .ref a_row, .int v_count])), (a_signs, gC g 60 f_signs)] (fun (r : Int32) (_ : Unit) => K r) (fun (_ : Unit) => [(a_this, .inr (3, [.ref a_signs, .ref a_row, .int v_count])), (a_signs, gC g 60 f_signs)]) 0 0 := by
  refine Ci_of (cc := cX3_hasAt) (nL := 3) (ret := (some .boolean)) (own := RX3) (lv0 := [(0, .ref a_this), (1, .int x1), (2, .int x2)]) (by decide +kernel) rfl rfl (Nat.le_of_ble_eq_true rfl) rfl (fun A x C R => ?_)
  refine j_iload_n C 1 rfl 1 dX3_hasAt_0 rfl rfl ?_
  refine j_aload_n C 2 rfl 0 dX3_hasAt_1 rfl rfl ?_
  refine j_get C 5 rfl 0 3 2 (T := TX3) (N := 3) hi_X3_hasAt_X3 rfl (by decide) (List.mem_of_getElem? (i := 1) rfl) rfl rfl rfl dX3_hasAt_2 ?_
  refine j_icmp_ge C 8 rfl 22 dX3_hasAt_5 rfl (fun c => ?_) (fun c => ?_)
  · have hw := hw.1 c
    refine j_iconst C 23 rfl dX3_hasAt_22 (v := (0 : Int32)) (by decide) ?_
    exact j_iret C R () rfl dX3_hasAt_23 rfl hw
  · have hw := hw.2 c
    refine j_aload_n C 9 rfl 0 dX3_hasAt_8 rfl rfl ?_
    refine j_get C 12 rfl 0 3 0 (T := TX3) (N := 3) hi_X3_hasAt_X3 rfl (by decide) (List.mem_of_getElem? (i := 2) rfl) rfl rfl rfl dX3_hasAt_9 ?_
    refine j_iload_n C 13 rfl 1 dX3_hasAt_12 rfl rfl ?_
    obtain ⟨k1, ek1, hk1, hw⟩ := hw
    refine j_cald C 14 rfl 1 k1 rfl ek1 hk1 (by decide) dX3_hasAt_13 ?_
    refine j_iload_n C 15 rfl 2 dX3_hasAt_14 rfl rfl ?_
    refine j_icmp_ne C 18 rfl 22 dX3_hasAt_15 rfl (fun c => ?_) (fun c => ?_)
    · have hw := hw.1 c
      refine j_iconst C 23 rfl dX3_hasAt_22 (v := (0 : Int32)) (by decide) ?_
      exact j_iret C R () rfl dX3_hasAt_23 rfl hw
    · have hw := hw.2 c
      refine j_iconst C 19 rfl dX3_hasAt_18 (v := (1 : Int32)) (by decide) ?_
      refine j_goto C 23 dX3_hasAt_19 rfl ?_
      exact j_iret C R () rfl dX3_hasAt_23 rfl hw
theorem hi_X3_letterAt_X3 : ∀ w ∈ wsX30, w ∈ wsX3_letterAt := fun _ h => List.mem_cons_of_mem _ (List.mem_append_right _ h)
set_option maxRecDepth 20000 in
set_option maxHeartbeats 4000000 in
theorem c_X3_letterAt (l : Launch) (g : gE) (a_this a_signs a_row : Nat) (v_count : Int32) (f_signs : (Nat → Int32)) (x1 : Int32) (x2 : Nat) (hx2 : x2 < 2) (K : Int32 → Prop) (hw : wp_X3_letterAt v_count f_signs x1 x2 K) : Ci l g yX3_letterAt wsX3_letterAt { frames := 4, cells := 0, slots := 0, locals := 106 } [.ref a_this, .int x1, .ref (g.2.2 x2)] [(a_this, .inr (3, [.ref a_signs, .ref a_row, .int v_count])), (a_signs, gC g 60 f_signs)] (fun (r : Int32) (_ : Unit) => K r) (fun (_ : Unit) => [(a_this, .inr (3, [.ref a_signs, .ref a_row, .int v_count])), (a_signs, gC g 60 f_signs)]) 0 0 := by
  refine Ci_of (cc := cX3_letterAt) (nL := 3) (ret := (some .int)) (own := RX3) (lv0 := [(0, .ref a_this), (1, .int x1), (2, .ref (g.2.2 x2))]) (by decide +kernel) rfl rfl (Nat.le_of_ble_eq_true rfl) rfl (fun A x C R => ?_)
  refine j_iload_n C 1 rfl 1 dX3_letterAt_0 rfl rfl ?_
  refine j_aload_n C 2 rfl 0 dX3_letterAt_1 rfl rfl ?_
  refine j_get C 5 rfl 0 3 2 (T := TX3) (N := 3) hi_X3_letterAt_X3 rfl (by decide) (List.mem_of_getElem? (i := 1) rfl) rfl rfl rfl dX3_letterAt_2 ?_
  refine j_icmp_ge C 8 rfl 21 dX3_letterAt_5 rfl (fun c => ?_) (fun c => ?_)
  · have hw := hw.1 c
    refine j_iconst C 22 rfl dX3_letterAt_21 (v := (-1 : Int32)) (by decide) ?_
    exact j_iret C R () rfl dX3_letterAt_22 rfl hw
  · have hw := hw.2 c
    refine j_aload_n C 9 rfl 2 dX3_letterAt_8 rfl rfl ?_
    refine j_aload_n C 10 rfl 0 dX3_letterAt_9 rfl rfl ?_
    refine j_get C 13 rfl 0 3 0 (T := TX3) (N := 3) hi_X3_letterAt_X3 rfl (by decide) (List.mem_of_getElem? (i := 2) rfl) rfl rfl rfl dX3_letterAt_10 ?_
    refine j_iload_n C 14 rfl 1 dX3_letterAt_13 rfl rfl ?_
    obtain ⟨k1, ek1, hk1, hw⟩ := hw
    refine j_cald C 15 rfl 1 k1 rfl ek1 hk1 (by decide) dX3_letterAt_14 ?_
    refine j_top (fun n2 en2 => ?_)
    have hw := hw n2 en2
    refine j_ri C 18 rfl (jc_V C (c_J0_indexOf_0f7a4 l g x2 n2 hx2 _ hw) 1 gX3_letterAt_J0_indexOf_0f7a4 rfl rfl rfl hd_J0_indexOf_0f7a4 ⟨Nat.le_of_ble_eq_true rfl, Nat.le_of_ble_eq_true rfl⟩ (j_recK C x2 hx2) [] rfl rfl (rest := []) rfl rfl (Nat.le_of_ble_eq_true rfl) dX3_letterAt_15 ⟨Nat.le_refl _, Nat.le_refl _⟩) [] rfl (fun _ => rfl) (fun r3 _ hw => ?_)
    try dsimp only at hw
    refine j_goto C 22 dX3_letterAt_18 rfl ?_
    exact j_iret C R () rfl dX3_letterAt_22 rfl hw
theorem hi_X3_digitAt_X3 : ∀ w ∈ wsX30, w ∈ wsX3_digitAt := fun _ h => List.mem_cons_of_mem _ (List.mem_append_right _ h)
set_option maxRecDepth 20000 in
set_option maxHeartbeats 4000000 in
theorem c_X3_digitAt (l : Launch) (g : gE) (a_this a_signs a_row : Nat) (v_count : Int32) (f_signs : (Nat → Int32)) (x1 : Int32)  (K : Int32 → Prop) (hw : wp_X3_digitAt v_count f_signs x1 K) : Ci l g yX3_digitAt wsX3_digitAt { frames := 0, cells := 0, slots := 0, locals := 0 } [.ref a_this, .int x1] [(a_this, .inr (3, [.ref a_signs, .ref a_row, .int v_count])), (a_signs, gC g 60 f_signs)] (fun (r : Int32) (_ : Unit) => K r) (fun (_ : Unit) => [(a_this, .inr (3, [.ref a_signs, .ref a_row, .int v_count])), (a_signs, gC g 60 f_signs)]) 0 0 := by
  refine Ci_of (cc := cX3_digitAt) (nL := 3) (ret := (some .int)) (own := RX3) (lv0 := [(0, .ref a_this), (1, .int x1)]) (by decide +kernel) rfl rfl (Nat.le_of_ble_eq_true rfl) rfl (fun A x C R => ?_)
  have hj21 : ∀ (s0 : Int32), wj_X3_digitAt_21 s0 K → J l g A x 3 0 0 21 [] [.int s0] [(a_this, .inr (3, [.ref a_signs, .ref a_row, .int v_count])), (a_signs, gC g 60 f_signs)] := by
    intro s0 hw
    refine j_istore_n C 22 rfl [0] (lv' := [(2, .int s0)]) dX3_digitAt_21 rfl (by decide) rfl ?_
    refine j_iload_n C 23 rfl 0 dX3_digitAt_22 rfl rfl ?_
    refine j_iconst C 24 rfl dX3_digitAt_23 (v := (1 : Int32)) (by decide) ?_
    refine j_icmp_lt C 27 rfl 37 dX3_digitAt_24 rfl (fun c => ?_) (fun c => ?_)
    · have hw := hw.1 c
      refine j_iconst C 38 rfl dX3_digitAt_37 (v := (0 : Int32)) (by decide) ?_
      exact j_iret C R () rfl dX3_digitAt_38 rfl hw
    · have hw := hw.2 c
      refine j_iload_n C 28 rfl 0 dX3_digitAt_27 rfl rfl ?_
      refine j_bipush C 30 rfl dX3_digitAt_28 (v := (9 : Int32)) (by decide) ?_
      refine j_icmp_gt C 33 rfl 37 dX3_digitAt_30 rfl (fun c => ?_) (fun c => ?_)
      · have hw := hw.1 c
        refine j_iconst C 38 rfl dX3_digitAt_37 (v := (0 : Int32)) (by decide) ?_
        exact j_iret C R () rfl dX3_digitAt_38 rfl hw
      · have hw := hw.2 c
        refine j_iload_n C 34 rfl 0 dX3_digitAt_33 rfl rfl ?_
        refine j_goto C 38 dX3_digitAt_34 rfl ?_
        exact j_iret C R () rfl dX3_digitAt_38 rfl hw
  refine j_iload_n C 1 rfl 1 dX3_digitAt_0 rfl rfl ?_
  refine j_aload_n C 2 rfl 0 dX3_digitAt_1 rfl rfl ?_
  refine j_get C 5 rfl 0 3 2 (T := TX3) (N := 3) hi_X3_digitAt_X3 rfl (by decide) (List.mem_of_getElem? (i := 1) rfl) rfl rfl rfl dX3_digitAt_2 ?_
  refine j_icmp_ge C 8 rfl 20 dX3_digitAt_5 rfl (fun c => ?_) (fun c => ?_)
  · have hw := hw.1 c
    refine j_iconst C 21 rfl dX3_digitAt_20 (v := (0 : Int32)) (by decide) ?_
    refine j_lv [] (lv' := []) rfl ?_
    exact hj21 _ hw
  · have hw := hw.2 c
    refine j_aload_n C 9 rfl 0 dX3_digitAt_8 rfl rfl ?_
    refine j_get C 12 rfl 0 3 0 (T := TX3) (N := 3) hi_X3_digitAt_X3 rfl (by decide) (List.mem_of_getElem? (i := 2) rfl) rfl rfl rfl dX3_digitAt_9 ?_
    refine j_iload_n C 13 rfl 1 dX3_digitAt_12 rfl rfl ?_
    obtain ⟨k1, ek1, hk1, hw⟩ := hw
    refine j_cald C 14 rfl 1 k1 rfl ek1 hk1 (by decide) dX3_digitAt_13 ?_
    refine j_bipush C 16 rfl dX3_digitAt_14 (v := (48 : Int32)) (by decide) ?_
    refine j_isub C 17 rfl dX3_digitAt_16 ?_
    refine j_goto C 21 dX3_digitAt_17 rfl ?_
    refine j_lv [] (lv' := []) rfl ?_
    exact hj21 _ hw
theorem hi_X3_faultOfRuns_X3 : ∀ w ∈ wsX30, w ∈ wsX3_faultOfRuns := fun _ h => List.mem_cons_of_mem _ (List.mem_append_right _ h)
set_option maxRecDepth 20000 in
set_option maxHeartbeats 4000000 in
theorem c_X3_faultOfRuns (l : Launch) (g : gE) (a_this a_signs a_row : Nat) (v_count : Int32) (f_signs : (Nat → Int32)) (x1 : Nat) (x2 : Int32) (x3 : Int32) (hx1 : x1 < 2) (K : Int32 → Prop) (hw : wp_X3_faultOfRuns v_count f_signs x1 x2 x3 K) : Ci l g yX3_faultOfRuns wsX3_faultOfRuns { frames := 5, cells := 0, slots := 0, locals := 128 } [.ref a_this, .ref (g.2.2 x1), .int x2, .int x3] [(a_this, .inr (3, [.ref a_signs, .ref a_row, .int v_count])), (a_signs, gC g 60 f_signs)] (fun (r : Int32) (_ : Unit) => K r) (fun (_ : Unit) => [(a_this, .inr (3, [.ref a_signs, .ref a_row, .int v_count])), (a_signs, gC g 60 f_signs)]) 0 0 := by
  refine Ci_of (cc := cX3_faultOfRuns) (nL := 7) (ret := (some .int)) (own := RX3) (lv0 := [(0, .ref a_this), (1, .ref (g.2.2 x1)), (2, .int x2), (3, .int x3)]) (by decide +kernel) rfl rfl (Nat.le_of_ble_eq_true rfl) rfl (fun A x C R => ?_)
  refine j_iload_n C 1 rfl 3 dX3_faultOfRuns_0 rfl rfl ?_
  refine j_istore C 3 rfl [1, 2, 3, 4, 0] (lv' := [(0, .ref a_this), (1, .ref (g.2.2 x1)), (2, .int x2), (3, .int x3), (4, .int x3)]) dX3_faultOfRuns_1 (by decide) rfl ?_
  refine j_iload_n C 4 rfl 2 dX3_faultOfRuns_3 rfl rfl ?_
  refine j_istore C 6 rfl [1, 2, 3, 4, 5, 0] (lv' := [(0, .ref a_this), (1, .ref (g.2.2 x1)), (2, .int x2), (3, .int x3), (4, .int x3), (5, .int x2)]) dX3_faultOfRuns_4 (by decide) rfl ?_
  refine j_lv [0, 1, 4, 5] (lv' := [(0, .ref a_this), (1, .ref (g.2.2 x1)), (4, .int x3), (5, .int x2)]) rfl ?_
  refine lpW2_ind (G := fun x4 x5 => J l g A x 7 0 0 6 [(0, .ref a_this), (1, .ref (g.2.2 x1)), (4, .int x4), (5, .int x5)] [] [(a_this, .inr (3, [.ref a_signs, .ref a_row, .int v_count])), (a_signs, gC g 60 f_signs)]) (fun L6 x4 x5 hL6 hw => ?_) _ _ hw
  refine j_iload C 8 rfl 3 dX3_faultOfRuns_6 rfl ?_
  refine j_aload_n C 9 rfl 0 dX3_faultOfRuns_8 rfl rfl ?_
  refine j_get C 12 rfl 0 3 2 (T := TX3) (N := 3) hi_X3_faultOfRuns_X3 rfl (by decide) (List.mem_of_getElem? (i := 1) rfl) rfl rfl rfl dX3_faultOfRuns_9 ?_
  refine j_icmp_ge C 15 rfl 73 dX3_faultOfRuns_12 rfl (fun c => ?_) (fun c => ?_)
  · have hw := hw.1 c
    refine j_iload C 75 rfl 2 dX3_faultOfRuns_73 rfl ?_
    refine j_if_ne C 78 rfl 83 dX3_faultOfRuns_75 rfl (fun c => ?_) (fun c => ?_)
    · have hw := hw.1 c
      refine j_aload_n C 84 rfl 0 dX3_faultOfRuns_83 rfl rfl ?_
      refine j_get C 87 rfl 0 3 2 (T := TX3) (N := 3) hi_X3_faultOfRuns_X3 rfl (by decide) (List.mem_of_getElem? (i := 1) rfl) rfl rfl rfl dX3_faultOfRuns_84 ?_
      exact j_iret C R () rfl dX3_faultOfRuns_87 rfl hw
    · have hw := hw.2 c
      refine j_bipush C 80 rfl dX3_faultOfRuns_78 (v := (-6 : Int32)) (by decide) ?_
      refine j_goto C 87 dX3_faultOfRuns_80 rfl ?_
      exact j_iret C R () rfl dX3_faultOfRuns_87 rfl hw
  · have hw := hw.2 c
    refine j_iload C 17 rfl 2 dX3_faultOfRuns_15 rfl ?_
    refine j_if_eq C 20 rfl 30 dX3_faultOfRuns_17 rfl (fun c => ?_) (fun c => ?_)
    · have hw := hw.1 c
      refine j_iload C 32 rfl 3 dX3_faultOfRuns_30 rfl ?_
      exact j_iret C R () rfl dX3_faultOfRuns_32 rfl hw
    · have hw := hw.2 c
      refine j_aload_n C 21 rfl 0 dX3_faultOfRuns_20 rfl rfl ?_
      refine j_iload C 23 rfl 3 dX3_faultOfRuns_21 rfl ?_
      refine j_aload_n C 24 rfl 1 dX3_faultOfRuns_23 rfl rfl ?_
      refine j_ri C 27 rfl (jc_V C (c_X3_letterAt l g a_this a_signs a_row v_count f_signs x5 x1 hx1 _ hw) 2 gX3_faultOfRuns_X3_letterAt rfl rfl rfl hd_X3_letterAt ⟨Nat.le_of_ble_eq_true rfl, Nat.le_of_ble_eq_true rfl⟩ (j_rec C 0 3 rfl rfl) [0, 1] rfl rfl (rest := []) rfl rfl (Nat.le_of_ble_eq_true rfl) dX3_faultOfRuns_24 ⟨Nat.le_refl _, Nat.le_refl _⟩) [0, 1] rfl (fun _ => rfl) (fun r1 _ hw => ?_)
      try dsimp only at hw
      refine j_if_ge C 30 rfl 33 dX3_faultOfRuns_27 rfl (fun c => ?_) (fun c => ?_)
      · have hw := hw.1 c
        refine j_aload_n C 34 rfl 0 dX3_faultOfRuns_33 rfl rfl ?_
        refine j_iload C 36 rfl 3 dX3_faultOfRuns_34 rfl ?_
        refine j_iconst C 37 rfl dX3_faultOfRuns_36 (v := (1 : Int32)) (by decide) ?_
        refine j_iadd C 38 rfl dX3_faultOfRuns_37 ?_
        refine j_top (fun n2 en2 => ?_)
        have hw := hw n2 en2
        refine j_ri C 41 rfl (jc_V C (c_X3_digitAt l g a_this a_signs a_row v_count f_signs n2 _ hw) 1 gX3_faultOfRuns_X3_digitAt rfl rfl rfl hd_X3_digitAt ⟨Nat.le_of_ble_eq_true rfl, Nat.le_of_ble_eq_true rfl⟩ (j_rec C 0 3 rfl rfl) [0, 1] rfl rfl (rest := []) rfl rfl (Nat.le_of_ble_eq_true rfl) dX3_faultOfRuns_38 ⟨Nat.le_refl _, Nat.le_refl _⟩) [0, 1] rfl (fun _ => rfl) (fun r3 _ hw => ?_)
        try dsimp only at hw
        refine j_istore C 43 rfl [1, 2, 3, 4, 0] (lv' := [(0, .ref a_this), (1, .ref (g.2.2 x1)), (4, .int x4), (5, .int x5), (6, .int r3)]) dX3_faultOfRuns_41 (by decide) rfl ?_
        refine j_iload C 45 rfl 4 dX3_faultOfRuns_43 rfl ?_
        refine j_if_eq C 48 rfl 55 dX3_faultOfRuns_45 rfl (fun c => ?_) (fun c => ?_)
        · have hw := hw.1 c
          refine j_iload C 57 rfl 3 dX3_faultOfRuns_55 rfl ?_
          refine j_iconst C 58 rfl dX3_faultOfRuns_57 (v := (1 : Int32)) (by decide) ?_
          refine j_iadd C 59 rfl dX3_faultOfRuns_58 ?_
          exact j_iret C R () rfl dX3_faultOfRuns_59 rfl hw
        · have hw := hw.2 c
          refine j_iload C 50 rfl 4 dX3_faultOfRuns_48 rfl ?_
          refine j_iload C 52 rfl 2 dX3_faultOfRuns_50 rfl ?_
          refine j_icmp_le C 55 rfl 60 dX3_faultOfRuns_52 rfl (fun c => ?_) (fun c => ?_)
          · have hw := hw.1 c
            refine j_iload C 62 rfl 2 dX3_faultOfRuns_60 rfl ?_
            refine j_iload C 64 rfl 4 dX3_faultOfRuns_62 rfl ?_
            refine j_isub C 65 rfl dX3_faultOfRuns_64 ?_
            refine j_top (fun n4 en4 => ?_)
            have hw := hw n4 en4
            refine j_istore C 67 rfl [1, 2, 0, 3, 4] (lv' := [(0, .ref a_this), (1, .ref (g.2.2 x1)), (4, .int n4), (5, .int x5), (6, .int r3)]) dX3_faultOfRuns_65 (by decide) rfl ?_
            refine j_iinc C 70 rfl 3 [1, 2, 3, 0, 4] (v' := (2 : Int32)) (lv' := fun z => [(0, .ref a_this), (1, .ref (g.2.2 x1)), (4, .int n4), (5, .int z), (6, .int r3)]) dX3_faultOfRuns_67 rfl (by decide) (by decide) (fun _ => rfl) (fun n5 en5 => ?_)
            have hw := hw n5 en5
            refine j_goto C 6 dX3_faultOfRuns_70 rfl ?_
            refine j_lv [0, 1, 2, 3] (lv' := [(0, .ref a_this), (1, .ref (g.2.2 x1)), (4, .int n4), (5, .int n5)]) rfl ?_
            exact hL6 _ _ hw
          · have hw := hw.2 c
            refine j_iload C 57 rfl 3 dX3_faultOfRuns_55 rfl ?_
            refine j_iconst C 58 rfl dX3_faultOfRuns_57 (v := (1 : Int32)) (by decide) ?_
            refine j_iadd C 59 rfl dX3_faultOfRuns_58 ?_
            exact j_iret C R () rfl dX3_faultOfRuns_59 rfl hw
      · have hw := hw.2 c
        refine j_iload C 32 rfl 3 dX3_faultOfRuns_30 rfl ?_
        exact j_iret C R () rfl dX3_faultOfRuns_32 rfl hw
theorem hi_X3_readRuns_X3 : ∀ w ∈ wsX30, w ∈ wsX3_readRuns := fun _ h => List.mem_cons_of_mem _ (List.mem_append_right _ h)
set_option maxRecDepth 20000 in
set_option maxHeartbeats 4000000 in
theorem c_X3_readRuns (l : Launch) (g : gE) (a_this a_signs a_row : Nat) (v_count : Int32) (f_signs : (Nat → Int32)) (f_row : (Nat → Int32)) (x1 : Nat) (x2 : Int32) (hx1 : x1 < 2) (K : (Nat → Int32) → Prop) (hw : wp_X3_readRuns v_count f_signs f_row x1 x2 K) : Cr l g yX3_readRuns wsX3_readRuns { frames := 5, cells := 0, slots := 0, locals := 128 } [.ref a_this, .ref (g.2.2 x1), .int x2] [(a_this, .inr (3, [.ref a_signs, .ref a_row, .int v_count])), (a_signs, gC g 60 f_signs), (a_row, gI g 24 f_row)] a_row (fun (u : (Nat → Int32)) => K u) (fun (u : (Nat → Int32)) => [(a_this, .inr (3, [.ref a_signs, .ref a_row, .int v_count])), (a_signs, gC g 60 f_signs), (a_row, gI g 24 u)]) 0 0 := by
  refine Cr_of (cc := cX3_readRuns) (nL := 7) (ret := (some (.array .int))) (own := RX3) (lv0 := [(0, .ref a_this), (1, .ref (g.2.2 x1)), (2, .int x2)]) (by decide +kernel) rfl rfl (Nat.le_of_ble_eq_true rfl) rfl (fun A x C R => ?_)
  refine j_iconst C 1 rfl dX3_readRuns_0 (v := (0 : Int32)) (by decide) ?_
  refine j_istore_n C 2 rfl [1, 2, 3, 0] (lv' := [(0, .ref a_this), (1, .ref (g.2.2 x1)), (2, .int x2), (3, .int (0 : Int32))]) dX3_readRuns_1 rfl (by decide) rfl ?_
  refine j_iload_n C 3 rfl 2 dX3_readRuns_2 rfl rfl ?_
  refine j_istore C 5 rfl [1, 2, 3, 4, 0] (lv' := [(0, .ref a_this), (1, .ref (g.2.2 x1)), (2, .int x2), (3, .int (0 : Int32)), (4, .int x2)]) dX3_readRuns_3 (by decide) rfl ?_
  refine j_lv [0, 1, 3, 4] (lv' := [(0, .ref a_this), (1, .ref (g.2.2 x1)), (3, .int (0 : Int32)), (4, .int x2)]) rfl ?_
  refine lpW3_ind (G := fun x3 x4 f_row => J l g A x 7 0 0 5 [(0, .ref a_this), (1, .ref (g.2.2 x1)), (3, .int x3), (4, .int x4)] [] [(a_this, .inr (3, [.ref a_signs, .ref a_row, .int v_count])), (a_signs, gC g 60 f_signs), (a_row, gI g 24 f_row)]) (fun L5 x3 x4 f_row hL5 hw => ?_) _ _ _ hw
  refine j_iload C 7 rfl 3 dX3_readRuns_5 rfl ?_
  refine j_aload_n C 8 rfl 0 dX3_readRuns_7 rfl rfl ?_
  refine j_get C 11 rfl 0 3 2 (T := TX3) (N := 3) hi_X3_readRuns_X3 rfl (by decide) (List.mem_of_getElem? (i := 1) rfl) rfl rfl rfl dX3_readRuns_8 ?_
  refine j_icmp_ge C 14 rfl 67 dX3_readRuns_11 rfl (fun c => ?_) (fun c => ?_)
  · have hw := hw.1 c
    refine j_aload_n C 68 rfl 0 dX3_readRuns_67 rfl rfl ?_
    refine j_get C 71 rfl 0 3 1 (T := TX3) (N := 3) hi_X3_readRuns_X3 rfl (by decide) (List.mem_of_getElem? (i := 2) rfl) rfl rfl rfl dX3_readRuns_68 ?_
    exact j_aret C R (f_row) (Or.inr ⟨_, rfl⟩) dX3_readRuns_71 rfl hw
  · have hw := hw.2 c
    refine j_aload_n C 15 rfl 0 dX3_readRuns_14 rfl rfl ?_
    refine j_iload C 17 rfl 3 dX3_readRuns_15 rfl ?_
    refine j_aload_n C 18 rfl 1 dX3_readRuns_17 rfl rfl ?_
    refine j_ri C 21 rfl (jc_V C (c_X3_letterAt l g a_this a_signs a_row v_count f_signs x4 x1 hx1 _ hw) 2 gX3_readRuns_X3_letterAt rfl rfl rfl hd_X3_letterAt ⟨Nat.le_of_ble_eq_true rfl, Nat.le_of_ble_eq_true rfl⟩ (j_rec C 0 3 rfl rfl) [0, 1] rfl rfl (rest := []) rfl rfl (Nat.le_of_ble_eq_true rfl) dX3_readRuns_18 ⟨Nat.le_refl _, Nat.le_refl _⟩) [0, 1] rfl (fun _ => rfl) (fun r1 _ hw => ?_)
    try dsimp only at hw
    refine j_istore C 23 rfl [1, 2, 3, 4, 0] (lv' := [(0, .ref a_this), (1, .ref (g.2.2 x1)), (3, .int x3), (4, .int x4), (5, .int r1)]) dX3_readRuns_21 (by decide) rfl ?_
    refine j_aload_n C 24 rfl 0 dX3_readRuns_23 rfl rfl ?_
    refine j_iload C 26 rfl 3 dX3_readRuns_24 rfl ?_
    refine j_iconst C 27 rfl dX3_readRuns_26 (v := (1 : Int32)) (by decide) ?_
    refine j_iadd C 28 rfl dX3_readRuns_27 ?_
    refine j_top (fun n2 en2 => ?_)
    have hw := hw n2 en2
    refine j_ri C 31 rfl (jc_V C (c_X3_digitAt l g a_this a_signs a_row v_count f_signs n2 _ hw) 1 gX3_readRuns_X3_digitAt rfl rfl rfl hd_X3_digitAt ⟨Nat.le_of_ble_eq_true rfl, Nat.le_of_ble_eq_true rfl⟩ (j_rec C 0 3 rfl rfl) [0, 1] rfl rfl (rest := []) rfl rfl (Nat.le_of_ble_eq_true rfl) dX3_readRuns_28 ⟨Nat.le_refl _, Nat.le_refl _⟩) [0, 1] rfl (fun _ => rfl) (fun r3 _ hw => ?_)
    try dsimp only at hw
    refine j_istore C 33 rfl [1, 2, 3, 4, 5, 0] (lv' := [(0, .ref a_this), (1, .ref (g.2.2 x1)), (3, .int x3), (4, .int x4), (5, .int r1), (6, .int r3)]) dX3_readRuns_31 (by decide) rfl ?_
    refine lpW3_ind (G := fun x3 x6 f_row => J l g A x 7 0 0 33 [(0, .ref a_this), (1, .ref (g.2.2 x1)), (3, .int x3), (4, .int x4), (5, .int r1), (6, .int x6)] [] [(a_this, .inr (3, [.ref a_signs, .ref a_row, .int v_count])), (a_signs, gC g 60 f_signs), (a_row, gI g 24 f_row)]) (fun L33 x3 x6 f_row hL33 hw => ?_) _ _ _ hw
    refine j_iload C 35 rfl 5 dX3_readRuns_33 rfl ?_
    refine j_if_le C 38 rfl 61 dX3_readRuns_35 rfl (fun c => ?_) (fun c => ?_)
    · have hw := hw.1 c
      refine j_iinc C 64 rfl 3 [1, 2, 3, 0, 4, 5] (v' := (2 : Int32)) (lv' := fun z => [(0, .ref a_this), (1, .ref (g.2.2 x1)), (3, .int x3), (4, .int z), (5, .int r1), (6, .int x6)]) dX3_readRuns_61 rfl (by decide) (by decide) (fun _ => rfl) (fun n4 en4 => ?_)
      have hw := hw n4 en4
      refine j_goto C 5 dX3_readRuns_64 rfl ?_
      refine j_lv [0, 1, 2, 3] (lv' := [(0, .ref a_this), (1, .ref (g.2.2 x1)), (3, .int x3), (4, .int n4)]) rfl ?_
      exact hL5 _ _ _ hw
    · have hw := hw.2 c
      refine j_iload_n C 39 rfl 2 dX3_readRuns_38 rfl rfl ?_
      refine j_bipush C 41 rfl dX3_readRuns_39 (v := (24 : Int32)) (by decide) ?_
      refine j_icmp_ge C 44 rfl 61 dX3_readRuns_41 rfl (fun c => ?_) (fun c => ?_)
      · have hw := hw.1 c
        refine j_iinc C 64 rfl 3 [1, 2, 3, 0, 4, 5] (v' := (2 : Int32)) (lv' := fun z => [(0, .ref a_this), (1, .ref (g.2.2 x1)), (3, .int x3), (4, .int z), (5, .int r1), (6, .int x6)]) dX3_readRuns_61 rfl (by decide) (by decide) (fun _ => rfl) (fun n5 en5 => ?_)
        have hw := hw n5 en5
        refine j_goto C 5 dX3_readRuns_64 rfl ?_
        refine j_lv [0, 1, 2, 3] (lv' := [(0, .ref a_this), (1, .ref (g.2.2 x1)), (3, .int x3), (4, .int n5)]) rfl ?_
        exact hL5 _ _ _ hw
      · have hw := hw.2 c
        refine j_aload_n C 45 rfl 0 dX3_readRuns_44 rfl rfl ?_
        refine j_get C 48 rfl 0 3 1 (T := TX3) (N := 3) hi_X3_readRuns_X3 rfl (by decide) (List.mem_of_getElem? (i := 2) rfl) rfl rfl rfl dX3_readRuns_45 ?_
        refine j_iload_n C 49 rfl 2 dX3_readRuns_48 rfl rfl ?_
        refine j_iload C 51 rfl 4 dX3_readRuns_49 rfl ?_
        obtain ⟨k6, ek6, hk6, hw⟩ := hw
        refine j_iast C 52 rfl 2 k6 (ws' := [(a_this, .inr (3, [.ref a_signs, .ref a_row, .int v_count])), (a_signs, gC g 60 f_signs), (a_row, gI g 24 (upd f_row k6 r1))]) rfl ek6 hk6 (by decide) rfl dX3_readRuns_51 ?_
        refine j_iinc C 55 rfl 2 [1, 2, 0, 3, 4, 5] (v' := (1 : Int32)) (lv' := fun z => [(0, .ref a_this), (1, .ref (g.2.2 x1)), (3, .int z), (4, .int x4), (5, .int r1), (6, .int x6)]) dX3_readRuns_52 rfl (by decide) (by decide) (fun _ => rfl) (fun n7 en7 => ?_)
        have hw := hw n7 en7
        refine j_iinc C 58 rfl 5 [1, 2, 3, 4, 5, 0] (v' := (-1 : Int32)) (lv' := fun z => [(0, .ref a_this), (1, .ref (g.2.2 x1)), (3, .int n7), (4, .int x4), (5, .int r1), (6, .int z)]) dX3_readRuns_55 rfl (by decide) (by decide) (fun _ => rfl) (fun n8 en8 => ?_)
        have hw := hw n8 en8
        refine j_goto C 33 dX3_readRuns_58 rfl ?_
        exact hL33 _ _ _ hw
