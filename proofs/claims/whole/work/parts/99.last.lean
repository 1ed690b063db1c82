def wp_X2_copyFrom (v_generation : Int32) (v_toll : Int32) (f_sorts : (Nat → Int32)) (f_owners : (Nat → Int32)) (f_worths : (Nat → Int32)) (f_gave : (Nat → Int32)) (v_p1_generation : Int32) (v_p1_toll : Int32) (f_p1_sorts : (Nat → Int32)) (f_p1_owners : (Nat → Int32)) (f_p1_worths : (Nat → Int32)) (f_p1_gave : (Nat → Int32)) (K : Int32 → Int32 → (Nat → Int32) → (Nat → Int32) → (Nat → Int32) → (Nat → Int32) → Prop) : Prop :=
  ∃ sk1 dk1 nk1 : Nat, (0 : Int32) = nI sk1 ∧ (0 : Int32) = nI dk1 ∧ (120 : Int32) = nI nk1 ∧ sk1 + nk1 ≤ 120 ∧ dk1 + nk1 ≤ 120 ∧ (∃ sk2 dk2 nk2 : Nat, (0 : Int32) = nI sk2 ∧ (0 : Int32) = nI dk2 ∧ (504 : Int32) = nI nk2 ∧ sk2 + nk2 ≤ 504 ∧ dk2 + nk2 ≤ 504 ∧ (∃ sk3 dk3 nk3 : Nat, (0 : Int32) = nI sk3 ∧ (0 : Int32) = nI dk3 ∧ (30 : Int32) = nI nk3 ∧ sk3 + nk3 ≤ 30 ∧ dk3 + nk3 ≤ 30 ∧ (∃ sk4 dk4 nk4 : Nat, (0 : Int32) = nI sk4 ∧ (0 : Int32) = nI dk4 ∧ (6 : Int32) = nI nk4 ∧ sk4 + nk4 ≤ 6 ∧ dk4 + nk4 ≤ 6 ∧ (K v_p1_generation v_p1_toll (va_cpy f_p1_sorts f_sorts sk1 dk1 nk1) (va_cpy f_p1_owners f_owners sk2 dk2 nk2) (va_cpy f_p1_worths f_worths sk3 dk3 nk3) (va_cpy f_p1_gave f_gave sk4 dk4 nk4)))))
def wp_X2_sortAt (f_sorts : (Nat → Int32)) (x1 : Int32) (x2 : Int32) (K : Int32 → Prop) : Prop :=
  ∃ k1 : Nat, (x1 * (24 : Int32)) + x2 = nI k1 ∧ k1 < 120 ∧ (K (f_sorts k1))
def wp_X2_setRing (f_sorts : (Nat → Int32)) (f_p2 : (Nat → Int32)) (x1 : Int32) (K : (Nat → Int32) → Prop) : Prop :=
  ∃ sk1 dk1 nk1 : Nat, (0 : Int32) = nI sk1 ∧ x1 * (24 : Int32) = nI dk1 ∧ (24 : Int32) = nI nk1 ∧ sk1 + nk1 ≤ 24 ∧ dk1 + nk1 ≤ 120 ∧ (K (va_cpy f_p2 f_sorts sk1 dk1 nk1))
def wb_X2_sectorsOfSort_5 (f_sorts : (Nat → Int32)) (x1 : Int32) (x2 : Int32) (K : Int32 → Prop) (L5 : Int32 → Int32 → Prop) (x3 : Int32) (x4 : Int32) : Prop :=
  (((24 : Int32) ≤ x4) → (K x3)) ∧ ((¬ (24 : Int32) ≤ x4) → (wp_X2_sortAt f_sorts x1 x4 (fun r1 => (((¬ r1 = x2) → (∀ n2 : Int32, n2 = x4 + (1 : Int32) → (L5 x3 n2))) ∧ ((r1 = x2) → (∀ n3 : Int32, n3 = x3 ||| ((1 : Int32) <<< (x4 &&& 31)) → (∀ n4 : Int32, n4 = x4 + (1 : Int32) → (L5 n3 n4))))))))
def wp_X2_sectorsOfSort (f_sorts : (Nat → Int32)) (x1 : Int32) (x2 : Int32) (K : Int32 → Prop) : Prop :=
  lpW2 (wb_X2_sectorsOfSort_5 f_sorts x1 x2 K) (0 : Int32) (0 : Int32)
def wp_X2_ownerBehind (f_owners : (Nat → Int32)) (x1 : Int32) (x2 : Int32) (K : Int32 → Prop) : Prop :=
  ∃ k1 : Nat, (x1 * (24 : Int32)) + x2 = nI k1 ∧ k1 < 504 ∧ (K (f_owners k1))
def wp_X2_ownerOf (v_generation : Int32) (f_owners : (Nat → Int32)) (x1 : Int32) (K : Int32 → Prop) : Prop :=
  wp_X2_ownerBehind f_owners v_generation x1 (fun r1 => (K r1))
def wb_X2_sectorsOf_4 (v_generation : Int32) (f_owners : (Nat → Int32)) (x1 : Int32) (K : Int32 → Prop) (L4 : Int32 → Int32 → Prop) (x2 : Int32) (x3 : Int32) : Prop :=
  (((24 : Int32) ≤ x3) → (K x2)) ∧ ((¬ (24 : Int32) ≤ x3) → (wp_X2_ownerOf v_generation f_owners x3 (fun r1 => (((¬ r1 = x1) → (∀ n2 : Int32, n2 = x3 + (1 : Int32) → (L4 x2 n2))) ∧ ((r1 = x1) → (∀ n3 : Int32, n3 = x2 ||| ((1 : Int32) <<< (x3 &&& 31)) → (∀ n4 : Int32, n4 = x3 + (1 : Int32) → (L4 n3 n4))))))))
def wp_X2_sectorsOf (v_generation : Int32) (f_owners : (Nat → Int32)) (x1 : Int32) (K : Int32 → Prop) : Prop :=
  lpW2 (wb_X2_sectorsOf_4 v_generation f_owners x1 K) (0 : Int32) (0 : Int32)
def wb_X2_ownersOf_4 (v_generation : Int32) (f_owners : (Nat → Int32)) (x1 : Int32) (K : Int32 → Prop) (L4 : Int32 → Int32 → Prop) (x2 : Int32) (x3 : Int32) : Prop :=
  (((24 : Int32) ≤ x3) → (K x2)) ∧ ((¬ (24 : Int32) ≤ x3) → (((((x1 >>> (x3 &&& 31)) &&& (1 : Int32)) = 0) → (∀ n1 : Int32, n1 = x3 + (1 : Int32) → (L4 x2 n1))) ∧ ((¬ ((x1 >>> (x3 &&& 31)) &&& (1 : Int32)) = 0) → (wp_X2_ownerOf v_generation f_owners x3 (fun r2 => (∀ n3 : Int32, n3 = x2 ||| ((1 : Int32) <<< (r2 &&& 31)) → (∀ n4 : Int32, n4 = x3 + (1 : Int32) → (L4 n3 n4))))))))
def wp_X2_ownersOf (v_generation : Int32) (f_owners : (Nat → Int32)) (x1 : Int32) (K : Int32 → Prop) : Prop :=
  lpW2 (wb_X2_ownersOf_4 v_generation f_owners x1 K) (0 : Int32) (0 : Int32)
def wp_X2_setSlices (v_generation : Int32) (f_owners : (Nat → Int32)) (f_p1 : (Nat → Int32)) (K : Int32 → (Nat → Int32) → Prop) : Prop :=
  ∃ sk1 dk1 nk1 : Nat, (0 : Int32) = nI sk1 ∧ (0 : Int32) = nI dk1 ∧ (24 : Int32) = nI nk1 ∧ sk1 + nk1 ≤ 24 ∧ dk1 + nk1 ≤ 504 ∧ (K (0 : Int32) (va_cpy f_p1 f_owners sk1 dk1 nk1))
def wp_X2_beginGeneration (v_generation : Int32) (f_owners : (Nat → Int32)) (K : Int32 → (Nat → Int32) → Prop) : Prop :=
  ∃ sk1 dk1 nk1 : Nat, v_generation * (24 : Int32) = nI sk1 ∧ (v_generation + (1 : Int32)) * (24 : Int32) = nI dk1 ∧ (24 : Int32) = nI nk1 ∧ sk1 + nk1 ≤ 504 ∧ dk1 + nk1 ≤ 504 ∧ (∀ n2 : Int32, n2 = v_generation + (1 : Int32) → (K n2 (va_cpy f_owners f_owners sk1 dk1 nk1)))
def wp_X2_give (v_generation : Int32) (f_owners : (Nat → Int32)) (x1 : Int32) (x2 : Int32) (K : (Nat → Int32) → Prop) : Prop :=
  ∃ k1 : Nat, (v_generation * (24 : Int32)) + x1 = nI k1 ∧ k1 < 504 ∧ (K (upd f_owners k1 x2))
def wb_X2_giveAway_5 (v_generation : Int32) (f_p2 : (Nat → Int32)) (x1 : Int32) (K : (Nat → Int32) → Prop) (L5 : Int32 → Int32 → (Nat → Int32) → Prop) (x3 : Int32) (x4 : Int32) (f_owners : (Nat → Int32)) : Prop :=
  (((24 : Int32) ≤ x4) → (K f_owners)) ∧ ((¬ (24 : Int32) ≤ x4) → (wp_X2_ownerOf v_generation f_owners x4 (fun r1 => (((¬ r1 = x1) → (∀ n2 : Int32, n2 = x4 + (1 : Int32) → (L5 x3 n2 f_owners))) ∧ ((r1 = x1) → (∃ k3 : Nat, x3 = nI k3 ∧ k3 < 24 ∧ (∀ n4 : Int32, n4 = f_p2 k3 → (wp_X2_give v_generation f_owners x4 n4 (fun u5 => (∀ n6 : Int32, n6 = x3 + (1 : Int32) → (∀ n7 : Int32, n7 = x4 + (1 : Int32) → (L5 n6 n7 u5))))))))))))
def wp_X2_giveAway (v_generation : Int32) (f_owners : (Nat → Int32)) (f_p2 : (Nat → Int32)) (x1 : Int32) (K : (Nat → Int32) → Prop) : Prop :=
  lpW3 (wb_X2_giveAway_5 v_generation f_p2 x1 K) (0 : Int32) (0 : Int32) f_owners
def wb_X2_join_2 (v_generation : Int32) (x1 : Int32) (x2 : Int32) (K : (Nat → Int32) → Prop) (L2 : Int32 → (Nat → Int32) → Prop) (x3 : Int32) (f_owners : (Nat → Int32)) : Prop :=
  (((24 : Int32) ≤ x3) → (K f_owners)) ∧ ((¬ (24 : Int32) ≤ x3) → (wp_X2_ownerOf v_generation f_owners x3 (fun r1 => (((¬ r1 = x2) → (∀ n2 : Int32, n2 = x3 + (1 : Int32) → (L2 n2 f_owners))) ∧ ((r1 = x2) → (wp_X2_give v_generation f_owners x3 x1 (fun u3 => (∀ n4 : Int32, n4 = x3 + (1 : Int32) → (L2 n4 u3)))))))))
def wp_X2_join (v_generation : Int32) (f_owners : (Nat → Int32)) (x1 : Int32) (x2 : Int32) (K : (Nat → Int32) → Prop) : Prop :=
  lpW2 (wb_X2_join_2 v_generation x1 x2 K) (0 : Int32) f_owners
def wp_X2_setWorth (f_worths : (Nat → Int32)) (x1 : Int32) (x2 : Int32) (x3 : Int32) (K : Int32 → (Nat → Int32) → Prop) : Prop :=
  ∃ k1 : Nat, (x1 * (5 : Int32)) + x2 = nI k1 ∧ k1 < 30 ∧ (∀ n2 : Int32, n2 = f_worths k1 → (∃ k3 : Nat, (x1 * (5 : Int32)) + x2 = nI k3 ∧ k3 < 30 ∧ (K n2 (upd f_worths k3 x3))))
def wb_X2_shareOfSector_5 (f_sorts : (Nat → Int32)) (f_worths : (Nat → Int32)) (x1 : Int32) (x2 : Int32) (K : Int32 → Prop) (L5 : Int32 → Int32 → Prop) (x3 : Int32) (x4 : Int32) : Prop :=
  (((5 : Int32) ≤ x4) → (K x3)) ∧ ((¬ (5 : Int32) ≤ x4) → (wp_X2_sortAt f_sorts x4 x2 (fun r1 => (∃ k2 : Nat, (x1 * (5 : Int32)) + r1 = nI k2 ∧ k2 < 30 ∧ (∀ n3 : Int32, n3 = x3 + (f_worths k2) → (∀ n4 : Int32, n4 = x4 + (1 : Int32) → (L5 n3 n4)))))))
def wp_X2_shareOfSector (f_sorts : (Nat → Int32)) (f_worths : (Nat → Int32)) (x1 : Int32) (x2 : Int32) (K : Int32 → Prop) : Prop :=
  lpW2 (wb_X2_shareOfSector_5 f_sorts f_worths x1 x2 K) (0 : Int32) (0 : Int32)
def wb_X2_shareOf_5 (f_sorts : (Nat → Int32)) (f_worths : (Nat → Int32)) (x1 : Int32) (x2 : Int32) (K : Int32 → Prop) (L5 : Int32 → Int32 → Prop) (x3 : Int32) (x4 : Int32) : Prop :=
  (((24 : Int32) ≤ x4) → (K x3)) ∧ ((¬ (24 : Int32) ≤ x4) → (((((x2 >>> (x4 &&& 31)) &&& (1 : Int32)) = 0) → (∀ n1 : Int32, n1 = x4 + (1 : Int32) → (L5 x3 n1))) ∧ ((¬ ((x2 >>> (x4 &&& 31)) &&& (1 : Int32)) = 0) → (wp_X2_shareOfSector f_sorts f_worths x1 x4 (fun r2 => (∀ n3 : Int32, n3 = x3 + r2 → (∀ n4 : Int32, n4 = x4 + (1 : Int32) → (L5 n3 n4))))))))
def wp_X2_shareOf (f_sorts : (Nat → Int32)) (f_worths : (Nat → Int32)) (x1 : Int32) (x2 : Int32) (K : Int32 → Prop) : Prop :=
  lpW2 (wb_X2_shareOf_5 f_sorts f_worths x1 x2 K) (0 : Int32) (0 : Int32)
def wp_X2_hasRight (f_gave : (Nat → Int32)) (x1 : Int32) (x2 : Int32) (K : Int32 → Prop) : Prop :=
  ∃ k1 : Nat, x2 = nI k1 ∧ k1 < 6 ∧ ((((((f_gave k1) >>> (x1 &&& 31)) &&& (1 : Int32)) = 0) → (K (0 : Int32))) ∧ ((¬ (((f_gave k1) >>> (x1 &&& 31)) &&& (1 : Int32)) = 0) → (K (1 : Int32))))
def wp_X2_setRight (f_gave : (Nat → Int32)) (x1 : Int32) (x2 : Int32) (x3 : Int32) (K : Int32 → (Nat → Int32) → Prop) : Prop :=
  wp_X2_hasRight f_gave x2 x1 (fun r1 => (∀ n2 : Int32, n2 = (1 : Int32) <<< (x2 &&& 31) → (((x3 = 0) → (∃ k3 : Nat, x1 = nI k3 ∧ k3 < 6 ∧ (∀ n4 : Int32, n4 = (f_gave k3) &&& (n2 ^^^ (-1 : Int32)) → (∃ k5 : Nat, x1 = nI k5 ∧ k5 < 6 ∧ ((narrow .boolean (.int r1) = .int r1) ∧ (K r1 (upd f_gave k5 n4))))))) ∧ ((¬ x3 = 0) → (∃ k6 : Nat, x1 = nI k6 ∧ k6 < 6 ∧ (∀ n7 : Int32, n7 = (f_gave k6) ||| n2 → (∃ k8 : Nat, x1 = nI k8 ∧ k8 < 6 ∧ ((narrow .boolean (.int r1) = .int r1) ∧ (K r1 (upd f_gave k8 n7))))))))))
def wp_X2_isFreeFor (v_generation : Int32) (f_owners : (Nat → Int32)) (f_gave : (Nat → Int32)) (x1 : Int32) (x2 : Int32) (K : Int32 → Prop) : Prop :=
  wp_X2_ownerOf v_generation f_owners x2 (fun r1 => (((r1 = x1) → (K (1 : Int32))) ∧ ((¬ r1 = x1) → (wp_X2_hasRight f_gave x1 r1 (fun r2 => (((r2 = 0) → (K (0 : Int32))) ∧ ((¬ r2 = 0) → (K (1 : Int32)))))))))
theorem hi_X2_copyFrom_X2 : ∀ w ∈ wsX20, w ∈ wsX2_copyFrom := fun _ h => List.mem_cons_of_mem _ (List.mem_append_right _ h)
theorem hd_X2_copyFrom : yX2_copyFrom.cls = RX2 ∧ yX2_copyFrom.cls ≠ "java/lang/invoke/MethodHandle" ∧ yX2_copyFrom.cls ≠ "java/lang/invoke/VarHandle" ∧ (parseMethodDescriptor yX2_copyFrom.desc).map (fun d => d.parameters.length) = some 1 := by decide +kernel
set_option maxRecDepth 20000 in
set_option maxHeartbeats 4000000 in
theorem c_X2_copyFrom (l : Launch) (g : gE) (a_this a_sorts a_owners a_worths a_gave a_p1 a_p1_sorts a_p1_owners a_p1_worths a_p1_gave : Nat) (v_generation : Int32) (v_toll : Int32) (f_sorts : (Nat → Int32)) (f_owners : (Nat → Int32)) (f_worths : (Nat → Int32)) (f_gave : (Nat → Int32)) (v_p1_generation : Int32) (v_p1_toll : Int32) (f_p1_sorts : (Nat → Int32)) (f_p1_owners : (Nat → Int32)) (f_p1_worths : (Nat → Int32)) (f_p1_gave : (Nat → Int32))   (K : Int32 → Int32 → (Nat → Int32) → (Nat → Int32) → (Nat → Int32) → (Nat → Int32) → Prop) (hw : wp_X2_copyFrom v_generation v_toll f_sorts f_owners f_worths f_gave v_p1_generation v_p1_toll f_p1_sorts f_p1_owners f_p1_worths f_p1_gave K) : Cv l g yX2_copyFrom wsX2_copyFrom { frames := 1, cells := 0, slots := 0, locals := 60 } [.ref a_this, .ref a_p1] [(a_this, .inr (2, [.ref a_sorts, .ref a_owners, .ref a_worths, .ref a_gave, .int v_generation, .int v_toll])), (a_sorts, gI g 120 f_sorts), (a_owners, gI g 504 f_owners), (a_worths, gI g 30 f_worths), (a_gave, gI g 6 f_gave), (a_p1, .inr (2, [.ref a_p1_sorts, .ref a_p1_owners, .ref a_p1_worths, .ref a_p1_gave, .int v_p1_generation, .int v_p1_toll])), (a_p1_sorts, gI g 120 f_p1_sorts), (a_p1_owners, gI g 504 f_p1_owners), (a_p1_worths, gI g 30 f_p1_worths), (a_p1_gave, gI g 6 f_p1_gave)] (fun (u : Int32 × Int32 × (Nat → Int32) × (Nat → Int32) × (Nat → Int32) × (Nat → Int32)) => K u.1 u.2.1 u.2.2.1 u.2.2.2.1 u.2.2.2.2.1 u.2.2.2.2.2) (fun (u : Int32 × Int32 × (Nat → Int32) × (Nat → Int32) × (Nat → Int32) × (Nat → Int32)) => [(a_this, .inr (2, [.ref a_sorts, .ref a_owners, .ref a_worths, .ref a_gave, .int (u.1), .int (u.2.1)])), (a_sorts, gI g 120 (u.2.2.1)), (a_owners, gI g 504 (u.2.2.2.1)), (a_worths, gI g 30 (u.2.2.2.2.1)), (a_gave, gI g 6 (u.2.2.2.2.2)), (a_p1, .inr (2, [.ref a_p1_sorts, .ref a_p1_owners, .ref a_p1_worths, .ref a_p1_gave, .int v_p1_generation, .int v_p1_toll])), (a_p1_sorts, gI g 120 f_p1_sorts), (a_p1_owners, gI g 504 f_p1_owners), (a_p1_worths, gI g 30 f_p1_worths), (a_p1_gave, gI g 6 f_p1_gave)]) 0 0 := by
  refine Cv_of (cc := cX2_copyFrom) (nL := 2) (ret := none) (own := RX2) (lv0 := [(0, .ref a_this), (1, .ref a_p1)]) (by decide +kernel) rfl rfl (Nat.le_of_ble_eq_true rfl) rfl (fun A x C R => ?_)
  refine j_aload_n C 1 dX2_copyFrom_0 rfl rfl ?_
  refine j_get C 5 2 0 (T := TX2) (N := 6) hi_X2_copyFrom_X2 rfl (by decide) (List.mem_of_getElem? (i := 1) rfl) rfl rfl rfl dX2_copyFrom_1 ?_
  refine j_iconst C dX2_copyFrom_4 (v := (0 : Int32)) (by decide) ?_
  refine j_aload_n C 0 dX2_copyFrom_5 rfl rfl ?_
  refine j_get C 0 2 0 (T := TX2) (N := 6) hi_X2_copyFrom_X2 rfl (by decide) (List.mem_of_getElem? (i := 1) rfl) rfl rfl rfl dX2_copyFrom_6 ?_
  refine j_iconst C dX2_copyFrom_9 (v := (0 : Int32)) (by decide) ?_
  refine j_bipush C dX2_copyFrom_10 (v := (120 : Int32)) (by decide) ?_
  obtain ⟨sk1, dk1, nk1, e1, e2, e3, e4, e5, hw⟩ := hw
  refine j_copy C 6 1 sk1 dk1 nk1 (List.mem_of_getElem? (i := 2) rfl) (List.mem_of_getElem? (i := 3) rfl) (List.mem_of_getElem? (i := 4) rfl) (List.mem_of_getElem? (i := 5) rfl) rfl rfl e1 e2 e3 e4 e5 (by decide) (by decide) (by decide) (Nat.le_of_ble_eq_true rfl) rfl dX2_copyFrom_12 ?_
  refine j_aload_n C 1 dX2_copyFrom_15 rfl rfl ?_
  refine j_get C 5 2 1 (T := TX2) (N := 6) hi_X2_copyFrom_X2 rfl (by decide) (List.mem_of_getElem? (i := 6) rfl) rfl rfl rfl dX2_copyFrom_16 ?_
  refine j_iconst C dX2_copyFrom_19 (v := (0 : Int32)) (by decide) ?_
  refine j_aload_n C 0 dX2_copyFrom_20 rfl rfl ?_
  refine j_get C 0 2 1 (T := TX2) (N := 6) hi_X2_copyFrom_X2 rfl (by decide) (List.mem_of_getElem? (i := 6) rfl) rfl rfl rfl dX2_copyFrom_21 ?_
  refine j_iconst C dX2_copyFrom_24 (v := (0 : Int32)) (by decide) ?_
  refine j_sipush C dX2_copyFrom_25 (v := (504 : Int32)) (by decide) ?_
  obtain ⟨sk2, dk2, nk2, e1, e2, e3, e4, e5, hw⟩ := hw
  refine j_copy C 7 2 sk2 dk2 nk2 (List.mem_of_getElem? (i := 2) rfl) (List.mem_of_getElem? (i := 3) rfl) (List.mem_of_getElem? (i := 4) rfl) (List.mem_of_getElem? (i := 5) rfl) rfl rfl e1 e2 e3 e4 e5 (by decide) (by decide) (by decide) (Nat.le_of_ble_eq_true rfl) rfl dX2_copyFrom_28 ?_
  refine j_aload_n C 1 dX2_copyFrom_31 rfl rfl ?_
  refine j_get C 5 2 2 (T := TX2) (N := 6) hi_X2_copyFrom_X2 rfl (by decide) (List.mem_of_getElem? (i := 7) rfl) rfl rfl rfl dX2_copyFrom_32 ?_
  refine j_iconst C dX2_copyFrom_35 (v := (0 : Int32)) (by decide) ?_
  refine j_aload_n C 0 dX2_copyFrom_36 rfl rfl ?_
  refine j_get C 0 2 2 (T := TX2) (N := 6) hi_X2_copyFrom_X2 rfl (by decide) (List.mem_of_getElem? (i := 7) rfl) rfl rfl rfl dX2_copyFrom_37 ?_
  refine j_iconst C dX2_copyFrom_40 (v := (0 : Int32)) (by decide) ?_
  refine j_bipush C dX2_copyFrom_41 (v := (30 : Int32)) (by decide) ?_
  obtain ⟨sk3, dk3, nk3, e1, e2, e3, e4, e5, hw⟩ := hw
  refine j_copy C 8 3 sk3 dk3 nk3 (List.mem_of_getElem? (i := 2) rfl) (List.mem_of_getElem? (i := 3) rfl) (List.mem_of_getElem? (i := 4) rfl) (List.mem_of_getElem? (i := 5) rfl) rfl rfl e1 e2 e3 e4 e5 (by decide) (by decide) (by decide) (Nat.le_of_ble_eq_true rfl) rfl dX2_copyFrom_43 ?_
  refine j_aload_n C 1 dX2_copyFrom_46 rfl rfl ?_
  refine j_get C 5 2 3 (T := TX2) (N := 6) hi_X2_copyFrom_X2 rfl (by decide) (List.mem_of_getElem? (i := 8) rfl) rfl rfl rfl dX2_copyFrom_47 ?_
  refine j_iconst C dX2_copyFrom_50 (v := (0 : Int32)) (by decide) ?_
  refine j_aload_n C 0 dX2_copyFrom_51 rfl rfl ?_
  refine j_get C 0 2 3 (T := TX2) (N := 6) hi_X2_copyFrom_X2 rfl (by decide) (List.mem_of_getElem? (i := 8) rfl) rfl rfl rfl dX2_copyFrom_52 ?_
  refine j_iconst C dX2_copyFrom_55 (v := (0 : Int32)) (by decide) ?_
  refine j_bipush C dX2_copyFrom_56 (v := (6 : Int32)) (by decide) ?_
  obtain ⟨sk4, dk4, nk4, e1, e2, e3, e4, e5, hw⟩ := hw
  refine j_copy C 9 4 sk4 dk4 nk4 (List.mem_of_getElem? (i := 2) rfl) (List.mem_of_getElem? (i := 3) rfl) (List.mem_of_getElem? (i := 4) rfl) (List.mem_of_getElem? (i := 5) rfl) rfl rfl e1 e2 e3 e4 e5 (by decide) (by decide) (by decide) (Nat.le_of_ble_eq_true rfl) rfl dX2_copyFrom_58 ?_
  refine j_aload_n C 0 dX2_copyFrom_61 rfl rfl ?_
  refine j_aload_n C 1 dX2_copyFrom_62 rfl rfl ?_
  refine j_get C 5 2 4 (T := TX2) (N := 6) hi_X2_copyFrom_X2 rfl (by decide) (List.mem_of_getElem? (i := 9) rfl) rfl rfl rfl dX2_copyFrom_63 ?_
  refine j_put C 0 2 4 (T := TX2) (N := 6) (ty := .int) tyX2_ok nmX2 hi_X2_copyFrom_X2 rfl (by decide) (List.mem_of_getElem? (i := 9) rfl) rfl rfl rfl rfl rfl rfl (Nat.le_of_ble_eq_true rfl) rfl dX2_copyFrom_66 ?_
  refine j_aload_n C 0 dX2_copyFrom_69 rfl rfl ?_
  refine j_aload_n C 1 dX2_copyFrom_70 rfl rfl ?_
  refine j_get C 5 2 5 (T := TX2) (N := 6) hi_X2_copyFrom_X2 rfl (by decide) (List.mem_of_getElem? (i := 10) rfl) rfl rfl rfl dX2_copyFrom_71 ?_
  refine j_put C 0 2 5 (T := TX2) (N := 6) (ty := .int) tyX2_ok nmX2 hi_X2_copyFrom_X2 rfl (by decide) (List.mem_of_getElem? (i := 10) rfl) rfl rfl rfl rfl rfl rfl (Nat.le_of_ble_eq_true rfl) rfl dX2_copyFrom_74 ?_
  exact j_vret C R (v_p1_generation, v_p1_toll, va_cpy f_p1_sorts f_sorts sk1 dk1 nk1, va_cpy f_p1_owners f_owners sk2 dk2 nk2, va_cpy f_p1_worths f_worths sk3 dk3 nk3, va_cpy f_p1_gave f_gave sk4 dk4 nk4) dX2_copyFrom_77 rfl hw
theorem hi_X2_sortAt_X2 : ∀ w ∈ wsX20, w ∈ wsX2_sortAt := fun _ h => List.mem_cons_of_mem _ (List.mem_append_right _ h)
theorem hd_X2_sortAt : yX2_sortAt.cls = RX2 ∧ yX2_sortAt.cls ≠ "java/lang/invoke/MethodHandle" ∧ yX2_sortAt.cls ≠ "java/lang/invoke/VarHandle" ∧ (parseMethodDescriptor yX2_sortAt.desc).map (fun d => d.parameters.length) = some 2 := by decide +kernel
set_option maxRecDepth 20000 in
set_option maxHeartbeats 4000000 in
theorem c_X2_sortAt (l : Launch) (g : gE) (a_this a_sorts a_owners a_worths a_gave : Nat) (v_generation : Int32) (v_toll : Int32) (f_sorts : (Nat → Int32)) (x1 : Int32) (x2 : Int32)  (K : Int32 → Prop) (hw : wp_X2_sortAt f_sorts x1 x2 K) : Ci l g yX2_sortAt wsX2_sortAt { frames := 0, cells := 0, slots := 0, locals := 0 } [.ref a_this, .int x1, .int x2] [(a_this, .inr (2, [.ref a_sorts, .ref a_owners, .ref a_worths, .ref a_gave, .int v_generation, .int v_toll])), (a_sorts, gI g 120 f_sorts)] (fun (r : Int32) (_ : Unit) => K r) (fun (_ : Unit) => [(a_this, .inr (2, [.ref a_sorts, .ref a_owners, .ref a_worths, .ref a_gave, .int v_generation, .int v_toll])), (a_sorts, gI g 120 f_sorts)]) 0 0 := by
  refine Ci_of (cc := cX2_sortAt) (nL := 3) (ret := (some .int)) (own := RX2) (lv0 := [(0, .ref a_this), (1, .int x1), (2, .int x2)]) (by decide +kernel) rfl rfl (Nat.le_of_ble_eq_true rfl) rfl (fun A x C R => ?_)
  refine j_aload_n C 0 dX2_sortAt_0 rfl rfl ?_
  refine j_get C 0 2 0 (T := TX2) (N := 6) hi_X2_sortAt_X2 rfl (by decide) (List.mem_of_getElem? (i := 1) rfl) rfl rfl rfl dX2_sortAt_1 ?_
  refine j_iload_n C 1 dX2_sortAt_4 rfl rfl ?_
  refine j_bipush C dX2_sortAt_5 (v := (24 : Int32)) (by decide) ?_
  refine j_imul C dX2_sortAt_7 ?_
  refine j_iload_n C 2 dX2_sortAt_8 rfl rfl ?_
  refine j_iadd C dX2_sortAt_9 ?_
  obtain ⟨k1, ek1, hk1, hw⟩ := hw
  refine j_iald C 1 k1 rfl ek1 hk1 (by decide) dX2_sortAt_10 ?_
  exact j_iret C R () rfl dX2_sortAt_11 rfl hw
theorem hi_X2_setRing_X2 : ∀ w ∈ wsX20, w ∈ wsX2_setRing := fun _ h => List.mem_cons_of_mem _ (List.mem_append_right _ h)
theorem hd_X2_setRing : yX2_setRing.cls = RX2 ∧ yX2_setRing.cls ≠ "java/lang/invoke/MethodHandle" ∧ yX2_setRing.cls ≠ "java/lang/invoke/VarHandle" ∧ (parseMethodDescriptor yX2_setRing.desc).map (fun d => d.parameters.length) = some 2 := by decide +kernel
set_option maxRecDepth 20000 in
set_option maxHeartbeats 4000000 in
theorem c_X2_setRing (l : Launch) (g : gE) (a_this a_sorts a_owners a_worths a_gave a_p2 : Nat) (v_generation : Int32) (v_toll : Int32) (f_sorts : (Nat → Int32)) (f_p2 : (Nat → Int32)) (x1 : Int32)  (K : (Nat → Int32) → Prop) (hw : wp_X2_setRing f_sorts f_p2 x1 K) : Cv l g yX2_setRing wsX2_setRing { frames := 1, cells := 0, slots := 0, locals := 60 } [.ref a_this, .int x1, .ref a_p2] [(a_this, .inr (2, [.ref a_sorts, .ref a_owners, .ref a_worths, .ref a_gave, .int v_generation, .int v_toll])), (a_sorts, gI g 120 f_sorts), (a_p2, gI g 24 f_p2)] (fun (u : (Nat → Int32)) => K u) (fun (u : (Nat → Int32)) => [(a_this, .inr (2, [.ref a_sorts, .ref a_owners, .ref a_worths, .ref a_gave, .int v_generation, .int v_toll])), (a_sorts, gI g 120 u), (a_p2, gI g 24 f_p2)]) 0 0 := by
  refine Cv_of (cc := cX2_setRing) (nL := 3) (ret := none) (own := RX2) (lv0 := [(0, .ref a_this), (1, .int x1), (2, .ref a_p2)]) (by decide +kernel) rfl rfl (Nat.le_of_ble_eq_true rfl) rfl (fun A x C R => ?_)
  refine j_aload_n C 2 dX2_setRing_0 rfl rfl ?_
  refine j_iconst C dX2_setRing_1 (v := (0 : Int32)) (by decide) ?_
  refine j_aload_n C 0 dX2_setRing_2 rfl rfl ?_
  refine j_get C 0 2 0 (T := TX2) (N := 6) hi_X2_setRing_X2 rfl (by decide) (List.mem_of_getElem? (i := 1) rfl) rfl rfl rfl dX2_setRing_3 ?_
  refine j_iload_n C 1 dX2_setRing_6 rfl rfl ?_
  refine j_bipush C dX2_setRing_7 (v := (24 : Int32)) (by decide) ?_
  refine j_imul C dX2_setRing_9 ?_
  refine j_bipush C dX2_setRing_10 (v := (24 : Int32)) (by decide) ?_
  obtain ⟨sk1, dk1, nk1, e1, e2, e3, e4, e5, hw⟩ := hw
  refine j_copy C 2 1 sk1 dk1 nk1 (List.mem_of_getElem? (i := 2) rfl) (List.mem_of_getElem? (i := 3) rfl) (List.mem_of_getElem? (i := 4) rfl) (List.mem_of_getElem? (i := 5) rfl) rfl rfl e1 e2 e3 e4 e5 (by decide) (by decide) (by decide) (Nat.le_of_ble_eq_true rfl) rfl dX2_setRing_12 ?_
  exact j_vret C R (va_cpy f_p2 f_sorts sk1 dk1 nk1) dX2_setRing_15 rfl hw
theorem hd_X2_sectorsOfSort : yX2_sectorsOfSort.cls = RX2 ∧ yX2_sectorsOfSort.cls ≠ "java/lang/invoke/MethodHandle" ∧ yX2_sectorsOfSort.cls ≠ "java/lang/invoke/VarHandle" ∧ (parseMethodDescriptor yX2_sectorsOfSort.desc).map (fun d => d.parameters.length) = some 2 := by decide +kernel
set_option maxRecDepth 20000 in
set_option maxHeartbeats 4000000 in
theorem c_X2_sectorsOfSort (l : Launch) (g : gE) (a_this a_sorts a_owners a_worths a_gave : Nat) (v_generation : Int32) (v_toll : Int32) (f_sorts : (Nat → Int32)) (x1 : Int32) (x2 : Int32)  (K : Int32 → Prop) (hw : wp_X2_sectorsOfSort f_sorts x1 x2 K) : Ci l g yX2_sectorsOfSort wsX2_sectorsOfSort { frames := 1, cells := 0, slots := 0, locals := 22 } [.ref a_this, .int x1, .int x2] [(a_this, .inr (2, [.ref a_sorts, .ref a_owners, .ref a_worths, .ref a_gave, .int v_generation, .int v_toll])), (a_sorts, gI g 120 f_sorts)] (fun (r : Int32) (_ : Unit) => K r) (fun (_ : Unit) => [(a_this, .inr (2, [.ref a_sorts, .ref a_owners, .ref a_worths, .ref a_gave, .int v_generation, .int v_toll])), (a_sorts, gI g 120 f_sorts)]) 0 0 := by
  refine Ci_of (cc := cX2_sectorsOfSort) (nL := 5) (ret := (some .int)) (own := RX2) (lv0 := [(0, .ref a_this), (1, .int x1), (2, .int x2)]) (by decide +kernel) rfl rfl (Nat.le_of_ble_eq_true rfl) rfl (fun A x C R => ?_)
  refine j_iconst C dX2_sectorsOfSort_0 (v := (0 : Int32)) (by decide) ?_
  refine j_istore_n C [1, 2, 3, 0] dX2_sectorsOfSort_1 rfl (by decide) rfl ?_
  refine j_iconst C dX2_sectorsOfSort_2 (v := (0 : Int32)) (by decide) ?_
  refine j_istore C [1, 2, 3, 4, 0] dX2_sectorsOfSort_3 (by decide) rfl ?_
  refine lpW2_ind (G := fun x3 x4 => J l g A x 5 0 0 5 [(0, .ref a_this), (1, .int x1), (2, .int x2), (3, .int x3), (4, .int x4)] [] [(a_this, .inr (2, [.ref a_sorts, .ref a_owners, .ref a_worths, .ref a_gave, .int v_generation, .int v_toll])), (a_sorts, gI g 120 f_sorts)]) (fun L5 x3 x4 hL5 hw => ?_) _ _ hw
  refine j_iload C 4 dX2_sectorsOfSort_5 rfl ?_
  refine j_bipush C dX2_sectorsOfSort_7 (v := (24 : Int32)) (by decide) ?_
  refine j_icmp_ge C 36 dX2_sectorsOfSort_9 rfl (fun c => ?_) (fun c => ?_)
  · have hw := hw.1 c
    refine j_iload_n C 3 dX2_sectorsOfSort_36 rfl rfl ?_
    exact j_iret C R () rfl dX2_sectorsOfSort_37 rfl hw
  · have hw := hw.2 c
    refine j_aload_n C 0 dX2_sectorsOfSort_12 rfl rfl ?_
    refine j_iload_n C 1 dX2_sectorsOfSort_13 rfl rfl ?_
    refine j_iload C 4 dX2_sectorsOfSort_14 rfl ?_
    refine j_ri C (jc_V C (c_X2_sortAt l g a_this a_sorts a_owners a_worths a_gave v_generation v_toll f_sorts x1 x4 _ hw) 2 gX2_sectorsOfSort_X2_sortAt rfl rfl rfl hd_X2_sortAt ⟨Nat.le_of_ble_eq_true rfl, Nat.le_of_ble_eq_true rfl⟩ (j_rec C 0 2 rfl rfl) [0, 1] rfl rfl (rest := []) rfl rfl (Nat.le_of_ble_eq_true rfl) dX2_sectorsOfSort_16 ⟨Nat.le_refl _, Nat.le_refl _⟩) [0, 1] rfl (fun _ => rfl) (fun r1 _ hw => ?_)
    try dsimp only at hw
    refine j_iload_n C 2 dX2_sectorsOfSort_19 rfl rfl ?_
    refine j_icmp_ne C 30 dX2_sectorsOfSort_20 rfl (fun c => ?_) (fun c => ?_)
    · have hw := hw.1 c
      obtain ⟨n2, en2⟩ : ∃ z : Int32, z = x4 + (1 : Int32) := ⟨_, rfl⟩
      have hw := hw n2 en2
      refine j_iinc C 4 [1, 2, 3, 4, 0] (v' := (1 : Int32)) dX2_sectorsOfSort_30 rfl (by decide) (by decide) rfl ?_
      rw [← en2]
      refine j_goto C 5 dX2_sectorsOfSort_33 rfl ?_
      exact hL5 _ _ hw
    · have hw := hw.2 c
      refine j_iload_n C 3 dX2_sectorsOfSort_23 rfl rfl ?_
      refine j_iconst C dX2_sectorsOfSort_24 (v := (1 : Int32)) (by decide) ?_
      refine j_iload C 4 dX2_sectorsOfSort_25 rfl ?_
      refine j_ishl C dX2_sectorsOfSort_27 ?_
      refine j_ior C dX2_sectorsOfSort_28 ?_
      refine j_top (fun n3 en3 => ?_)
      have hw := hw n3 en3
      refine j_istore_n C [1, 2, 3, 0, 4] dX2_sectorsOfSort_29 rfl (by decide) rfl ?_
      obtain ⟨n4, en4⟩ : ∃ z : Int32, z = x4 + (1 : Int32) := ⟨_, rfl⟩
      have hw := hw n4 en4
      refine j_iinc C 4 [1, 2, 3, 4, 0] (v' := (1 : Int32)) dX2_sectorsOfSort_30 rfl (by decide) (by decide) rfl ?_
      rw [← en4]
      refine j_goto C 5 dX2_sectorsOfSort_33 rfl ?_
      exact hL5 _ _ hw
theorem hi_X2_ownerBehind_X2 : ∀ w ∈ wsX20, w ∈ wsX2_ownerBehind := fun _ h => List.mem_cons_of_mem _ (List.mem_append_right _ h)
theorem hd_X2_ownerBehind : yX2_ownerBehind.cls = RX2 ∧ yX2_ownerBehind.cls ≠ "java/lang/invoke/MethodHandle" ∧ yX2_ownerBehind.cls ≠ "java/lang/invoke/VarHandle" ∧ (parseMethodDescriptor yX2_ownerBehind.desc).map (fun d => d.parameters.length) = some 2 := by decide +kernel
set_option maxRecDepth 20000 in
set_option maxHeartbeats 4000000 in
theorem c_X2_ownerBehind (l : Launch) (g : gE) (a_this a_sorts a_owners a_worths a_gave : Nat) (v_generation : Int32) (v_toll : Int32) (f_owners : (Nat → Int32)) (x1 : Int32) (x2 : Int32)  (K : Int32 → Prop) (hw : wp_X2_ownerBehind f_owners x1 x2 K) : Ci l g yX2_ownerBehind wsX2_ownerBehind { frames := 0, cells := 0, slots := 0, locals := 0 } [.ref a_this, .int x1, .int x2] [(a_this, .inr (2, [.ref a_sorts, .ref a_owners, .ref a_worths, .ref a_gave, .int v_generation, .int v_toll])), (a_owners, gI g 504 f_owners)] (fun (r : Int32) (_ : Unit) => K r) (fun (_ : Unit) => [(a_this, .inr (2, [.ref a_sorts, .ref a_owners, .ref a_worths, .ref a_gave, .int v_generation, .int v_toll])), (a_owners, gI g 504 f_owners)]) 0 0 := by
  refine Ci_of (cc := cX2_ownerBehind) (nL := 3) (ret := (some .int)) (own := RX2) (lv0 := [(0, .ref a_this), (1, .int x1), (2, .int x2)]) (by decide +kernel) rfl rfl (Nat.le_of_ble_eq_true rfl) rfl (fun A x C R => ?_)
  refine j_aload_n C 0 dX2_ownerBehind_0 rfl rfl ?_
  refine j_get C 0 2 1 (T := TX2) (N := 6) hi_X2_ownerBehind_X2 rfl (by decide) (List.mem_of_getElem? (i := 1) rfl) rfl rfl rfl dX2_ownerBehind_1 ?_
  refine j_iload_n C 1 dX2_ownerBehind_4 rfl rfl ?_
  refine j_bipush C dX2_ownerBehind_5 (v := (24 : Int32)) (by decide) ?_
  refine j_imul C dX2_ownerBehind_7 ?_
  refine j_iload_n C 2 dX2_ownerBehind_8 rfl rfl ?_
  refine j_iadd C dX2_ownerBehind_9 ?_
  obtain ⟨k1, ek1, hk1, hw⟩ := hw
  refine j_iald C 1 k1 rfl ek1 hk1 (by decide) dX2_ownerBehind_10 ?_
  exact j_iret C R () rfl dX2_ownerBehind_11 rfl hw
theorem hi_X2_ownerOf_X2 : ∀ w ∈ wsX20, w ∈ wsX2_ownerOf := fun _ h => List.mem_cons_of_mem _ (List.mem_append_right _ h)
theorem hd_X2_ownerOf : yX2_ownerOf.cls = RX2 ∧ yX2_ownerOf.cls ≠ "java/lang/invoke/MethodHandle" ∧ yX2_ownerOf.cls ≠ "java/lang/invoke/VarHandle" ∧ (parseMethodDescriptor yX2_ownerOf.desc).map (fun d => d.parameters.length) = some 1 := by decide +kernel
set_option maxRecDepth 20000 in
set_option maxHeartbeats 4000000 in
theorem c_X2_ownerOf (l : Launch) (g : gE) (a_this a_sorts a_owners a_worths a_gave : Nat) (v_generation : Int32) (v_toll : Int32) (f_owners : (Nat → Int32)) (x1 : Int32)  (K : Int32 → Prop) (hw : wp_X2_ownerOf v_generation f_owners x1 K) : Ci l g yX2_ownerOf wsX2_ownerOf { frames := 1, cells := 0, slots := 0, locals := 22 } [.ref a_this, .int x1] [(a_this, .inr (2, [.ref a_sorts, .ref a_owners, .ref a_worths, .ref a_gave, .int v_generation, .int v_toll])), (a_owners, gI g 504 f_owners)] (fun (r : Int32) (_ : Unit) => K r) (fun (_ : Unit) => [(a_this, .inr (2, [.ref a_sorts, .ref a_owners, .ref a_worths, .ref a_gave, .int v_generation, .int v_toll])), (a_owners, gI g 504 f_owners)]) 0 0 := by
  refine Ci_of (cc := cX2_ownerOf) (nL := 2) (ret := (some .int)) (own := RX2) (lv0 := [(0, .ref a_this), (1, .int x1)]) (by decide +kernel) rfl rfl (Nat.le_of_ble_eq_true rfl) rfl (fun A x C R => ?_)
  refine j_aload_n C 0 dX2_ownerOf_0 rfl rfl ?_
  refine j_aload_n C 0 dX2_ownerOf_1 rfl rfl ?_
  refine j_get C 0 2 4 (T := TX2) (N := 6) hi_X2_ownerOf_X2 rfl (by decide) (List.mem_of_getElem? (i := 1) rfl) rfl rfl rfl dX2_ownerOf_2 ?_
  refine j_iload_n C 1 dX2_ownerOf_5 rfl rfl ?_
  refine j_ri C (jc_V C (c_X2_ownerBehind l g a_this a_sorts a_owners a_worths a_gave v_generation v_toll f_owners v_generation x1 _ hw) 2 gX2_ownerOf_X2_ownerBehind rfl rfl rfl hd_X2_ownerBehind ⟨Nat.le_of_ble_eq_true rfl, Nat.le_of_ble_eq_true rfl⟩ (j_rec C 0 2 rfl rfl) [0, 1] rfl rfl (rest := []) rfl rfl (Nat.le_of_ble_eq_true rfl) dX2_ownerOf_6 ⟨Nat.le_refl _, Nat.le_refl _⟩) [0, 1] rfl (fun _ => rfl) (fun r1 _ hw => ?_)
  try dsimp only at hw
  exact j_iret C R () rfl dX2_ownerOf_9 rfl hw
theorem hd_X2_sectorsOf : yX2_sectorsOf.cls = RX2 ∧ yX2_sectorsOf.cls ≠ "java/lang/invoke/MethodHandle" ∧ yX2_sectorsOf.cls ≠ "java/lang/invoke/VarHandle" ∧ (parseMethodDescriptor yX2_sectorsOf.desc).map (fun d => d.parameters.length) = some 1 := by decide +kernel
set_option maxRecDepth 20000 in
set_option maxHeartbeats 4000000 in
theorem c_X2_sectorsOf (l : Launch) (g : gE) (a_this a_sorts a_owners a_worths a_gave : Nat) (v_generation : Int32) (v_toll : Int32) (f_owners : (Nat → Int32)) (x1 : Int32)  (K : Int32 → Prop) (hw : wp_X2_sectorsOf v_generation f_owners x1 K) : Ci l g yX2_sectorsOf wsX2_sectorsOf { frames := 2, cells := 0, slots := 0, locals := 43 } [.ref a_this, .int x1] [(a_this, .inr (2, [.ref a_sorts, .ref a_owners, .ref a_worths, .ref a_gave, .int v_generation, .int v_toll])), (a_owners, gI g 504 f_owners)] (fun (r : Int32) (_ : Unit) => K r) (fun (_ : Unit) => [(a_this, .inr (2, [.ref a_sorts, .ref a_owners, .ref a_worths, .ref a_gave, .int v_generation, .int v_toll])), (a_owners, gI g 504 f_owners)]) 0 0 := by
  refine Ci_of (cc := cX2_sectorsOf) (nL := 4) (ret := (some .int)) (own := RX2) (lv0 := [(0, .ref a_this), (1, .int x1)]) (by decide +kernel) rfl rfl (Nat.le_of_ble_eq_true rfl) rfl (fun A x C R => ?_)
  refine j_iconst C dX2_sectorsOf_0 (v := (0 : Int32)) (by decide) ?_
  refine j_istore_n C [1, 2, 0] dX2_sectorsOf_1 rfl (by decide) rfl ?_
  refine j_iconst C dX2_sectorsOf_2 (v := (0 : Int32)) (by decide) ?_
  refine j_istore_n C [1, 2, 3, 0] dX2_sectorsOf_3 rfl (by decide) rfl ?_
  refine lpW2_ind (G := fun x2 x3 => J l g A x 4 0 0 4 [(0, .ref a_this), (1, .int x1), (2, .int x2), (3, .int x3)] [] [(a_this, .inr (2, [.ref a_sorts, .ref a_owners, .ref a_worths, .ref a_gave, .int v_generation, .int v_toll])), (a_owners, gI g 504 f_owners)]) (fun L4 x2 x3 hL4 hw => ?_) _ _ hw
  refine j_iload_n C 3 dX2_sectorsOf_4 rfl rfl ?_
  refine j_bipush C dX2_sectorsOf_5 (v := (24 : Int32)) (by decide) ?_
  refine j_icmp_ge C 31 dX2_sectorsOf_7 rfl (fun c => ?_) (fun c => ?_)
  · have hw := hw.1 c
    refine j_iload_n C 2 dX2_sectorsOf_31 rfl rfl ?_
    exact j_iret C R () rfl dX2_sectorsOf_32 rfl hw
  · have hw := hw.2 c
    refine j_aload_n C 0 dX2_sectorsOf_10 rfl rfl ?_
    refine j_iload_n C 3 dX2_sectorsOf_11 rfl rfl ?_
    refine j_ri C (jc_V C (c_X2_ownerOf l g a_this a_sorts a_owners a_worths a_gave v_generation v_toll f_owners x3 _ hw) 1 gX2_sectorsOf_X2_ownerOf rfl rfl rfl hd_X2_ownerOf ⟨Nat.le_of_ble_eq_true rfl, Nat.le_of_ble_eq_true rfl⟩ (j_rec C 0 2 rfl rfl) [0, 1] rfl rfl (rest := []) rfl rfl (Nat.le_of_ble_eq_true rfl) dX2_sectorsOf_12 ⟨Nat.le_refl _, Nat.le_refl _⟩) [0, 1] rfl (fun _ => rfl) (fun r1 _ hw => ?_)
    try dsimp only at hw
    refine j_iload_n C 1 dX2_sectorsOf_15 rfl rfl ?_
    refine j_icmp_ne C 25 dX2_sectorsOf_16 rfl (fun c => ?_) (fun c => ?_)
    · have hw := hw.1 c
      obtain ⟨n2, en2⟩ : ∃ z : Int32, z = x3 + (1 : Int32) := ⟨_, rfl⟩
      have hw := hw n2 en2
      refine j_iinc C 3 [1, 2, 3, 0] (v' := (1 : Int32)) dX2_sectorsOf_25 rfl (by decide) (by decide) rfl ?_
      rw [← en2]
      refine j_goto C 4 dX2_sectorsOf_28 rfl ?_
      exact hL4 _ _ hw
    · have hw := hw.2 c
      refine j_iload_n C 2 dX2_sectorsOf_19 rfl rfl ?_
      refine j_iconst C dX2_sectorsOf_20 (v := (1 : Int32)) (by decide) ?_
      refine j_iload_n C 3 dX2_sectorsOf_21 rfl rfl ?_
      refine j_ishl C dX2_sectorsOf_22 ?_
      refine j_ior C dX2_sectorsOf_23 ?_
      refine j_top (fun n3 en3 => ?_)
      have hw := hw n3 en3
      refine j_istore_n C [1, 2, 0, 3] dX2_sectorsOf_24 rfl (by decide) rfl ?_
      obtain ⟨n4, en4⟩ : ∃ z : Int32, z = x3 + (1 : Int32) := ⟨_, rfl⟩
      have hw := hw n4 en4
      refine j_iinc C 3 [1, 2, 3, 0] (v' := (1 : Int32)) dX2_sectorsOf_25 rfl (by decide) (by decide) rfl ?_
      rw [← en4]
      refine j_goto C 4 dX2_sectorsOf_28 rfl ?_
      exact hL4 _ _ hw
theorem hd_X2_ownersOf : yX2_ownersOf.cls = RX2 ∧ yX2_ownersOf.cls ≠ "java/lang/invoke/MethodHandle" ∧ yX2_ownersOf.cls ≠ "java/lang/invoke/VarHandle" ∧ (parseMethodDescriptor yX2_ownersOf.desc).map (fun d => d.parameters.length) = some 1 := by decide +kernel
set_option maxRecDepth 20000 in
set_option maxHeartbeats 4000000 in
theorem c_X2_ownersOf (l : Launch) (g : gE) (a_this a_sorts a_owners a_worths a_gave : Nat) (v_generation : Int32) (v_toll : Int32) (f_owners : (Nat → Int32)) (x1 : Int32)  (K : Int32 → Prop) (hw : wp_X2_ownersOf v_generation f_owners x1 K) : Ci l g yX2_ownersOf wsX2_ownersOf { frames := 2, cells := 0, slots := 0, locals := 43 } [.ref a_this, .int x1] [(a_this, .inr (2, [.ref a_sorts, .ref a_owners, .ref a_worths, .ref a_gave, .int v_generation, .int v_toll])), (a_owners, gI g 504 f_owners)] (fun (r : Int32) (_ : Unit) => K r) (fun (_ : Unit) => [(a_this, .inr (2, [.ref a_sorts, .ref a_owners, .ref a_worths, .ref a_gave, .int v_generation, .int v_toll])), (a_owners, gI g 504 f_owners)]) 0 0 := by
  refine Ci_of (cc := cX2_ownersOf) (nL := 4) (ret := (some .int)) (own := RX2) (lv0 := [(0, .ref a_this), (1, .int x1)]) (by decide +kernel) rfl rfl (Nat.le_of_ble_eq_true rfl) rfl (fun A x C R => ?_)
  refine j_iconst C dX2_ownersOf_0 (v := (0 : Int32)) (by decide) ?_
  refine j_istore_n C [1, 2, 0] dX2_ownersOf_1 rfl (by decide) rfl ?_
  refine j_iconst C dX2_ownersOf_2 (v := (0 : Int32)) (by decide) ?_
  refine j_istore_n C [1, 2, 3, 0] dX2_ownersOf_3 rfl (by decide) rfl ?_
  refine lpW2_ind (G := fun x2 x3 => J l g A x 4 0 0 4 [(0, .ref a_this), (1, .int x1), (2, .int x2), (3, .int x3)] [] [(a_this, .inr (2, [.ref a_sorts, .ref a_owners, .ref a_worths, .ref a_gave, .int v_generation, .int v_toll])), (a_owners, gI g 504 f_owners)]) (fun L4 x2 x3 hL4 hw => ?_) _ _ hw
  refine j_iload_n C 3 dX2_ownersOf_4 rfl rfl ?_
  refine j_bipush C dX2_ownersOf_5 (v := (24 : Int32)) (by decide) ?_
  refine j_icmp_ge C 34 dX2_ownersOf_7 rfl (fun c => ?_) (fun c => ?_)
  · have hw := hw.1 c
    refine j_iload_n C 2 dX2_ownersOf_34 rfl rfl ?_
    exact j_iret C R () rfl dX2_ownersOf_35 rfl hw
  · have hw := hw.2 c
    refine j_iload_n C 1 dX2_ownersOf_10 rfl rfl ?_
    refine j_iload_n C 3 dX2_ownersOf_11 rfl rfl ?_
    refine j_ishr C dX2_ownersOf_12 ?_
    refine j_iconst C dX2_ownersOf_13 (v := (1 : Int32)) (by decide) ?_
    refine j_iand C dX2_ownersOf_14 ?_
    refine j_if_eq C 28 dX2_ownersOf_15 rfl (fun c => ?_) (fun c => ?_)
    · have hw := hw.1 c
      obtain ⟨n1, en1⟩ : ∃ z : Int32, z = x3 + (1 : Int32) := ⟨_, rfl⟩
      have hw := hw n1 en1
      refine j_iinc C 3 [1, 2, 3, 0] (v' := (1 : Int32)) dX2_ownersOf_28 rfl (by decide) (by decide) rfl ?_
      rw [← en1]
      refine j_goto C 4 dX2_ownersOf_31 rfl ?_
      exact hL4 _ _ hw
    · have hw := hw.2 c
      refine j_iload_n C 2 dX2_ownersOf_18 rfl rfl ?_
      refine j_iconst C dX2_ownersOf_19 (v := (1 : Int32)) (by decide) ?_
      refine j_aload_n C 0 dX2_ownersOf_20 rfl rfl ?_
      refine j_iload_n C 3 dX2_ownersOf_21 rfl rfl ?_
      refine j_ri C (jc_V C (c_X2_ownerOf l g a_this a_sorts a_owners a_worths a_gave v_generation v_toll f_owners x3 _ hw) 1 gX2_ownersOf_X2_ownerOf rfl rfl rfl hd_X2_ownerOf ⟨Nat.le_of_ble_eq_true rfl, Nat.le_of_ble_eq_true rfl⟩ (j_rec C 0 2 rfl rfl) [0, 1] rfl rfl (rest := [.int (1 : Int32), .int x2]) rfl rfl (Nat.le_of_ble_eq_true rfl) dX2_ownersOf_22 ⟨Nat.le_refl _, Nat.le_refl _⟩) [0, 1] rfl (fun _ => rfl) (fun r2 _ hw => ?_)
      try dsimp only at hw
      refine j_ishl C dX2_ownersOf_25 ?_
      refine j_ior C dX2_ownersOf_26 ?_
      refine j_top (fun n3 en3 => ?_)
      have hw := hw n3 en3
      refine j_istore_n C [1, 2, 0, 3] dX2_ownersOf_27 rfl (by decide) rfl ?_
      obtain ⟨n4, en4⟩ : ∃ z : Int32, z = x3 + (1 : Int32) := ⟨_, rfl⟩
      have hw := hw n4 en4
      refine j_iinc C 3 [1, 2, 3, 0] (v' := (1 : Int32)) dX2_ownersOf_28 rfl (by decide) (by decide) rfl ?_
      rw [← en4]
      refine j_goto C 4 dX2_ownersOf_31 rfl ?_
      exact hL4 _ _ hw
theorem hi_X2_setSlices_X2 : ∀ w ∈ wsX20, w ∈ wsX2_setSlices := fun _ h => List.mem_cons_of_mem _ (List.mem_append_right _ h)
theorem hd_X2_setSlices : yX2_setSlices.cls = RX2 ∧ yX2_setSlices.cls ≠ "java/lang/invoke/MethodHandle" ∧ yX2_setSlices.cls ≠ "java/lang/invoke/VarHandle" ∧ (parseMethodDescriptor yX2_setSlices.desc).map (fun d => d.parameters.length) = some 1 := by decide +kernel
set_option maxRecDepth 20000 in
set_option maxHeartbeats 4000000 in
theorem c_X2_setSlices (l : Launch) (g : gE) (a_this a_sorts a_owners a_worths a_gave a_p1 : Nat) (v_generation : Int32) (v_toll : Int32) (f_owners : (Nat → Int32)) (f_p1 : (Nat → Int32))   (K : Int32 → (Nat → Int32) → Prop) (hw : wp_X2_setSlices v_generation f_owners f_p1 K) : Cv l g yX2_setSlices wsX2_setSlices { frames := 1, cells := 0, slots := 0, locals := 60 } [.ref a_this, .ref a_p1] [(a_this, .inr (2, [.ref a_sorts, .ref a_owners, .ref a_worths, .ref a_gave, .int v_generation, .int v_toll])), (a_owners, gI g 504 f_owners), (a_p1, gI g 24 f_p1)] (fun (u : Int32 × (Nat → Int32)) => K u.1 u.2) (fun (u : Int32 × (Nat → Int32)) => [(a_this, .inr (2, [.ref a_sorts, .ref a_owners, .ref a_worths, .ref a_gave, .int (u.1), .int v_toll])), (a_owners, gI g 504 (u.2)), (a_p1, gI g 24 f_p1)]) 0 0 := by
  refine Cv_of (cc := cX2_setSlices) (nL := 2) (ret := none) (own := RX2) (lv0 := [(0, .ref a_this), (1, .ref a_p1)]) (by decide +kernel) rfl rfl (Nat.le_of_ble_eq_true rfl) rfl (fun A x C R => ?_)
  refine j_aload_n C 0 dX2_setSlices_0 rfl rfl ?_
  refine j_iconst C dX2_setSlices_1 (v := (0 : Int32)) (by decide) ?_
  refine j_put C 0 2 4 (T := TX2) (N := 6) (ty := .int) tyX2_ok nmX2 hi_X2_setSlices_X2 rfl (by decide) (List.mem_of_getElem? (i := 1) rfl) rfl rfl rfl rfl rfl rfl (Nat.le_of_ble_eq_true rfl) rfl dX2_setSlices_2 ?_
  refine j_aload_n C 1 dX2_setSlices_5 rfl rfl ?_
  refine j_iconst C dX2_setSlices_6 (v := (0 : Int32)) (by decide) ?_
  refine j_aload_n C 0 dX2_setSlices_7 rfl rfl ?_
  refine j_get C 0 2 1 (T := TX2) (N := 6) hi_X2_setSlices_X2 rfl (by decide) (List.mem_of_getElem? (i := 2) rfl) rfl rfl rfl dX2_setSlices_8 ?_
  refine j_iconst C dX2_setSlices_11 (v := (0 : Int32)) (by decide) ?_
  refine j_bipush C dX2_setSlices_12 (v := (24 : Int32)) (by decide) ?_
  obtain ⟨sk1, dk1, nk1, e1, e2, e3, e4, e5, hw⟩ := hw
  refine j_copy C 2 1 sk1 dk1 nk1 (List.mem_of_getElem? (i := 3) rfl) (List.mem_of_getElem? (i := 4) rfl) (List.mem_of_getElem? (i := 5) rfl) (List.mem_of_getElem? (i := 6) rfl) rfl rfl e1 e2 e3 e4 e5 (by decide) (by decide) (by decide) (Nat.le_of_ble_eq_true rfl) rfl dX2_setSlices_14 ?_
  exact j_vret C R ((0 : Int32), va_cpy f_p1 f_owners sk1 dk1 nk1) dX2_setSlices_17 rfl hw
theorem hi_X2_beginGeneration_X2 : ∀ w ∈ wsX20, w ∈ wsX2_beginGeneration := fun _ h => List.mem_cons_of_mem _ (List.mem_append_right _ h)
theorem hd_X2_beginGeneration : yX2_beginGeneration.cls = RX2 ∧ yX2_beginGeneration.cls ≠ "java/lang/invoke/MethodHandle" ∧ yX2_beginGeneration.cls ≠ "java/lang/invoke/VarHandle" ∧ (parseMethodDescriptor yX2_beginGeneration.desc).map (fun d => d.parameters.length) = some 0 := by decide +kernel
set_option maxRecDepth 20000 in
set_option maxHeartbeats 4000000 in
theorem c_X2_beginGeneration (l : Launch) (g : gE) (a_this a_sorts a_owners a_worths a_gave : Nat) (v_generation : Int32) (v_toll : Int32) (f_owners : (Nat → Int32))   (K : Int32 → (Nat → Int32) → Prop) (hw : wp_X2_beginGeneration v_generation f_owners K) : Cv l g yX2_beginGeneration wsX2_beginGeneration { frames := 1, cells := 0, slots := 0, locals := 60 } [.ref a_this] [(a_this, .inr (2, [.ref a_sorts, .ref a_owners, .ref a_worths, .ref a_gave, .int v_generation, .int v_toll])), (a_owners, gI g 504 f_owners)] (fun (u : Int32 × (Nat → Int32)) => K u.1 u.2) (fun (u : Int32 × (Nat → Int32)) => [(a_this, .inr (2, [.ref a_sorts, .ref a_owners, .ref a_worths, .ref a_gave, .int (u.1), .int v_toll])), (a_owners, gI g 504 (u.2))]) 0 0 := by
  refine Cv_of (cc := cX2_beginGeneration) (nL := 1) (ret := none) (own := RX2) (lv0 := [(0, .ref a_this)]) (by decide +kernel) rfl rfl (Nat.le_of_ble_eq_true rfl) rfl (fun A x C R => ?_)
  refine j_aload_n C 0 dX2_beginGeneration_0 rfl rfl ?_
  refine j_get C 0 2 1 (T := TX2) (N := 6) hi_X2_beginGeneration_X2 rfl (by decide) (List.mem_of_getElem? (i := 1) rfl) rfl rfl rfl dX2_beginGeneration_1 ?_
  refine j_aload_n C 0 dX2_beginGeneration_4 rfl rfl ?_
  refine j_get C 0 2 4 (T := TX2) (N := 6) hi_X2_beginGeneration_X2 rfl (by decide) (List.mem_of_getElem? (i := 2) rfl) rfl rfl rfl dX2_beginGeneration_5 ?_
  refine j_bipush C dX2_beginGeneration_8 (v := (24 : Int32)) (by decide) ?_
  refine j_imul C dX2_beginGeneration_10 ?_
  refine j_aload_n C 0 dX2_beginGeneration_11 rfl rfl ?_
  refine j_get C 0 2 1 (T := TX2) (N := 6) hi_X2_beginGeneration_X2 rfl (by decide) (List.mem_of_getElem? (i := 1) rfl) rfl rfl rfl dX2_beginGeneration_12 ?_
  refine j_aload_n C 0 dX2_beginGeneration_15 rfl rfl ?_
  refine j_get C 0 2 4 (T := TX2) (N := 6) hi_X2_beginGeneration_X2 rfl (by decide) (List.mem_of_getElem? (i := 2) rfl) rfl rfl rfl dX2_beginGeneration_16 ?_
  refine j_iconst C dX2_beginGeneration_19 (v := (1 : Int32)) (by decide) ?_
  refine j_iadd C dX2_beginGeneration_20 ?_
  refine j_bipush C dX2_beginGeneration_21 (v := (24 : Int32)) (by decide) ?_
  refine j_imul C dX2_beginGeneration_23 ?_
  refine j_bipush C dX2_beginGeneration_24 (v := (24 : Int32)) (by decide) ?_
  obtain ⟨sk1, dk1, nk1, e1, e2, e3, e4, e5, hw⟩ := hw
  refine j_copy C 1 1 sk1 dk1 nk1 (List.mem_of_getElem? (i := 3) rfl) (List.mem_of_getElem? (i := 4) rfl) (List.mem_of_getElem? (i := 5) rfl) (List.mem_of_getElem? (i := 6) rfl) rfl rfl e1 e2 e3 e4 e5 (by decide) (by decide) (by decide) (Nat.le_of_ble_eq_true rfl) rfl dX2_beginGeneration_26 ?_
  refine j_aload_n C 0 dX2_beginGeneration_29 rfl rfl ?_
  refine j_dup C dX2_beginGeneration_30 rfl ?_
  refine j_get C 0 2 4 (T := TX2) (N := 6) hi_X2_beginGeneration_X2 rfl (by decide) (List.mem_of_getElem? (i := 2) rfl) rfl rfl rfl dX2_beginGeneration_31 ?_
  refine j_iconst C dX2_beginGeneration_34 (v := (1 : Int32)) (by decide) ?_
  refine j_iadd C dX2_beginGeneration_35 ?_
  refine j_top (fun n2 en2 => ?_)
  have hw := hw n2 en2
  refine j_put C 0 2 4 (T := TX2) (N := 6) (ty := .int) tyX2_ok nmX2 hi_X2_beginGeneration_X2 rfl (by decide) (List.mem_of_getElem? (i := 2) rfl) rfl rfl rfl rfl rfl rfl (Nat.le_of_ble_eq_true rfl) rfl dX2_beginGeneration_36 ?_
  exact j_vret C R (n2, va_cpy f_owners f_owners sk1 dk1 nk1) dX2_beginGeneration_39 rfl hw
theorem hi_X2_give_X2 : ∀ w ∈ wsX20, w ∈ wsX2_give := fun _ h => List.mem_cons_of_mem _ (List.mem_append_right _ h)
theorem hd_X2_give : yX2_give.cls = RX2 ∧ yX2_give.cls ≠ "java/lang/invoke/MethodHandle" ∧ yX2_give.cls ≠ "java/lang/invoke/VarHandle" ∧ (parseMethodDescriptor yX2_give.desc).map (fun d => d.parameters.length) = some 2 := by decide +kernel
set_option maxRecDepth 20000 in
set_option maxHeartbeats 4000000 in
theorem c_X2_give (l : Launch) (g : gE) (a_this a_sorts a_owners a_worths a_gave : Nat) (v_generation : Int32) (v_toll : Int32) (f_owners : (Nat → Int32)) (x1 : Int32) (x2 : Int32)  (K : (Nat → Int32) → Prop) (hw : wp_X2_give v_generation f_owners x1 x2 K) : Cv l g yX2_give wsX2_give { frames := 0, cells := 0, slots := 0, locals := 0 } [.ref a_this, .int x1, .int x2] [(a_this, .inr (2, [.ref a_sorts, .ref a_owners, .ref a_worths, .ref a_gave, .int v_generation, .int v_toll])), (a_owners, gI g 504 f_owners)] (fun (u : (Nat → Int32)) => K u) (fun (u : (Nat → Int32)) => [(a_this, .inr (2, [.ref a_sorts, .ref a_owners, .ref a_worths, .ref a_gave, .int v_generation, .int v_toll])), (a_owners, gI g 504 u)]) 0 0 := by
  refine Cv_of (cc := cX2_give) (nL := 3) (ret := none) (own := RX2) (lv0 := [(0, .ref a_this), (1, .int x1), (2, .int x2)]) (by decide +kernel) rfl rfl (Nat.le_of_ble_eq_true rfl) rfl (fun A x C R => ?_)
  refine j_aload_n C 0 dX2_give_0 rfl rfl ?_
  refine j_get C 0 2 1 (T := TX2) (N := 6) hi_X2_give_X2 rfl (by decide) (List.mem_of_getElem? (i := 1) rfl) rfl rfl rfl dX2_give_1 ?_
  refine j_aload_n C 0 dX2_give_4 rfl rfl ?_
  refine j_get C 0 2 4 (T := TX2) (N := 6) hi_X2_give_X2 rfl (by decide) (List.mem_of_getElem? (i := 2) rfl) rfl rfl rfl dX2_give_5 ?_
  refine j_bipush C dX2_give_8 (v := (24 : Int32)) (by decide) ?_
  refine j_imul C dX2_give_10 ?_
  refine j_iload_n C 1 dX2_give_11 rfl rfl ?_
  refine j_iadd C dX2_give_12 ?_
  refine j_iload_n C 2 dX2_give_13 rfl rfl ?_
  obtain ⟨k1, ek1, hk1, hw⟩ := hw
  refine j_iast C 1 k1 rfl ek1 hk1 (by decide) rfl dX2_give_14 ?_
  exact j_vret C R (upd f_owners k1 x2) dX2_give_15 rfl hw
theorem hd_X2_giveAway : yX2_giveAway.cls = RX2 ∧ yX2_giveAway.cls ≠ "java/lang/invoke/MethodHandle" ∧ yX2_giveAway.cls ≠ "java/lang/invoke/VarHandle" ∧ (parseMethodDescriptor yX2_giveAway.desc).map (fun d => d.parameters.length) = some 2 := by decide +kernel
set_option maxRecDepth 20000 in
set_option maxHeartbeats 4000000 in
theorem c_X2_giveAway (l : Launch) (g : gE) (a_this a_sorts a_owners a_worths a_gave a_p2 : Nat) (v_generation : Int32) (v_toll : Int32) (f_owners : (Nat → Int32)) (f_p2 : (Nat → Int32)) (x1 : Int32)  (K : (Nat → Int32) → Prop) (hw : wp_X2_giveAway v_generation f_owners f_p2 x1 K) : Cv l g yX2_giveAway wsX2_giveAway { frames := 2, cells := 0, slots := 0, locals := 43 } [.ref a_this, .int x1, .ref a_p2] [(a_this, .inr (2, [.ref a_sorts, .ref a_owners, .ref a_worths, .ref a_gave, .int v_generation, .int v_toll])), (a_owners, gI g 504 f_owners), (a_p2, gI g 24 f_p2)] (fun (u : (Nat → Int32)) => K u) (fun (u : (Nat → Int32)) => [(a_this, .inr (2, [.ref a_sorts, .ref a_owners, .ref a_worths, .ref a_gave, .int v_generation, .int v_toll])), (a_owners, gI g 504 u), (a_p2, gI g 24 f_p2)]) 0 0 := by
  refine Cv_of (cc := cX2_giveAway) (nL := 5) (ret := none) (own := RX2) (lv0 := [(0, .ref a_this), (1, .int x1), (2, .ref a_p2)]) (by decide +kernel) rfl rfl (Nat.le_of_ble_eq_true rfl) rfl (fun A x C R => ?_)
  refine j_iconst C dX2_giveAway_0 (v := (0 : Int32)) (by decide) ?_
  refine j_istore_n C [1, 2, 3, 0] dX2_giveAway_1 rfl (by decide) rfl ?_
  refine j_iconst C dX2_giveAway_2 (v := (0 : Int32)) (by decide) ?_
  refine j_istore C [1, 2, 3, 4, 0] dX2_giveAway_3 (by decide) rfl ?_
  refine lpW3_ind (G := fun x3 x4 f_owners => J l g A x 5 0 0 5 [(0, .ref a_this), (1, .int x1), (2, .ref a_p2), (3, .int x3), (4, .int x4)] [] [(a_this, .inr (2, [.ref a_sorts, .ref a_owners, .ref a_worths, .ref a_gave, .int v_generation, .int v_toll])), (a_owners, gI g 504 f_owners), (a_p2, gI g 24 f_p2)]) (fun L5 x3 x4 f_owners hL5 hw => ?_) _ _ _ hw
  refine j_iload C 4 dX2_giveAway_5 rfl ?_
  refine j_bipush C dX2_giveAway_7 (v := (24 : Int32)) (by decide) ?_
  refine j_icmp_ge C 40 dX2_giveAway_9 rfl (fun c => ?_) (fun c => ?_)
  · have hw := hw.1 c
    exact j_vret C R (f_owners) dX2_giveAway_40 rfl hw
  · have hw := hw.2 c
    refine j_aload_n C 0 dX2_giveAway_12 rfl rfl ?_
    refine j_iload C 4 dX2_giveAway_13 rfl ?_
    refine j_ri C (jc_V C (c_X2_ownerOf l g a_this a_sorts a_owners a_worths a_gave v_generation v_toll f_owners x4 _ hw) 1 gX2_giveAway_X2_ownerOf rfl rfl rfl hd_X2_ownerOf ⟨Nat.le_of_ble_eq_true rfl, Nat.le_of_ble_eq_true rfl⟩ (j_rec C 0 2 rfl rfl) [0, 1] rfl rfl (rest := []) rfl rfl (Nat.le_of_ble_eq_true rfl) dX2_giveAway_15 ⟨Nat.le_refl _, Nat.le_refl _⟩) [0, 1] rfl (fun _ => rfl) (fun r1 _ hw => ?_)
    try dsimp only at hw
    refine j_iload_n C 1 dX2_giveAway_18 rfl rfl ?_
    refine j_icmp_ne C 34 dX2_giveAway_19 rfl (fun c => ?_) (fun c => ?_)
    · have hw := hw.1 c
      obtain ⟨n2, en2⟩ : ∃ z : Int32, z = x4 + (1 : Int32) := ⟨_, rfl⟩
      have hw := hw n2 en2
      refine j_iinc C 4 [1, 2, 3, 4, 0] (v' := (1 : Int32)) dX2_giveAway_34 rfl (by decide) (by decide) rfl ?_
      rw [← en2]
      refine j_goto C 5 dX2_giveAway_37 rfl ?_
      exact hL5 _ _ _ hw
    · have hw := hw.2 c
      refine j_aload_n C 0 dX2_giveAway_22 rfl rfl ?_
      refine j_iload C 4 dX2_giveAway_23 rfl ?_
      refine j_aload_n C 2 dX2_giveAway_25 rfl rfl ?_
      refine j_iload_n C 3 dX2_giveAway_26 rfl rfl ?_
      obtain ⟨k3, ek3, hk3, hw⟩ := hw
      refine j_iald C 2 k3 rfl ek3 hk3 (by decide) dX2_giveAway_27 ?_
      obtain ⟨n4, en4⟩ : ∃ z : Int32, z = f_p2 k3 := ⟨_, rfl⟩
      have hw := hw n4 en4
      rw [← en4]
      refine j_rwv C (jc_V C (c_X2_give l g a_this a_sorts a_owners a_worths a_gave v_generation v_toll f_owners x4 n4 _ hw) 2 gX2_giveAway_X2_give rfl rfl rfl hd_X2_give ⟨Nat.le_of_ble_eq_true rfl, Nat.le_of_ble_eq_true rfl⟩ (j_rec C 0 2 rfl rfl) [0, 1] rfl rfl (rest := []) rfl rfl (Nat.le_of_ble_eq_true rfl) dX2_giveAway_28 ⟨Nat.le_refl _, Nat.le_refl _⟩) [0, 1] [2] [1, 2, 0] (ws' := fun u => [(a_this, .inr (2, [.ref a_sorts, .ref a_owners, .ref a_worths, .ref a_gave, .int v_generation, .int v_toll])), (a_owners, gI g 504 u), (a_p2, gI g 24 f_p2)]) rfl rfl rfl (by decide) rfl (fun _ => rfl) (fun u hw => ?_)
      obtain ⟨u5, eu5⟩ : ∃ z, z = u := ⟨_, rfl⟩
      subst eu5
      try dsimp only at hw
      show J l g A x 5 0 0 31 [(0, .ref a_this), (1, .int x1), (2, .ref a_p2), (3, .int x3), (4, .int x4)] [] [(a_this, .inr (2, [.ref a_sorts, .ref a_owners, .ref a_worths, .ref a_gave, .int v_generation, .int v_toll])), (a_owners, gI g 504 u5), (a_p2, gI g 24 f_p2)]
      obtain ⟨n6, en6⟩ : ∃ z : Int32, z = x3 + (1 : Int32) := ⟨_, rfl⟩
      have hw := hw n6 en6
      refine j_iinc C 3 [1, 2, 3, 0, 4] (v' := (1 : Int32)) dX2_giveAway_31 rfl (by decide) (by decide) rfl ?_
      rw [← en6]
      obtain ⟨n7, en7⟩ : ∃ z : Int32, z = x4 + (1 : Int32) := ⟨_, rfl⟩
      have hw := hw n7 en7
      refine j_iinc C 4 [1, 2, 3, 4, 0] (v' := (1 : Int32)) dX2_giveAway_34 rfl (by decide) (by decide) rfl ?_
      rw [← en7]
      refine j_goto C 5 dX2_giveAway_37 rfl ?_
      exact hL5 _ _ _ hw
theorem hd_X2_join : yX2_join.cls = RX2 ∧ yX2_join.cls ≠ "java/lang/invoke/MethodHandle" ∧ yX2_join.cls ≠ "java/lang/invoke/VarHandle" ∧ (parseMethodDescriptor yX2_join.desc).map (fun d => d.parameters.length) = some 2 := by decide +kernel
set_option maxRecDepth 20000 in
set_option maxHeartbeats 4000000 in
theorem c_X2_join (l : Launch) (g : gE) (a_this a_sorts a_owners a_worths a_gave : Nat) (v_generation : Int32) (v_toll : Int32) (f_owners : (Nat → Int32)) (x1 : Int32) (x2 : Int32)  (K : (Nat → Int32) → Prop) (hw : wp_X2_join v_generation f_owners x1 x2 K) : Cv l g yX2_join wsX2_join { frames := 2, cells := 0, slots := 0, locals := 43 } [.ref a_this, .int x1, .int x2] [(a_this, .inr (2, [.ref a_sorts, .ref a_owners, .ref a_worths, .ref a_gave, .int v_generation, .int v_toll])), (a_owners, gI g 504 f_owners)] (fun (u : (Nat → Int32)) => K u) (fun (u : (Nat → Int32)) => [(a_this, .inr (2, [.ref a_sorts, .ref a_owners, .ref a_worths, .ref a_gave, .int v_generation, .int v_toll])), (a_owners, gI g 504 u)]) 0 0 := by
  refine Cv_of (cc := cX2_join) (nL := 4) (ret := none) (own := RX2) (lv0 := [(0, .ref a_this), (1, .int x1), (2, .int x2)]) (by decide +kernel) rfl rfl (Nat.le_of_ble_eq_true rfl) rfl (fun A x C R => ?_)
  refine j_iconst C dX2_join_0 (v := (0 : Int32)) (by decide) ?_
  refine j_istore_n C [1, 2, 3, 0] dX2_join_1 rfl (by decide) rfl ?_
  refine lpW2_ind (G := fun x3 f_owners => J l g A x 4 0 0 2 [(0, .ref a_this), (1, .int x1), (2, .int x2), (3, .int x3)] [] [(a_this, .inr (2, [.ref a_sorts, .ref a_owners, .ref a_worths, .ref a_gave, .int v_generation, .int v_toll])), (a_owners, gI g 504 f_owners)]) (fun L2 x3 f_owners hL2 hw => ?_) _ _ hw
  refine j_iload_n C 3 dX2_join_2 rfl rfl ?_
  refine j_bipush C dX2_join_3 (v := (24 : Int32)) (by decide) ?_
  refine j_icmp_ge C 29 dX2_join_5 rfl (fun c => ?_) (fun c => ?_)
  · have hw := hw.1 c
    exact j_vret C R (f_owners) dX2_join_29 rfl hw
  · have hw := hw.2 c
    refine j_aload_n C 0 dX2_join_8 rfl rfl ?_
    refine j_iload_n C 3 dX2_join_9 rfl rfl ?_
    refine j_ri C (jc_V C (c_X2_ownerOf l g a_this a_sorts a_owners a_worths a_gave v_generation v_toll f_owners x3 _ hw) 1 gX2_join_X2_ownerOf rfl rfl rfl hd_X2_ownerOf ⟨Nat.le_of_ble_eq_true rfl, Nat.le_of_ble_eq_true rfl⟩ (j_rec C 0 2 rfl rfl) [0, 1] rfl rfl (rest := []) rfl rfl (Nat.le_of_ble_eq_true rfl) dX2_join_10 ⟨Nat.le_refl _, Nat.le_refl _⟩) [0, 1] rfl (fun _ => rfl) (fun r1 _ hw => ?_)
    try dsimp only at hw
    refine j_iload_n C 2 dX2_join_13 rfl rfl ?_
    refine j_icmp_ne C 23 dX2_join_14 rfl (fun c => ?_) (fun c => ?_)
    · have hw := hw.1 c
      obtain ⟨n2, en2⟩ : ∃ z : Int32, z = x3 + (1 : Int32) := ⟨_, rfl⟩
      have hw := hw n2 en2
      refine j_iinc C 3 [1, 2, 3, 0] (v' := (1 : Int32)) dX2_join_23 rfl (by decide) (by decide) rfl ?_
      rw [← en2]
      refine j_goto C 2 dX2_join_26 rfl ?_
      exact hL2 _ _ hw
    · have hw := hw.2 c
      refine j_aload_n C 0 dX2_join_17 rfl rfl ?_
      refine j_iload_n C 3 dX2_join_18 rfl rfl ?_
      refine j_iload_n C 1 dX2_join_19 rfl rfl ?_
      refine j_rwv C (jc_V C (c_X2_give l g a_this a_sorts a_owners a_worths a_gave v_generation v_toll f_owners x3 x1 _ hw) 2 gX2_join_X2_give rfl rfl rfl hd_X2_give ⟨Nat.le_of_ble_eq_true rfl, Nat.le_of_ble_eq_true rfl⟩ (j_rec C 0 2 rfl rfl) [0, 1] rfl rfl (rest := []) rfl rfl (Nat.le_of_ble_eq_true rfl) dX2_join_20 ⟨Nat.le_refl _, Nat.le_refl _⟩) [0, 1] [] [0, 1] (ws' := fun u => [(a_this, .inr (2, [.ref a_sorts, .ref a_owners, .ref a_worths, .ref a_gave, .int v_generation, .int v_toll])), (a_owners, gI g 504 u)]) rfl rfl rfl (by decide) rfl (fun _ => rfl) (fun u hw => ?_)
      obtain ⟨u3, eu3⟩ : ∃ z, z = u := ⟨_, rfl⟩
      subst eu3
      try dsimp only at hw
      show J l g A x 4 0 0 23 [(0, .ref a_this), (1, .int x1), (2, .int x2), (3, .int x3)] [] [(a_this, .inr (2, [.ref a_sorts, .ref a_owners, .ref a_worths, .ref a_gave, .int v_generation, .int v_toll])), (a_owners, gI g 504 u3)]
      obtain ⟨n4, en4⟩ : ∃ z : Int32, z = x3 + (1 : Int32) := ⟨_, rfl⟩
      have hw := hw n4 en4
      refine j_iinc C 3 [1, 2, 3, 0] (v' := (1 : Int32)) dX2_join_23 rfl (by decide) (by decide) rfl ?_
      rw [← en4]
      refine j_goto C 2 dX2_join_26 rfl ?_
      exact hL2 _ _ hw
theorem hi_X2_setWorth_X2 : ∀ w ∈ wsX20, w ∈ wsX2_setWorth := fun _ h => List.mem_cons_of_mem _ (List.mem_append_right _ h)
theorem hd_X2_setWorth : yX2_setWorth.cls = RX2 ∧ yX2_setWorth.cls ≠ "java/lang/invoke/MethodHandle" ∧ yX2_setWorth.cls ≠ "java/lang/invoke/VarHandle" ∧ (parseMethodDescriptor yX2_setWorth.desc).map (fun d => d.parameters.length) = some 3 := by decide +kernel
set_option maxRecDepth 20000 in
set_option maxHeartbeats 4000000 in
theorem c_X2_setWorth (l : Launch) (g : gE) (a_this a_sorts a_owners a_worths a_gave : Nat) (v_generation : Int32) (v_toll : Int32) (f_worths : (Nat → Int32)) (x1 : Int32) (x2 : Int32) (x3 : Int32)  (K : Int32 → (Nat → Int32) → Prop) (hw : wp_X2_setWorth f_worths x1 x2 x3 K) : Ci l g yX2_setWorth wsX2_setWorth { frames := 0, cells := 0, slots := 0, locals := 0 } [.ref a_this, .int x1, .int x2, .int x3] [(a_this, .inr (2, [.ref a_sorts, .ref a_owners, .ref a_worths, .ref a_gave, .int v_generation, .int v_toll])), (a_worths, gI g 30 f_worths)] (fun (r : Int32) (u : (Nat → Int32)) => K r u) (fun (u : (Nat → Int32)) => [(a_this, .inr (2, [.ref a_sorts, .ref a_owners, .ref a_worths, .ref a_gave, .int v_generation, .int v_toll])), (a_worths, gI g 30 u)]) 0 0 := by
  refine Ci_of (cc := cX2_setWorth) (nL := 5) (ret := (some .int)) (own := RX2) (lv0 := [(0, .ref a_this), (1, .int x1), (2, .int x2), (3, .int x3)]) (by decide +kernel) rfl rfl (Nat.le_of_ble_eq_true rfl) rfl (fun A x C R => ?_)
  refine j_aload_n C 0 dX2_setWorth_0 rfl rfl ?_
  refine j_get C 0 2 2 (T := TX2) (N := 6) hi_X2_setWorth_X2 rfl (by decide) (List.mem_of_getElem? (i := 1) rfl) rfl rfl rfl dX2_setWorth_1 ?_
  refine j_iload_n C 1 dX2_setWorth_4 rfl rfl ?_
  refine j_iconst C dX2_setWorth_5 (v := (5 : Int32)) (by decide) ?_
  refine j_imul C dX2_setWorth_6 ?_
  refine j_iload_n C 2 dX2_setWorth_7 rfl rfl ?_
  refine j_iadd C dX2_setWorth_8 ?_
  obtain ⟨k1, ek1, hk1, hw⟩ := hw
  refine j_iald C 1 k1 rfl ek1 hk1 (by decide) dX2_setWorth_9 ?_
  refine j_top (fun n2 en2 => ?_)
  have hw := hw n2 en2
  refine j_istore C [1, 2, 3, 4, 0] dX2_setWorth_10 (by decide) rfl ?_
  refine j_aload_n C 0 dX2_setWorth_12 rfl rfl ?_
  refine j_get C 0 2 2 (T := TX2) (N := 6) hi_X2_setWorth_X2 rfl (by decide) (List.mem_of_getElem? (i := 1) rfl) rfl rfl rfl dX2_setWorth_13 ?_
  refine j_iload_n C 1 dX2_setWorth_16 rfl rfl ?_
  refine j_iconst C dX2_setWorth_17 (v := (5 : Int32)) (by decide) ?_
  refine j_imul C dX2_setWorth_18 ?_
  refine j_iload_n C 2 dX2_setWorth_19 rfl rfl ?_
  refine j_iadd C dX2_setWorth_20 ?_
  refine j_iload_n C 3 dX2_setWorth_21 rfl rfl ?_
  obtain ⟨k3, ek3, hk3, hw⟩ := hw
  refine j_iast C 1 k3 rfl ek3 hk3 (by decide) rfl dX2_setWorth_22 ?_
  refine j_iload C 4 dX2_setWorth_23 rfl ?_
  exact j_iret C R (upd f_worths k3 x3) rfl dX2_setWorth_25 rfl hw
theorem hi_X2_shareOfSector_X2 : ∀ w ∈ wsX20, w ∈ wsX2_shareOfSector := fun _ h => List.mem_cons_of_mem _ (List.mem_append_right _ h)
theorem hd_X2_shareOfSector : yX2_shareOfSector.cls = RX2 ∧ yX2_shareOfSector.cls ≠ "java/lang/invoke/MethodHandle" ∧ yX2_shareOfSector.cls ≠ "java/lang/invoke/VarHandle" ∧ (parseMethodDescriptor yX2_shareOfSector.desc).map (fun d => d.parameters.length) = some 2 := by decide +kernel
set_option maxRecDepth 20000 in
set_option maxHeartbeats 4000000 in
theorem c_X2_shareOfSector (l : Launch) (g : gE) (a_this a_sorts a_owners a_worths a_gave : Nat) (v_generation : Int32) (v_toll : Int32) (f_sorts : (Nat → Int32)) (f_worths : (Nat → Int32)) (x1 : Int32) (x2 : Int32)  (K : Int32 → Prop) (hw : wp_X2_shareOfSector f_sorts f_worths x1 x2 K) : Ci l g yX2_shareOfSector wsX2_shareOfSector { frames := 1, cells := 0, slots := 0, locals := 22 } [.ref a_this, .int x1, .int x2] [(a_this, .inr (2, [.ref a_sorts, .ref a_owners, .ref a_worths, .ref a_gave, .int v_generation, .int v_toll])), (a_sorts, gI g 120 f_sorts), (a_worths, gI g 30 f_worths)] (fun (r : Int32) (_ : Unit) => K r) (fun (_ : Unit) => [(a_this, .inr (2, [.ref a_sorts, .ref a_owners, .ref a_worths, .ref a_gave, .int v_generation, .int v_toll])), (a_sorts, gI g 120 f_sorts), (a_worths, gI g 30 f_worths)]) 0 0 := by
  refine Ci_of (cc := cX2_shareOfSector) (nL := 5) (ret := (some .int)) (own := RX2) (lv0 := [(0, .ref a_this), (1, .int x1), (2, .int x2)]) (by decide +kernel) rfl rfl (Nat.le_of_ble_eq_true rfl) rfl (fun A x C R => ?_)
  refine j_iconst C dX2_shareOfSector_0 (v := (0 : Int32)) (by decide) ?_
  refine j_istore_n C [1, 2, 3, 0] dX2_shareOfSector_1 rfl (by decide) rfl ?_
  refine j_iconst C dX2_shareOfSector_2 (v := (0 : Int32)) (by decide) ?_
  refine j_istore C [1, 2, 3, 4, 0] dX2_shareOfSector_3 (by decide) rfl ?_
  refine lpW2_ind (G := fun x3 x4 => J l g A x 5 0 0 5 [(0, .ref a_this), (1, .int x1), (2, .int x2), (3, .int x3), (4, .int x4)] [] [(a_this, .inr (2, [.ref a_sorts, .ref a_owners, .ref a_worths, .ref a_gave, .int v_generation, .int v_toll])), (a_sorts, gI g 120 f_sorts), (a_worths, gI g 30 f_worths)]) (fun L5 x3 x4 hL5 hw => ?_) _ _ hw
  refine j_iload C 4 dX2_shareOfSector_5 rfl ?_
  refine j_iconst C dX2_shareOfSector_7 (v := (5 : Int32)) (by decide) ?_
  refine j_icmp_ge C 36 dX2_shareOfSector_8 rfl (fun c => ?_) (fun c => ?_)
  · have hw := hw.1 c
    refine j_iload_n C 3 dX2_shareOfSector_36 rfl rfl ?_
    exact j_iret C R () rfl dX2_shareOfSector_37 rfl hw
  · have hw := hw.2 c
    refine j_iload_n C 3 dX2_shareOfSector_11 rfl rfl ?_
    refine j_aload_n C 0 dX2_shareOfSector_12 rfl rfl ?_
    refine j_get C 0 2 2 (T := TX2) (N := 6) hi_X2_shareOfSector_X2 rfl (by decide) (List.mem_of_getElem? (i := 1) rfl) rfl rfl rfl dX2_shareOfSector_13 ?_
    refine j_iload_n C 1 dX2_shareOfSector_16 rfl rfl ?_
    refine j_iconst C dX2_shareOfSector_17 (v := (5 : Int32)) (by decide) ?_
    refine j_imul C dX2_shareOfSector_18 ?_
    refine j_aload_n C 0 dX2_shareOfSector_19 rfl rfl ?_
    refine j_iload C 4 dX2_shareOfSector_20 rfl ?_
    refine j_iload_n C 2 dX2_shareOfSector_22 rfl rfl ?_
    refine j_ri C (jc_V C (c_X2_sortAt l g a_this a_sorts a_owners a_worths a_gave v_generation v_toll f_sorts x4 x2 _ hw) 2 gX2_shareOfSector_X2_sortAt rfl rfl rfl hd_X2_sortAt ⟨Nat.le_of_ble_eq_true rfl, Nat.le_of_ble_eq_true rfl⟩ (j_rec C 0 2 rfl rfl) [0, 1] rfl rfl (rest := [.int (x1 * (5 : Int32)), .ref a_worths, .int x3]) rfl rfl (Nat.le_of_ble_eq_true rfl) dX2_shareOfSector_23 ⟨Nat.le_refl _, Nat.le_refl _⟩) [0, 1] rfl (fun _ => rfl) (fun r1 _ hw => ?_)
    try dsimp only at hw
    refine j_iadd C dX2_shareOfSector_26 ?_
    obtain ⟨k2, ek2, hk2, hw⟩ := hw
    refine j_iald C 2 k2 rfl ek2 hk2 (by decide) dX2_shareOfSector_27 ?_
    refine j_iadd C dX2_shareOfSector_28 ?_
    refine j_top (fun n3 en3 => ?_)
    have hw := hw n3 en3
    refine j_istore_n C [1, 2, 3, 0, 4] dX2_shareOfSector_29 rfl (by decide) rfl ?_
    obtain ⟨n4, en4⟩ : ∃ z : Int32, z = x4 + (1 : Int32) := ⟨_, rfl⟩
    have hw := hw n4 en4
    refine j_iinc C 4 [1, 2, 3, 4, 0] (v' := (1 : Int32)) dX2_shareOfSector_30 rfl (by decide) (by decide) rfl ?_
    rw [← en4]
    refine j_goto C 5 dX2_shareOfSector_33 rfl ?_
    exact hL5 _ _ hw
theorem hd_X2_shareOf : yX2_shareOf.cls = RX2 ∧ yX2_shareOf.cls ≠ "java/lang/invoke/MethodHandle" ∧ yX2_shareOf.cls ≠ "java/lang/invoke/VarHandle" ∧ (parseMethodDescriptor yX2_shareOf.desc).map (fun d => d.parameters.length) = some 2 := by decide +kernel
set_option maxRecDepth 20000 in
set_option maxHeartbeats 4000000 in
theorem c_X2_shareOf (l : Launch) (g : gE) (a_this a_sorts a_owners a_worths a_gave : Nat) (v_generation : Int32) (v_toll : Int32) (f_sorts : (Nat → Int32)) (f_worths : (Nat → Int32)) (x1 : Int32) (x2 : Int32)  (K : Int32 → Prop) (hw : wp_X2_shareOf f_sorts f_worths x1 x2 K) : Ci l g yX2_shareOf wsX2_shareOf { frames := 2, cells := 0, slots := 0, locals := 46 } [.ref a_this, .int x1, .int x2] [(a_this, .inr (2, [.ref a_sorts, .ref a_owners, .ref a_worths, .ref a_gave, .int v_generation, .int v_toll])), (a_sorts, gI g 120 f_sorts), (a_worths, gI g 30 f_worths)] (fun (r : Int32) (_ : Unit) => K r) (fun (_ : Unit) => [(a_this, .inr (2, [.ref a_sorts, .ref a_owners, .ref a_worths, .ref a_gave, .int v_generation, .int v_toll])), (a_sorts, gI g 120 f_sorts), (a_worths, gI g 30 f_worths)]) 0 0 := by
  refine Ci_of (cc := cX2_shareOf) (nL := 5) (ret := (some .int)) (own := RX2) (lv0 := [(0, .ref a_this), (1, .int x1), (2, .int x2)]) (by decide +kernel) rfl rfl (Nat.le_of_ble_eq_true rfl) rfl (fun A x C R => ?_)
  refine j_iconst C dX2_shareOf_0 (v := (0 : Int32)) (by decide) ?_
  refine j_istore_n C [1, 2, 3, 0] dX2_shareOf_1 rfl (by decide) rfl ?_
  refine j_iconst C dX2_shareOf_2 (v := (0 : Int32)) (by decide) ?_
  refine j_istore C [1, 2, 3, 4, 0] dX2_shareOf_3 (by decide) rfl ?_
  refine lpW2_ind (G := fun x3 x4 => J l g A x 5 0 0 5 [(0, .ref a_this), (1, .int x1), (2, .int x2), (3, .int x3), (4, .int x4)] [] [(a_this, .inr (2, [.ref a_sorts, .ref a_owners, .ref a_worths, .ref a_gave, .int v_generation, .int v_toll])), (a_sorts, gI g 120 f_sorts), (a_worths, gI g 30 f_worths)]) (fun L5 x3 x4 hL5 hw => ?_) _ _ hw
  refine j_iload C 4 dX2_shareOf_5 rfl ?_
  refine j_bipush C dX2_shareOf_7 (v := (24 : Int32)) (by decide) ?_
  refine j_icmp_ge C 37 dX2_shareOf_9 rfl (fun c => ?_) (fun c => ?_)
  · have hw := hw.1 c
    refine j_iload_n C 3 dX2_shareOf_37 rfl rfl ?_
    exact j_iret C R () rfl dX2_shareOf_38 rfl hw
  · have hw := hw.2 c
    refine j_iload_n C 2 dX2_shareOf_12 rfl rfl ?_
    refine j_iload C 4 dX2_shareOf_13 rfl ?_
    refine j_ishr C dX2_shareOf_15 ?_
    refine j_iconst C dX2_shareOf_16 (v := (1 : Int32)) (by decide) ?_
    refine j_iand C dX2_shareOf_17 ?_
    refine j_if_eq C 31 dX2_shareOf_18 rfl (fun c => ?_) (fun c => ?_)
    · have hw := hw.1 c
      obtain ⟨n1, en1⟩ : ∃ z : Int32, z = x4 + (1 : Int32) := ⟨_, rfl⟩
      have hw := hw n1 en1
      refine j_iinc C 4 [1, 2, 3, 4, 0] (v' := (1 : Int32)) dX2_shareOf_31 rfl (by decide) (by decide) rfl ?_
      rw [← en1]
      refine j_goto C 5 dX2_shareOf_34 rfl ?_
      exact hL5 _ _ hw
    · have hw := hw.2 c
      refine j_iload_n C 3 dX2_shareOf_21 rfl rfl ?_
      refine j_aload_n C 0 dX2_shareOf_22 rfl rfl ?_
      refine j_iload_n C 1 dX2_shareOf_23 rfl rfl ?_
      refine j_iload C 4 dX2_shareOf_24 rfl ?_
      refine j_ri C (jc_V C (c_X2_shareOfSector l g a_this a_sorts a_owners a_worths a_gave v_generation v_toll f_sorts f_worths x1 x4 _ hw) 2 gX2_shareOf_X2_shareOfSector rfl rfl rfl hd_X2_shareOfSector ⟨Nat.le_of_ble_eq_true rfl, Nat.le_of_ble_eq_true rfl⟩ (j_rec C 0 2 rfl rfl) [0, 1, 2] rfl rfl (rest := [.int x3]) rfl rfl (Nat.le_of_ble_eq_true rfl) dX2_shareOf_26 ⟨Nat.le_refl _, Nat.le_refl _⟩) [0, 1, 2] rfl (fun _ => rfl) (fun r2 _ hw => ?_)
      try dsimp only at hw
      refine j_iadd C dX2_shareOf_29 ?_
      refine j_top (fun n3 en3 => ?_)
      have hw := hw n3 en3
      refine j_istore_n C [1, 2, 3, 0, 4] dX2_shareOf_30 rfl (by decide) rfl ?_
      obtain ⟨n4, en4⟩ : ∃ z : Int32, z = x4 + (1 : Int32) := ⟨_, rfl⟩
      have hw := hw n4 en4
      refine j_iinc C 4 [1, 2, 3, 4, 0] (v' := (1 : Int32)) dX2_shareOf_31 rfl (by decide) (by decide) rfl ?_
      rw [← en4]
      refine j_goto C 5 dX2_shareOf_34 rfl ?_
      exact hL5 _ _ hw
theorem hi_X2_hasRight_X2 : ∀ w ∈ wsX20, w ∈ wsX2_hasRight := fun _ h => List.mem_cons_of_mem _ (List.mem_append_right _ h)
theorem hd_X2_hasRight : yX2_hasRight.cls = RX2 ∧ yX2_hasRight.cls ≠ "java/lang/invoke/MethodHandle" ∧ yX2_hasRight.cls ≠ "java/lang/invoke/VarHandle" ∧ (parseMethodDescriptor yX2_hasRight.desc).map (fun d => d.parameters.length) = some 2 := by decide +kernel
set_option maxRecDepth 20000 in
set_option maxHeartbeats 4000000 in
theorem c_X2_hasRight (l : Launch) (g : gE) (a_this a_sorts a_owners a_worths a_gave : Nat) (v_generation : Int32) (v_toll : Int32) (f_gave : (Nat → Int32)) (x1 : Int32) (x2 : Int32)  (K : Int32 → Prop) (hw : wp_X2_hasRight f_gave x1 x2 K) : Ci l g yX2_hasRight wsX2_hasRight { frames := 0, cells := 0, slots := 0, locals := 0 } [.ref a_this, .int x1, .int x2] [(a_this, .inr (2, [.ref a_sorts, .ref a_owners, .ref a_worths, .ref a_gave, .int v_generation, .int v_toll])), (a_gave, gI g 6 f_gave)] (fun (r : Int32) (_ : Unit) => K r) (fun (_ : Unit) => [(a_this, .inr (2, [.ref a_sorts, .ref a_owners, .ref a_worths, .ref a_gave, .int v_generation, .int v_toll])), (a_gave, gI g 6 f_gave)]) 0 0 := by
  refine Ci_of (cc := cX2_hasRight) (nL := 3) (ret := (some .boolean)) (own := RX2) (lv0 := [(0, .ref a_this), (1, .int x1), (2, .int x2)]) (by decide +kernel) rfl rfl (Nat.le_of_ble_eq_true rfl) rfl (fun A x C R => ?_)
  refine j_aload_n C 0 dX2_hasRight_0 rfl rfl ?_
  refine j_get C 0 2 3 (T := TX2) (N := 6) hi_X2_hasRight_X2 rfl (by decide) (List.mem_of_getElem? (i := 1) rfl) rfl rfl rfl dX2_hasRight_1 ?_
  refine j_iload_n C 2 dX2_hasRight_4 rfl rfl ?_
  obtain ⟨k1, ek1, hk1, hw⟩ := hw
  refine j_iald C 1 k1 rfl ek1 hk1 (by decide) dX2_hasRight_5 ?_
  refine j_iload_n C 1 dX2_hasRight_6 rfl rfl ?_
  refine j_ishr C dX2_hasRight_7 ?_
  refine j_iconst C dX2_hasRight_8 (v := (1 : Int32)) (by decide) ?_
  refine j_iand C dX2_hasRight_9 ?_
  refine j_if_eq C 17 dX2_hasRight_10 rfl (fun c => ?_) (fun c => ?_)
  · have hw := hw.1 c
    refine j_iconst C dX2_hasRight_17 (v := (0 : Int32)) (by decide) ?_
    exact j_iret C R () rfl dX2_hasRight_18 rfl hw
  · have hw := hw.2 c
    refine j_iconst C dX2_hasRight_13 (v := (1 : Int32)) (by decide) ?_
    refine j_goto C 18 dX2_hasRight_14 rfl ?_
    exact j_iret C R () rfl dX2_hasRight_18 rfl hw
theorem hi_X2_setRight_X2 : ∀ w ∈ wsX20, w ∈ wsX2_setRight := fun _ h => List.mem_cons_of_mem _ (List.mem_append_right _ h)
theorem hd_X2_setRight : yX2_setRight.cls = RX2 ∧ yX2_setRight.cls ≠ "java/lang/invoke/MethodHandle" ∧ yX2_setRight.cls ≠ "java/lang/invoke/VarHandle" ∧ (parseMethodDescriptor yX2_setRight.desc).map (fun d => d.parameters.length) = some 3 := by decide +kernel
set_option maxRecDepth 20000 in
set_option maxHeartbeats 4000000 in
theorem c_X2_setRight (l : Launch) (g : gE) (a_this a_sorts a_owners a_worths a_gave : Nat) (v_generation : Int32) (v_toll : Int32) (f_gave : (Nat → Int32)) (x1 : Int32) (x2 : Int32) (x3 : Int32)  (K : Int32 → (Nat → Int32) → Prop) (hw : wp_X2_setRight f_gave x1 x2 x3 K) : Ci l g yX2_setRight wsX2_setRight { frames := 1, cells := 0, slots := 0, locals := 22 } [.ref a_this, .int x1, .int x2, .int x3] [(a_this, .inr (2, [.ref a_sorts, .ref a_owners, .ref a_worths, .ref a_gave, .int v_generation, .int v_toll])), (a_gave, gI g 6 f_gave)] (fun (r : Int32) (u : (Nat → Int32)) => K r u) (fun (u : (Nat → Int32)) => [(a_this, .inr (2, [.ref a_sorts, .ref a_owners, .ref a_worths, .ref a_gave, .int v_generation, .int v_toll])), (a_gave, gI g 6 u)]) 0 0 := by
  refine Ci_of (cc := cX2_setRight) (nL := 6) (ret := (some .boolean)) (own := RX2) (lv0 := [(0, .ref a_this), (1, .int x1), (2, .int x2), (3, .int x3)]) (by decide +kernel) rfl rfl (Nat.le_of_ble_eq_true rfl) rfl (fun A x C R => ?_)
  refine j_aload_n C 0 dX2_setRight_0 rfl rfl ?_
  refine j_iload_n C 2 dX2_setRight_1 rfl rfl ?_
  refine j_iload_n C 1 dX2_setRight_2 rfl rfl ?_
  refine j_ri C (jc_V C (c_X2_hasRight l g a_this a_sorts a_owners a_worths a_gave v_generation v_toll f_gave x2 x1 _ hw) 2 gX2_setRight_X2_hasRight rfl rfl rfl hd_X2_hasRight ⟨Nat.le_of_ble_eq_true rfl, Nat.le_of_ble_eq_true rfl⟩ (j_rec C 0 2 rfl rfl) [0, 1] rfl rfl (rest := []) rfl rfl (Nat.le_of_ble_eq_true rfl) dX2_setRight_3 ⟨Nat.le_refl _, Nat.le_refl _⟩) [0, 1] rfl (fun _ => rfl) (fun r1 _ hw => ?_)
  try dsimp only at hw
  refine j_istore C [1, 2, 3, 4, 0] dX2_setRight_6 (by decide) rfl ?_
  refine j_iconst C dX2_setRight_8 (v := (1 : Int32)) (by decide) ?_
  refine j_iload_n C 2 dX2_setRight_9 rfl rfl ?_
  refine j_ishl C dX2_setRight_10 ?_
  refine j_top (fun n2 en2 => ?_)
  have hw := hw n2 en2
  refine j_istore C [1, 2, 3, 4, 5, 0] dX2_setRight_11 (by decide) rfl ?_
  refine j_aload_n C 0 dX2_setRight_13 rfl rfl ?_
  refine j_get C 0 2 3 (T := TX2) (N := 6) hi_X2_setRight_X2 rfl (by decide) (List.mem_of_getElem? (i := 1) rfl) rfl rfl rfl dX2_setRight_14 ?_
  refine j_iload_n C 1 dX2_setRight_17 rfl rfl ?_
  refine j_iload_n C 3 dX2_setRight_18 rfl rfl ?_
  refine j_if_eq C 34 dX2_setRight_19 rfl (fun c => ?_) (fun c => ?_)
  · have hw := hw.1 c
    refine j_aload_n C 0 dX2_setRight_34 rfl rfl ?_
    refine j_get C 0 2 3 (T := TX2) (N := 6) hi_X2_setRight_X2 rfl (by decide) (List.mem_of_getElem? (i := 1) rfl) rfl rfl rfl dX2_setRight_35 ?_
    refine j_iload_n C 1 dX2_setRight_38 rfl rfl ?_
    obtain ⟨k3, ek3, hk3, hw⟩ := hw
    refine j_iald C 1 k3 rfl ek3 hk3 (by decide) dX2_setRight_39 ?_
    refine j_iload C 5 dX2_setRight_40 rfl ?_
    refine j_iconst C dX2_setRight_42 (v := (-1 : Int32)) (by decide) ?_
    refine j_ixor C dX2_setRight_43 ?_
    refine j_iand C dX2_setRight_44 ?_
    refine j_top (fun n4 en4 => ?_)
    have hw := hw n4 en4
    obtain ⟨k5, ek5, hk5, hw⟩ := hw
    refine j_iast C 1 k5 rfl ek5 hk5 (by decide) rfl dX2_setRight_45 ?_
    refine j_iload C 4 dX2_setRight_46 rfl ?_
    obtain ⟨hn, hw⟩ := hw
    exact j_iret C R (upd f_gave k5 n4) hn dX2_setRight_48 rfl hw
  · have hw := hw.2 c
    refine j_aload_n C 0 dX2_setRight_22 rfl rfl ?_
    refine j_get C 0 2 3 (T := TX2) (N := 6) hi_X2_setRight_X2 rfl (by decide) (List.mem_of_getElem? (i := 1) rfl) rfl rfl rfl dX2_setRight_23 ?_
    refine j_iload_n C 1 dX2_setRight_26 rfl rfl ?_
    obtain ⟨k6, ek6, hk6, hw⟩ := hw
    refine j_iald C 1 k6 rfl ek6 hk6 (by decide) dX2_setRight_27 ?_
    refine j_iload C 5 dX2_setRight_28 rfl ?_
    refine j_ior C dX2_setRight_30 ?_
    refine j_goto C 45 dX2_setRight_31 rfl ?_
    refine j_top (fun n7 en7 => ?_)
    have hw := hw n7 en7
    obtain ⟨k8, ek8, hk8, hw⟩ := hw
    refine j_iast C 1 k8 rfl ek8 hk8 (by decide) rfl dX2_setRight_45 ?_
    refine j_iload C 4 dX2_setRight_46 rfl ?_
    obtain ⟨hn, hw⟩ := hw
    exact j_iret C R (upd f_gave k8 n7) hn dX2_setRight_48 rfl hw
theorem hd_X2_isFreeFor : yX2_isFreeFor.cls = RX2 ∧ yX2_isFreeFor.cls ≠ "java/lang/invoke/MethodHandle" ∧ yX2_isFreeFor.cls ≠ "java/lang/invoke/VarHandle" ∧ (parseMethodDescriptor yX2_isFreeFor.desc).map (fun d => d.parameters.length) = some 2 := by decide +kernel
set_option maxRecDepth 20000 in
set_option maxHeartbeats 4000000 in
theorem c_X2_isFreeFor (l : Launch) (g : gE) (a_this a_sorts a_owners a_worths a_gave : Nat) (v_generation : Int32) (v_toll : Int32) (f_owners : (Nat → Int32)) (f_gave : (Nat → Int32)) (x1 : Int32) (x2 : Int32)  (K : Int32 → Prop) (hw : wp_X2_isFreeFor v_generation f_owners f_gave x1 x2 K) : Ci l g yX2_isFreeFor wsX2_isFreeFor { frames := 2, cells := 0, slots := 0, locals := 43 } [.ref a_this, .int x1, .int x2] [(a_this, .inr (2, [.ref a_sorts, .ref a_owners, .ref a_worths, .ref a_gave, .int v_generation, .int v_toll])), (a_owners, gI g 504 f_owners), (a_gave, gI g 6 f_gave)] (fun (r : Int32) (_ : Unit) => K r) (fun (_ : Unit) => [(a_this, .inr (2, [.ref a_sorts, .ref a_owners, .ref a_worths, .ref a_gave, .int v_generation, .int v_toll])), (a_owners, gI g 504 f_owners), (a_gave, gI g 6 f_gave)]) 0 0 := by
  refine Ci_of (cc := cX2_isFreeFor) (nL := 4) (ret := (some .boolean)) (own := RX2) (lv0 := [(0, .ref a_this), (1, .int x1), (2, .int x2)]) (by decide +kernel) rfl rfl (Nat.le_of_ble_eq_true rfl) rfl (fun A x C R => ?_)
  refine j_aload_n C 0 dX2_isFreeFor_0 rfl rfl ?_
  refine j_iload_n C 2 dX2_isFreeFor_1 rfl rfl ?_
  refine j_ri C (jc_V C (c_X2_ownerOf l g a_this a_sorts a_owners a_worths a_gave v_generation v_toll f_owners x2 _ hw) 1 gX2_isFreeFor_X2_ownerOf rfl rfl rfl hd_X2_ownerOf ⟨Nat.le_of_ble_eq_true rfl, Nat.le_of_ble_eq_true rfl⟩ (j_rec C 0 2 rfl rfl) [0, 1] rfl rfl (rest := []) rfl rfl (Nat.le_of_ble_eq_true rfl) dX2_isFreeFor_2 ⟨Nat.le_refl _, Nat.le_refl _⟩) [0, 1] rfl (fun _ => rfl) (fun r1 _ hw => ?_)
  try dsimp only at hw
  refine j_istore_n C [1, 2, 3, 0] dX2_isFreeFor_5 rfl (by decide) rfl ?_
  refine j_iload_n C 3 dX2_isFreeFor_6 rfl rfl ?_
  refine j_iload_n C 1 dX2_isFreeFor_7 rfl rfl ?_
  refine j_icmp_eq C 20 dX2_isFreeFor_8 rfl (fun c => ?_) (fun c => ?_)
  · have hw := hw.1 c
    refine j_iconst C dX2_isFreeFor_20 (v := (1 : Int32)) (by decide) ?_
    refine j_goto C 25 dX2_isFreeFor_21 rfl ?_
    exact j_iret C R () rfl dX2_isFreeFor_25 rfl hw
  · have hw := hw.2 c
    refine j_aload_n C 0 dX2_isFreeFor_11 rfl rfl ?_
    refine j_iload_n C 1 dX2_isFreeFor_12 rfl rfl ?_
    refine j_iload_n C 3 dX2_isFreeFor_13 rfl rfl ?_
    refine j_ri C (jc_V C (c_X2_hasRight l g a_this a_sorts a_owners a_worths a_gave v_generation v_toll f_gave x1 r1 _ hw) 2 gX2_isFreeFor_X2_hasRight rfl rfl rfl hd_X2_hasRight ⟨Nat.le_of_ble_eq_true rfl, Nat.le_of_ble_eq_true rfl⟩ (j_rec C 0 2 rfl rfl) [0, 2] rfl rfl (rest := []) rfl rfl (Nat.le_of_ble_eq_true rfl) dX2_isFreeFor_14 ⟨Nat.le_refl _, Nat.le_refl _⟩) [0, 2] rfl (fun _ => rfl) (fun r2 _ hw => ?_)
    try dsimp only at hw
    refine j_if_eq C 24 dX2_isFreeFor_17 rfl (fun c => ?_) (fun c => ?_)
    · have hw := hw.1 c
      refine j_iconst C dX2_isFreeFor_24 (v := (0 : Int32)) (by decide) ?_
      exact j_iret C R () rfl dX2_isFreeFor_25 rfl hw
    · have hw := hw.2 c
      refine j_iconst C dX2_isFreeFor_20 (v := (1 : Int32)) (by decide) ?_
      refine j_goto C 25 dX2_isFreeFor_21 rfl ?_
      exact j_iret C R () rfl dX2_isFreeFor_25 rfl hw