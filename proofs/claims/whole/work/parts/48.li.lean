/-! the law: its loop (printed by wip/whole/gen/mklaw6.py) -/
theorem j_astore_n {l : Launch} {g : gE} {A : Nat → Prop} {x : jX} {own : String} {cc : ByteArray} {nL kc kn pc : Nat} {Ts : List Cond} {rm : Room} {lv : List (Nat × Value)} {st : List Value} {ws : va_W} (C : JC g A x own cc nL Ts rm) (pc' : Nat) (hnp : pc + 1 = pc') (ks : List Nat) {n : Fin 4} {i v : Nat} {lv' : List (Nat × Value)} (d : decode cc pc = .ok (.astore_n n, 1)) (hi : (n : Nat) = i) (hn : i < nL) (hl0 : lv_pick ((i, Value.ref v) :: lv.filter (fun q => !(q.1 == i) && !(q.1 + 1 == i && q.2.category == 2))) ks = lv') (k : J l g A x nL kc kn pc' lv' st ws) : J l g A x nL kc kn pc lv (.ref v :: st) ws := by subst hnp; exact fun H locs ls hP hD hS hl => lv_astore_n C.1 C.2.1 d hi hl hn rfl (fun ls' hl' => k H locs ls' hP hD hS (lv_sub hl' ks hl0))
theorem nI_room {L i : Nat} (hL : L ≤ 2560) (hi : i ≤ L + 5) (c : ¬ nI L - 5 < nI i) : i + 5 ≤ L := by
  by_cases h : i + 5 ≤ L
  · exact h
  · refine absurd ?_ c
    rw [show (5 : Int32) = nI 5 from rfl]
    have h1 : (nI L - nI 5).toInt = (L : Int) - 5 := pk_sub_toInt (by omega) (by omega)
    rw [Int32.lt_iff_toInt_lt, h1, nI_toInt (by omega)]
    omega
set_option maxRecDepth 20000 in
set_option maxHeartbeats 8000000 in
theorem law_loop {l : Launch} {g : gE} {A : Nat → Prop} {x : jX} {b L : Nat} {xs : Nat → Int32} {a_this a_pad a_pad_signs a_pad_row a_hill a_hill_sorts a_hill_owners a_hill_worths a_hill_gave a_images a_fairCut a_fairCut_sums a_fairCut_shares a_fairCut_begins a_fairCut_heirs a_fairCut_foundBegins a_fairCut_foundHeirs a_bestCut a_bestCut_sums a_bestCut_shares a_bestCut_begins a_bestCut_heirs a_bestCut_foundBegins a_bestCut_foundHeirs a_leastFence a_leastFence_room a_leastFence_came a_leastFence_queue a_leastFence_goals e_this e_pad e_sort e_heir e_was e_worth e_rights e_ahead e_bound e_owner e_foundBound e_foundOwner e_beside e_upward e_from e_queue e_image e_isKept : Nat} (C : JC g A x RL cL_law 4 wsL_law room_1) (X : lS A x b L xs) (hL : L ≤ 2560) (hE : ∀ (kc kn : Nat) (lv : List (Nat × Value)) (ws : va_W), kc ≤ 600000 → kn ≤ 7302250 → J l g A x 4 kc kn 970 lv [.int 1] ws) : ∀ (n i : Nat), i ≤ L + 5 → L ≤ i + n → ∀ (kc kn : Nat) (v_pad_count : Int32) (f_pad_signs : (Nat → Int32)) (f_pad_row : (Nat → Int32)) (v_hill_generation : Int32) (v_hill_toll : Int32) (f_hill_sorts : (Nat → Int32)) (f_hill_owners : (Nat → Int32)) (f_hill_worths : (Nat → Int32)) (f_hill_gave : (Nat → Int32)) (f_images : (Nat → Option Nat)) (v_fairCut_n : Int32) (v_fairCut_leastShare : Int32) (f_fairCut_sums : (Nat → Int32)) (f_fairCut_shares : (Nat → Int32)) (f_fairCut_begins : (Nat → Int32)) (f_fairCut_heirs : (Nat → Int32)) (f_fairCut_foundBegins : (Nat → Int32)) (f_fairCut_foundHeirs : (Nat → Int32)) (v_bestCut_n : Int32) (v_bestCut_leastShare : Int32) (f_bestCut_sums : (Nat → Int32)) (f_bestCut_shares : (Nat → Int32)) (f_bestCut_begins : (Nat → Int32)) (f_bestCut_heirs : (Nat → Int32)) (f_bestCut_foundBegins : (Nat → Int32)) (f_bestCut_foundHeirs : (Nat → Int32)) (v_leastFence_queued : Int32) (f_leastFence_room : (Nat → Int32)) (f_leastFence_came : (Nat → Int32)) (f_leastFence_queue : (Nat → Int32)) (f_leastFence_goals : (Nat → Int32)) (w_signs : Int32) (w_generations : Int32) (w_toll : Int32) (w_foundLeast : Int32) (w_stops : Int32) (m_pad : (Nat → Int32)) (m_sort : (Nat → Int32)) (m_heir : (Nat → Int32)) (m_was : (Nat → Int32)) (m_worth : (Nat → Int32)) (m_rights : (Nat → Int32)) (m_ahead : (Nat → Int32)) (m_bound : (Nat → Int32)) (m_owner : (Nat → Int32)) (m_foundBound : (Nat → Int32)) (m_foundOwner : (Nat → Int32)) (m_beside : (Nat → Int32)) (m_upward : (Nat → Int32)) (m_from : (Nat → Int32)) (m_queue : (Nat → Int32)) (m_image : (Nat → Int32)) (m_isKept : (Nat → Int32)) (tl : va_W), hRel v_pad_count v_hill_generation v_hill_toll v_fairCut_n v_fairCut_leastShare v_bestCut_n v_bestCut_leastShare f_pad_signs f_hill_sorts f_hill_owners f_hill_worths f_hill_gave f_fairCut_foundBegins f_fairCut_foundHeirs f_bestCut_foundBegins f_bestCut_foundHeirs w_signs w_generations w_toll m_pad m_sort m_heir m_was m_worth m_rights → hIm g f_images m_isKept m_image tl → cnt kc kn f_images → J l g A x 4 kc kn 18 [(0, .ref b), (1, .ref a_this), (2, .ref e_this), (3, .int (nI i))] [] (W4 g a_this a_pad a_pad_signs a_pad_row a_hill a_hill_sorts a_hill_owners a_hill_worths a_hill_gave a_images a_fairCut a_fairCut_sums a_fairCut_shares a_fairCut_begins a_fairCut_heirs a_fairCut_foundBegins a_fairCut_foundHeirs a_bestCut a_bestCut_sums a_bestCut_shares a_bestCut_begins a_bestCut_heirs a_bestCut_foundBegins a_bestCut_foundHeirs a_leastFence a_leastFence_room a_leastFence_came a_leastFence_queue a_leastFence_goals v_pad_count f_pad_signs f_pad_row v_hill_generation v_hill_toll f_hill_sorts f_hill_owners f_hill_worths f_hill_gave f_images v_fairCut_n v_fairCut_leastShare f_fairCut_sums f_fairCut_shares f_fairCut_begins f_fairCut_heirs f_fairCut_foundBegins f_fairCut_foundHeirs v_bestCut_n v_bestCut_leastShare f_bestCut_sums f_bestCut_shares f_bestCut_begins f_bestCut_heirs f_bestCut_foundBegins f_bestCut_foundHeirs v_leastFence_queued f_leastFence_room f_leastFence_came f_leastFence_queue f_leastFence_goals ++ (W5 g e_this e_pad e_sort e_heir e_was e_worth e_rights e_ahead e_bound e_owner e_foundBound e_foundOwner e_beside e_upward e_from e_queue e_image e_isKept w_signs w_generations w_toll w_foundLeast w_stops m_pad m_sort m_heir m_was m_worth m_rights m_ahead m_bound m_owner m_foundBound m_foundOwner m_beside m_upward m_from m_queue m_image m_isKept ++ tl)) := by
  intro n
  induction n with
  | zero =>
    intro i hi1 hi2 kc kn v_pad_count f_pad_signs f_pad_row v_hill_generation v_hill_toll f_hill_sorts f_hill_owners f_hill_worths f_hill_gave f_images v_fairCut_n v_fairCut_leastShare f_fairCut_sums f_fairCut_shares f_fairCut_begins f_fairCut_heirs f_fairCut_foundBegins f_fairCut_foundHeirs v_bestCut_n v_bestCut_leastShare f_bestCut_sums f_bestCut_shares f_bestCut_begins f_bestCut_heirs f_bestCut_foundBegins f_bestCut_foundHeirs v_leastFence_queued f_leastFence_room f_leastFence_came f_leastFence_queue f_leastFence_goals w_signs w_generations w_toll w_foundLeast w_stops m_pad m_sort m_heir m_was m_worth m_rights m_ahead m_bound m_owner m_foundBound m_foundOwner m_beside m_upward m_from m_queue m_image m_isKept tl hR hI hcnt
    refine j_iload_n C 19 rfl 3 dL_law_18 rfl rfl ?_
    refine j_aload_n C 20 rfl 0 dL_law_19 rfl rfl ?_
    refine j_slen C X 21 rfl dL_law_20 ?_
    refine j_iconst C 22 rfl dL_law_21 (v := (5 : Int32)) (by decide) ?_
    refine j_isub C 23 rfl dL_law_22 ?_
    refine j_icmp_gt C 26 rfl 969 dL_law_23 (by decide) (fun _ => ?_) (fun c => ?_)
    · have hk := cnt_ok hcnt
      exact j_iconst C 970 rfl dL_law_969 (v := (1 : Int32)) (by decide) (hE kc kn _ _ (by omega) (by omega))
    have hi : i + 5 ≤ L := nI_room hL hi1 c
    omega
  | succ n ih =>
    intro i hi1 hi2 kc kn v_pad_count f_pad_signs f_pad_row v_hill_generation v_hill_toll f_hill_sorts f_hill_owners f_hill_worths f_hill_gave f_images v_fairCut_n v_fairCut_leastShare f_fairCut_sums f_fairCut_shares f_fairCut_begins f_fairCut_heirs f_fairCut_foundBegins f_fairCut_foundHeirs v_bestCut_n v_bestCut_leastShare f_bestCut_sums f_bestCut_shares f_bestCut_begins f_bestCut_heirs f_bestCut_foundBegins f_bestCut_foundHeirs v_leastFence_queued f_leastFence_room f_leastFence_came f_leastFence_queue f_leastFence_goals w_signs w_generations w_toll w_foundLeast w_stops m_pad m_sort m_heir m_was m_worth m_rights m_ahead m_bound m_owner m_foundBound m_foundOwner m_beside m_upward m_from m_queue m_image m_isKept tl hR hI hcnt
    refine j_iload_n C 19 rfl 3 dL_law_18 rfl rfl ?_
    refine j_aload_n C 20 rfl 0 dL_law_19 rfl rfl ?_
    refine j_slen C X 21 rfl dL_law_20 ?_
    refine j_iconst C 22 rfl dL_law_21 (v := (5 : Int32)) (by decide) ?_
    refine j_isub C 23 rfl dL_law_22 ?_
    refine j_icmp_gt C 26 rfl 969 dL_law_23 (by decide) (fun _ => ?_) (fun c => ?_)
    · have hk := cnt_ok hcnt
      exact j_iconst C 970 rfl dL_law_969 (v := (1 : Int32)) (by decide) (hE kc kn _ _ (by omega) (by omega))
    have hi : i + 5 ≤ L := nI_room hL hi1 c
    refine j_aload_n C 27 rfl 0 dL_law_26 rfl rfl ?_
    refine j_iload_n C 28 rfl 3 dL_law_27 rfl rfl ?_
    refine j_sld C X 29 rfl i rfl (by omega) (by omega) dL_law_28 ?_
    refine j_bipush C 31 rfl dL_law_29 (v := (31 : Int32)) (by decide) ?_
    refine j_iand C 32 rfl dL_law_31 ?_
    obtain ⟨j, hj, ej⟩ := pk_andE (xs i) (m := (31 : Int32)) 5 (by decide)
    have hLH : LH l g A x b i a_this a_pad a_pad_signs a_pad_row a_hill a_hill_sorts a_hill_owners a_hill_worths a_hill_gave a_images a_fairCut a_fairCut_sums a_fairCut_shares a_fairCut_begins a_fairCut_heirs a_fairCut_foundBegins a_fairCut_foundHeirs a_bestCut a_bestCut_sums a_bestCut_shares a_bestCut_begins a_bestCut_heirs a_bestCut_foundBegins a_bestCut_foundHeirs a_leastFence a_leastFence_room a_leastFence_came a_leastFence_queue a_leastFence_goals e_this e_pad e_sort e_heir e_was e_worth e_rights e_ahead e_bound e_owner e_foundBound e_foundOwner e_beside e_upward e_from e_queue e_image e_isKept := by
      intro kc kn v_pad_count f_pad_signs f_pad_row v_hill_generation v_hill_toll f_hill_sorts f_hill_owners f_hill_worths f_hill_gave f_images v_fairCut_n v_fairCut_leastShare f_fairCut_sums f_fairCut_shares f_fairCut_begins f_fairCut_heirs f_fairCut_foundBegins f_fairCut_foundHeirs v_bestCut_n v_bestCut_leastShare f_bestCut_sums f_bestCut_shares f_bestCut_begins f_bestCut_heirs f_bestCut_foundBegins f_bestCut_foundHeirs v_leastFence_queued f_leastFence_room f_leastFence_came f_leastFence_queue f_leastFence_goals w_signs w_generations w_toll w_foundLeast w_stops m_pad m_sort m_heir m_was m_worth m_rights m_ahead m_bound m_owner m_foundBound m_foundOwner m_beside m_upward m_from m_queue m_image m_isKept tl hR hI hcnt
      refine j_iinc C 966 rfl 3 [1, 2, 3, 0] (v' := (5 : Int32)) (lv' := fun z => [(0, .ref b), (1, .ref a_this), (2, .ref e_this), (3, .int z)]) dL_law_963 rfl (by decide) (by decide) (fun _ => rfl) (fun z ez => ?_)
      refine j_goto C 18 dL_law_966 (by decide) ?_
      have e5 : z = nI (i + 5) := by rw [ez, show (5 : Int32) = nI 5 from rfl, nI_add]
      subst e5
      exact ih (i + 5) (by omega) (by omega) kc kn _ _ _ _ _ _ _ _ _ _ _ _ _ _ _ _ _ _ _ _ _ _ _ _ _ _ _ _ _ _ _ _ _ _ _ _ _ _ _ _ _ _ _ _ _ _ _ _ _ _ _ _ _ tl hR hI hcnt
    clear ih
    rcases Nat.lt_or_ge j 27 with h27 | h27
    · match j, h27, ej with
      | 0, _, ej => exact j_tin C 156 (nI 0) ej dL_law_32 (by decide) (by decide) rfl (by decide) (k_say C X hi hL hcnt hLH hI hR)
      | 1, _, ej => exact j_tin C 179 (nI 1) ej dL_law_32 (by decide) (by decide) rfl (by decide) (k_wipe C X hi hL hcnt hLH hI hR)
      | 2, _, ej => exact j_tin C 192 (nI 2) ej dL_law_32 (by decide) (by decide) rfl (by decide) (k_fault C X hi hL hcnt hLH hI hR)
      | 3, _, ej => exact j_tin C 215 (nI 3) ej dL_law_32 (by decide) (by decide) rfl (by decide) (k_ring C X hi hL hcnt hLH hI hR)
      | 4, _, ej => exact j_tin C 238 (nI 4) ej dL_law_32 (by decide) (by decide) rfl (by decide) (k_slices C X hi hL hcnt hLH hI hR)
      | 5, _, ej => exact j_tin C 251 (nI 5) ej dL_law_32 (by decide) (by decide) rfl (by decide) (k_will C X hi hL hcnt hLH hI hR)
      | 6, _, ej => exact j_tin C 264 (nI 6) ej dL_law_32 (by decide) (by decide) rfl (by decide) (k_wedding C X hi hL hcnt hLH hI hR)
      | 7, _, ej => exact j_tin C 297 (nI 7) ej dL_law_32 (by decide) (by decide) rfl (by decide) (k_cell C X hi hL hcnt hLH hI hR)
      | 8, _, ej => exact j_tin C 330 (nI 8) ej dL_law_32 (by decide) (by decide) rfl (by decide) (k_was C X hi hL hcnt hLH hI hR)
      | 9, _, ej => exact j_tin C 363 (nI 9) ej dL_law_32 (by decide) (by decide) rfl (by decide) (k_has C X hi hL hcnt hLH hI hR)
      | 10, _, ej => exact j_tin C 386 (nI 10) ej dL_law_32 (by decide) (by decide) rfl (by decide) (k_worth C X hi hL hcnt hLH hI hR)
      | 11, _, ej => exact j_tin C 429 (nI 11) ej dL_law_32 (by decide) (by decide) rfl (by decide) (k_share C X hi hL hcnt hLH hI hR)
      | 12, _, ej => exact j_tin C 462 (nI 12) ej dL_law_32 (by decide) (by decide) rfl (by decide) (k_envies C X hi hL hcnt hLH hI hR)
      | 13, _, ej => exact j_tin C 485 (nI 13) ej dL_law_32 (by decide) (by decide) rfl (by decide) (k_fair C X hi hL hcnt hLH hI hR)
      | 14, _, ej => exact j_tin C 518 (nI 14) ej dL_law_32 (by decide) (by decide) rfl (by decide) (k_best C X hi hL hcnt hLH hI hR)
      | 15, _, ej => exact j_tin C 551 (nI 15) ej dL_law_32 (by decide) (by decide) rfl (by decide) (k_toll C X hi hL hcnt hLH hI hR)
      | 16, _, ej => exact j_tin C 574 (nI 16) ej dL_law_32 (by decide) (by decide) rfl (by decide) (k_right C X hi hL hcnt hLH hI hR)
      | 17, _, ej => exact j_tin C 633 (nI 17) ej dL_law_32 (by decide) (by decide) rfl (by decide) (k_way C X hi hL hcnt hLH hI hR)
      | 18, _, ej => exact j_tin C 686 (nI 18) ej dL_law_32 (by decide) (by decide) rfl (by decide) (k_stone C X hi hL hcnt hLH hI hR)
      | 19, _, ej => exact j_tin C 729 (nI 19) ej dL_law_32 (by decide) (by decide) rfl (by decide) (k_avalanche C X hi hL hcnt hLH hI hR)
      | 20, _, ej => exact j_tin C 772 (nI 20) ej dL_law_32 (by decide) (by decide) rfl (by decide) (k_rolls C X hi hL hcnt hLH hI hR)
      | 21, _, ej => exact j_tin C 795 (nI 21) ej dL_law_32 (by decide) (by decide) rfl (by decide) (k_fence C X hi hL hcnt hLH hI hR)
      | 22, _, ej => exact j_tin C 818 (nI 22) ej dL_law_32 (by decide) (by decide) rfl (by decide) (k_spring C X hi hL hcnt hLH hI hR)
      | 23, _, ej => exact j_tin C 871 (nI 23) ej dL_law_32 (by decide) (by decide) rfl (by decide) (k_bounds C X hi hL hcnt hLH hI hR)
      | 24, _, ej => exact j_tin C 894 (nI 24) ej dL_law_32 (by decide) (by decide) rfl (by decide) (k_image C X hi hL hcnt hLH hI hR)
      | 25, _, ej => exact j_tin C 917 (nI 25) ej dL_law_32 (by decide) (by decide) rfl (by decide) (k_restore C X hi hL hcnt hLH hI hR)
      | 26, _, ej => exact j_tin C 940 (nI 26) ej dL_law_32 (by decide) (by decide) rfl (by decide) (k_told C X hi hL hcnt hLH hI hR)
      | j + 27, h, _ => exact absurd h (by omega)
    · refine j_tout C 963 dL_law_32 (Or.inr ?_) (by decide) ?_
      · rw [ej, nI_toInt (by omega)]; omega
      · exact hLH kc kn _ _ _ _ _ _ _ _ _ _ _ _ _ _ _ _ _ _ _ _ _ _ _ _ _ _ _ _ _ _ _ _ _ _ _ _ _ _ _ _ _ _ _ _ _ _ _ _ _ _ _ _ _ tl hR hI hcnt
