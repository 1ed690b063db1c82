/-! THE CLAIM OUT OF ONE WALK OF THE LAW'S BODY. Your part is whole_start (and what it stands on); all else here is the same for every law, but numbers. -/
def R_law : String := "HillSlicesLaw"
def lw_P (b : Addr) (xs : List Int32) (args : Array Value) (s : State) : Prop := args = #[.ref b] ∧ s.IntsAt b xs ∧ xs.length ≤ 2560 ∧ (Jvm.Cond.and given_1 narrow_1).before args s = true
def lw_Q (_ : Array Value) (s : State) (o : Outcome) (t : State) : Prop := o = .returned (some (.int 1)) ∧ Framed s o t [] 600000 7302250
def lw_Z (below : List Frame) (a : Array Value) (s : State) : State → Prop := fun t => ∃ o, t.status = .running ∧ Ended t below o ∧ lw_Q a s o t
/-- the law's own end, with 1 on the stack, nothing written that was there before, its room as the claim has it -/
theorem lw_ret {p : Program} {l : Launch} {e : Env} {s : State} {m : MethodId} {below : List Frame} {meth : Method} {c : Code} {b : Nat} (hx : p.tables.exec = Jvm.exec) (hb : c.code = code) (hr : meth.sig.returnType = ret) (hlocks : meth.locks = false) {pc : Nat} {H : Heap} {ls : Array Slot} (hdg : decode code pc = .ok (.ireturn, 1)) : W p l e room_1 s m #[Value.ref b] below meth c H [] 600000 7302250 (lw_Z below #[Value.ref b] s) (F0 m pc ls [.int 1]) := by
  intro T hT X
  obtain ⟨fs, hret, hrun, hended, hW, hframe⟩ := X.leave (v := some (.int 1)) (hlocks := hlocks) (fun h => by rw [hr] at h; cases h)
  have hmeth' : T.vm.method? m = some meth := X.method'
  refine ⟨T.setFrames fs, ?_, .returned (some (.int 1)), hrun, hended, rfl, ⟨_, rfl⟩, hW, hframe⟩
  jvm_step X.here [X.here.top, hx, hb, hdg, hmeth', hr, ret, narrow_b1]
  (try refine ⟨rfl, ?_⟩); (try refine ⟨rfl, ?_⟩)
  first | (intro acts; rw [hret _ acts rfl rfl rfl]) | rw [hret _ _ rfl rfl rfl]
  exact Steps.refl _
/-- what holds at the law's entry: the machine, the code, the tables' words (any of lw_tbl by 'hts w (by decide +kernel)'), the script of L ints xs at the cell b, what the Statement gives of the start (any of its parts by flat_of_before) -/
def lw_At (p : Program) (s : State) (m : MethodId) (meth : Method) (c : Code) (b L : Nat) (xs : Nat → Int32) : Prop :=
  p.tables.exec = Jvm.exec ∧ c.code = code ∧ meth.sig.returnType = ret ∧ c.maxLocals = 4 ∧ s.vm.findClass R_law = some m.cls ∧ (∀ w ∈ lw_tbl, w.before #[Value.ref b] s = true) ∧ va_X b L xs s s.heap ∧ b < s.heap.size ∧ meth.locks = false ∧ (Jvm.Cond.and given_1 narrow_1).before #[Value.ref b] s = true
/-! the law's layer: rows of the script, calls that leave a tail of the world alone -/
theorem va_pi {D : va_G} {cl : List vw_C} {A : Nat → Prop} {w w' : va_W} {H : Heap} (hP : va_P D cl w H) (hD : va_D A w) (π : Nat → Nat) (h : ∀ k q, w'[k]? = some q → w[π k]? = some q) (hi : ∀ i j p q, w'[i]? = some p → w'[j]? = some q → π i = π j → i = j) : va_P D cl w' H ∧ va_D A w' :=
  ⟨fun k q hq => hP (π k) q (h k q hq), fun i j p q h1 h2 e => hi i j p q h1 h2 (hD.1 (π i) (π j) p q (h i p h1) (h j q h2) e), fun k q hq => hD.2 (π k) q (h k q hq)⟩
theorem lt_of_get {α : Type} {l : List α} {k : Nat} {q : α} (h : l[k]? = some q) : k < l.length := by
  rcases Nat.lt_or_ge k l.length with z | z
  · exact z
  · rw [List.getElem?_eq_none z] at h; cases h
theorem va_swap {D : va_G} {cl : List vw_C} {A : Nat → Prop} {a b : va_W} {H : Heap} (hP : va_P D cl (a ++ b) H) (hD : va_D A (a ++ b)) : va_P D cl (b ++ a) H ∧ va_D A (b ++ a) := by
  refine va_pi hP hD (fun k => if k < b.length then a.length + k else k - b.length) (fun k q hq => ?_) (fun i j p q h1 h2 e => ?_)
  · show (a ++ b)[if k < b.length then a.length + k else k - b.length]? = some q
    have hl := lt_of_get hq
    rw [List.length_append] at hl
    by_cases z : k < b.length
    · rw [if_pos z, List.getElem?_append_right (by omega), show a.length + k - a.length = k by omega]
      rw [List.getElem?_append_left z] at hq; exact hq
    · rw [if_neg z, List.getElem?_append_left (by omega)]
      rw [List.getElem?_append_right (by omega)] at hq; exact hq
  · have l1 := lt_of_get h1
    have l2 := lt_of_get h2
    rw [List.length_append] at l1 l2
    split at e <;> split at e <;> omega
theorem map_get {ws wc : va_W} {is : List Nat} (h : is.map (fun i => ws[i]?) = wc.map some) : is.length = wc.length ∧ ∀ (k : Nat) (q : Nat × va_E), wc[k]? = some q → ∃ i, is[k]? = some i ∧ ws[i]? = some q := by
  refine ⟨by have := congrArg List.length h; simpa using this, fun k q hq => ?_⟩
  have h1 : (is.map (fun i => ws[i]?))[k]? = some (some q) := by rw [h, List.getElem?_map, hq]; rfl
  rw [List.getElem?_map] at h1
  cases hi : is[k]? with
  | none => rw [hi] at h1; cases h1
  | some i => rw [hi] at h1; exact ⟨i, rfl, Option.some.inj h1⟩
theorem map_lt {ws wc : va_W} {is : List Nat} (h : is.map (fun i => ws[i]?) = wc.map some) : ∀ i ∈ is, i < ws.length := by
  intro i hi
  obtain ⟨k, hk⟩ := List.getElem?_of_mem hi
  have h1 : (is.map (fun i => ws[i]?))[k]? = some ws[i]? := by rw [List.getElem?_map, hk]; rfl
  rw [h, List.getElem?_map] at h1
  cases hw : wc[k]? with
  | none => rw [hw] at h1; cases h1
  | some q => rw [hw] at h1; exact lt_of_get (Option.some.inj h1).symm
theorem va_permT {D : va_G} {cl : List vw_C} {A : Nat → Prop} {w w' tl : va_W} {H : Heap} (hP : va_P D cl (w ++ tl) H) (hD : va_D A (w ++ tl)) (perm : List Nat) (hn : va_nd perm = true) (h : perm.map (fun i => w[i]?) = w'.map some) : va_P D cl (w' ++ tl) H ∧ va_D A (w' ++ tl) := by
  obtain ⟨hlen, hget⟩ := map_get h
  have hlt := map_lt h
  refine va_pi hP hD (fun k => if k < w'.length then perm.getD k 0 else w.length + (k - w'.length)) (fun k q hq => ?_) (fun i j p q h1 h2 e => ?_)
  · show (w ++ tl)[if k < w'.length then perm.getD k 0 else w.length + (k - w'.length)]? = some q
    by_cases z : k < w'.length
    · rw [List.getElem?_append_left z] at hq
      obtain ⟨i, hi, hw⟩ := hget k q hq
      rw [if_pos z, List.getD_eq_getElem?_getD, hi]
      show (w ++ tl)[i]? = some q
      rw [List.getElem?_append_left (lt_of_get hw)]; exact hw
    · rw [List.getElem?_append_right (by omega)] at hq
      rw [if_neg z, List.getElem?_append_right (by omega), show w.length + (k - w'.length) - w.length = k - w'.length by omega]; exact hq
  · have key : ∀ k, k < w'.length → ∃ a, perm[k]? = some a ∧ perm.getD k 0 = a ∧ a < w.length := fun k hk => by
      have hk2 : k < perm.length := by omega
      refine ⟨perm[k], List.getElem?_eq_getElem hk2, by rw [List.getD_eq_getElem?_getD, List.getElem?_eq_getElem hk2]; rfl, hlt _ (List.getElem_mem hk2)⟩
    by_cases zi : i < w'.length
    · obtain ⟨a, a1, a2, a3⟩ := key i zi
      rw [if_pos zi, a2] at e
      by_cases zj : j < w'.length
      · obtain ⟨c, c1, c2, c3⟩ := key j zj
        rw [if_pos zj, c2] at e
        exact va_nd_inj perm hn i j a a1 (by rw [e]; exact c1)
      · rw [if_neg zj] at e; omega
    · rw [if_neg zi] at e
      by_cases zj : j < w'.length
      · obtain ⟨c, c1, c2, c3⟩ := key j zj
        rw [if_pos zj, c2] at e; omega
      · rw [if_neg zj] at e; omega
theorem va_ndR : ∀ (n a : Nat), va_nd (List.range' a n) = true
  | 0, a => rfl
  | n + 1, a => by
    rw [List.range'_succ]
    show (decide (a ∉ List.range' (a + 1) n) && va_nd (List.range' (a + 1) n)) = true
    rw [va_ndR n (a + 1), Bool.and_true, decide_eq_true_eq, List.mem_range'_1]
    omega
theorem va_ndA : ∀ (l m : List Nat), va_nd l = true → va_nd m = true → (∀ i ∈ l, i ∉ m) → va_nd (l ++ m) = true
  | [], m, _, hm, _ => hm
  | a :: l, m, hl, hm, hd => by
    simp only [va_nd, Bool.and_eq_true, decide_eq_true_eq] at hl
    show (decide (a ∉ l ++ m) && va_nd (l ++ m)) = true
    rw [va_ndA l m hl.2 hm (fun i hi => hd i (List.mem_cons_of_mem _ hi)), Bool.and_true, decide_eq_true_eq, List.mem_append]
    rintro (h | h)
    · exact hl.1 h
    · exact hd a List.mem_cons_self h
theorem map_appT {wb wr tl : va_W} {is : List Nat} (h : is.map (fun i => wb[i]?) = wr.map some) : (is ++ List.range' wb.length tl.length).map (fun i => (wb ++ tl)[i]?) = (wr ++ tl).map some := by
  rw [List.map_append, List.map_append]
  congr 1
  · rw [← h]
    refine List.map_congr_left (fun i hi => ?_)
    rw [List.getElem?_append_left (map_lt h i hi)]
  · apply List.ext_getElem?
    intro k
    by_cases z : k < tl.length
    · rw [List.getElem?_map, List.getElem?_map, List.getElem?_range' z, List.getElem?_eq_getElem z]
      show some ((wb ++ tl)[wb.length + 1 * k]?) = some (some tl[k])
      rw [List.getElem?_append_right (by omega), show wb.length + 1 * k - wb.length = k by omega, List.getElem?_eq_getElem z]
    · rw [List.getElem?_eq_none (by rw [List.length_map, List.length_range']; omega), List.getElem?_eq_none (by rw [List.length_map]; omega)]
section
variable {l : Launch} {g : gE} {A : Nat → Prop} {x : jX} {own : String} {cc : ByteArray} {nL kc kn pc : Nat} {Ts : List Cond} {rm : Room} {lv : List (Nat × Value)} {st : List Value} {ws : va_W}
theorem j_rot {a b : va_W} (kk : J l g A x nL kc kn pc lv st (b ++ a)) : J l g A x nL kc kn pc lv st (a ++ b) := fun H locs ls hP hD hS hl => by
  obtain ⟨hP2, hD2⟩ := va_swap hP hD
  exact kk H locs ls hP2 hD2 hS hl
theorem j_widen {k n : Nat} (h1 : kc ≤ k) (h2 : kn ≤ n) (kk : J l g A x nL k n pc lv st ws) : J l g A x nL kc kn pc lv st ws := fun H locs ls hP hD hS hl => W.widen h1 h2 (kk H locs ls hP hD hS hl)
theorem j_rwiT (C : JC g A x own cc nL Ts rm) (pc' : Nat) (hnp : pc + 3 = pc') {mc ms : Nat} {wb wc wr tl : va_W} {rest : List Value} {S : Type} {post : Int32 → S → Prop} {w1 wb' : S → va_W} (h : JCall l g A x nL kc kn mc ms pc lv st rest (wb ++ tl) wc (fun sz => va_Qi post (fun u t => va_P g.1 vwCl (w1 u) t.heap ∧ va_D (va_A wc sz) (w1 u)) (va_A wc sz))) (isC isR perm : List Nat) (hC : isC.map (fun i => wb[i]?) = wc.map some) (hRr : isR.map (fun i => wb[i]?) = wr.map some) (hnR : va_nd isR = true) (hdis : ∀ i ∈ isR, i ∉ isC) (hpn : va_nd perm = true) (hpm : ∀ u, perm.map (fun i => (w1 u ++ wr)[i]?) = (wb' u).map some) (kk : ∀ (r : Int32) (u : S), post r u → J l g A x nL (kc + mc) (kn + ms) pc' lv (.int r :: rest) (wb' u ++ tl)) : J l g A x nL kc kn pc lv st (wb ++ tl) := by
  have hltC := map_lt hC
  have hC' : isC.map (fun i => (wb ++ tl)[i]?) = wc.map some := by
    rw [← hC]
    exact List.map_congr_left (fun i hi => by rw [List.getElem?_append_left (hltC i hi)])
  have hnR' := va_ndA isR (List.range' wb.length tl.length) hnR (va_ndR _ _) (fun i hi => by
    have := map_lt hRr i hi
    rw [List.mem_range'_1]; omega)
  have hdis' : ∀ i ∈ isR ++ List.range' wb.length tl.length, i ∉ isC := fun i hi => by
    rcases List.mem_append.mp hi with z | z
    · exact hdis i z
    · rw [List.mem_range'_1] at z
      exact fun y => by have := hltC i y; omega
  subst hnp
  intro H locs ls hP hD hS hl
  have hF := va_free hD hS C.2.2.2.2.2.2.1 isC hC'
  obtain ⟨av, hr⟩ := h H locs ls hP hD hS hl
  refine va_calli hr hS (fun q _ h => hF q h) hF (fun r u t H1 locs1 ht hvm hq hB hz hk hS1 => ?_)
  rw [ht] at hB
  obtain ⟨hP2, hD2⟩ := va_join hP hD isC _ hC' (map_appT hRr) hnR' hdis' hk hF hB.1 hB.2
  obtain ⟨hP3, hD3⟩ := va_swap hP2 hD2
  rw [← List.append_assoc] at hP3 hD3
  obtain ⟨hP4, hD4⟩ := va_permT hP3 hD3 perm hpn (hpm u)
  exact kk r u hq H1 locs1 ls hP4 hD4 hS1 hl
/-- the script of the law -/
def lS (A : Nat → Prop) (x : jX) (b L : Nat) (xs : Nat → Int32) : Prop := va_X b L xs x.2.2.2.1 x.2.2.2.1.heap ∧ b < x.2.2.2.1.heap.size ∧ ¬ A b
theorem j_sld (C : JC g A x own cc nL Ts rm) {b L : Nat} {xs : Nat → Int32} (X : lS A x b L xs) (pc' : Nat) (hnp : pc + 1 = pc') (k : Nat) {i : Int32} (ei : i = nI k) (hk : k < L) (hn : L < 2147483648) (d : decode cc pc = .ok (.iaload, 1)) (kk : J l g A x nL kc kn pc' lv (.int (xs k) :: st) ws) : J l g A x nL kc kn pc lv (.int i :: .ref b :: st) ws := by
  subst hnp
  exact fun H locs ls hP hD hS hl => va_sld C.1 C.2.1 X.1 X.2.1 X.2.2 hS (ix_in ei hk hn) d (by rw [ix_cl ei hk hn]; exact kk H locs ls hP hD hS hl)
theorem j_slen (C : JC g A x own cc nL Ts rm) {b L : Nat} {xs : Nat → Int32} (X : lS A x b L xs) (pc' : Nat) (hnp : pc + 1 = pc') (d : decode cc pc = .ok (.arraylength, 1)) (kk : J l g A x nL kc kn pc' lv (.int (nI L) :: st) ws) : J l g A x nL kc kn pc lv (.ref b :: st) ws := by
  subst hnp
  exact fun H locs ls hP hD hS hl => va_slen C.1 C.2.1 X.1 X.2.1 X.2.2 hS d (kk H locs ls hP hD hS hl)
end
/-- the law's walk: from its own start -/
abbrev LX (p : Program) (e : Env) (s : State) (m : MethodId) (below : List Frame) (meth : Method) (c : Code) (b : Nat) : jX := (p, e, room_1, s, m, #[Value.ref b], below, meth, c, lw_Z below #[Value.ref b] s)
abbrev lA (s : State) : Nat → Prop := fun q => s.heap.size ≤ q
theorem j_end {p : Program} {e : Env} {s : State} {m : MethodId} {below : List Frame} {meth : Method} {c : Code} {b : Nat} {l : Launch} {g : gE} {nL kc kn pc : Nat} {lv : List (Nat × Value)} {ws : va_W} (hx : p.tables.exec = Jvm.exec) (hb : c.code = code) (hr : meth.sig.returnType = ret) (hlocks : meth.locks = false) (hkc : kc ≤ 600000) (hkn : kn ≤ 7302250) (d : decode code pc = .ok (.ireturn, 1)) : J l g (lA s) (LX p e s m below meth c b) nL kc kn pc lv [.int 1] ws := fun H locs ls hP hD hS hl => va_forget (fun q hq => hS.2.2 q hq) (W.widen hkc hkn (lw_ret hx hb hr hlocks d))
