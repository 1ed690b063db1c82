/-! MY OWN LAYER over the kit's rows: a judgement J over (pc, locals, operand stack, world), contracts Ci, Cv, Cr, and one row an instruction -/
/-- D of the objects; class numbers of the array classes (0 int, 1 char, 2 boolean, 3 Hill); addresses of what the JVM holds ready (0, 1: the two texts, 10, 11: their bytes; 20, 21: the two tables) -/
abbrev gE : Type := va_G × (Nat → ClassId) × (Nat → Nat)
abbrev gTy (g : gE) : List (ClassId × FieldType) := [(g.2.1 0, .int), (g.2.1 1, .char), (g.2.1 2, .boolean), (g.2.1 3, .object "HillSlices$Hill")]
abbrev gI (g : gE) (n : Nat) (f : Nat → Int32) : va_E := .inl (g.2.1 0, n, .inl f)
abbrev gC (g : gE) (n : Nat) (f : Nat → Int32) : va_E := .inl (g.2.1 1, n, .inl f)
abbrev gZ (g : gE) (n : Nat) (f : Nat → Int32) : va_E := .inl (g.2.1 2, n, .inl f)
abbrev gO (g : gE) (n : Nat) (f : Nat → Option Nat) : va_E := .inl (g.2.1 3, n, .inr (.inr (.inr (.inr f))))
def gLen : List Nat := [5, 6]
def gByt : List (List Int32) := [[118, 119, 109, 114, 115], [97, 98, 99, 100, 101, 102]]
def gFS : List Int32 := [0, 0, 2, 3, 4]
def gFW : List Int32 := [10, 4, 3, 0, 1]
def gPre : String := "jdk/internal/util/Preconditions"
def gFun : String := "Ljava/util/function/BiFunction;"
/-- what the JVM holds ready and nobody writes -/
def gS (g : gE) (A : Nat → Prop) (U : State) (H : Heap) : Prop :=
  (vk_S 2 gLen gByt (fun i => g.2.2 i) (fun i => g.2.2 (i + 10)) A U H ∧ va_Z "java/lang/String" "COMPACT_STRINGS" "Z" (.int 1) A U H ∧ va_Zq "jdk/internal/util/Preconditions" "SIOOBE_FORMATTER" "Ljava/util/function/BiFunction;" A U H) ∧
  ((va_Z "HillSlices" "FIRST_SORTS" "[I" (.ref (g.2.2 20)) A U H ∧ va_T .int (g.2.2 20) 5 (fun j => .int (gFS.getD j 0)) A U H) ∧ (va_Z "HillSlices" "FIRST_WORTHS" "[I" (.ref (g.2.2 21)) A U H ∧ va_T .int (g.2.2 21) 5 (fun j => .int (gFW.getD j 0)) A U H)) ∧
  ((vk_R RX4 62 "vwmrs" (g.2.2 0) U ∧ vk_R RX4 75 "abcdef" (g.2.2 1) U) ∧ (va_Nw (.methodLinkNest RX4 11 yX3_init "HillSlices") U ∧ va_Nw (.methodLinkNest RX4 41 yX1_init "HillSlices") U) ∧ (va_Nw (.fieldLinkNest RX2 28 "HillSlices" "FIRST_SORTS" "[I" "HillSlices") U ∧ va_Nw (.fieldLinkNest RX2 31 "HillSlices" "FIRST_WORTHS" "[I" "HillSlices") U) ∧ va_AO RX2 U)
theorem gS_call {g : gE} {A B : Nat → Prop} {s U : State} {H : Heap} {locs : List Loc} (h : gS g A s s.heap) (hS : va_S A s.heap H locs) (hU : U.heap = H) (hW : s.WarmedH U.vm) (hAB : ∀ q, B q → A q) : gS g B U U.heap := by
  obtain ⟨⟨a1, a2, a3⟩, ⟨⟨b1, b2⟩, ⟨b3, b4⟩⟩, ⟨c1, c2⟩, ⟨d1, d2⟩, ⟨e1, e2⟩, f1⟩ := h
  rw [hU]
  refine ⟨⟨?_, ?_, ?_⟩, ⟨⟨?_, ?_⟩, ⟨?_, ?_⟩⟩, ⟨c1.warm hW, c2.warm hW⟩, ⟨d1.warmM hW, d2.warmM hW⟩, ⟨e1.warmF hW, e2.warmF hW⟩, f1.moved hW.alike⟩
  · exact (vk_S.moved hW.alike (a1.kept hS.2.1)).narrow hAB
  · exact (va_Z.moved hW.alike (a2.kept hS.2.1)).narrow hAB
  · exact (va_Zq.moved hW.alike (a3.kept hS.2.1)).narrow hAB
  · exact (va_Z.moved hW.alike (b1.kept hS.2.1)).narrow hAB
  · exact (va_T.moved hW.alike (b2.kept hS.2.1)).narrow hAB
  · exact (va_Z.moved hW.alike (b3.kept hS.2.1)).narrow hAB
  · exact (va_T.moved hW.alike (b4.kept hS.2.1)).narrow hAB
theorem gS_blind {g : gE} {A : Nat → Prop} {U : State} {f : JFrame} {mk : MethodId} {a : Array Value} (h : gS g A U U.heap) : gS g A (U.calling f mk a) (U.calling f mk a).heap := by
  obtain ⟨⟨a1, a2, a3⟩, ⟨⟨b1, b2⟩, ⟨b3, b4⟩⟩, ⟨c1, c2⟩, ⟨d1, d2⟩, ⟨e1, e2⟩, f1⟩ := h
  have hv : U.vm.Alike (U.calling f mk a).vm := Vm.Alike.refl U.vm
  exact ⟨⟨vk_S.moved hv a1, va_Z.moved hv a2, va_Zq.moved hv a3⟩, ⟨⟨va_Z.moved hv b1, va_T.moved hv b2⟩, ⟨va_Z.moved hv b3, va_T.moved hv b4⟩⟩, ⟨c1.same rfl, c2.same rfl⟩, ⟨d1.same rfl rfl, d2.same rfl rfl⟩, ⟨e1.same rfl rfl, e2.same rfl rfl⟩, f1.moved hv⟩
/-- the world at a method's start -/
def gP (g : gE) (w0 : va_W) (sz : Nat) (U : State) : Prop := U.heap.size = sz ∧ va_P g.1 vwCl w0 U.heap ∧ va_K g.1 vwCl (gTy g) U ∧ va_D (fun _ => True) w0 ∧ gS g (va_A w0 sz) U U.heap
theorem gP_blind {g : gE} {w0 : va_W} {sz : Nat} {av : List Value} : FrameBlind (va_Pc av (gP g w0 sz)) := by
  rintro a U f mk ⟨h1, h2, h3, h4, h5, h6⟩
  exact ⟨h1, h2, h3, va_K.moved (u := U) (Vm.Alike.refl U.vm) h4, h5, gS_blind h6⟩
/-- contracts: int, void, reference -/
def Ci (l : Launch) (g : gE) (y : MethodName) (wy : List Cond) (ry : Room) (av : List Value) (w0 : va_W) {S : Type} (post : Int32 → S → Prop) (w1 : S → va_W) (mc ms : Nat) : Prop :=
  ∀ sz : Nat, Met l y wy ry (va_Pc av (gP g w0 sz)) (va_Qi post (fun u t => va_P g.1 vwCl (w1 u) t.heap ∧ va_D (va_A w0 sz) (w1 u)) (va_A w0 sz)) mc ms (va_A w0 sz)
def Cv (l : Launch) (g : gE) (y : MethodName) (wy : List Cond) (ry : Room) (av : List Value) (w0 : va_W) {S : Type} (post : S → Prop) (w1 : S → va_W) (mc ms : Nat) : Prop :=
  ∀ sz : Nat, Met l y wy ry (va_Pc av (gP g w0 sz)) (va_Qv post (fun u t => va_P g.1 vwCl (w1 u) t.heap ∧ va_D (va_A w0 sz) (w1 u)) (va_A w0 sz)) mc ms (va_A w0 sz)
def Cr (l : Launch) (g : gE) (y : MethodName) (wy : List Cond) (ry : Room) (av : List Value) (w0 : va_W) {S : Type} (ad : Nat) (post : S → Prop) (w1 : S → va_W) (mc ms : Nat) : Prop :=
  ∀ sz : Nat, Met l y wy ry (va_Pc av (gP g w0 sz)) (va_Qr post (fun u a t => a = ad ∧ va_P g.1 vwCl (w1 u) t.heap ∧ va_D (va_A w0 sz) (w1 u)) (va_A w0 sz)) mc ms (va_A w0 sz)
/-- the machine's part of a walk: program, environment, room, start, method, arguments, what is below, the method, its code, what is to be reached -/
abbrev jX : Type := Program × Env × Room × State × MethodId × Array Value × List Frame × Method × Code × (State → Prop)
def J (l : Launch) (g : gE) (A : Nat → Prop) (x : jX) (nL kc kn pc : Nat) (lv : List (Nat × Value)) (st : List Value) (ws : va_W) : Prop :=
  ∀ (H : Heap) (locs : List Loc) (ls : Array Slot), va_P g.1 vwCl ws H → va_D A ws → va_S A x.2.2.2.1.heap H locs → lv_has ls nL lv → W x.1 l x.2.1 x.2.2.1 x.2.2.2.1 x.2.2.2.2.1 x.2.2.2.2.2.1 x.2.2.2.2.2.2.1 x.2.2.2.2.2.2.2.1 x.2.2.2.2.2.2.2.2.1 H locs kc kn x.2.2.2.2.2.2.2.2.2 (F0 x.2.2.2.2.1 pc ls st)
def JC (g : gE) (A : Nat → Prop) (x : jX) (own : String) (cc : ByteArray) (nL : Nat) (Ts : List Cond) (rm : Room) : Prop :=
  x.1.tables.exec = Jvm.exec ∧ x.2.2.2.2.2.2.2.2.1.code = cc ∧ x.2.2.2.2.2.2.2.2.1.maxLocals = nL ∧ x.2.2.2.1.vm.findClass own = some x.2.2.2.2.1.cls ∧ (∀ w ∈ Ts, w.before x.2.2.2.2.2.1 x.2.2.2.1 = true) ∧ va_K g.1 vwCl (gTy g) x.2.2.2.1 ∧ (∀ q, x.2.2.2.1.heap.size ≤ q → A q) ∧ gS g A x.2.2.2.1 x.2.2.2.1.heap ∧ x.2.2.1 = rm
def JR (A : Nat → Prop) (x : jX) (y : MethodName) (ret : Option FieldType) (mc ms : Nat) (Qc : Array Value → State → Outcome → State → Prop) : Prop :=
  x.2.2.2.2.2.2.2.1.sig.returnType = ret ∧ x.2.2.2.2.2.2.2.1.locks = false ∧ x.2.2.2.2.2.2.2.1.name = y.name ∧ x.2.2.2.2.2.2.2.2.2 = MQ x.2.2.2.2.2.2.1 Qc x.2.2.2.2.2.1 x.2.2.2.1 mc ms A
theorem met_of {l : Launch} {g : gE} {y : MethodName} {wy wy' : List Cond} {ry : Room} {av : List Value} {w0 : va_W} {cc : ByteArray} {nL : Nat} {ret : Option FieldType} {mc ms : Nat} {Qc : Array Value → State → Outcome → State → Prop} {lv0 : List (Nat × Value)} {own : String} (sz : Nat) (hy : plainName y.cls = true) (hown : y.cls = own) (hw : wy = Cond.code y cc nL ret :: wy') (hlen : (lg_sl av).length ≤ nL) (hlv : lv_args 0 av = lv0)
    (body : ∀ x : jX, JC g (va_A w0 sz) x own cc nL wy ry → JR (va_A w0 sz) x y ret mc ms Qc → J l g (va_A w0 sz) x nL 0 0 0 lv0 [] w0) : Met l y wy ry (va_Pc av (gP g w0 sz)) Qc mc ms (va_A w0 sz) := by
  refine Met.ofW (cc := cc) (maxL := nL) (ret := ret) hy hw ?_
  intro p e s m args below meth c s₁ B hml hv
  obtain ⟨rfl, hsz, hP, hK, hD0, hG⟩ := hv
  subst hsz
  have hts := atoms_spec (ws := wy) B.pre
  have ho : s.vm.findClass own = some m.cls := by rw [← hown]; exact findClass_of_methodNamed B.named
  have hl := lv_entry av (n := nL) hlen
  rw [lg_entry_eq]
  rw [hlv] at hl
  exact body (p, e, _, s, m, av.toArray, below, meth, c, _) ⟨B.exec, B.bytes, hml, ho, hts, hK, fun q h => Or.inr h, hG, rfl⟩ ⟨B.returns, B.notSynchronized, (name_of_methodNamed B.named B.method).1, rfl⟩ s.heap [] _ hP hD0.self va_S.rf hl
theorem Ci_of {l : Launch} {g : gE} {y : MethodName} {wy wy' : List Cond} {ry : Room} {av : List Value} {w0 : va_W} {S : Type} {post : Int32 → S → Prop} {w1 : S → va_W} {cc : ByteArray} {nL : Nat} {ret : Option FieldType} {mc ms : Nat} {lv0 : List (Nat × Value)} {own : String} (hy : plainName y.cls = true) (hown : y.cls = own) (hw : wy = Cond.code y cc nL ret :: wy') (hlen : (lg_sl av).length ≤ nL) (hlv : lv_args 0 av = lv0)
    (body : ∀ (A : Nat → Prop) (x : jX), JC g A x own cc nL wy ry → JR A x y ret mc ms (va_Qi post (fun u t => va_P g.1 vwCl (w1 u) t.heap ∧ va_D A (w1 u)) A) → J l g A x nL 0 0 0 lv0 [] w0) : Ci l g y wy ry av w0 post w1 mc ms := fun sz => met_of sz hy hown hw hlen hlv (fun x => body _ x)
theorem Cv_of {l : Launch} {g : gE} {y : MethodName} {wy wy' : List Cond} {ry : Room} {av : List Value} {w0 : va_W} {S : Type} {post : S → Prop} {w1 : S → va_W} {cc : ByteArray} {nL : Nat} {ret : Option FieldType} {mc ms : Nat} {lv0 : List (Nat × Value)} {own : String} (hy : plainName y.cls = true) (hown : y.cls = own) (hw : wy = Cond.code y cc nL ret :: wy') (hlen : (lg_sl av).length ≤ nL) (hlv : lv_args 0 av = lv0)
    (body : ∀ (A : Nat → Prop) (x : jX), JC g A x own cc nL wy ry → JR A x y ret mc ms (va_Qv post (fun u t => va_P g.1 vwCl (w1 u) t.heap ∧ va_D A (w1 u)) A) → J l g A x nL 0 0 0 lv0 [] w0) : Cv l g y wy ry av w0 post w1 mc ms := fun sz => met_of sz hy hown hw hlen hlv (fun x => body _ x)
theorem Cr_of {l : Launch} {g : gE} {y : MethodName} {wy wy' : List Cond} {ry : Room} {av : List Value} {w0 : va_W} {S : Type} {ad : Nat} {post : S → Prop} {w1 : S → va_W} {cc : ByteArray} {nL : Nat} {ret : Option FieldType} {mc ms : Nat} {lv0 : List (Nat × Value)} {own : String} (hy : plainName y.cls = true) (hown : y.cls = own) (hw : wy = Cond.code y cc nL ret :: wy') (hlen : (lg_sl av).length ≤ nL) (hlv : lv_args 0 av = lv0)
    (body : ∀ (A : Nat → Prop) (x : jX), JC g A x own cc nL wy ry → JR A x y ret mc ms (va_Qr post (fun u a t => a = ad ∧ va_P g.1 vwCl (w1 u) t.heap ∧ va_D A (w1 u)) A) → J l g A x nL 0 0 0 lv0 [] w0) : Cr l g y wy ry av w0 ad post w1 mc ms := fun sz => met_of sz hy hown hw hlen hlv (fun x => body _ x)
abbrev iR (a b : Int32) : Int32 := a - a / b * b
abbrev iUs (a b : Int32) : Int32 := (a.toUInt32 >>> (b.toUInt32 &&& Int32.toUInt32 31)).toInt32
abbrev iC (a : Int32) : Int32 := (a.toUInt32 % 65536).toInt32
abbrev iMi (a b : Int32) : Int32 := if b < a then b else a
abbrev iMa (a b : Int32) : Int32 := if a < b then b else a
theorem ix_in {i : Int32} {k n : Nat} (e : i = nI k) (hk : k < n) (hn : n < 2147483648) : vp_in i n := by rw [e]; exact vp_in_nI hk (by omega)
theorem ix_cl {i : Int32} {k n : Nat} (e : i = nI k) (hk : k < n) (hn : n < 2147483648) : i.toNatClampNeg = k := by rw [e]; exact nI_clamp (by omega)
theorem ix_pos {i : Int32} {k n : Nat} (e : i = nI k) (hk : k ≤ n) (hn : n < 2147483648) : ¬ i < 0 := by rw [e]; exact nI_pos (by omega)
theorem ix_cle {i : Int32} {k n : Nat} (e : i = nI k) (hk : k ≤ n) (hn : n < 2147483648) : i.toNatClampNeg = k := by rw [e]; exact nI_clamp (by omega)
theorem tc_eq {x : Int32} {n : Int} (c : Int32) (h : x.toInt = n) (hc : c.toInt = n) : x = c := Int32.toInt_inj.mp (h.trans hc.symm)
/-- loops, said ahead: an invariant with a number that falls at every turn -/
def lpW1 {A1 : Type} (body : (A1 → Prop) → A1 → Prop) (a1 : A1) : Prop := ∃ (I : Nat → A1 → Prop) (n : Nat), I n a1 ∧ ∀ (m : Nat) (b1 : A1), I m b1 → body (fun c1 => ∃ k, k < m ∧ I k c1) b1
theorem lpW1_ind {A1 : Type} {body : (A1 → Prop) → A1 → Prop} {G : A1 → Prop} (h : ∀ (K : A1 → Prop) (a1 : A1), (∀ (b1 : A1), K b1 → G b1) → body K a1 → G a1) : ∀ (a1 : A1), lpW1 body a1 → G a1 := by
  rintro a1 ⟨I, n, hI, hb⟩
  have key : ∀ (N m : Nat) (a1 : A1), m < N → I m a1 → G a1 := by
    intro N
    induction N with
    | zero => intro m a1 h; exact absurd h (Nat.not_lt_zero _)
    | succ N ih =>
      intro m a1 hm hIa
      refine h _ a1 (fun b1 hb2 => ?_) (hb m a1 hIa)
      obtain ⟨k, hk, hI2⟩ := hb2
      exact ih k b1 (by omega) hI2
  exact key (n + 1) n a1 (Nat.lt_succ_self _) hI
theorem lpW1_for {A1 : Type} {body : (A1 → Prop) → A1 → Prop} (s1 : Nat → A1) (n : Nat) (hs : ∀ (k : Nat), k < n → ∀ K : A1 → Prop, K (s1 (k + 1)) → body K (s1 k)) (he : ∀ K : A1 → Prop, body K (s1 n)) : lpW1 body (s1 0) := by
  refine ⟨fun m b1 => ∃ k, k + m = n ∧ b1 = s1 k, n, ⟨0, Nat.zero_add n, rfl⟩, ?_⟩
  rintro m b1 ⟨k, hk, rfl⟩
  rcases Nat.eq_zero_or_pos m with rfl | h0
  · have e : k = n := by omega
    subst e
    exact he _
  · exact hs k (by omega) _ ⟨m - 1, by omega, k + 1, by omega, rfl⟩
theorem lpW1_inv {A1 : Type} {body : (A1 → Prop) → A1 → Prop} (I : A1 → Prop) (μ : A1 → Nat) (hb : ∀ (b1 : A1), I b1 → body (fun c1 => ∃ k, k < μ b1 ∧ (I c1 ∧ μ c1 = k)) b1) (a1 : A1) (hI : I a1) : lpW1 body a1 :=
  ⟨fun m b1 => I b1 ∧ μ b1 = m, μ a1, ⟨hI, rfl⟩, fun m b1 h => by obtain ⟨h1, rfl⟩ := h; exact hb b1 h1⟩
def lpW2 {A1 A2 : Type} (body : (A1 → A2 → Prop) → A1 → A2 → Prop) (a1 : A1) (a2 : A2) : Prop := ∃ (I : Nat → A1 → A2 → Prop) (n : Nat), I n a1 a2 ∧ ∀ (m : Nat) (b1 : A1) (b2 : A2), I m b1 b2 → body (fun c1 c2 => ∃ k, k < m ∧ I k c1 c2) b1 b2
theorem lpW2_ind {A1 A2 : Type} {body : (A1 → A2 → Prop) → A1 → A2 → Prop} {G : A1 → A2 → Prop} (h : ∀ (K : A1 → A2 → Prop) (a1 : A1) (a2 : A2), (∀ (b1 : A1) (b2 : A2), K b1 b2 → G b1 b2) → body K a1 a2 → G a1 a2) : ∀ (a1 : A1) (a2 : A2), lpW2 body a1 a2 → G a1 a2 := by
  rintro a1 a2 ⟨I, n, hI, hb⟩
  have key : ∀ (N m : Nat) (a1 : A1) (a2 : A2), m < N → I m a1 a2 → G a1 a2 := by
    intro N
    induction N with
    | zero => intro m a1 a2 h; exact absurd h (Nat.not_lt_zero _)
    | succ N ih =>
      intro m a1 a2 hm hIa
      refine h _ a1 a2 (fun b1 b2 hb2 => ?_) (hb m a1 a2 hIa)
      obtain ⟨k, hk, hI2⟩ := hb2
      exact ih k b1 b2 (by omega) hI2
  exact key (n + 1) n a1 a2 (Nat.lt_succ_self _) hI
theorem lpW2_for {A1 A2 : Type} {body : (A1 → A2 → Prop) → A1 → A2 → Prop} (s1 : Nat → A1) (s2 : Nat → A2) (n : Nat) (hs : ∀ (k : Nat), k < n → ∀ K : A1 → A2 → Prop, K (s1 (k + 1)) (s2 (k + 1)) → body K (s1 k) (s2 k)) (he : ∀ K : A1 → A2 → Prop, body K (s1 n) (s2 n)) : lpW2 body (s1 0) (s2 0) := by
  refine ⟨fun m b1 b2 => ∃ k, k + m = n ∧ b1 = s1 k ∧ b2 = s2 k, n, ⟨0, Nat.zero_add n, rfl, rfl⟩, ?_⟩
  rintro m b1 b2 ⟨k, hk, rfl, rfl⟩
  rcases Nat.eq_zero_or_pos m with rfl | h0
  · have e : k = n := by omega
    subst e
    exact he _
  · exact hs k (by omega) _ ⟨m - 1, by omega, k + 1, by omega, rfl, rfl⟩
theorem lpW2_inv {A1 A2 : Type} {body : (A1 → A2 → Prop) → A1 → A2 → Prop} (I : A1 → A2 → Prop) (μ : A1 → A2 → Nat) (hb : ∀ (b1 : A1) (b2 : A2), I b1 b2 → body (fun c1 c2 => ∃ k, k < μ b1 b2 ∧ (I c1 c2 ∧ μ c1 c2 = k)) b1 b2) (a1 : A1) (a2 : A2) (hI : I a1 a2) : lpW2 body a1 a2 :=
  ⟨fun m b1 b2 => I b1 b2 ∧ μ b1 b2 = m, μ a1 a2, ⟨hI, rfl⟩, fun m b1 b2 h => by obtain ⟨h1, rfl⟩ := h; exact hb b1 b2 h1⟩
def lpW3 {A1 A2 A3 : Type} (body : (A1 → A2 → A3 → Prop) → A1 → A2 → A3 → Prop) (a1 : A1) (a2 : A2) (a3 : A3) : Prop := ∃ (I : Nat → A1 → A2 → A3 → Prop) (n : Nat), I n a1 a2 a3 ∧ ∀ (m : Nat) (b1 : A1) (b2 : A2) (b3 : A3), I m b1 b2 b3 → body (fun c1 c2 c3 => ∃ k, k < m ∧ I k c1 c2 c3) b1 b2 b3
theorem lpW3_ind {A1 A2 A3 : Type} {body : (A1 → A2 → A3 → Prop) → A1 → A2 → A3 → Prop} {G : A1 → A2 → A3 → Prop} (h : ∀ (K : A1 → A2 → A3 → Prop) (a1 : A1) (a2 : A2) (a3 : A3), (∀ (b1 : A1) (b2 : A2) (b3 : A3), K b1 b2 b3 → G b1 b2 b3) → body K a1 a2 a3 → G a1 a2 a3) : ∀ (a1 : A1) (a2 : A2) (a3 : A3), lpW3 body a1 a2 a3 → G a1 a2 a3 := by
  rintro a1 a2 a3 ⟨I, n, hI, hb⟩
  have key : ∀ (N m : Nat) (a1 : A1) (a2 : A2) (a3 : A3), m < N → I m a1 a2 a3 → G a1 a2 a3 := by
    intro N
    induction N with
    | zero => intro m a1 a2 a3 h; exact absurd h (Nat.not_lt_zero _)
    | succ N ih =>
      intro m a1 a2 a3 hm hIa
      refine h _ a1 a2 a3 (fun b1 b2 b3 hb2 => ?_) (hb m a1 a2 a3 hIa)
      obtain ⟨k, hk, hI2⟩ := hb2
      exact ih k b1 b2 b3 (by omega) hI2
  exact key (n + 1) n a1 a2 a3 (Nat.lt_succ_self _) hI
theorem lpW3_for {A1 A2 A3 : Type} {body : (A1 → A2 → A3 → Prop) → A1 → A2 → A3 → Prop} (s1 : Nat → A1) (s2 : Nat → A2) (s3 : Nat → A3) (n : Nat) (hs : ∀ (k : Nat), k < n → ∀ K : A1 → A2 → A3 → Prop, K (s1 (k + 1)) (s2 (k + 1)) (s3 (k + 1)) → body K (s1 k) (s2 k) (s3 k)) (he : ∀ K : A1 → A2 → A3 → Prop, body K (s1 n) (s2 n) (s3 n)) : lpW3 body (s1 0) (s2 0) (s3 0) := by
  refine ⟨fun m b1 b2 b3 => ∃ k, k + m = n ∧ b1 = s1 k ∧ b2 = s2 k ∧ b3 = s3 k, n, ⟨0, Nat.zero_add n, rfl, rfl, rfl⟩, ?_⟩
  rintro m b1 b2 b3 ⟨k, hk, rfl, rfl, rfl⟩
  rcases Nat.eq_zero_or_pos m with rfl | h0
  · have e : k = n := by omega
    subst e
    exact he _
  · exact hs k (by omega) _ ⟨m - 1, by omega, k + 1, by omega, rfl, rfl, rfl⟩
theorem lpW3_inv {A1 A2 A3 : Type} {body : (A1 → A2 → A3 → Prop) → A1 → A2 → A3 → Prop} (I : A1 → A2 → A3 → Prop) (μ : A1 → A2 → A3 → Nat) (hb : ∀ (b1 : A1) (b2 : A2) (b3 : A3), I b1 b2 b3 → body (fun c1 c2 c3 => ∃ k, k < μ b1 b2 b3 ∧ (I c1 c2 c3 ∧ μ c1 c2 c3 = k)) b1 b2 b3) (a1 : A1) (a2 : A2) (a3 : A3) (hI : I a1 a2 a3) : lpW3 body a1 a2 a3 :=
  ⟨fun m b1 b2 b3 => I b1 b2 b3 ∧ μ b1 b2 b3 = m, μ a1 a2 a3, ⟨hI, rfl⟩, fun m b1 b2 b3 h => by obtain ⟨h1, rfl⟩ := h; exact hb b1 b2 b3 h1⟩
def lpW4 {A1 A2 A3 A4 : Type} (body : (A1 → A2 → A3 → A4 → Prop) → A1 → A2 → A3 → A4 → Prop) (a1 : A1) (a2 : A2) (a3 : A3) (a4 : A4) : Prop := ∃ (I : Nat → A1 → A2 → A3 → A4 → Prop) (n : Nat), I n a1 a2 a3 a4 ∧ ∀ (m : Nat) (b1 : A1) (b2 : A2) (b3 : A3) (b4 : A4), I m b1 b2 b3 b4 → body (fun c1 c2 c3 c4 => ∃ k, k < m ∧ I k c1 c2 c3 c4) b1 b2 b3 b4
theorem lpW4_ind {A1 A2 A3 A4 : Type} {body : (A1 → A2 → A3 → A4 → Prop) → A1 → A2 → A3 → A4 → Prop} {G : A1 → A2 → A3 → A4 → Prop} (h : ∀ (K : A1 → A2 → A3 → A4 → Prop) (a1 : A1) (a2 : A2) (a3 : A3) (a4 : A4), (∀ (b1 : A1) (b2 : A2) (b3 : A3) (b4 : A4), K b1 b2 b3 b4 → G b1 b2 b3 b4) → body K a1 a2 a3 a4 → G a1 a2 a3 a4) : ∀ (a1 : A1) (a2 : A2) (a3 : A3) (a4 : A4), lpW4 body a1 a2 a3 a4 → G a1 a2 a3 a4 := by
  rintro a1 a2 a3 a4 ⟨I, n, hI, hb⟩
  have key : ∀ (N m : Nat) (a1 : A1) (a2 : A2) (a3 : A3) (a4 : A4), m < N → I m a1 a2 a3 a4 → G a1 a2 a3 a4 := by
    intro N
    induction N with
    | zero => intro m a1 a2 a3 a4 h; exact absurd h (Nat.not_lt_zero _)
    | succ N ih =>
      intro m a1 a2 a3 a4 hm hIa
      refine h _ a1 a2 a3 a4 (fun b1 b2 b3 b4 hb2 => ?_) (hb m a1 a2 a3 a4 hIa)
      obtain ⟨k, hk, hI2⟩ := hb2
      exact ih k b1 b2 b3 b4 (by omega) hI2
  exact key (n + 1) n a1 a2 a3 a4 (Nat.lt_succ_self _) hI
theorem lpW4_for {A1 A2 A3 A4 : Type} {body : (A1 → A2 → A3 → A4 → Prop) → A1 → A2 → A3 → A4 → Prop} (s1 : Nat → A1) (s2 : Nat → A2) (s3 : Nat → A3) (s4 : Nat → A4) (n : Nat) (hs : ∀ (k : Nat), k < n → ∀ K : A1 → A2 → A3 → A4 → Prop, K (s1 (k + 1)) (s2 (k + 1)) (s3 (k + 1)) (s4 (k + 1)) → body K (s1 k) (s2 k) (s3 k) (s4 k)) (he : ∀ K : A1 → A2 → A3 → A4 → Prop, body K (s1 n) (s2 n) (s3 n) (s4 n)) : lpW4 body (s1 0) (s2 0) (s3 0) (s4 0) := by
  refine ⟨fun m b1 b2 b3 b4 => ∃ k, k + m = n ∧ b1 = s1 k ∧ b2 = s2 k ∧ b3 = s3 k ∧ b4 = s4 k, n, ⟨0, Nat.zero_add n, rfl, rfl, rfl, rfl⟩, ?_⟩
  rintro m b1 b2 b3 b4 ⟨k, hk, rfl, rfl, rfl, rfl⟩
  rcases Nat.eq_zero_or_pos m with rfl | h0
  · have e : k = n := by omega
    subst e
    exact he _
  · exact hs k (by omega) _ ⟨m - 1, by omega, k + 1, by omega, rfl, rfl, rfl, rfl⟩
theorem lpW4_inv {A1 A2 A3 A4 : Type} {body : (A1 → A2 → A3 → A4 → Prop) → A1 → A2 → A3 → A4 → Prop} (I : A1 → A2 → A3 → A4 → Prop) (μ : A1 → A2 → A3 → A4 → Nat) (hb : ∀ (b1 : A1) (b2 : A2) (b3 : A3) (b4 : A4), I b1 b2 b3 b4 → body (fun c1 c2 c3 c4 => ∃ k, k < μ b1 b2 b3 b4 ∧ (I c1 c2 c3 c4 ∧ μ c1 c2 c3 c4 = k)) b1 b2 b3 b4) (a1 : A1) (a2 : A2) (a3 : A3) (a4 : A4) (hI : I a1 a2 a3 a4) : lpW4 body a1 a2 a3 a4 :=
  ⟨fun m b1 b2 b3 b4 => I b1 b2 b3 b4 ∧ μ b1 b2 b3 b4 = m, μ a1 a2 a3 a4, ⟨hI, rfl⟩, fun m b1 b2 b3 b4 h => by obtain ⟨h1, rfl⟩ := h; exact hb b1 b2 b3 b4 h1⟩
def lpW5 {A1 A2 A3 A4 A5 : Type} (body : (A1 → A2 → A3 → A4 → A5 → Prop) → A1 → A2 → A3 → A4 → A5 → Prop) (a1 : A1) (a2 : A2) (a3 : A3) (a4 : A4) (a5 : A5) : Prop := ∃ (I : Nat → A1 → A2 → A3 → A4 → A5 → Prop) (n : Nat), I n a1 a2 a3 a4 a5 ∧ ∀ (m : Nat) (b1 : A1) (b2 : A2) (b3 : A3) (b4 : A4) (b5 : A5), I m b1 b2 b3 b4 b5 → body (fun c1 c2 c3 c4 c5 => ∃ k, k < m ∧ I k c1 c2 c3 c4 c5) b1 b2 b3 b4 b5
theorem lpW5_ind {A1 A2 A3 A4 A5 : Type} {body : (A1 → A2 → A3 → A4 → A5 → Prop) → A1 → A2 → A3 → A4 → A5 → Prop} {G : A1 → A2 → A3 → A4 → A5 → Prop} (h : ∀ (K : A1 → A2 → A3 → A4 → A5 → Prop) (a1 : A1) (a2 : A2) (a3 : A3) (a4 : A4) (a5 : A5), (∀ (b1 : A1) (b2 : A2) (b3 : A3) (b4 : A4) (b5 : A5), K b1 b2 b3 b4 b5 → G b1 b2 b3 b4 b5) → body K a1 a2 a3 a4 a5 → G a1 a2 a3 a4 a5) : ∀ (a1 : A1) (a2 : A2) (a3 : A3) (a4 : A4) (a5 : A5), lpW5 body a1 a2 a3 a4 a5 → G a1 a2 a3 a4 a5 := by
  rintro a1 a2 a3 a4 a5 ⟨I, n, hI, hb⟩
  have key : ∀ (N m : Nat) (a1 : A1) (a2 : A2) (a3 : A3) (a4 : A4) (a5 : A5), m < N → I m a1 a2 a3 a4 a5 → G a1 a2 a3 a4 a5 := by
    intro N
    induction N with
    | zero => intro m a1 a2 a3 a4 a5 h; exact absurd h (Nat.not_lt_zero _)
    | succ N ih =>
      intro m a1 a2 a3 a4 a5 hm hIa
      refine h _ a1 a2 a3 a4 a5 (fun b1 b2 b3 b4 b5 hb2 => ?_) (hb m a1 a2 a3 a4 a5 hIa)
      obtain ⟨k, hk, hI2⟩ := hb2
      exact ih k b1 b2 b3 b4 b5 (by omega) hI2
  exact key (n + 1) n a1 a2 a3 a4 a5 (Nat.lt_succ_self _) hI
theorem lpW5_for {A1 A2 A3 A4 A5 : Type} {body : (A1 → A2 → A3 → A4 → A5 → Prop) → A1 → A2 → A3 → A4 → A5 → Prop} (s1 : Nat → A1) (s2 : Nat → A2) (s3 : Nat → A3) (s4 : Nat → A4) (s5 : Nat → A5) (n : Nat) (hs : ∀ (k : Nat), k < n → ∀ K : A1 → A2 → A3 → A4 → A5 → Prop, K (s1 (k + 1)) (s2 (k + 1)) (s3 (k + 1)) (s4 (k + 1)) (s5 (k + 1)) → body K (s1 k) (s2 k) (s3 k) (s4 k) (s5 k)) (he : ∀ K : A1 → A2 → A3 → A4 → A5 → Prop, body K (s1 n) (s2 n) (s3 n) (s4 n) (s5 n)) : lpW5 body (s1 0) (s2 0) (s3 0) (s4 0) (s5 0) := by
  refine ⟨fun m b1 b2 b3 b4 b5 => ∃ k, k + m = n ∧ b1 = s1 k ∧ b2 = s2 k ∧ b3 = s3 k ∧ b4 = s4 k ∧ b5 = s5 k, n, ⟨0, Nat.zero_add n, rfl, rfl, rfl, rfl, rfl⟩, ?_⟩
  rintro m b1 b2 b3 b4 b5 ⟨k, hk, rfl, rfl, rfl, rfl, rfl⟩
  rcases Nat.eq_zero_or_pos m with rfl | h0
  · have e : k = n := by omega
    subst e
    exact he _
  · exact hs k (by omega) _ ⟨m - 1, by omega, k + 1, by omega, rfl, rfl, rfl, rfl, rfl⟩
theorem lpW5_inv {A1 A2 A3 A4 A5 : Type} {body : (A1 → A2 → A3 → A4 → A5 → Prop) → A1 → A2 → A3 → A4 → A5 → Prop} (I : A1 → A2 → A3 → A4 → A5 → Prop) (μ : A1 → A2 → A3 → A4 → A5 → Nat) (hb : ∀ (b1 : A1) (b2 : A2) (b3 : A3) (b4 : A4) (b5 : A5), I b1 b2 b3 b4 b5 → body (fun c1 c2 c3 c4 c5 => ∃ k, k < μ b1 b2 b3 b4 b5 ∧ (I c1 c2 c3 c4 c5 ∧ μ c1 c2 c3 c4 c5 = k)) b1 b2 b3 b4 b5) (a1 : A1) (a2 : A2) (a3 : A3) (a4 : A4) (a5 : A5) (hI : I a1 a2 a3 a4 a5) : lpW5 body a1 a2 a3 a4 a5 :=
  ⟨fun m b1 b2 b3 b4 b5 => I b1 b2 b3 b4 b5 ∧ μ b1 b2 b3 b4 b5 = m, μ a1 a2 a3 a4 a5, ⟨hI, rfl⟩, fun m b1 b2 b3 b4 b5 h => by obtain ⟨h1, rfl⟩ := h; exact hb b1 b2 b3 b4 b5 h1⟩
def lpW6 {A1 A2 A3 A4 A5 A6 : Type} (body : (A1 → A2 → A3 → A4 → A5 → A6 → Prop) → A1 → A2 → A3 → A4 → A5 → A6 → Prop) (a1 : A1) (a2 : A2) (a3 : A3) (a4 : A4) (a5 : A5) (a6 : A6) : Prop := ∃ (I : Nat → A1 → A2 → A3 → A4 → A5 → A6 → Prop) (n : Nat), I n a1 a2 a3 a4 a5 a6 ∧ ∀ (m : Nat) (b1 : A1) (b2 : A2) (b3 : A3) (b4 : A4) (b5 : A5) (b6 : A6), I m b1 b2 b3 b4 b5 b6 → body (fun c1 c2 c3 c4 c5 c6 => ∃ k, k < m ∧ I k c1 c2 c3 c4 c5 c6) b1 b2 b3 b4 b5 b6
theorem lpW6_ind {A1 A2 A3 A4 A5 A6 : Type} {body : (A1 → A2 → A3 → A4 → A5 → A6 → Prop) → A1 → A2 → A3 → A4 → A5 → A6 → Prop} {G : A1 → A2 → A3 → A4 → A5 → A6 → Prop} (h : ∀ (K : A1 → A2 → A3 → A4 → A5 → A6 → Prop) (a1 : A1) (a2 : A2) (a3 : A3) (a4 : A4) (a5 : A5) (a6 : A6), (∀ (b1 : A1) (b2 : A2) (b3 : A3) (b4 : A4) (b5 : A5) (b6 : A6), K b1 b2 b3 b4 b5 b6 → G b1 b2 b3 b4 b5 b6) → body K a1 a2 a3 a4 a5 a6 → G a1 a2 a3 a4 a5 a6) : ∀ (a1 : A1) (a2 : A2) (a3 : A3) (a4 : A4) (a5 : A5) (a6 : A6), lpW6 body a1 a2 a3 a4 a5 a6 → G a1 a2 a3 a4 a5 a6 := by
  rintro a1 a2 a3 a4 a5 a6 ⟨I, n, hI, hb⟩
  have key : ∀ (N m : Nat) (a1 : A1) (a2 : A2) (a3 : A3) (a4 : A4) (a5 : A5) (a6 : A6), m < N → I m a1 a2 a3 a4 a5 a6 → G a1 a2 a3 a4 a5 a6 := by
    intro N
    induction N with
    | zero => intro m a1 a2 a3 a4 a5 a6 h; exact absurd h (Nat.not_lt_zero _)
    | succ N ih =>
      intro m a1 a2 a3 a4 a5 a6 hm hIa
      refine h _ a1 a2 a3 a4 a5 a6 (fun b1 b2 b3 b4 b5 b6 hb2 => ?_) (hb m a1 a2 a3 a4 a5 a6 hIa)
      obtain ⟨k, hk, hI2⟩ := hb2
      exact ih k b1 b2 b3 b4 b5 b6 (by omega) hI2
  exact key (n + 1) n a1 a2 a3 a4 a5 a6 (Nat.lt_succ_self _) hI
theorem lpW6_for {A1 A2 A3 A4 A5 A6 : Type} {body : (A1 → A2 → A3 → A4 → A5 → A6 → Prop) → A1 → A2 → A3 → A4 → A5 → A6 → Prop} (s1 : Nat → A1) (s2 : Nat → A2) (s3 : Nat → A3) (s4 : Nat → A4) (s5 : Nat → A5) (s6 : Nat → A6) (n : Nat) (hs : ∀ (k : Nat), k < n → ∀ K : A1 → A2 → A3 → A4 → A5 → A6 → Prop, K (s1 (k + 1)) (s2 (k + 1)) (s3 (k + 1)) (s4 (k + 1)) (s5 (k + 1)) (s6 (k + 1)) → body K (s1 k) (s2 k) (s3 k) (s4 k) (s5 k) (s6 k)) (he : ∀ K : A1 → A2 → A3 → A4 → A5 → A6 → Prop, body K (s1 n) (s2 n) (s3 n) (s4 n) (s5 n) (s6 n)) : lpW6 body (s1 0) (s2 0) (s3 0) (s4 0) (s5 0) (s6 0) := by
  refine ⟨fun m b1 b2 b3 b4 b5 b6 => ∃ k, k + m = n ∧ b1 = s1 k ∧ b2 = s2 k ∧ b3 = s3 k ∧ b4 = s4 k ∧ b5 = s5 k ∧ b6 = s6 k, n, ⟨0, Nat.zero_add n, rfl, rfl, rfl, rfl, rfl, rfl⟩, ?_⟩
  rintro m b1 b2 b3 b4 b5 b6 ⟨k, hk, rfl, rfl, rfl, rfl, rfl, rfl⟩
  rcases Nat.eq_zero_or_pos m with rfl | h0
  · have e : k = n := by omega
    subst e
    exact he _
  · exact hs k (by omega) _ ⟨m - 1, by omega, k + 1, by omega, rfl, rfl, rfl, rfl, rfl, rfl⟩
theorem lpW6_inv {A1 A2 A3 A4 A5 A6 : Type} {body : (A1 → A2 → A3 → A4 → A5 → A6 → Prop) → A1 → A2 → A3 → A4 → A5 → A6 → Prop} (I : A1 → A2 → A3 → A4 → A5 → A6 → Prop) (μ : A1 → A2 → A3 → A4 → A5 → A6 → Nat) (hb : ∀ (b1 : A1) (b2 : A2) (b3 : A3) (b4 : A4) (b5 : A5) (b6 : A6), I b1 b2 b3 b4 b5 b6 → body (fun c1 c2 c3 c4 c5 c6 => ∃ k, k < μ b1 b2 b3 b4 b5 b6 ∧ (I c1 c2 c3 c4 c5 c6 ∧ μ c1 c2 c3 c4 c5 c6 = k)) b1 b2 b3 b4 b5 b6) (a1 : A1) (a2 : A2) (a3 : A3) (a4 : A4) (a5 : A5) (a6 : A6) (hI : I a1 a2 a3 a4 a5 a6) : lpW6 body a1 a2 a3 a4 a5 a6 :=
  ⟨fun m b1 b2 b3 b4 b5 b6 => I b1 b2 b3 b4 b5 b6 ∧ μ b1 b2 b3 b4 b5 b6 = m, μ a1 a2 a3 a4 a5 a6, ⟨hI, rfl⟩, fun m b1 b2 b3 b4 b5 b6 h => by obtain ⟨h1, rfl⟩ := h; exact hb b1 b2 b3 b4 b5 b6 h1⟩
def lpW7 {A1 A2 A3 A4 A5 A6 A7 : Type} (body : (A1 → A2 → A3 → A4 → A5 → A6 → A7 → Prop) → A1 → A2 → A3 → A4 → A5 → A6 → A7 → Prop) (a1 : A1) (a2 : A2) (a3 : A3) (a4 : A4) (a5 : A5) (a6 : A6) (a7 : A7) : Prop := ∃ (I : Nat → A1 → A2 → A3 → A4 → A5 → A6 → A7 → Prop) (n : Nat), I n a1 a2 a3 a4 a5 a6 a7 ∧ ∀ (m : Nat) (b1 : A1) (b2 : A2) (b3 : A3) (b4 : A4) (b5 : A5) (b6 : A6) (b7 : A7), I m b1 b2 b3 b4 b5 b6 b7 → body (fun c1 c2 c3 c4 c5 c6 c7 => ∃ k, k < m ∧ I k c1 c2 c3 c4 c5 c6 c7) b1 b2 b3 b4 b5 b6 b7
theorem lpW7_ind {A1 A2 A3 A4 A5 A6 A7 : Type} {body : (A1 → A2 → A3 → A4 → A5 → A6 → A7 → Prop) → A1 → A2 → A3 → A4 → A5 → A6 → A7 → Prop} {G : A1 → A2 → A3 → A4 → A5 → A6 → A7 → Prop} (h : ∀ (K : A1 → A2 → A3 → A4 → A5 → A6 → A7 → Prop) (a1 : A1) (a2 : A2) (a3 : A3) (a4 : A4) (a5 : A5) (a6 : A6) (a7 : A7), (∀ (b1 : A1) (b2 : A2) (b3 : A3) (b4 : A4) (b5 : A5) (b6 : A6) (b7 : A7), K b1 b2 b3 b4 b5 b6 b7 → G b1 b2 b3 b4 b5 b6 b7) → body K a1 a2 a3 a4 a5 a6 a7 → G a1 a2 a3 a4 a5 a6 a7) : ∀ (a1 : A1) (a2 : A2) (a3 : A3) (a4 : A4) (a5 : A5) (a6 : A6) (a7 : A7), lpW7 body a1 a2 a3 a4 a5 a6 a7 → G a1 a2 a3 a4 a5 a6 a7 := by
  rintro a1 a2 a3 a4 a5 a6 a7 ⟨I, n, hI, hb⟩
  have key : ∀ (N m : Nat) (a1 : A1) (a2 : A2) (a3 : A3) (a4 : A4) (a5 : A5) (a6 : A6) (a7 : A7), m < N → I m a1 a2 a3 a4 a5 a6 a7 → G a1 a2 a3 a4 a5 a6 a7 := by
    intro N
    induction N with
    | zero => intro m a1 a2 a3 a4 a5 a6 a7 h; exact absurd h (Nat.not_lt_zero _)
    | succ N ih =>
      intro m a1 a2 a3 a4 a5 a6 a7 hm hIa
      refine h _ a1 a2 a3 a4 a5 a6 a7 (fun b1 b2 b3 b4 b5 b6 b7 hb2 => ?_) (hb m a1 a2 a3 a4 a5 a6 a7 hIa)
      obtain ⟨k, hk, hI2⟩ := hb2
      exact ih k b1 b2 b3 b4 b5 b6 b7 (by omega) hI2
  exact key (n + 1) n a1 a2 a3 a4 a5 a6 a7 (Nat.lt_succ_self _) hI
theorem lpW7_for {A1 A2 A3 A4 A5 A6 A7 : Type} {body : (A1 → A2 → A3 → A4 → A5 → A6 → A7 → Prop) → A1 → A2 → A3 → A4 → A5 → A6 → A7 → Prop} (s1 : Nat → A1) (s2 : Nat → A2) (s3 : Nat → A3) (s4 : Nat → A4) (s5 : Nat → A5) (s6 : Nat → A6) (s7 : Nat → A7) (n : Nat) (hs : ∀ (k : Nat), k < n → ∀ K : A1 → A2 → A3 → A4 → A5 → A6 → A7 → Prop, K (s1 (k + 1)) (s2 (k + 1)) (s3 (k + 1)) (s4 (k + 1)) (s5 (k + 1)) (s6 (k + 1)) (s7 (k + 1)) → body K (s1 k) (s2 k) (s3 k) (s4 k) (s5 k) (s6 k) (s7 k)) (he : ∀ K : A1 → A2 → A3 → A4 → A5 → A6 → A7 → Prop, body K (s1 n) (s2 n) (s3 n) (s4 n) (s5 n) (s6 n) (s7 n)) : lpW7 body (s1 0) (s2 0) (s3 0) (s4 0) (s5 0) (s6 0) (s7 0) := by
  refine ⟨fun m b1 b2 b3 b4 b5 b6 b7 => ∃ k, k + m = n ∧ b1 = s1 k ∧ b2 = s2 k ∧ b3 = s3 k ∧ b4 = s4 k ∧ b5 = s5 k ∧ b6 = s6 k ∧ b7 = s7 k, n, ⟨0, Nat.zero_add n, rfl, rfl, rfl, rfl, rfl, rfl, rfl⟩, ?_⟩
  rintro m b1 b2 b3 b4 b5 b6 b7 ⟨k, hk, rfl, rfl, rfl, rfl, rfl, rfl, rfl⟩
  rcases Nat.eq_zero_or_pos m with rfl | h0
  · have e : k = n := by omega
    subst e
    exact he _
  · exact hs k (by omega) _ ⟨m - 1, by omega, k + 1, by omega, rfl, rfl, rfl, rfl, rfl, rfl, rfl⟩
theorem lpW7_inv {A1 A2 A3 A4 A5 A6 A7 : Type} {body : (A1 → A2 → A3 → A4 → A5 → A6 → A7 → Prop) → A1 → A2 → A3 → A4 → A5 → A6 → A7 → Prop} (I : A1 → A2 → A3 → A4 → A5 → A6 → A7 → Prop) (μ : A1 → A2 → A3 → A4 → A5 → A6 → A7 → Nat) (hb : ∀ (b1 : A1) (b2 : A2) (b3 : A3) (b4 : A4) (b5 : A5) (b6 : A6) (b7 : A7), I b1 b2 b3 b4 b5 b6 b7 → body (fun c1 c2 c3 c4 c5 c6 c7 => ∃ k, k < μ b1 b2 b3 b4 b5 b6 b7 ∧ (I c1 c2 c3 c4 c5 c6 c7 ∧ μ c1 c2 c3 c4 c5 c6 c7 = k)) b1 b2 b3 b4 b5 b6 b7) (a1 : A1) (a2 : A2) (a3 : A3) (a4 : A4) (a5 : A5) (a6 : A6) (a7 : A7) (hI : I a1 a2 a3 a4 a5 a6 a7) : lpW7 body a1 a2 a3 a4 a5 a6 a7 :=
  ⟨fun m b1 b2 b3 b4 b5 b6 b7 => I b1 b2 b3 b4 b5 b6 b7 ∧ μ b1 b2 b3 b4 b5 b6 b7 = m, μ a1 a2 a3 a4 a5 a6 a7, ⟨hI, rfl⟩, fun m b1 b2 b3 b4 b5 b6 b7 h => by obtain ⟨h1, rfl⟩ := h; exact hb b1 b2 b3 b4 b5 b6 b7 h1⟩
def lpW8 {A1 A2 A3 A4 A5 A6 A7 A8 : Type} (body : (A1 → A2 → A3 → A4 → A5 → A6 → A7 → A8 → Prop) → A1 → A2 → A3 → A4 → A5 → A6 → A7 → A8 → Prop) (a1 : A1) (a2 : A2) (a3 : A3) (a4 : A4) (a5 : A5) (a6 : A6) (a7 : A7) (a8 : A8) : Prop := ∃ (I : Nat → A1 → A2 → A3 → A4 → A5 → A6 → A7 → A8 → Prop) (n : Nat), I n a1 a2 a3 a4 a5 a6 a7 a8 ∧ ∀ (m : Nat) (b1 : A1) (b2 : A2) (b3 : A3) (b4 : A4) (b5 : A5) (b6 : A6) (b7 : A7) (b8 : A8), I m b1 b2 b3 b4 b5 b6 b7 b8 → body (fun c1 c2 c3 c4 c5 c6 c7 c8 => ∃ k, k < m ∧ I k c1 c2 c3 c4 c5 c6 c7 c8) b1 b2 b3 b4 b5 b6 b7 b8
theorem lpW8_ind {A1 A2 A3 A4 A5 A6 A7 A8 : Type} {body : (A1 → A2 → A3 → A4 → A5 → A6 → A7 → A8 → Prop) → A1 → A2 → A3 → A4 → A5 → A6 → A7 → A8 → Prop} {G : A1 → A2 → A3 → A4 → A5 → A6 → A7 → A8 → Prop} (h : ∀ (K : A1 → A2 → A3 → A4 → A5 → A6 → A7 → A8 → Prop) (a1 : A1) (a2 : A2) (a3 : A3) (a4 : A4) (a5 : A5) (a6 : A6) (a7 : A7) (a8 : A8), (∀ (b1 : A1) (b2 : A2) (b3 : A3) (b4 : A4) (b5 : A5) (b6 : A6) (b7 : A7) (b8 : A8), K b1 b2 b3 b4 b5 b6 b7 b8 → G b1 b2 b3 b4 b5 b6 b7 b8) → body K a1 a2 a3 a4 a5 a6 a7 a8 → G a1 a2 a3 a4 a5 a6 a7 a8) : ∀ (a1 : A1) (a2 : A2) (a3 : A3) (a4 : A4) (a5 : A5) (a6 : A6) (a7 : A7) (a8 : A8), lpW8 body a1 a2 a3 a4 a5 a6 a7 a8 → G a1 a2 a3 a4 a5 a6 a7 a8 := by
  rintro a1 a2 a3 a4 a5 a6 a7 a8 ⟨I, n, hI, hb⟩
  have key : ∀ (N m : Nat) (a1 : A1) (a2 : A2) (a3 : A3) (a4 : A4) (a5 : A5) (a6 : A6) (a7 : A7) (a8 : A8), m < N → I m a1 a2 a3 a4 a5 a6 a7 a8 → G a1 a2 a3 a4 a5 a6 a7 a8 := by
    intro N
    induction N with
    | zero => intro m a1 a2 a3 a4 a5 a6 a7 a8 h; exact absurd h (Nat.not_lt_zero _)
    | succ N ih =>
      intro m a1 a2 a3 a4 a5 a6 a7 a8 hm hIa
      refine h _ a1 a2 a3 a4 a5 a6 a7 a8 (fun b1 b2 b3 b4 b5 b6 b7 b8 hb2 => ?_) (hb m a1 a2 a3 a4 a5 a6 a7 a8 hIa)
      obtain ⟨k, hk, hI2⟩ := hb2
      exact ih k b1 b2 b3 b4 b5 b6 b7 b8 (by omega) hI2
  exact key (n + 1) n a1 a2 a3 a4 a5 a6 a7 a8 (Nat.lt_succ_self _) hI
theorem lpW8_for {A1 A2 A3 A4 A5 A6 A7 A8 : Type} {body : (A1 → A2 → A3 → A4 → A5 → A6 → A7 → A8 → Prop) → A1 → A2 → A3 → A4 → A5 → A6 → A7 → A8 → Prop} (s1 : Nat → A1) (s2 : Nat → A2) (s3 : Nat → A3) (s4 : Nat → A4) (s5 : Nat → A5) (s6 : Nat → A6) (s7 : Nat → A7) (s8 : Nat → A8) (n : Nat) (hs : ∀ (k : Nat), k < n → ∀ K : A1 → A2 → A3 → A4 → A5 → A6 → A7 → A8 → Prop, K (s1 (k + 1)) (s2 (k + 1)) (s3 (k + 1)) (s4 (k + 1)) (s5 (k + 1)) (s6 (k + 1)) (s7 (k + 1)) (s8 (k + 1)) → body K (s1 k) (s2 k) (s3 k) (s4 k) (s5 k) (s6 k) (s7 k) (s8 k)) (he : ∀ K : A1 → A2 → A3 → A4 → A5 → A6 → A7 → A8 → Prop, body K (s1 n) (s2 n) (s3 n) (s4 n) (s5 n) (s6 n) (s7 n) (s8 n)) : lpW8 body (s1 0) (s2 0) (s3 0) (s4 0) (s5 0) (s6 0) (s7 0) (s8 0) := by
  refine ⟨fun m b1 b2 b3 b4 b5 b6 b7 b8 => ∃ k, k + m = n ∧ b1 = s1 k ∧ b2 = s2 k ∧ b3 = s3 k ∧ b4 = s4 k ∧ b5 = s5 k ∧ b6 = s6 k ∧ b7 = s7 k ∧ b8 = s8 k, n, ⟨0, Nat.zero_add n, rfl, rfl, rfl, rfl, rfl, rfl, rfl, rfl⟩, ?_⟩
  rintro m b1 b2 b3 b4 b5 b6 b7 b8 ⟨k, hk, rfl, rfl, rfl, rfl, rfl, rfl, rfl, rfl⟩
  rcases Nat.eq_zero_or_pos m with rfl | h0
  · have e : k = n := by omega
    subst e
    exact he _
  · exact hs k (by omega) _ ⟨m - 1, by omega, k + 1, by omega, rfl, rfl, rfl, rfl, rfl, rfl, rfl, rfl⟩
theorem lpW8_inv {A1 A2 A3 A4 A5 A6 A7 A8 : Type} {body : (A1 → A2 → A3 → A4 → A5 → A6 → A7 → A8 → Prop) → A1 → A2 → A3 → A4 → A5 → A6 → A7 → A8 → Prop} (I : A1 → A2 → A3 → A4 → A5 → A6 → A7 → A8 → Prop) (μ : A1 → A2 → A3 → A4 → A5 → A6 → A7 → A8 → Nat) (hb : ∀ (b1 : A1) (b2 : A2) (b3 : A3) (b4 : A4) (b5 : A5) (b6 : A6) (b7 : A7) (b8 : A8), I b1 b2 b3 b4 b5 b6 b7 b8 → body (fun c1 c2 c3 c4 c5 c6 c7 c8 => ∃ k, k < μ b1 b2 b3 b4 b5 b6 b7 b8 ∧ (I c1 c2 c3 c4 c5 c6 c7 c8 ∧ μ c1 c2 c3 c4 c5 c6 c7 c8 = k)) b1 b2 b3 b4 b5 b6 b7 b8) (a1 : A1) (a2 : A2) (a3 : A3) (a4 : A4) (a5 : A5) (a6 : A6) (a7 : A7) (a8 : A8) (hI : I a1 a2 a3 a4 a5 a6 a7 a8) : lpW8 body a1 a2 a3 a4 a5 a6 a7 a8 :=
  ⟨fun m b1 b2 b3 b4 b5 b6 b7 b8 => I b1 b2 b3 b4 b5 b6 b7 b8 ∧ μ b1 b2 b3 b4 b5 b6 b7 b8 = m, μ a1 a2 a3 a4 a5 a6 a7 a8, ⟨hI, rfl⟩, fun m b1 b2 b3 b4 b5 b6 b7 b8 h => by obtain ⟨h1, rfl⟩ := h; exact hb b1 b2 b3 b4 b5 b6 b7 b8 h1⟩
def lpW9 {A1 A2 A3 A4 A5 A6 A7 A8 A9 : Type} (body : (A1 → A2 → A3 → A4 → A5 → A6 → A7 → A8 → A9 → Prop) → A1 → A2 → A3 → A4 → A5 → A6 → A7 → A8 → A9 → Prop) (a1 : A1) (a2 : A2) (a3 : A3) (a4 : A4) (a5 : A5) (a6 : A6) (a7 : A7) (a8 : A8) (a9 : A9) : Prop := ∃ (I : Nat → A1 → A2 → A3 → A4 → A5 → A6 → A7 → A8 → A9 → Prop) (n : Nat), I n a1 a2 a3 a4 a5 a6 a7 a8 a9 ∧ ∀ (m : Nat) (b1 : A1) (b2 : A2) (b3 : A3) (b4 : A4) (b5 : A5) (b6 : A6) (b7 : A7) (b8 : A8) (b9 : A9), I m b1 b2 b3 b4 b5 b6 b7 b8 b9 → body (fun c1 c2 c3 c4 c5 c6 c7 c8 c9 => ∃ k, k < m ∧ I k c1 c2 c3 c4 c5 c6 c7 c8 c9) b1 b2 b3 b4 b5 b6 b7 b8 b9
theorem lpW9_ind {A1 A2 A3 A4 A5 A6 A7 A8 A9 : Type} {body : (A1 → A2 → A3 → A4 → A5 → A6 → A7 → A8 → A9 → Prop) → A1 → A2 → A3 → A4 → A5 → A6 → A7 → A8 → A9 → Prop} {G : A1 → A2 → A3 → A4 → A5 → A6 → A7 → A8 → A9 → Prop} (h : ∀ (K : A1 → A2 → A3 → A4 → A5 → A6 → A7 → A8 → A9 → Prop) (a1 : A1) (a2 : A2) (a3 : A3) (a4 : A4) (a5 : A5) (a6 : A6) (a7 : A7) (a8 : A8) (a9 : A9), (∀ (b1 : A1) (b2 : A2) (b3 : A3) (b4 : A4) (b5 : A5) (b6 : A6) (b7 : A7) (b8 : A8) (b9 : A9), K b1 b2 b3 b4 b5 b6 b7 b8 b9 → G b1 b2 b3 b4 b5 b6 b7 b8 b9) → body K a1 a2 a3 a4 a5 a6 a7 a8 a9 → G a1 a2 a3 a4 a5 a6 a7 a8 a9) : ∀ (a1 : A1) (a2 : A2) (a3 : A3) (a4 : A4) (a5 : A5) (a6 : A6) (a7 : A7) (a8 : A8) (a9 : A9), lpW9 body a1 a2 a3 a4 a5 a6 a7 a8 a9 → G a1 a2 a3 a4 a5 a6 a7 a8 a9 := by
  rintro a1 a2 a3 a4 a5 a6 a7 a8 a9 ⟨I, n, hI, hb⟩
  have key : ∀ (N m : Nat) (a1 : A1) (a2 : A2) (a3 : A3) (a4 : A4) (a5 : A5) (a6 : A6) (a7 : A7) (a8 : A8) (a9 : A9), m < N → I m a1 a2 a3 a4 a5 a6 a7 a8 a9 → G a1 a2 a3 a4 a5 a6 a7 a8 a9 := by
    intro N
    induction N with
    | zero => intro m a1 a2 a3 a4 a5 a6 a7 a8 a9 h; exact absurd h (Nat.not_lt_zero _)
    | succ N ih =>
      intro m a1 a2 a3 a4 a5 a6 a7 a8 a9 hm hIa
      refine h _ a1 a2 a3 a4 a5 a6 a7 a8 a9 (fun b1 b2 b3 b4 b5 b6 b7 b8 b9 hb2 => ?_) (hb m a1 a2 a3 a4 a5 a6 a7 a8 a9 hIa)
      obtain ⟨k, hk, hI2⟩ := hb2
      exact ih k b1 b2 b3 b4 b5 b6 b7 b8 b9 (by omega) hI2
  exact key (n + 1) n a1 a2 a3 a4 a5 a6 a7 a8 a9 (Nat.lt_succ_self _) hI
theorem lpW9_for {A1 A2 A3 A4 A5 A6 A7 A8 A9 : Type} {body : (A1 → A2 → A3 → A4 → A5 → A6 → A7 → A8 → A9 → Prop) → A1 → A2 → A3 → A4 → A5 → A6 → A7 → A8 → A9 → Prop} (s1 : Nat → A1) (s2 : Nat → A2) (s3 : Nat → A3) (s4 : Nat → A4) (s5 : Nat → A5) (s6 : Nat → A6) (s7 : Nat → A7) (s8 : Nat → A8) (s9 : Nat → A9) (n : Nat) (hs : ∀ (k : Nat), k < n → ∀ K : A1 → A2 → A3 → A4 → A5 → A6 → A7 → A8 → A9 → Prop, K (s1 (k + 1)) (s2 (k + 1)) (s3 (k + 1)) (s4 (k + 1)) (s5 (k + 1)) (s6 (k + 1)) (s7 (k + 1)) (s8 (k + 1)) (s9 (k + 1)) → body K (s1 k) (s2 k) (s3 k) (s4 k) (s5 k) (s6 k) (s7 k) (s8 k) (s9 k)) (he : ∀ K : A1 → A2 → A3 → A4 → A5 → A6 → A7 → A8 → A9 → Prop, body K (s1 n) (s2 n) (s3 n) (s4 n) (s5 n) (s6 n) (s7 n) (s8 n) (s9 n)) : lpW9 body (s1 0) (s2 0) (s3 0) (s4 0) (s5 0) (s6 0) (s7 0) (s8 0) (s9 0) := by
  refine ⟨fun m b1 b2 b3 b4 b5 b6 b7 b8 b9 => ∃ k, k + m = n ∧ b1 = s1 k ∧ b2 = s2 k ∧ b3 = s3 k ∧ b4 = s4 k ∧ b5 = s5 k ∧ b6 = s6 k ∧ b7 = s7 k ∧ b8 = s8 k ∧ b9 = s9 k, n, ⟨0, Nat.zero_add n, rfl, rfl, rfl, rfl, rfl, rfl, rfl, rfl, rfl⟩, ?_⟩
  rintro m b1 b2 b3 b4 b5 b6 b7 b8 b9 ⟨k, hk, rfl, rfl, rfl, rfl, rfl, rfl, rfl, rfl, rfl⟩
  rcases Nat.eq_zero_or_pos m with rfl | h0
  · have e : k = n := by omega
    subst e
    exact he _
  · exact hs k (by omega) _ ⟨m - 1, by omega, k + 1, by omega, rfl, rfl, rfl, rfl, rfl, rfl, rfl, rfl, rfl⟩
theorem lpW9_inv {A1 A2 A3 A4 A5 A6 A7 A8 A9 : Type} {body : (A1 → A2 → A3 → A4 → A5 → A6 → A7 → A8 → A9 → Prop) → A1 → A2 → A3 → A4 → A5 → A6 → A7 → A8 → A9 → Prop} (I : A1 → A2 → A3 → A4 → A5 → A6 → A7 → A8 → A9 → Prop) (μ : A1 → A2 → A3 → A4 → A5 → A6 → A7 → A8 → A9 → Nat) (hb : ∀ (b1 : A1) (b2 : A2) (b3 : A3) (b4 : A4) (b5 : A5) (b6 : A6) (b7 : A7) (b8 : A8) (b9 : A9), I b1 b2 b3 b4 b5 b6 b7 b8 b9 → body (fun c1 c2 c3 c4 c5 c6 c7 c8 c9 => ∃ k, k < μ b1 b2 b3 b4 b5 b6 b7 b8 b9 ∧ (I c1 c2 c3 c4 c5 c6 c7 c8 c9 ∧ μ c1 c2 c3 c4 c5 c6 c7 c8 c9 = k)) b1 b2 b3 b4 b5 b6 b7 b8 b9) (a1 : A1) (a2 : A2) (a3 : A3) (a4 : A4) (a5 : A5) (a6 : A6) (a7 : A7) (a8 : A8) (a9 : A9) (hI : I a1 a2 a3 a4 a5 a6 a7 a8 a9) : lpW9 body a1 a2 a3 a4 a5 a6 a7 a8 a9 :=
  ⟨fun m b1 b2 b3 b4 b5 b6 b7 b8 b9 => I b1 b2 b3 b4 b5 b6 b7 b8 b9 ∧ μ b1 b2 b3 b4 b5 b6 b7 b8 b9 = m, μ a1 a2 a3 a4 a5 a6 a7 a8 a9, ⟨hI, rfl⟩, fun m b1 b2 b3 b4 b5 b6 b7 b8 b9 h => by obtain ⟨h1, rfl⟩ := h; exact hb b1 b2 b3 b4 b5 b6 b7 b8 b9 h1⟩
def lpW10 {A1 A2 A3 A4 A5 A6 A7 A8 A9 A10 : Type} (body : (A1 → A2 → A3 → A4 → A5 → A6 → A7 → A8 → A9 → A10 → Prop) → A1 → A2 → A3 → A4 → A5 → A6 → A7 → A8 → A9 → A10 → Prop) (a1 : A1) (a2 : A2) (a3 : A3) (a4 : A4) (a5 : A5) (a6 : A6) (a7 : A7) (a8 : A8) (a9 : A9) (a10 : A10) : Prop := ∃ (I : Nat → A1 → A2 → A3 → A4 → A5 → A6 → A7 → A8 → A9 → A10 → Prop) (n : Nat), I n a1 a2 a3 a4 a5 a6 a7 a8 a9 a10 ∧ ∀ (m : Nat) (b1 : A1) (b2 : A2) (b3 : A3) (b4 : A4) (b5 : A5) (b6 : A6) (b7 : A7) (b8 : A8) (b9 : A9) (b10 : A10), I m b1 b2 b3 b4 b5 b6 b7 b8 b9 b10 → body (fun c1 c2 c3 c4 c5 c6 c7 c8 c9 c10 => ∃ k, k < m ∧ I k c1 c2 c3 c4 c5 c6 c7 c8 c9 c10) b1 b2 b3 b4 b5 b6 b7 b8 b9 b10
theorem lpW10_ind {A1 A2 A3 A4 A5 A6 A7 A8 A9 A10 : Type} {body : (A1 → A2 → A3 → A4 → A5 → A6 → A7 → A8 → A9 → A10 → Prop) → A1 → A2 → A3 → A4 → A5 → A6 → A7 → A8 → A9 → A10 → Prop} {G : A1 → A2 → A3 → A4 → A5 → A6 → A7 → A8 → A9 → A10 → Prop} (h : ∀ (K : A1 → A2 → A3 → A4 → A5 → A6 → A7 → A8 → A9 → A10 → Prop) (a1 : A1) (a2 : A2) (a3 : A3) (a4 : A4) (a5 : A5) (a6 : A6) (a7 : A7) (a8 : A8) (a9 : A9) (a10 : A10), (∀ (b1 : A1) (b2 : A2) (b3 : A3) (b4 : A4) (b5 : A5) (b6 : A6) (b7 : A7) (b8 : A8) (b9 : A9) (b10 : A10), K b1 b2 b3 b4 b5 b6 b7 b8 b9 b10 → G b1 b2 b3 b4 b5 b6 b7 b8 b9 b10) → body K a1 a2 a3 a4 a5 a6 a7 a8 a9 a10 → G a1 a2 a3 a4 a5 a6 a7 a8 a9 a10) : ∀ (a1 : A1) (a2 : A2) (a3 : A3) (a4 : A4) (a5 : A5) (a6 : A6) (a7 : A7) (a8 : A8) (a9 : A9) (a10 : A10), lpW10 body a1 a2 a3 a4 a5 a6 a7 a8 a9 a10 → G a1 a2 a3 a4 a5 a6 a7 a8 a9 a10 := by
  rintro a1 a2 a3 a4 a5 a6 a7 a8 a9 a10 ⟨I, n, hI, hb⟩
  have key : ∀ (N m : Nat) (a1 : A1) (a2 : A2) (a3 : A3) (a4 : A4) (a5 : A5) (a6 : A6) (a7 : A7) (a8 : A8) (a9 : A9) (a10 : A10), m < N → I m a1 a2 a3 a4 a5 a6 a7 a8 a9 a10 → G a1 a2 a3 a4 a5 a6 a7 a8 a9 a10 := by
    intro N
    induction N with
    | zero => intro m a1 a2 a3 a4 a5 a6 a7 a8 a9 a10 h; exact absurd h (Nat.not_lt_zero _)
    | succ N ih =>
      intro m a1 a2 a3 a4 a5 a6 a7 a8 a9 a10 hm hIa
      refine h _ a1 a2 a3 a4 a5 a6 a7 a8 a9 a10 (fun b1 b2 b3 b4 b5 b6 b7 b8 b9 b10 hb2 => ?_) (hb m a1 a2 a3 a4 a5 a6 a7 a8 a9 a10 hIa)
      obtain ⟨k, hk, hI2⟩ := hb2
      exact ih k b1 b2 b3 b4 b5 b6 b7 b8 b9 b10 (by omega) hI2
  exact key (n + 1) n a1 a2 a3 a4 a5 a6 a7 a8 a9 a10 (Nat.lt_succ_self _) hI
theorem lpW10_for {A1 A2 A3 A4 A5 A6 A7 A8 A9 A10 : Type} {body : (A1 → A2 → A3 → A4 → A5 → A6 → A7 → A8 → A9 → A10 → Prop) → A1 → A2 → A3 → A4 → A5 → A6 → A7 → A8 → A9 → A10 → Prop} (s1 : Nat → A1) (s2 : Nat → A2) (s3 : Nat → A3) (s4 : Nat → A4) (s5 : Nat → A5) (s6 : Nat → A6) (s7 : Nat → A7) (s8 : Nat → A8) (s9 : Nat → A9) (s10 : Nat → A10) (n : Nat) (hs : ∀ (k : Nat), k < n → ∀ K : A1 → A2 → A3 → A4 → A5 → A6 → A7 → A8 → A9 → A10 → Prop, K (s1 (k + 1)) (s2 (k + 1)) (s3 (k + 1)) (s4 (k + 1)) (s5 (k + 1)) (s6 (k + 1)) (s7 (k + 1)) (s8 (k + 1)) (s9 (k + 1)) (s10 (k + 1)) → body K (s1 k) (s2 k) (s3 k) (s4 k) (s5 k) (s6 k) (s7 k) (s8 k) (s9 k) (s10 k)) (he : ∀ K : A1 → A2 → A3 → A4 → A5 → A6 → A7 → A8 → A9 → A10 → Prop, body K (s1 n) (s2 n) (s3 n) (s4 n) (s5 n) (s6 n) (s7 n) (s8 n) (s9 n) (s10 n)) : lpW10 body (s1 0) (s2 0) (s3 0) (s4 0) (s5 0) (s6 0) (s7 0) (s8 0) (s9 0) (s10 0) := by
  refine ⟨fun m b1 b2 b3 b4 b5 b6 b7 b8 b9 b10 => ∃ k, k + m = n ∧ b1 = s1 k ∧ b2 = s2 k ∧ b3 = s3 k ∧ b4 = s4 k ∧ b5 = s5 k ∧ b6 = s6 k ∧ b7 = s7 k ∧ b8 = s8 k ∧ b9 = s9 k ∧ b10 = s10 k, n, ⟨0, Nat.zero_add n, rfl, rfl, rfl, rfl, rfl, rfl, rfl, rfl, rfl, rfl⟩, ?_⟩
  rintro m b1 b2 b3 b4 b5 b6 b7 b8 b9 b10 ⟨k, hk, rfl, rfl, rfl, rfl, rfl, rfl, rfl, rfl, rfl, rfl⟩
  rcases Nat.eq_zero_or_pos m with rfl | h0
  · have e : k = n := by omega
    subst e
    exact he _
  · exact hs k (by omega) _ ⟨m - 1, by omega, k + 1, by omega, rfl, rfl, rfl, rfl, rfl, rfl, rfl, rfl, rfl, rfl⟩
theorem lpW10_inv {A1 A2 A3 A4 A5 A6 A7 A8 A9 A10 : Type} {body : (A1 → A2 → A3 → A4 → A5 → A6 → A7 → A8 → A9 → A10 → Prop) → A1 → A2 → A3 → A4 → A5 → A6 → A7 → A8 → A9 → A10 → Prop} (I : A1 → A2 → A3 → A4 → A5 → A6 → A7 → A8 → A9 → A10 → Prop) (μ : A1 → A2 → A3 → A4 → A5 → A6 → A7 → A8 → A9 → A10 → Nat) (hb : ∀ (b1 : A1) (b2 : A2) (b3 : A3) (b4 : A4) (b5 : A5) (b6 : A6) (b7 : A7) (b8 : A8) (b9 : A9) (b10 : A10), I b1 b2 b3 b4 b5 b6 b7 b8 b9 b10 → body (fun c1 c2 c3 c4 c5 c6 c7 c8 c9 c10 => ∃ k, k < μ b1 b2 b3 b4 b5 b6 b7 b8 b9 b10 ∧ (I c1 c2 c3 c4 c5 c6 c7 c8 c9 c10 ∧ μ c1 c2 c3 c4 c5 c6 c7 c8 c9 c10 = k)) b1 b2 b3 b4 b5 b6 b7 b8 b9 b10) (a1 : A1) (a2 : A2) (a3 : A3) (a4 : A4) (a5 : A5) (a6 : A6) (a7 : A7) (a8 : A8) (a9 : A9) (a10 : A10) (hI : I a1 a2 a3 a4 a5 a6 a7 a8 a9 a10) : lpW10 body a1 a2 a3 a4 a5 a6 a7 a8 a9 a10 :=
  ⟨fun m b1 b2 b3 b4 b5 b6 b7 b8 b9 b10 => I b1 b2 b3 b4 b5 b6 b7 b8 b9 b10 ∧ μ b1 b2 b3 b4 b5 b6 b7 b8 b9 b10 = m, μ a1 a2 a3 a4 a5 a6 a7 a8 a9 a10, ⟨hI, rfl⟩, fun m b1 b2 b3 b4 b5 b6 b7 b8 b9 b10 h => by obtain ⟨h1, rfl⟩ := h; exact hb b1 b2 b3 b4 b5 b6 b7 b8 b9 b10 h1⟩
def lpW11 {A1 A2 A3 A4 A5 A6 A7 A8 A9 A10 A11 : Type} (body : (A1 → A2 → A3 → A4 → A5 → A6 → A7 → A8 → A9 → A10 → A11 → Prop) → A1 → A2 → A3 → A4 → A5 → A6 → A7 → A8 → A9 → A10 → A11 → Prop) (a1 : A1) (a2 : A2) (a3 : A3) (a4 : A4) (a5 : A5) (a6 : A6) (a7 : A7) (a8 : A8) (a9 : A9) (a10 : A10) (a11 : A11) : Prop := ∃ (I : Nat → A1 → A2 → A3 → A4 → A5 → A6 → A7 → A8 → A9 → A10 → A11 → Prop) (n : Nat), I n a1 a2 a3 a4 a5 a6 a7 a8 a9 a10 a11 ∧ ∀ (m : Nat) (b1 : A1) (b2 : A2) (b3 : A3) (b4 : A4) (b5 : A5) (b6 : A6) (b7 : A7) (b8 : A8) (b9 : A9) (b10 : A10) (b11 : A11), I m b1 b2 b3 b4 b5 b6 b7 b8 b9 b10 b11 → body (fun c1 c2 c3 c4 c5 c6 c7 c8 c9 c10 c11 => ∃ k, k < m ∧ I k c1 c2 c3 c4 c5 c6 c7 c8 c9 c10 c11) b1 b2 b3 b4 b5 b6 b7 b8 b9 b10 b11
theorem lpW11_ind {A1 A2 A3 A4 A5 A6 A7 A8 A9 A10 A11 : Type} {body : (A1 → A2 → A3 → A4 → A5 → A6 → A7 → A8 → A9 → A10 → A11 → Prop) → A1 → A2 → A3 → A4 → A5 → A6 → A7 → A8 → A9 → A10 → A11 → Prop} {G : A1 → A2 → A3 → A4 → A5 → A6 → A7 → A8 → A9 → A10 → A11 → Prop} (h : ∀ (K : A1 → A2 → A3 → A4 → A5 → A6 → A7 → A8 → A9 → A10 → A11 → Prop) (a1 : A1) (a2 : A2) (a3 : A3) (a4 : A4) (a5 : A5) (a6 : A6) (a7 : A7) (a8 : A8) (a9 : A9) (a10 : A10) (a11 : A11), (∀ (b1 : A1) (b2 : A2) (b3 : A3) (b4 : A4) (b5 : A5) (b6 : A6) (b7 : A7) (b8 : A8) (b9 : A9) (b10 : A10) (b11 : A11), K b1 b2 b3 b4 b5 b6 b7 b8 b9 b10 b11 → G b1 b2 b3 b4 b5 b6 b7 b8 b9 b10 b11) → body K a1 a2 a3 a4 a5 a6 a7 a8 a9 a10 a11 → G a1 a2 a3 a4 a5 a6 a7 a8 a9 a10 a11) : ∀ (a1 : A1) (a2 : A2) (a3 : A3) (a4 : A4) (a5 : A5) (a6 : A6) (a7 : A7) (a8 : A8) (a9 : A9) (a10 : A10) (a11 : A11), lpW11 body a1 a2 a3 a4 a5 a6 a7 a8 a9 a10 a11 → G a1 a2 a3 a4 a5 a6 a7 a8 a9 a10 a11 := by
  rintro a1 a2 a3 a4 a5 a6 a7 a8 a9 a10 a11 ⟨I, n, hI, hb⟩
  have key : ∀ (N m : Nat) (a1 : A1) (a2 : A2) (a3 : A3) (a4 : A4) (a5 : A5) (a6 : A6) (a7 : A7) (a8 : A8) (a9 : A9) (a10 : A10) (a11 : A11), m < N → I m a1 a2 a3 a4 a5 a6 a7 a8 a9 a10 a11 → G a1 a2 a3 a4 a5 a6 a7 a8 a9 a10 a11 := by
    intro N
    induction N with
    | zero => intro m a1 a2 a3 a4 a5 a6 a7 a8 a9 a10 a11 h; exact absurd h (Nat.not_lt_zero _)
    | succ N ih =>
      intro m a1 a2 a3 a4 a5 a6 a7 a8 a9 a10 a11 hm hIa
      refine h _ a1 a2 a3 a4 a5 a6 a7 a8 a9 a10 a11 (fun b1 b2 b3 b4 b5 b6 b7 b8 b9 b10 b11 hb2 => ?_) (hb m a1 a2 a3 a4 a5 a6 a7 a8 a9 a10 a11 hIa)
      obtain ⟨k, hk, hI2⟩ := hb2
      exact ih k b1 b2 b3 b4 b5 b6 b7 b8 b9 b10 b11 (by omega) hI2
  exact key (n + 1) n a1 a2 a3 a4 a5 a6 a7 a8 a9 a10 a11 (Nat.lt_succ_self _) hI
theorem lpW11_for {A1 A2 A3 A4 A5 A6 A7 A8 A9 A10 A11 : Type} {body : (A1 → A2 → A3 → A4 → A5 → A6 → A7 → A8 → A9 → A10 → A11 → Prop) → A1 → A2 → A3 → A4 → A5 → A6 → A7 → A8 → A9 → A10 → A11 → Prop} (s1 : Nat → A1) (s2 : Nat → A2) (s3 : Nat → A3) (s4 : Nat → A4) (s5 : Nat → A5) (s6 : Nat → A6) (s7 : Nat → A7) (s8 : Nat → A8) (s9 : Nat → A9) (s10 : Nat → A10) (s11 : Nat → A11) (n : Nat) (hs : ∀ (k : Nat), k < n → ∀ K : A1 → A2 → A3 → A4 → A5 → A6 → A7 → A8 → A9 → A10 → A11 → Prop, K (s1 (k + 1)) (s2 (k + 1)) (s3 (k + 1)) (s4 (k + 1)) (s5 (k + 1)) (s6 (k + 1)) (s7 (k + 1)) (s8 (k + 1)) (s9 (k + 1)) (s10 (k + 1)) (s11 (k + 1)) → body K (s1 k) (s2 k) (s3 k) (s4 k) (s5 k) (s6 k) (s7 k) (s8 k) (s9 k) (s10 k) (s11 k)) (he : ∀ K : A1 → A2 → A3 → A4 → A5 → A6 → A7 → A8 → A9 → A10 → A11 → Prop, body K (s1 n) (s2 n) (s3 n) (s4 n) (s5 n) (s6 n) (s7 n) (s8 n) (s9 n) (s10 n) (s11 n)) : lpW11 body (s1 0) (s2 0) (s3 0) (s4 0) (s5 0) (s6 0) (s7 0) (s8 0) (s9 0) (s10 0) (s11 0) := by
  refine ⟨fun m b1 b2 b3 b4 b5 b6 b7 b8 b9 b10 b11 => ∃ k, k + m = n ∧ b1 = s1 k ∧ b2 = s2 k ∧ b3 = s3 k ∧ b4 = s4 k ∧ b5 = s5 k ∧ b6 = s6 k ∧ b7 = s7 k ∧ b8 = s8 k ∧ b9 = s9 k ∧ b10 = s10 k ∧ b11 = s11 k, n, ⟨0, Nat.zero_add n, rfl, rfl, rfl, rfl, rfl, rfl, rfl, rfl, rfl, rfl, rfl⟩, ?_⟩
  rintro m b1 b2 b3 b4 b5 b6 b7 b8 b9 b10 b11 ⟨k, hk, rfl, rfl, rfl, rfl, rfl, rfl, rfl, rfl, rfl, rfl, rfl⟩
  rcases Nat.eq_zero_or_pos m with rfl | h0
  · have e : k = n := by omega
    subst e
    exact he _
  · exact hs k (by omega) _ ⟨m - 1, by omega, k + 1, by omega, rfl, rfl, rfl, rfl, rfl, rfl, rfl, rfl, rfl, rfl, rfl⟩
theorem lpW11_inv {A1 A2 A3 A4 A5 A6 A7 A8 A9 A10 A11 : Type} {body : (A1 → A2 → A3 → A4 → A5 → A6 → A7 → A8 → A9 → A10 → A11 → Prop) → A1 → A2 → A3 → A4 → A5 → A6 → A7 → A8 → A9 → A10 → A11 → Prop} (I : A1 → A2 → A3 → A4 → A5 → A6 → A7 → A8 → A9 → A10 → A11 → Prop) (μ : A1 → A2 → A3 → A4 → A5 → A6 → A7 → A8 → A9 → A10 → A11 → Nat) (hb : ∀ (b1 : A1) (b2 : A2) (b3 : A3) (b4 : A4) (b5 : A5) (b6 : A6) (b7 : A7) (b8 : A8) (b9 : A9) (b10 : A10) (b11 : A11), I b1 b2 b3 b4 b5 b6 b7 b8 b9 b10 b11 → body (fun c1 c2 c3 c4 c5 c6 c7 c8 c9 c10 c11 => ∃ k, k < μ b1 b2 b3 b4 b5 b6 b7 b8 b9 b10 b11 ∧ (I c1 c2 c3 c4 c5 c6 c7 c8 c9 c10 c11 ∧ μ c1 c2 c3 c4 c5 c6 c7 c8 c9 c10 c11 = k)) b1 b2 b3 b4 b5 b6 b7 b8 b9 b10 b11) (a1 : A1) (a2 : A2) (a3 : A3) (a4 : A4) (a5 : A5) (a6 : A6) (a7 : A7) (a8 : A8) (a9 : A9) (a10 : A10) (a11 : A11) (hI : I a1 a2 a3 a4 a5 a6 a7 a8 a9 a10 a11) : lpW11 body a1 a2 a3 a4 a5 a6 a7 a8 a9 a10 a11 :=
  ⟨fun m b1 b2 b3 b4 b5 b6 b7 b8 b9 b10 b11 => I b1 b2 b3 b4 b5 b6 b7 b8 b9 b10 b11 ∧ μ b1 b2 b3 b4 b5 b6 b7 b8 b9 b10 b11 = m, μ a1 a2 a3 a4 a5 a6 a7 a8 a9 a10 a11, ⟨hI, rfl⟩, fun m b1 b2 b3 b4 b5 b6 b7 b8 b9 b10 b11 h => by obtain ⟨h1, rfl⟩ := h; exact hb b1 b2 b3 b4 b5 b6 b7 b8 b9 b10 b11 h1⟩
def lpW12 {A1 A2 A3 A4 A5 A6 A7 A8 A9 A10 A11 A12 : Type} (body : (A1 → A2 → A3 → A4 → A5 → A6 → A7 → A8 → A9 → A10 → A11 → A12 → Prop) → A1 → A2 → A3 → A4 → A5 → A6 → A7 → A8 → A9 → A10 → A11 → A12 → Prop) (a1 : A1) (a2 : A2) (a3 : A3) (a4 : A4) (a5 : A5) (a6 : A6) (a7 : A7) (a8 : A8) (a9 : A9) (a10 : A10) (a11 : A11) (a12 : A12) : Prop := ∃ (I : Nat → A1 → A2 → A3 → A4 → A5 → A6 → A7 → A8 → A9 → A10 → A11 → A12 → Prop) (n : Nat), I n a1 a2 a3 a4 a5 a6 a7 a8 a9 a10 a11 a12 ∧ ∀ (m : Nat) (b1 : A1) (b2 : A2) (b3 : A3) (b4 : A4) (b5 : A5) (b6 : A6) (b7 : A7) (b8 : A8) (b9 : A9) (b10 : A10) (b11 : A11) (b12 : A12), I m b1 b2 b3 b4 b5 b6 b7 b8 b9 b10 b11 b12 → body (fun c1 c2 c3 c4 c5 c6 c7 c8 c9 c10 c11 c12 => ∃ k, k < m ∧ I k c1 c2 c3 c4 c5 c6 c7 c8 c9 c10 c11 c12) b1 b2 b3 b4 b5 b6 b7 b8 b9 b10 b11 b12
theorem lpW12_ind {A1 A2 A3 A4 A5 A6 A7 A8 A9 A10 A11 A12 : Type} {body : (A1 → A2 → A3 → A4 → A5 → A6 → A7 → A8 → A9 → A10 → A11 → A12 → Prop) → A1 → A2 → A3 → A4 → A5 → A6 → A7 → A8 → A9 → A10 → A11 → A12 → Prop} {G : A1 → A2 → A3 → A4 → A5 → A6 → A7 → A8 → A9 → A10 → A11 → A12 → Prop} (h : ∀ (K : A1 → A2 → A3 → A4 → A5 → A6 → A7 → A8 → A9 → A10 → A11 → A12 → Prop) (a1 : A1) (a2 : A2) (a3 : A3) (a4 : A4) (a5 : A5) (a6 : A6) (a7 : A7) (a8 : A8) (a9 : A9) (a10 : A10) (a11 : A11) (a12 : A12), (∀ (b1 : A1) (b2 : A2) (b3 : A3) (b4 : A4) (b5 : A5) (b6 : A6) (b7 : A7) (b8 : A8) (b9 : A9) (b10 : A10) (b11 : A11) (b12 : A12), K b1 b2 b3 b4 b5 b6 b7 b8 b9 b10 b11 b12 → G b1 b2 b3 b4 b5 b6 b7 b8 b9 b10 b11 b12) → body K a1 a2 a3 a4 a5 a6 a7 a8 a9 a10 a11 a12 → G a1 a2 a3 a4 a5 a6 a7 a8 a9 a10 a11 a12) : ∀ (a1 : A1) (a2 : A2) (a3 : A3) (a4 : A4) (a5 : A5) (a6 : A6) (a7 : A7) (a8 : A8) (a9 : A9) (a10 : A10) (a11 : A11) (a12 : A12), lpW12 body a1 a2 a3 a4 a5 a6 a7 a8 a9 a10 a11 a12 → G a1 a2 a3 a4 a5 a6 a7 a8 a9 a10 a11 a12 := by
  rintro a1 a2 a3 a4 a5 a6 a7 a8 a9 a10 a11 a12 ⟨I, n, hI, hb⟩
  have key : ∀ (N m : Nat) (a1 : A1) (a2 : A2) (a3 : A3) (a4 : A4) (a5 : A5) (a6 : A6) (a7 : A7) (a8 : A8) (a9 : A9) (a10 : A10) (a11 : A11) (a12 : A12), m < N → I m a1 a2 a3 a4 a5 a6 a7 a8 a9 a10 a11 a12 → G a1 a2 a3 a4 a5 a6 a7 a8 a9 a10 a11 a12 := by
    intro N
    induction N with
    | zero => intro m a1 a2 a3 a4 a5 a6 a7 a8 a9 a10 a11 a12 h; exact absurd h (Nat.not_lt_zero _)
    | succ N ih =>
      intro m a1 a2 a3 a4 a5 a6 a7 a8 a9 a10 a11 a12 hm hIa
      refine h _ a1 a2 a3 a4 a5 a6 a7 a8 a9 a10 a11 a12 (fun b1 b2 b3 b4 b5 b6 b7 b8 b9 b10 b11 b12 hb2 => ?_) (hb m a1 a2 a3 a4 a5 a6 a7 a8 a9 a10 a11 a12 hIa)
      obtain ⟨k, hk, hI2⟩ := hb2
      exact ih k b1 b2 b3 b4 b5 b6 b7 b8 b9 b10 b11 b12 (by omega) hI2
  exact key (n + 1) n a1 a2 a3 a4 a5 a6 a7 a8 a9 a10 a11 a12 (Nat.lt_succ_self _) hI
theorem lpW12_for {A1 A2 A3 A4 A5 A6 A7 A8 A9 A10 A11 A12 : Type} {body : (A1 → A2 → A3 → A4 → A5 → A6 → A7 → A8 → A9 → A10 → A11 → A12 → Prop) → A1 → A2 → A3 → A4 → A5 → A6 → A7 → A8 → A9 → A10 → A11 → A12 → Prop} (s1 : Nat → A1) (s2 : Nat → A2) (s3 : Nat → A3) (s4 : Nat → A4) (s5 : Nat → A5) (s6 : Nat → A6) (s7 : Nat → A7) (s8 : Nat → A8) (s9 : Nat → A9) (s10 : Nat → A10) (s11 : Nat → A11) (s12 : Nat → A12) (n : Nat) (hs : ∀ (k : Nat), k < n → ∀ K : A1 → A2 → A3 → A4 → A5 → A6 → A7 → A8 → A9 → A10 → A11 → A12 → Prop, K (s1 (k + 1)) (s2 (k + 1)) (s3 (k + 1)) (s4 (k + 1)) (s5 (k + 1)) (s6 (k + 1)) (s7 (k + 1)) (s8 (k + 1)) (s9 (k + 1)) (s10 (k + 1)) (s11 (k + 1)) (s12 (k + 1)) → body K (s1 k) (s2 k) (s3 k) (s4 k) (s5 k) (s6 k) (s7 k) (s8 k) (s9 k) (s10 k) (s11 k) (s12 k)) (he : ∀ K : A1 → A2 → A3 → A4 → A5 → A6 → A7 → A8 → A9 → A10 → A11 → A12 → Prop, body K (s1 n) (s2 n) (s3 n) (s4 n) (s5 n) (s6 n) (s7 n) (s8 n) (s9 n) (s10 n) (s11 n) (s12 n)) : lpW12 body (s1 0) (s2 0) (s3 0) (s4 0) (s5 0) (s6 0) (s7 0) (s8 0) (s9 0) (s10 0) (s11 0) (s12 0) := by
  refine ⟨fun m b1 b2 b3 b4 b5 b6 b7 b8 b9 b10 b11 b12 => ∃ k, k + m = n ∧ b1 = s1 k ∧ b2 = s2 k ∧ b3 = s3 k ∧ b4 = s4 k ∧ b5 = s5 k ∧ b6 = s6 k ∧ b7 = s7 k ∧ b8 = s8 k ∧ b9 = s9 k ∧ b10 = s10 k ∧ b11 = s11 k ∧ b12 = s12 k, n, ⟨0, Nat.zero_add n, rfl, rfl, rfl, rfl, rfl, rfl, rfl, rfl, rfl, rfl, rfl, rfl⟩, ?_⟩
  rintro m b1 b2 b3 b4 b5 b6 b7 b8 b9 b10 b11 b12 ⟨k, hk, rfl, rfl, rfl, rfl, rfl, rfl, rfl, rfl, rfl, rfl, rfl, rfl⟩
  rcases Nat.eq_zero_or_pos m with rfl | h0
  · have e : k = n := by omega
    subst e
    exact he _
  · exact hs k (by omega) _ ⟨m - 1, by omega, k + 1, by omega, rfl, rfl, rfl, rfl, rfl, rfl, rfl, rfl, rfl, rfl, rfl, rfl⟩
theorem lpW12_inv {A1 A2 A3 A4 A5 A6 A7 A8 A9 A10 A11 A12 : Type} {body : (A1 → A2 → A3 → A4 → A5 → A6 → A7 → A8 → A9 → A10 → A11 → A12 → Prop) → A1 → A2 → A3 → A4 → A5 → A6 → A7 → A8 → A9 → A10 → A11 → A12 → Prop} (I : A1 → A2 → A3 → A4 → A5 → A6 → A7 → A8 → A9 → A10 → A11 → A12 → Prop) (μ : A1 → A2 → A3 → A4 → A5 → A6 → A7 → A8 → A9 → A10 → A11 → A12 → Nat) (hb : ∀ (b1 : A1) (b2 : A2) (b3 : A3) (b4 : A4) (b5 : A5) (b6 : A6) (b7 : A7) (b8 : A8) (b9 : A9) (b10 : A10) (b11 : A11) (b12 : A12), I b1 b2 b3 b4 b5 b6 b7 b8 b9 b10 b11 b12 → body (fun c1 c2 c3 c4 c5 c6 c7 c8 c9 c10 c11 c12 => ∃ k, k < μ b1 b2 b3 b4 b5 b6 b7 b8 b9 b10 b11 b12 ∧ (I c1 c2 c3 c4 c5 c6 c7 c8 c9 c10 c11 c12 ∧ μ c1 c2 c3 c4 c5 c6 c7 c8 c9 c10 c11 c12 = k)) b1 b2 b3 b4 b5 b6 b7 b8 b9 b10 b11 b12) (a1 : A1) (a2 : A2) (a3 : A3) (a4 : A4) (a5 : A5) (a6 : A6) (a7 : A7) (a8 : A8) (a9 : A9) (a10 : A10) (a11 : A11) (a12 : A12) (hI : I a1 a2 a3 a4 a5 a6 a7 a8 a9 a10 a11 a12) : lpW12 body a1 a2 a3 a4 a5 a6 a7 a8 a9 a10 a11 a12 :=
  ⟨fun m b1 b2 b3 b4 b5 b6 b7 b8 b9 b10 b11 b12 => I b1 b2 b3 b4 b5 b6 b7 b8 b9 b10 b11 b12 ∧ μ b1 b2 b3 b4 b5 b6 b7 b8 b9 b10 b11 b12 = m, μ a1 a2 a3 a4 a5 a6 a7 a8 a9 a10 a11 a12, ⟨hI, rfl⟩, fun m b1 b2 b3 b4 b5 b6 b7 b8 b9 b10 b11 b12 h => by obtain ⟨h1, rfl⟩ := h; exact hb b1 b2 b3 b4 b5 b6 b7 b8 b9 b10 b11 b12 h1⟩
def lpW13 {A1 A2 A3 A4 A5 A6 A7 A8 A9 A10 A11 A12 A13 : Type} (body : (A1 → A2 → A3 → A4 → A5 → A6 → A7 → A8 → A9 → A10 → A11 → A12 → A13 → Prop) → A1 → A2 → A3 → A4 → A5 → A6 → A7 → A8 → A9 → A10 → A11 → A12 → A13 → Prop) (a1 : A1) (a2 : A2) (a3 : A3) (a4 : A4) (a5 : A5) (a6 : A6) (a7 : A7) (a8 : A8) (a9 : A9) (a10 : A10) (a11 : A11) (a12 : A12) (a13 : A13) : Prop := ∃ (I : Nat → A1 → A2 → A3 → A4 → A5 → A6 → A7 → A8 → A9 → A10 → A11 → A12 → A13 → Prop) (n : Nat), I n a1 a2 a3 a4 a5 a6 a7 a8 a9 a10 a11 a12 a13 ∧ ∀ (m : Nat) (b1 : A1) (b2 : A2) (b3 : A3) (b4 : A4) (b5 : A5) (b6 : A6) (b7 : A7) (b8 : A8) (b9 : A9) (b10 : A10) (b11 : A11) (b12 : A12) (b13 : A13), I m b1 b2 b3 b4 b5 b6 b7 b8 b9 b10 b11 b12 b13 → body (fun c1 c2 c3 c4 c5 c6 c7 c8 c9 c10 c11 c12 c13 => ∃ k, k < m ∧ I k c1 c2 c3 c4 c5 c6 c7 c8 c9 c10 c11 c12 c13) b1 b2 b3 b4 b5 b6 b7 b8 b9 b10 b11 b12 b13
theorem lpW13_ind {A1 A2 A3 A4 A5 A6 A7 A8 A9 A10 A11 A12 A13 : Type} {body : (A1 → A2 → A3 → A4 → A5 → A6 → A7 → A8 → A9 → A10 → A11 → A12 → A13 → Prop) → A1 → A2 → A3 → A4 → A5 → A6 → A7 → A8 → A9 → A10 → A11 → A12 → A13 → Prop} {G : A1 → A2 → A3 → A4 → A5 → A6 → A7 → A8 → A9 → A10 → A11 → A12 → A13 → Prop} (h : ∀ (K : A1 → A2 → A3 → A4 → A5 → A6 → A7 → A8 → A9 → A10 → A11 → A12 → A13 → Prop) (a1 : A1) (a2 : A2) (a3 : A3) (a4 : A4) (a5 : A5) (a6 : A6) (a7 : A7) (a8 : A8) (a9 : A9) (a10 : A10) (a11 : A11) (a12 : A12) (a13 : A13), (∀ (b1 : A1) (b2 : A2) (b3 : A3) (b4 : A4) (b5 : A5) (b6 : A6) (b7 : A7) (b8 : A8) (b9 : A9) (b10 : A10) (b11 : A11) (b12 : A12) (b13 : A13), K b1 b2 b3 b4 b5 b6 b7 b8 b9 b10 b11 b12 b13 → G b1 b2 b3 b4 b5 b6 b7 b8 b9 b10 b11 b12 b13) → body K a1 a2 a3 a4 a5 a6 a7 a8 a9 a10 a11 a12 a13 → G a1 a2 a3 a4 a5 a6 a7 a8 a9 a10 a11 a12 a13) : ∀ (a1 : A1) (a2 : A2) (a3 : A3) (a4 : A4) (a5 : A5) (a6 : A6) (a7 : A7) (a8 : A8) (a9 : A9) (a10 : A10) (a11 : A11) (a12 : A12) (a13 : A13), lpW13 body a1 a2 a3 a4 a5 a6 a7 a8 a9 a10 a11 a12 a13 → G a1 a2 a3 a4 a5 a6 a7 a8 a9 a10 a11 a12 a13 := by
  rintro a1 a2 a3 a4 a5 a6 a7 a8 a9 a10 a11 a12 a13 ⟨I, n, hI, hb⟩
  have key : ∀ (N m : Nat) (a1 : A1) (a2 : A2) (a3 : A3) (a4 : A4) (a5 : A5) (a6 : A6) (a7 : A7) (a8 : A8) (a9 : A9) (a10 : A10) (a11 : A11) (a12 : A12) (a13 : A13), m < N → I m a1 a2 a3 a4 a5 a6 a7 a8 a9 a10 a11 a12 a13 → G a1 a2 a3 a4 a5 a6 a7 a8 a9 a10 a11 a12 a13 := by
    intro N
    induction N with
    | zero => intro m a1 a2 a3 a4 a5 a6 a7 a8 a9 a10 a11 a12 a13 h; exact absurd h (Nat.not_lt_zero _)
    | succ N ih =>
      intro m a1 a2 a3 a4 a5 a6 a7 a8 a9 a10 a11 a12 a13 hm hIa
      refine h _ a1 a2 a3 a4 a5 a6 a7 a8 a9 a10 a11 a12 a13 (fun b1 b2 b3 b4 b5 b6 b7 b8 b9 b10 b11 b12 b13 hb2 => ?_) (hb m a1 a2 a3 a4 a5 a6 a7 a8 a9 a10 a11 a12 a13 hIa)
      obtain ⟨k, hk, hI2⟩ := hb2
      exact ih k b1 b2 b3 b4 b5 b6 b7 b8 b9 b10 b11 b12 b13 (by omega) hI2
  exact key (n + 1) n a1 a2 a3 a4 a5 a6 a7 a8 a9 a10 a11 a12 a13 (Nat.lt_succ_self _) hI
theorem lpW13_for {A1 A2 A3 A4 A5 A6 A7 A8 A9 A10 A11 A12 A13 : Type} {body : (A1 → A2 → A3 → A4 → A5 → A6 → A7 → A8 → A9 → A10 → A11 → A12 → A13 → Prop) → A1 → A2 → A3 → A4 → A5 → A6 → A7 → A8 → A9 → A10 → A11 → A12 → A13 → Prop} (s1 : Nat → A1) (s2 : Nat → A2) (s3 : Nat → A3) (s4 : Nat → A4) (s5 : Nat → A5) (s6 : Nat → A6) (s7 : Nat → A7) (s8 : Nat → A8) (s9 : Nat → A9) (s10 : Nat → A10) (s11 : Nat → A11) (s12 : Nat → A12) (s13 : Nat → A13) (n : Nat) (hs : ∀ (k : Nat), k < n → ∀ K : A1 → A2 → A3 → A4 → A5 → A6 → A7 → A8 → A9 → A10 → A11 → A12 → A13 → Prop, K (s1 (k + 1)) (s2 (k + 1)) (s3 (k + 1)) (s4 (k + 1)) (s5 (k + 1)) (s6 (k + 1)) (s7 (k + 1)) (s8 (k + 1)) (s9 (k + 1)) (s10 (k + 1)) (s11 (k + 1)) (s12 (k + 1)) (s13 (k + 1)) → body K (s1 k) (s2 k) (s3 k) (s4 k) (s5 k) (s6 k) (s7 k) (s8 k) (s9 k) (s10 k) (s11 k) (s12 k) (s13 k)) (he : ∀ K : A1 → A2 → A3 → A4 → A5 → A6 → A7 → A8 → A9 → A10 → A11 → A12 → A13 → Prop, body K (s1 n) (s2 n) (s3 n) (s4 n) (s5 n) (s6 n) (s7 n) (s8 n) (s9 n) (s10 n) (s11 n) (s12 n) (s13 n)) : lpW13 body (s1 0) (s2 0) (s3 0) (s4 0) (s5 0) (s6 0) (s7 0) (s8 0) (s9 0) (s10 0) (s11 0) (s12 0) (s13 0) := by
  refine ⟨fun m b1 b2 b3 b4 b5 b6 b7 b8 b9 b10 b11 b12 b13 => ∃ k, k + m = n ∧ b1 = s1 k ∧ b2 = s2 k ∧ b3 = s3 k ∧ b4 = s4 k ∧ b5 = s5 k ∧ b6 = s6 k ∧ b7 = s7 k ∧ b8 = s8 k ∧ b9 = s9 k ∧ b10 = s10 k ∧ b11 = s11 k ∧ b12 = s12 k ∧ b13 = s13 k, n, ⟨0, Nat.zero_add n, rfl, rfl, rfl, rfl, rfl, rfl, rfl, rfl, rfl, rfl, rfl, rfl, rfl⟩, ?_⟩
  rintro m b1 b2 b3 b4 b5 b6 b7 b8 b9 b10 b11 b12 b13 ⟨k, hk, rfl, rfl, rfl, rfl, rfl, rfl, rfl, rfl, rfl, rfl, rfl, rfl, rfl⟩
  rcases Nat.eq_zero_or_pos m with rfl | h0
  · have e : k = n := by omega
    subst e
    exact he _
  · exact hs k (by omega) _ ⟨m - 1, by omega, k + 1, by omega, rfl, rfl, rfl, rfl, rfl, rfl, rfl, rfl, rfl, rfl, rfl, rfl, rfl⟩
theorem lpW13_inv {A1 A2 A3 A4 A5 A6 A7 A8 A9 A10 A11 A12 A13 : Type} {body : (A1 → A2 → A3 → A4 → A5 → A6 → A7 → A8 → A9 → A10 → A11 → A12 → A13 → Prop) → A1 → A2 → A3 → A4 → A5 → A6 → A7 → A8 → A9 → A10 → A11 → A12 → A13 → Prop} (I : A1 → A2 → A3 → A4 → A5 → A6 → A7 → A8 → A9 → A10 → A11 → A12 → A13 → Prop) (μ : A1 → A2 → A3 → A4 → A5 → A6 → A7 → A8 → A9 → A10 → A11 → A12 → A13 → Nat) (hb : ∀ (b1 : A1) (b2 : A2) (b3 : A3) (b4 : A4) (b5 : A5) (b6 : A6) (b7 : A7) (b8 : A8) (b9 : A9) (b10 : A10) (b11 : A11) (b12 : A12) (b13 : A13), I b1 b2 b3 b4 b5 b6 b7 b8 b9 b10 b11 b12 b13 → body (fun c1 c2 c3 c4 c5 c6 c7 c8 c9 c10 c11 c12 c13 => ∃ k, k < μ b1 b2 b3 b4 b5 b6 b7 b8 b9 b10 b11 b12 b13 ∧ (I c1 c2 c3 c4 c5 c6 c7 c8 c9 c10 c11 c12 c13 ∧ μ c1 c2 c3 c4 c5 c6 c7 c8 c9 c10 c11 c12 c13 = k)) b1 b2 b3 b4 b5 b6 b7 b8 b9 b10 b11 b12 b13) (a1 : A1) (a2 : A2) (a3 : A3) (a4 : A4) (a5 : A5) (a6 : A6) (a7 : A7) (a8 : A8) (a9 : A9) (a10 : A10) (a11 : A11) (a12 : A12) (a13 : A13) (hI : I a1 a2 a3 a4 a5 a6 a7 a8 a9 a10 a11 a12 a13) : lpW13 body a1 a2 a3 a4 a5 a6 a7 a8 a9 a10 a11 a12 a13 :=
  ⟨fun m b1 b2 b3 b4 b5 b6 b7 b8 b9 b10 b11 b12 b13 => I b1 b2 b3 b4 b5 b6 b7 b8 b9 b10 b11 b12 b13 ∧ μ b1 b2 b3 b4 b5 b6 b7 b8 b9 b10 b11 b12 b13 = m, μ a1 a2 a3 a4 a5 a6 a7 a8 a9 a10 a11 a12 a13, ⟨hI, rfl⟩, fun m b1 b2 b3 b4 b5 b6 b7 b8 b9 b10 b11 b12 b13 h => by obtain ⟨h1, rfl⟩ := h; exact hb b1 b2 b3 b4 b5 b6 b7 b8 b9 b10 b11 b12 b13 h1⟩
def lpW14 {A1 A2 A3 A4 A5 A6 A7 A8 A9 A10 A11 A12 A13 A14 : Type} (body : (A1 → A2 → A3 → A4 → A5 → A6 → A7 → A8 → A9 → A10 → A11 → A12 → A13 → A14 → Prop) → A1 → A2 → A3 → A4 → A5 → A6 → A7 → A8 → A9 → A10 → A11 → A12 → A13 → A14 → Prop) (a1 : A1) (a2 : A2) (a3 : A3) (a4 : A4) (a5 : A5) (a6 : A6) (a7 : A7) (a8 : A8) (a9 : A9) (a10 : A10) (a11 : A11) (a12 : A12) (a13 : A13) (a14 : A14) : Prop := ∃ (I : Nat → A1 → A2 → A3 → A4 → A5 → A6 → A7 → A8 → A9 → A10 → A11 → A12 → A13 → A14 → Prop) (n : Nat), I n a1 a2 a3 a4 a5 a6 a7 a8 a9 a10 a11 a12 a13 a14 ∧ ∀ (m : Nat) (b1 : A1) (b2 : A2) (b3 : A3) (b4 : A4) (b5 : A5) (b6 : A6) (b7 : A7) (b8 : A8) (b9 : A9) (b10 : A10) (b11 : A11) (b12 : A12) (b13 : A13) (b14 : A14), I m b1 b2 b3 b4 b5 b6 b7 b8 b9 b10 b11 b12 b13 b14 → body (fun c1 c2 c3 c4 c5 c6 c7 c8 c9 c10 c11 c12 c13 c14 => ∃ k, k < m ∧ I k c1 c2 c3 c4 c5 c6 c7 c8 c9 c10 c11 c12 c13 c14) b1 b2 b3 b4 b5 b6 b7 b8 b9 b10 b11 b12 b13 b14
theorem lpW14_ind {A1 A2 A3 A4 A5 A6 A7 A8 A9 A10 A11 A12 A13 A14 : Type} {body : (A1 → A2 → A3 → A4 → A5 → A6 → A7 → A8 → A9 → A10 → A11 → A12 → A13 → A14 → Prop) → A1 → A2 → A3 → A4 → A5 → A6 → A7 → A8 → A9 → A10 → A11 → A12 → A13 → A14 → Prop} {G : A1 → A2 → A3 → A4 → A5 → A6 → A7 → A8 → A9 → A10 → A11 → A12 → A13 → A14 → Prop} (h : ∀ (K : A1 → A2 → A3 → A4 → A5 → A6 → A7 → A8 → A9 → A10 → A11 → A12 → A13 → A14 → Prop) (a1 : A1) (a2 : A2) (a3 : A3) (a4 : A4) (a5 : A5) (a6 : A6) (a7 : A7) (a8 : A8) (a9 : A9) (a10 : A10) (a11 : A11) (a12 : A12) (a13 : A13) (a14 : A14), (∀ (b1 : A1) (b2 : A2) (b3 : A3) (b4 : A4) (b5 : A5) (b6 : A6) (b7 : A7) (b8 : A8) (b9 : A9) (b10 : A10) (b11 : A11) (b12 : A12) (b13 : A13) (b14 : A14), K b1 b2 b3 b4 b5 b6 b7 b8 b9 b10 b11 b12 b13 b14 → G b1 b2 b3 b4 b5 b6 b7 b8 b9 b10 b11 b12 b13 b14) → body K a1 a2 a3 a4 a5 a6 a7 a8 a9 a10 a11 a12 a13 a14 → G a1 a2 a3 a4 a5 a6 a7 a8 a9 a10 a11 a12 a13 a14) : ∀ (a1 : A1) (a2 : A2) (a3 : A3) (a4 : A4) (a5 : A5) (a6 : A6) (a7 : A7) (a8 : A8) (a9 : A9) (a10 : A10) (a11 : A11) (a12 : A12) (a13 : A13) (a14 : A14), lpW14 body a1 a2 a3 a4 a5 a6 a7 a8 a9 a10 a11 a12 a13 a14 → G a1 a2 a3 a4 a5 a6 a7 a8 a9 a10 a11 a12 a13 a14 := by
  rintro a1 a2 a3 a4 a5 a6 a7 a8 a9 a10 a11 a12 a13 a14 ⟨I, n, hI, hb⟩
  have key : ∀ (N m : Nat) (a1 : A1) (a2 : A2) (a3 : A3) (a4 : A4) (a5 : A5) (a6 : A6) (a7 : A7) (a8 : A8) (a9 : A9) (a10 : A10) (a11 : A11) (a12 : A12) (a13 : A13) (a14 : A14), m < N → I m a1 a2 a3 a4 a5 a6 a7 a8 a9 a10 a11 a12 a13 a14 → G a1 a2 a3 a4 a5 a6 a7 a8 a9 a10 a11 a12 a13 a14 := by
    intro N
    induction N with
    | zero => intro m a1 a2 a3 a4 a5 a6 a7 a8 a9 a10 a11 a12 a13 a14 h; exact absurd h (Nat.not_lt_zero _)
    | succ N ih =>
      intro m a1 a2 a3 a4 a5 a6 a7 a8 a9 a10 a11 a12 a13 a14 hm hIa
      refine h _ a1 a2 a3 a4 a5 a6 a7 a8 a9 a10 a11 a12 a13 a14 (fun b1 b2 b3 b4 b5 b6 b7 b8 b9 b10 b11 b12 b13 b14 hb2 => ?_) (hb m a1 a2 a3 a4 a5 a6 a7 a8 a9 a10 a11 a12 a13 a14 hIa)
      obtain ⟨k, hk, hI2⟩ := hb2
      exact ih k b1 b2 b3 b4 b5 b6 b7 b8 b9 b10 b11 b12 b13 b14 (by omega) hI2
  exact key (n + 1) n a1 a2 a3 a4 a5 a6 a7 a8 a9 a10 a11 a12 a13 a14 (Nat.lt_succ_self _) hI
theorem lpW14_for {A1 A2 A3 A4 A5 A6 A7 A8 A9 A10 A11 A12 A13 A14 : Type} {body : (A1 → A2 → A3 → A4 → A5 → A6 → A7 → A8 → A9 → A10 → A11 → A12 → A13 → A14 → Prop) → A1 → A2 → A3 → A4 → A5 → A6 → A7 → A8 → A9 → A10 → A11 → A12 → A13 → A14 → Prop} (s1 : Nat → A1) (s2 : Nat → A2) (s3 : Nat → A3) (s4 : Nat → A4) (s5 : Nat → A5) (s6 : Nat → A6) (s7 : Nat → A7) (s8 : Nat → A8) (s9 : Nat → A9) (s10 : Nat → A10) (s11 : Nat → A11) (s12 : Nat → A12) (s13 : Nat → A13) (s14 : Nat → A14) (n : Nat) (hs : ∀ (k : Nat), k < n → ∀ K : A1 → A2 → A3 → A4 → A5 → A6 → A7 → A8 → A9 → A10 → A11 → A12 → A13 → A14 → Prop, K (s1 (k + 1)) (s2 (k + 1)) (s3 (k + 1)) (s4 (k + 1)) (s5 (k + 1)) (s6 (k + 1)) (s7 (k + 1)) (s8 (k + 1)) (s9 (k + 1)) (s10 (k + 1)) (s11 (k + 1)) (s12 (k + 1)) (s13 (k + 1)) (s14 (k + 1)) → body K (s1 k) (s2 k) (s3 k) (s4 k) (s5 k) (s6 k) (s7 k) (s8 k) (s9 k) (s10 k) (s11 k) (s12 k) (s13 k) (s14 k)) (he : ∀ K : A1 → A2 → A3 → A4 → A5 → A6 → A7 → A8 → A9 → A10 → A11 → A12 → A13 → A14 → Prop, body K (s1 n) (s2 n) (s3 n) (s4 n) (s5 n) (s6 n) (s7 n) (s8 n) (s9 n) (s10 n) (s11 n) (s12 n) (s13 n) (s14 n)) : lpW14 body (s1 0) (s2 0) (s3 0) (s4 0) (s5 0) (s6 0) (s7 0) (s8 0) (s9 0) (s10 0) (s11 0) (s12 0) (s13 0) (s14 0) := by
  refine ⟨fun m b1 b2 b3 b4 b5 b6 b7 b8 b9 b10 b11 b12 b13 b14 => ∃ k, k + m = n ∧ b1 = s1 k ∧ b2 = s2 k ∧ b3 = s3 k ∧ b4 = s4 k ∧ b5 = s5 k ∧ b6 = s6 k ∧ b7 = s7 k ∧ b8 = s8 k ∧ b9 = s9 k ∧ b10 = s10 k ∧ b11 = s11 k ∧ b12 = s12 k ∧ b13 = s13 k ∧ b14 = s14 k, n, ⟨0, Nat.zero_add n, rfl, rfl, rfl, rfl, rfl, rfl, rfl, rfl, rfl, rfl, rfl, rfl, rfl, rfl⟩, ?_⟩
  rintro m b1 b2 b3 b4 b5 b6 b7 b8 b9 b10 b11 b12 b13 b14 ⟨k, hk, rfl, rfl, rfl, rfl, rfl, rfl, rfl, rfl, rfl, rfl, rfl, rfl, rfl, rfl⟩
  rcases Nat.eq_zero_or_pos m with rfl | h0
  · have e : k = n := by omega
    subst e
    exact he _
  · exact hs k (by omega) _ ⟨m - 1, by omega, k + 1, by omega, rfl, rfl, rfl, rfl, rfl, rfl, rfl, rfl, rfl, rfl, rfl, rfl, rfl, rfl⟩
theorem lpW14_inv {A1 A2 A3 A4 A5 A6 A7 A8 A9 A10 A11 A12 A13 A14 : Type} {body : (A1 → A2 → A3 → A4 → A5 → A6 → A7 → A8 → A9 → A10 → A11 → A12 → A13 → A14 → Prop) → A1 → A2 → A3 → A4 → A5 → A6 → A7 → A8 → A9 → A10 → A11 → A12 → A13 → A14 → Prop} (I : A1 → A2 → A3 → A4 → A5 → A6 → A7 → A8 → A9 → A10 → A11 → A12 → A13 → A14 → Prop) (μ : A1 → A2 → A3 → A4 → A5 → A6 → A7 → A8 → A9 → A10 → A11 → A12 → A13 → A14 → Nat) (hb : ∀ (b1 : A1) (b2 : A2) (b3 : A3) (b4 : A4) (b5 : A5) (b6 : A6) (b7 : A7) (b8 : A8) (b9 : A9) (b10 : A10) (b11 : A11) (b12 : A12) (b13 : A13) (b14 : A14), I b1 b2 b3 b4 b5 b6 b7 b8 b9 b10 b11 b12 b13 b14 → body (fun c1 c2 c3 c4 c5 c6 c7 c8 c9 c10 c11 c12 c13 c14 => ∃ k, k < μ b1 b2 b3 b4 b5 b6 b7 b8 b9 b10 b11 b12 b13 b14 ∧ (I c1 c2 c3 c4 c5 c6 c7 c8 c9 c10 c11 c12 c13 c14 ∧ μ c1 c2 c3 c4 c5 c6 c7 c8 c9 c10 c11 c12 c13 c14 = k)) b1 b2 b3 b4 b5 b6 b7 b8 b9 b10 b11 b12 b13 b14) (a1 : A1) (a2 : A2) (a3 : A3) (a4 : A4) (a5 : A5) (a6 : A6) (a7 : A7) (a8 : A8) (a9 : A9) (a10 : A10) (a11 : A11) (a12 : A12) (a13 : A13) (a14 : A14) (hI : I a1 a2 a3 a4 a5 a6 a7 a8 a9 a10 a11 a12 a13 a14) : lpW14 body a1 a2 a3 a4 a5 a6 a7 a8 a9 a10 a11 a12 a13 a14 :=
  ⟨fun m b1 b2 b3 b4 b5 b6 b7 b8 b9 b10 b11 b12 b13 b14 => I b1 b2 b3 b4 b5 b6 b7 b8 b9 b10 b11 b12 b13 b14 ∧ μ b1 b2 b3 b4 b5 b6 b7 b8 b9 b10 b11 b12 b13 b14 = m, μ a1 a2 a3 a4 a5 a6 a7 a8 a9 a10 a11 a12 a13 a14, ⟨hI, rfl⟩, fun m b1 b2 b3 b4 b5 b6 b7 b8 b9 b10 b11 b12 b13 b14 h => by obtain ⟨h1, rfl⟩ := h; exact hb b1 b2 b3 b4 b5 b6 b7 b8 b9 b10 b11 b12 b13 b14 h1⟩
theorem va_same {A0 : Nat → Prop} {D : va_G} {cl : List vw_C} {ws wc : va_W} {H H1 : Heap} (hP : va_P D cl ws H) (hD : va_D A0 ws) (isC : List Nat) (hC : isC.map (fun i => ws[i]?) = wc.map some) (hk : ∀ q : Nat, q < H.size → ¬ va_A wc H.size q → H1[q]? = H[q]?) (hP1 : va_P D cl wc H1) : va_P D cl ws H1 := by
  intro k q hq
  by_cases hin : k ∈ isC
  · obtain ⟨j, hj⟩ := List.getElem?_of_mem hin
    have h1 : (isC.map (fun i => ws[i]?))[j]? = some (some q) := by rw [List.getElem?_map, hj]; simp [hq]
    rw [hC, List.getElem?_map] at h1
    cases hw : wc[j]? with
    | none => rw [hw] at h1; cases h1
    | some q2 => rw [hw] at h1; cases h1; exact hP1 j q hw
  · refine (hP k q hq).kept (hk q.1 (hP k q hq).lt ?_)
    rintro (⟨k2, e, h⟩ | h)
    · have h1 : (isC.map (fun i => ws[i]?))[k2]? = some (some (q.1, e)) := by rw [hC, List.getElem?_map, h]; rfl
      rw [List.getElem?_map] at h1
      cases hi : isC[k2]? with
      | none => rw [hi] at h1; cases h1
      | some i =>
        rw [hi] at h1
        have h2 := hD.1 i k (q.1, e) q (Option.some.inj h1) hq rfl
        subst h2
        exact hin (List.mem_of_getElem? hi)
    · have := (hP k q hq).lt
      omega
theorem va_RAuni {U : State} {c1 c2 : ClassId} {ty : FieldType} (h1 : va_RA U c1 ty) (h2 : va_RA U c2 ty) : c1 = c2 := by
  cases ty with
  | object C =>
    obtain ⟨_, _, _, _, _, h3⟩ := h1
    obtain ⟨_, _, _, _, _, h4⟩ := h2
    exact Option.some.inj (h3.symm.trans h4)
  | _ => exact Option.some.inj ((show U.vm.findClass _ = some c1 from h1).symm.trans h2)
section JROWS
variable {l : Launch} {g : gE} {A : Nat → Prop} {x : jX} {nL kc kn pc : Nat} {lv : List (Nat × Value)} {st : List Value} {ws : va_W} {own : String} {cc : ByteArray} {Ts : List Cond} {rm : Room}
theorem j_iconst (C : JC g A x own cc nL Ts rm) (pc' : Nat) (hnp : pc + 1 = pc') {n : Int} {v : Int32} (d : decode cc pc = .ok (.iconst n, 1)) (hv : Int32.ofInt n = v) (k : J l g A x nL kc kn pc' lv (.int v :: st) ws) : J l g A x nL kc kn pc lv st ws := by subst hnp; exact fun H locs ls hP hD hS hl => lv_iconst C.1 C.2.1 d hv (k H locs ls hP hD hS hl)
theorem j_bipush (C : JC g A x own cc nL Ts rm) (pc' : Nat) (hnp : pc + 2 = pc') {n : Int} {v : Int32} (d : decode cc pc = .ok (.bipush n, 2)) (hv : (Int8.ofInt n).toInt32 = v) (k : J l g A x nL kc kn pc' lv (.int v :: st) ws) : J l g A x nL kc kn pc lv st ws := by subst hnp; exact fun H locs ls hP hD hS hl => lv_bipush C.1 C.2.1 d hv (k H locs ls hP hD hS hl)
theorem j_sipush (C : JC g A x own cc nL Ts rm) (pc' : Nat) (hnp : pc + 3 = pc') {n : Int} {v : Int32} (d : decode cc pc = .ok (.sipush n, 3)) (hv : (Int16.ofInt n).toInt32 = v) (k : J l g A x nL kc kn pc' lv (.int v :: st) ws) : J l g A x nL kc kn pc lv st ws := by subst hnp; exact fun H locs ls hP hD hS hl => lv_sipush C.1 C.2.1 d hv (k H locs ls hP hD hS hl)
theorem j_ldc (C : JC g A x own cc nL Ts rm) (pc' : Nat) (hnp : pc + 2 = pc') {idx : Nat} {v : Int32} (hc : Cond.constant own idx v ∈ Ts) (d : decode cc pc = .ok (.ldc idx, 2)) (k : J l g A x nL kc kn pc' lv (.int v :: st) ws) : J l g A x nL kc kn pc lv st ws := by subst hnp; exact fun H locs ls hP hD hS hl => lv_ldc C.1 C.2.1 C.2.2.2.1 (C.2.2.2.2.1 _ hc) d (k H locs ls hP hD hS hl)
theorem j_iload (C : JC g A x own cc nL Ts rm) (pc' : Nat) (hnp : pc + 2 = pc') (q : Nat) {i : Nat} {v : Int32} (d : decode cc pc = .ok (.iload i, 2)) (hl0 : lv[q]? = some (i, .int v)) (k : J l g A x nL kc kn pc' lv (.int v :: st) ws) : J l g A x nL kc kn pc lv st ws := by subst hnp; exact fun H locs ls hP hD hS hl => lv_iload C.1 C.2.1 d (lv_at hl q hl0) (k H locs ls hP hD hS hl)
theorem j_iload_n (C : JC g A x own cc nL Ts rm) (pc' : Nat) (hnp : pc + 1 = pc') (q : Nat) {n : Fin 4} {i : Nat} {v : Int32} (d : decode cc pc = .ok (.iload_n n, 1)) (hi : (n : Nat) = i) (hl0 : lv[q]? = some (i, .int v)) (k : J l g A x nL kc kn pc' lv (.int v :: st) ws) : J l g A x nL kc kn pc lv st ws := by subst hnp; exact fun H locs ls hP hD hS hl => lv_iload_n C.1 C.2.1 d hi (lv_at hl q hl0) (k H locs ls hP hD hS hl)
theorem j_aload_n (C : JC g A x own cc nL Ts rm) (pc' : Nat) (hnp : pc + 1 = pc') (q : Nat) {n : Fin 4} {i : Nat} {v : Nat} (d : decode cc pc = .ok (.aload_n n, 1)) (hi : (n : Nat) = i) (hl0 : lv[q]? = some (i, .ref v)) (k : J l g A x nL kc kn pc' lv (.ref v :: st) ws) : J l g A x nL kc kn pc lv st ws := by subst hnp; exact fun H locs ls hP hD hS hl => lv_aload_n C.1 C.2.1 d hi (lv_at hl q hl0) (k H locs ls hP hD hS hl)
theorem j_istore (C : JC g A x own cc nL Ts rm) (pc' : Nat) (hnp : pc + 2 = pc') (ks : List Nat) {i : Nat} {v : Int32} {lv' : List (Nat × Value)} (d : decode cc pc = .ok (.istore i, 2)) (hn : i < nL) (hl0 : lv_pick ((i, Value.int v) :: lv.filter (fun q => !(q.1 == i) && !(q.1 + 1 == i && q.2.category == 2))) ks = lv') (k : J l g A x nL kc kn pc' lv' st ws) : J l g A x nL kc kn pc lv (.int v :: st) ws := by subst hnp; exact fun H locs ls hP hD hS hl => lv_istore C.1 C.2.1 d hl hn rfl (fun ls' hl' => k H locs ls' hP hD hS (lv_sub hl' ks hl0))
theorem j_istore_n (C : JC g A x own cc nL Ts rm) (pc' : Nat) (hnp : pc + 1 = pc') (ks : List Nat) {n : Fin 4} {i : Nat} {v : Int32} {lv' : List (Nat × Value)} (d : decode cc pc = .ok (.istore_n n, 1)) (hi : (n : Nat) = i) (hn : i < nL) (hl0 : lv_pick ((i, Value.int v) :: lv.filter (fun q => !(q.1 == i) && !(q.1 + 1 == i && q.2.category == 2))) ks = lv') (k : J l g A x nL kc kn pc' lv' st ws) : J l g A x nL kc kn pc lv (.int v :: st) ws := by subst hnp; exact fun H locs ls hP hD hS hl => lv_istore_n C.1 C.2.1 d hi hl hn rfl (fun ls' hl' => k H locs ls' hP hD hS (lv_sub hl' ks hl0))
theorem j_iinc (C : JC g A x own cc nL Ts rm) (pc' : Nat) (hnp : pc + 3 = pc') (q : Nat) (ks : List Nat) {i : Nat} {n : Int} {v v' : Int32} {lv' : Int32 → List (Nat × Value)} (d : decode cc pc = .ok (.iinc i n, 3)) (hq : lv[q]? = some (i, .int v)) (hv : Int32.ofInt n = v') (hn : i < nL) (hl0 : ∀ z : Int32, lv_pick ((i, Value.int z) :: lv.filter (fun q => !(q.1 == i) && !(q.1 + 1 == i && q.2.category == 2))) ks = lv' z) (k : ∀ z : Int32, z = v + v' → J l g A x nL kc kn pc' (lv' z) st ws) : J l g A x nL kc kn pc lv st ws := by subst hnp; exact fun H locs ls hP hD hS hl => lv_iinc C.1 C.2.1 d hl hq (by rw [hv]) hn rfl (fun ls' hl' => k _ rfl H locs ls' hP hD hS (lv_sub hl' ks (hl0 _)))
theorem j_lv (ks : List Nat) {lv' : List (Nat × Value)} (hl0 : lv_pick lv ks = lv') (k : J l g A x nL kc kn pc lv' st ws) : J l g A x nL kc kn pc lv st ws := fun H locs ls hP hD hS hl => k H locs ls hP hD hS (lv_sub hl ks hl0)
theorem j_top {v : Int32} (k : ∀ v' : Int32, v' = v → J l g A x nL kc kn pc lv (.int v' :: st) ws) : J l g A x nL kc kn pc lv (.int v :: st) ws := k v rfl
theorem j_nm1 {v : Int32} {a1 : Value} (k : ∀ v' : Int32, v' = v → J l g A x nL kc kn pc lv (a1 :: .int v' :: st) ws) : J l g A x nL kc kn pc lv (a1 :: .int v :: st) ws := k v rfl
theorem j_nm2 {v : Int32} {a1 a2 : Value} (k : ∀ v' : Int32, v' = v → J l g A x nL kc kn pc lv (a1 :: a2 :: .int v' :: st) ws) : J l g A x nL kc kn pc lv (a1 :: a2 :: .int v :: st) ws := k v rfl
theorem j_nm3 {v : Int32} {a1 a2 a3 : Value} (k : ∀ v' : Int32, v' = v → J l g A x nL kc kn pc lv (a1 :: a2 :: a3 :: .int v' :: st) ws) : J l g A x nL kc kn pc lv (a1 :: a2 :: a3 :: .int v :: st) ws := k v rfl
theorem j_nm4 {v : Int32} {a1 a2 a3 a4 : Value} (k : ∀ v' : Int32, v' = v → J l g A x nL kc kn pc lv (a1 :: a2 :: a3 :: a4 :: .int v' :: st) ws) : J l g A x nL kc kn pc lv (a1 :: a2 :: a3 :: a4 :: .int v :: st) ws := k v rfl
theorem j_nm5 {v : Int32} {a1 a2 a3 a4 a5 : Value} (k : ∀ v' : Int32, v' = v → J l g A x nL kc kn pc lv (a1 :: a2 :: a3 :: a4 :: a5 :: .int v' :: st) ws) : J l g A x nL kc kn pc lv (a1 :: a2 :: a3 :: a4 :: a5 :: .int v :: st) ws := k v rfl
theorem j_nm6 {v : Int32} {a1 a2 a3 a4 a5 a6 : Value} (k : ∀ v' : Int32, v' = v → J l g A x nL kc kn pc lv (a1 :: a2 :: a3 :: a4 :: a5 :: a6 :: .int v' :: st) ws) : J l g A x nL kc kn pc lv (a1 :: a2 :: a3 :: a4 :: a5 :: a6 :: .int v :: st) ws := k v rfl
theorem j_iadd (C : JC g A x own cc nL Ts rm) (pc' : Nat) (hnp : pc + 1 = pc') {a b : Int32} (d : decode cc pc = .ok (.iadd, 1)) (k : J l g A x nL kc kn pc' lv (.int (a + b) :: st) ws) : J l g A x nL kc kn pc lv (.int b :: .int a :: st) ws := by subst hnp; exact fun H locs ls hP hD hS hl => lv_iadd C.1 C.2.1 d (k H locs ls hP hD hS hl)
theorem j_isub (C : JC g A x own cc nL Ts rm) (pc' : Nat) (hnp : pc + 1 = pc') {a b : Int32} (d : decode cc pc = .ok (.isub, 1)) (k : J l g A x nL kc kn pc' lv (.int (a - b) :: st) ws) : J l g A x nL kc kn pc lv (.int b :: .int a :: st) ws := by subst hnp; exact fun H locs ls hP hD hS hl => lv_isub C.1 C.2.1 d (k H locs ls hP hD hS hl)
theorem j_imul (C : JC g A x own cc nL Ts rm) (pc' : Nat) (hnp : pc + 1 = pc') {a b : Int32} (d : decode cc pc = .ok (.imul, 1)) (k : J l g A x nL kc kn pc' lv (.int (a * b) :: st) ws) : J l g A x nL kc kn pc lv (.int b :: .int a :: st) ws := by subst hnp; exact fun H locs ls hP hD hS hl => lv_imul C.1 C.2.1 d (k H locs ls hP hD hS hl)
theorem j_idiv (C : JC g A x own cc nL Ts rm) (pc' : Nat) (hnp : pc + 1 = pc') {a b : Int32} (d : decode cc pc = .ok (.idiv, 1)) (hne : ¬ b = 0) (k : J l g A x nL kc kn pc' lv (.int (a / b) :: st) ws) : J l g A x nL kc kn pc lv (.int b :: .int a :: st) ws := by subst hnp; exact fun H locs ls hP hD hS hl => lv_idiv C.1 C.2.1 d hne (k H locs ls hP hD hS hl)
theorem j_irem (C : JC g A x own cc nL Ts rm) (pc' : Nat) (hnp : pc + 1 = pc') {a b : Int32} (d : decode cc pc = .ok (.irem, 1)) (hne : ¬ b = 0) (k : J l g A x nL kc kn pc' lv (.int (iR a b) :: st) ws) : J l g A x nL kc kn pc lv (.int b :: .int a :: st) ws := by subst hnp; exact fun H locs ls hP hD hS hl => lv_irem C.1 C.2.1 d hne (k H locs ls hP hD hS hl)
theorem j_iand (C : JC g A x own cc nL Ts rm) (pc' : Nat) (hnp : pc + 1 = pc') {a b : Int32} (d : decode cc pc = .ok (.iand, 1)) (k : J l g A x nL kc kn pc' lv (.int (a &&& b) :: st) ws) : J l g A x nL kc kn pc lv (.int b :: .int a :: st) ws := by subst hnp; exact fun H locs ls hP hD hS hl => lv_iand C.1 C.2.1 d (k H locs ls hP hD hS hl)
theorem j_ior (C : JC g A x own cc nL Ts rm) (pc' : Nat) (hnp : pc + 1 = pc') {a b : Int32} (d : decode cc pc = .ok (.ior, 1)) (k : J l g A x nL kc kn pc' lv (.int (a ||| b) :: st) ws) : J l g A x nL kc kn pc lv (.int b :: .int a :: st) ws := by subst hnp; exact fun H locs ls hP hD hS hl => lv_ior C.1 C.2.1 d (k H locs ls hP hD hS hl)
theorem j_ixor (C : JC g A x own cc nL Ts rm) (pc' : Nat) (hnp : pc + 1 = pc') {a b : Int32} (d : decode cc pc = .ok (.ixor, 1)) (k : J l g A x nL kc kn pc' lv (.int (a ^^^ b) :: st) ws) : J l g A x nL kc kn pc lv (.int b :: .int a :: st) ws := by subst hnp; exact fun H locs ls hP hD hS hl => lv_ixor C.1 C.2.1 d (k H locs ls hP hD hS hl)
theorem j_ishl (C : JC g A x own cc nL Ts rm) (pc' : Nat) (hnp : pc + 1 = pc') {a b : Int32} (d : decode cc pc = .ok (.ishl, 1)) (k : J l g A x nL kc kn pc' lv (.int (a <<< (b &&& 31)) :: st) ws) : J l g A x nL kc kn pc lv (.int b :: .int a :: st) ws := by subst hnp; exact fun H locs ls hP hD hS hl => lv_ishl C.1 C.2.1 d (k H locs ls hP hD hS hl)
theorem j_ishr (C : JC g A x own cc nL Ts rm) (pc' : Nat) (hnp : pc + 1 = pc') {a b : Int32} (d : decode cc pc = .ok (.ishr, 1)) (k : J l g A x nL kc kn pc' lv (.int (a >>> (b &&& 31)) :: st) ws) : J l g A x nL kc kn pc lv (.int b :: .int a :: st) ws := by subst hnp; exact fun H locs ls hP hD hS hl => lv_ishr C.1 C.2.1 d (k H locs ls hP hD hS hl)
theorem j_iushr (C : JC g A x own cc nL Ts rm) (pc' : Nat) (hnp : pc + 1 = pc') {a b : Int32} (d : decode cc pc = .ok (.iushr, 1)) (k : J l g A x nL kc kn pc' lv (.int (iUs a b) :: st) ws) : J l g A x nL kc kn pc lv (.int b :: .int a :: st) ws := by subst hnp; exact fun H locs ls hP hD hS hl => lv_iushr C.1 C.2.1 d rfl (k H locs ls hP hD hS hl)
theorem j_i2c (C : JC g A x own cc nL Ts rm) (pc' : Nat) (hnp : pc + 1 = pc') {a : Int32} (d : decode cc pc = .ok (.i2c, 1)) (k : J l g A x nL kc kn pc' lv (.int (iC a) :: st) ws) : J l g A x nL kc kn pc lv (.int a :: st) ws := by subst hnp; exact fun H locs ls hP hD hS hl => lv_i2c C.1 C.2.1 d rfl (k H locs ls hP hD hS hl)
theorem j_i2b (C : JC g A x own cc nL Ts rm) (pc' : Nat) (hnp : pc + 1 = pc') {a : Int32} (d : decode cc pc = .ok (.i2b, 1)) (k : J l g A x nL kc kn pc' lv (.int a.toInt8.toInt32 :: st) ws) : J l g A x nL kc kn pc lv (.int a :: st) ws := by subst hnp; exact fun H locs ls hP hD hS hl => lv_i2b C.1 C.2.1 d rfl (k H locs ls hP hD hS hl)
theorem j_dup (C : JC g A x own cc nL Ts rm) (pc' : Nat) (hnp : pc + 1 = pc') {v : Value} (d : decode cc pc = .ok (.dup, 1)) (hv : v.category = 1) (k : J l g A x nL kc kn pc' lv (v :: v :: st) ws) : J l g A x nL kc kn pc lv (v :: st) ws := by subst hnp; exact fun H locs ls hP hD hS hl => lv_dup C.1 C.2.1 d hv (k H locs ls hP hD hS hl)
theorem j_dup_x1 (C : JC g A x own cc nL Ts rm) (pc' : Nat) (hnp : pc + 1 = pc') {v w : Value} (d : decode cc pc = .ok (.dup_x1, 1)) (hv : v.category = 1) (hw : w.category = 1) (k : J l g A x nL kc kn pc' lv (v :: w :: v :: st) ws) : J l g A x nL kc kn pc lv (v :: w :: st) ws := by subst hnp; exact fun H locs ls hP hD hS hl => lv_dup_x1 C.1 C.2.1 d hv hw (k H locs ls hP hD hS hl)
theorem j_dup2 (C : JC g A x own cc nL Ts rm) (pc' : Nat) (hnp : pc + 1 = pc') {v w : Value} (d : decode cc pc = .ok (.dup2, 1)) (hv : v.category = 1) (hw : w.category = 1) (k : J l g A x nL kc kn pc' lv (v :: w :: v :: w :: st) ws) : J l g A x nL kc kn pc lv (v :: w :: st) ws := by subst hnp; exact fun H locs ls hP hD hS hl => lv_dup2_11 C.1 C.2.1 d hv hw (k H locs ls hP hD hS hl)
theorem j_pop (C : JC g A x own cc nL Ts rm) (pc' : Nat) (hnp : pc + 1 = pc') {v : Value} (d : decode cc pc = .ok (.pop, 1)) (hv : v.category = 1) (k : J l g A x nL kc kn pc' lv st ws) : J l g A x nL kc kn pc lv (v :: st) ws := by subst hnp; exact fun H locs ls hP hD hS hl => lv_pop C.1 C.2.1 d hv (k H locs ls hP hD hS hl)
theorem j_goto (C : JC g A x own cc nL Ts rm) {off : Int} (tgt : Nat) (d : decode cc pc = .ok (.goto off, 3)) (ht : (pc : Int) + off = (tgt : Int)) (k : J l g A x nL kc kn tgt lv st ws) : J l g A x nL kc kn pc lv st ws := fun H locs ls hP hD hS hl => lv_goto C.1 C.2.1 d ht (k H locs ls hP hD hS hl)
theorem j_if_eq (C : JC g A x own cc nL Ts rm) (pc' : Nat) (hnp : pc + 3 = pc') {a : Int32} {off : Int} (tgt : Nat) (d : decode cc pc = .ok (.ifCond .eq off, 3)) (ht : (pc : Int) + off = (tgt : Int)) (k1 : a = 0 → J l g A x nL kc kn tgt lv st ws) (k2 : ¬ a = 0 → J l g A x nL kc kn pc' lv st ws) : J l g A x nL kc kn pc lv (.int a :: st) ws := by subst hnp; exact fun H locs ls hP hD hS hl => lv_if_eq C.1 C.2.1 d ht (fun c => k1 c H locs ls hP hD hS hl) (fun c => k2 c H locs ls hP hD hS hl)
theorem j_if_ne (C : JC g A x own cc nL Ts rm) (pc' : Nat) (hnp : pc + 3 = pc') {a : Int32} {off : Int} (tgt : Nat) (d : decode cc pc = .ok (.ifCond .ne off, 3)) (ht : (pc : Int) + off = (tgt : Int)) (k1 : ¬ a = 0 → J l g A x nL kc kn tgt lv st ws) (k2 : a = 0 → J l g A x nL kc kn pc' lv st ws) : J l g A x nL kc kn pc lv (.int a :: st) ws := by subst hnp; exact fun H locs ls hP hD hS hl => lv_if_ne C.1 C.2.1 d ht (fun c => k1 c H locs ls hP hD hS hl) (fun c => k2 c H locs ls hP hD hS hl)
theorem j_if_lt (C : JC g A x own cc nL Ts rm) (pc' : Nat) (hnp : pc + 3 = pc') {a : Int32} {off : Int} (tgt : Nat) (d : decode cc pc = .ok (.ifCond .lt off, 3)) (ht : (pc : Int) + off = (tgt : Int)) (k1 : a < 0 → J l g A x nL kc kn tgt lv st ws) (k2 : ¬ a < 0 → J l g A x nL kc kn pc' lv st ws) : J l g A x nL kc kn pc lv (.int a :: st) ws := by subst hnp; exact fun H locs ls hP hD hS hl => lv_if_lt C.1 C.2.1 d ht (fun c => k1 c H locs ls hP hD hS hl) (fun c => k2 c H locs ls hP hD hS hl)
theorem j_if_ge (C : JC g A x own cc nL Ts rm) (pc' : Nat) (hnp : pc + 3 = pc') {a : Int32} {off : Int} (tgt : Nat) (d : decode cc pc = .ok (.ifCond .ge off, 3)) (ht : (pc : Int) + off = (tgt : Int)) (k1 : 0 ≤ a → J l g A x nL kc kn tgt lv st ws) (k2 : ¬ 0 ≤ a → J l g A x nL kc kn pc' lv st ws) : J l g A x nL kc kn pc lv (.int a :: st) ws := by subst hnp; exact fun H locs ls hP hD hS hl => lv_if_ge C.1 C.2.1 d ht (fun c => k1 c H locs ls hP hD hS hl) (fun c => k2 c H locs ls hP hD hS hl)
theorem j_if_gt (C : JC g A x own cc nL Ts rm) (pc' : Nat) (hnp : pc + 3 = pc') {a : Int32} {off : Int} (tgt : Nat) (d : decode cc pc = .ok (.ifCond .gt off, 3)) (ht : (pc : Int) + off = (tgt : Int)) (k1 : 0 < a → J l g A x nL kc kn tgt lv st ws) (k2 : ¬ 0 < a → J l g A x nL kc kn pc' lv st ws) : J l g A x nL kc kn pc lv (.int a :: st) ws := by subst hnp; exact fun H locs ls hP hD hS hl => lv_if_gt C.1 C.2.1 d ht (fun c => k1 c H locs ls hP hD hS hl) (fun c => k2 c H locs ls hP hD hS hl)
theorem j_if_le (C : JC g A x own cc nL Ts rm) (pc' : Nat) (hnp : pc + 3 = pc') {a : Int32} {off : Int} (tgt : Nat) (d : decode cc pc = .ok (.ifCond .le off, 3)) (ht : (pc : Int) + off = (tgt : Int)) (k1 : a ≤ 0 → J l g A x nL kc kn tgt lv st ws) (k2 : ¬ a ≤ 0 → J l g A x nL kc kn pc' lv st ws) : J l g A x nL kc kn pc lv (.int a :: st) ws := by subst hnp; exact fun H locs ls hP hD hS hl => lv_if_le C.1 C.2.1 d ht (fun c => k1 c H locs ls hP hD hS hl) (fun c => k2 c H locs ls hP hD hS hl)
theorem j_icmp_eq (C : JC g A x own cc nL Ts rm) (pc' : Nat) (hnp : pc + 3 = pc') {a b : Int32} {off : Int} (tgt : Nat) (d : decode cc pc = .ok (.if_icmp .eq off, 3)) (ht : (pc : Int) + off = (tgt : Int)) (k1 : a = b → J l g A x nL kc kn tgt lv st ws) (k2 : ¬ a = b → J l g A x nL kc kn pc' lv st ws) : J l g A x nL kc kn pc lv (.int b :: .int a :: st) ws := by subst hnp; exact fun H locs ls hP hD hS hl => lv_icmp_eq C.1 C.2.1 d ht (fun c => k1 c H locs ls hP hD hS hl) (fun c => k2 c H locs ls hP hD hS hl)
theorem j_icmp_ne (C : JC g A x own cc nL Ts rm) (pc' : Nat) (hnp : pc + 3 = pc') {a b : Int32} {off : Int} (tgt : Nat) (d : decode cc pc = .ok (.if_icmp .ne off, 3)) (ht : (pc : Int) + off = (tgt : Int)) (k1 : ¬ a = b → J l g A x nL kc kn tgt lv st ws) (k2 : a = b → J l g A x nL kc kn pc' lv st ws) : J l g A x nL kc kn pc lv (.int b :: .int a :: st) ws := by subst hnp; exact fun H locs ls hP hD hS hl => lv_icmp_ne C.1 C.2.1 d ht (fun c => k1 c H locs ls hP hD hS hl) (fun c => k2 c H locs ls hP hD hS hl)
theorem j_icmp_lt (C : JC g A x own cc nL Ts rm) (pc' : Nat) (hnp : pc + 3 = pc') {a b : Int32} {off : Int} (tgt : Nat) (d : decode cc pc = .ok (.if_icmp .lt off, 3)) (ht : (pc : Int) + off = (tgt : Int)) (k1 : a < b → J l g A x nL kc kn tgt lv st ws) (k2 : ¬ a < b → J l g A x nL kc kn pc' lv st ws) : J l g A x nL kc kn pc lv (.int b :: .int a :: st) ws := by subst hnp; exact fun H locs ls hP hD hS hl => lv_icmp_lt C.1 C.2.1 d ht (fun c => k1 c H locs ls hP hD hS hl) (fun c => k2 c H locs ls hP hD hS hl)
theorem j_icmp_ge (C : JC g A x own cc nL Ts rm) (pc' : Nat) (hnp : pc + 3 = pc') {a b : Int32} {off : Int} (tgt : Nat) (d : decode cc pc = .ok (.if_icmp .ge off, 3)) (ht : (pc : Int) + off = (tgt : Int)) (k1 : b ≤ a → J l g A x nL kc kn tgt lv st ws) (k2 : ¬ b ≤ a → J l g A x nL kc kn pc' lv st ws) : J l g A x nL kc kn pc lv (.int b :: .int a :: st) ws := by subst hnp; exact fun H locs ls hP hD hS hl => lv_icmp_ge C.1 C.2.1 d ht (fun c => k1 c H locs ls hP hD hS hl) (fun c => k2 c H locs ls hP hD hS hl)
theorem j_icmp_gt (C : JC g A x own cc nL Ts rm) (pc' : Nat) (hnp : pc + 3 = pc') {a b : Int32} {off : Int} (tgt : Nat) (d : decode cc pc = .ok (.if_icmp .gt off, 3)) (ht : (pc : Int) + off = (tgt : Int)) (k1 : b < a → J l g A x nL kc kn tgt lv st ws) (k2 : ¬ b < a → J l g A x nL kc kn pc' lv st ws) : J l g A x nL kc kn pc lv (.int b :: .int a :: st) ws := by subst hnp; exact fun H locs ls hP hD hS hl => lv_icmp_gt C.1 C.2.1 d ht (fun c => k1 c H locs ls hP hD hS hl) (fun c => k2 c H locs ls hP hD hS hl)
theorem j_icmp_le (C : JC g A x own cc nL Ts rm) (pc' : Nat) (hnp : pc + 3 = pc') {a b : Int32} {off : Int} (tgt : Nat) (d : decode cc pc = .ok (.if_icmp .le off, 3)) (ht : (pc : Int) + off = (tgt : Int)) (k1 : a ≤ b → J l g A x nL kc kn tgt lv st ws) (k2 : ¬ a ≤ b → J l g A x nL kc kn pc' lv st ws) : J l g A x nL kc kn pc lv (.int b :: .int a :: st) ws := by subst hnp; exact fun H locs ls hP hD hS hl => lv_icmp_le C.1 C.2.1 d ht (fun c => k1 c H locs ls hP hD hS hl) (fun c => k2 c H locs ls hP hD hS hl)
theorem j_get (C : JC g A x own cc nL Ts rm) (pc' : Nat) (hnp : pc + 3 = pc') (q0 ci k : Nat) {ref C0 : String} {T : u_T} {N idx a : Nat} {fs : List Value} {v : Value} (hin : ∀ w ∈ u_ws C0 T N, w ∈ Ts) (hc : vwCl[ci]? = some (C0, T, N)) (hk : k < N) (hlink : Cond.fieldLink own idx ref (T k).2.1 (T k).2.2.1 ∈ Ts) (hsame : (T k).1 = ref) (he : ws[q0]? = some (a, .inr (ci, fs))) (hv : fs[k]? = some v) (d : decode cc pc = .ok (.getfield idx, 3)) (kk : J l g A x nL kc kn pc' lv (v :: st) ws) : J l g A x nL kc kn pc lv (.ref a :: st) ws := by subst hnp; exact fun H locs ls hP hD hS hl => va_get C.1 C.2.1 C.2.2.2.2.1 hin C.2.2.2.1 C.2.2.2.2.2.1 hP q0 he hc k hk (C.2.2.2.2.1 _ hlink) (fun _ h => by rw [← hsame]; exact h) hv d (kk H locs ls hP hD hS hl)
theorem j_put (C : JC g A x own cc nL Ts rm) (pc' : Nat) (hnp : pc + 3 = pc') (q0 ci k : Nat) {ref C0 : String} {T : u_T} {N idx a : Nat} {fs : List Value} {v : Value} {ty : FieldType} {ws' : va_W} {ty0 : Nat → FieldType} (hty : ∀ k, k < N → parseFieldDescriptor (T k).2.2.1 = some (ty0 k)) (hnm : ∀ a, a < N → ∀ b, b < N → a ≠ b → (T a).2.1 ≠ (T b).2.1) (hin : ∀ w ∈ u_ws C0 T N, w ∈ Ts) (hc : vwCl[ci]? = some (C0, T, N)) (hk : k < N) (hlink : Cond.fieldLink own idx ref (T k).2.1 (T k).2.2.1 ∈ Ts) (hsame : (T k).1 = ref) (hfin : (T k).2.2.2 = false) (hd : ty0 k = ty) (hn : narrow ty v = v) (hfit : fits ty v = true) (he : ws[q0]? = some (a, .inr (ci, fs))) (hlen : k < fs.length) (hws : ws.set q0 (a, .inr (ci, fs.set k v)) = ws') (d : decode cc pc = .ok (.putfield idx, 3)) (kk : J l g A x nL kc kn pc' lv st ws') : J l g A x nL kc kn pc lv (v :: .ref a :: st) ws := by subst hnp; exact fun H locs ls hP hD hS hl => va_put C.1 C.2.1 C.2.2.2.2.1 hin ty0 hty hnm C.2.2.2.1 C.2.2.2.2.2.1 hP hD hS q0 he hc k hk (C.2.2.2.2.1 _ hlink) (fun _ h => by rw [← hsame]; exact h) hfin (by rw [hty k hk, hd]) hn hfit hlen d (fun H1 locs1 hP1 hD1 hS1 => kk H1 locs1 ls (hws ▸ hP1) (hws ▸ hD1) hS1 hl)
theorem j_putF (C : JC g A x own cc nL Ts rm) (pc' : Nat) (hnp : pc + 3 = pc') {y : MethodName} {ret : Option FieldType} {mc ms : Nat} {Qc : Array Value → State → Outcome → State → Prop} (R : JR A x y ret mc ms Qc) (hyn : y.name = "<init>") (q0 ci k : Nat) {ref C0 : String} {T : u_T} {N idx a : Nat} {fs : List Value} {v : Value} {ty : FieldType} {ws' : va_W} {ty0 : Nat → FieldType} (hty : ∀ k, k < N → parseFieldDescriptor (T k).2.2.1 = some (ty0 k)) (hnm : ∀ a, a < N → ∀ b, b < N → a ≠ b → (T a).2.1 ≠ (T b).2.1) (hin : ∀ w ∈ u_ws C0 T N, w ∈ Ts) (hc : vwCl[ci]? = some (C0, T, N)) (hk : k < N) (hlink : Cond.fieldLink own idx ref (T k).2.1 (T k).2.2.1 ∈ Ts) (hsame : (T k).1 = ref) (hfin : (T k).2.2.2 = true) (hdecl : (T k).1 = own) (hd : ty0 k = ty) (hn : narrow ty v = v) (hfit : fits ty v = true) (he : ws[q0]? = some (a, .inr (ci, fs))) (hlen : k < fs.length) (hws : ws.set q0 (a, .inr (ci, fs.set k v)) = ws') (d : decode cc pc = .ok (.putfield idx, 3)) (kk : J l g A x nL kc kn pc' lv st ws') : J l g A x nL kc kn pc lv (v :: .ref a :: st) ws := by subst hnp; exact fun H locs ls hP hD hS hl => va_putF C.1 C.2.1 C.2.2.2.2.1 hin ty0 hty hnm C.2.2.2.1 C.2.2.2.2.2.1 hP hD hS q0 he hc k hk (C.2.2.2.2.1 _ hlink) (fun _ h => by rw [← hsame]; exact h) hfin (by rw [R.2.2.1, hyn]) hdecl (by rw [hty k hk, hd]) hn hfit hlen d (fun H1 locs1 hP1 hD1 hS1 => kk H1 locs1 ls (hws ▸ hP1) (hws ▸ hD1) hS1 hl)
theorem j_iald (C : JC g A x own cc nL Ts rm) (pc' : Nat) (hnp : pc + 1 = pc') (q0 k : Nat) {a n : Nat} {f : Nat → Int32} {i : Int32} (ha : ws[q0]? = some (a, gI g n f)) (ei : i = nI k) (hk : k < n) (hn : n < 2147483648) (d : decode cc pc = .ok (.iaload, 1)) (kk : J l g A x nL kc kn pc' lv (.int (f k) :: st) ws) : J l g A x nL kc kn pc lv (.int i :: .ref a :: st) ws := by subst hnp; exact fun H locs ls hP hD hS hl => va_iald C.1 C.2.1 C.2.2.2.2.2.1 hP q0 0 ha rfl (ix_in ei hk hn) d (by rw [ix_cl ei hk hn]; exact kk H locs ls hP hD hS hl)
theorem j_cald (C : JC g A x own cc nL Ts rm) (pc' : Nat) (hnp : pc + 1 = pc') (q0 k : Nat) {a n : Nat} {f : Nat → Int32} {i : Int32} (ha : ws[q0]? = some (a, gC g n f)) (ei : i = nI k) (hk : k < n) (hn : n < 2147483648) (d : decode cc pc = .ok (.caload, 1)) (kk : J l g A x nL kc kn pc' lv (.int (f k) :: st) ws) : J l g A x nL kc kn pc lv (.int i :: .ref a :: st) ws := by subst hnp; exact fun H locs ls hP hD hS hl => va_cald C.1 C.2.1 C.2.2.2.2.2.1 hP q0 1 ha rfl (ix_in ei hk hn) d (by rw [ix_cl ei hk hn]; exact kk H locs ls hP hD hS hl)
theorem j_zald (C : JC g A x own cc nL Ts rm) (pc' : Nat) (hnp : pc + 1 = pc') (q0 k : Nat) {a n : Nat} {f : Nat → Int32} {i : Int32} (ha : ws[q0]? = some (a, gZ g n f)) (ei : i = nI k) (hk : k < n) (hn : n < 2147483648) (d : decode cc pc = .ok (.baload, 1)) (kk : J l g A x nL kc kn pc' lv (.int (f k) :: st) ws) : J l g A x nL kc kn pc lv (.int i :: .ref a :: st) ws := by subst hnp; exact fun H locs ls hP hD hS hl => va_zald C.1 C.2.1 C.2.2.2.2.2.1 hP q0 2 ha rfl (ix_in ei hk hn) d (by rw [ix_cl ei hk hn]; exact kk H locs ls hP hD hS hl)
theorem j_iast (C : JC g A x own cc nL Ts rm) (pc' : Nat) (hnp : pc + 1 = pc') (q0 k : Nat) {a n : Nat} {f : Nat → Int32} {i v : Int32} {ws' : va_W} (ha : ws[q0]? = some (a, gI g n f)) (ei : i = nI k) (hk : k < n) (hn : n < 2147483648) (hws : ws.set q0 (a, gI g n (upd f k v)) = ws') (d : decode cc pc = .ok (.iastore, 1)) (kk : J l g A x nL kc kn pc' lv st ws') : J l g A x nL kc kn pc lv (.int v :: .int i :: .ref a :: st) ws := by subst hnp; exact fun H locs ls hP hD hS hl => va_iast C.1 C.2.1 C.2.2.2.2.2.1 hP hD hS q0 0 ha rfl (ix_in ei hk hn) d (fun H1 locs1 hP1 hD1 hS1 => kk H1 locs1 ls (by rw [ix_cl ei hk hn] at hP1; exact hws ▸ hP1) (by rw [ix_cl ei hk hn] at hD1; exact hws ▸ hD1) hS1 hl)
theorem j_cast (C : JC g A x own cc nL Ts rm) (pc' : Nat) (hnp : pc + 1 = pc') (q0 k : Nat) {a n : Nat} {f : Nat → Int32} {i v : Int32} {ws' : va_W} (ha : ws[q0]? = some (a, gC g n f)) (ei : i = nI k) (hk : k < n) (hn : n < 2147483648) (hws : ws.set q0 (a, gC g n (upd f k (vp_nar .char v))) = ws') (d : decode cc pc = .ok (.castore, 1)) (kk : J l g A x nL kc kn pc' lv st ws') : J l g A x nL kc kn pc lv (.int v :: .int i :: .ref a :: st) ws := by subst hnp; exact fun H locs ls hP hD hS hl => va_cast C.1 C.2.1 C.2.2.2.2.2.1 hP hD hS q0 1 ha rfl (ix_in ei hk hn) d (fun H1 locs1 hP1 hD1 hS1 => kk H1 locs1 ls (by rw [ix_cl ei hk hn] at hP1; exact hws ▸ hP1) (by rw [ix_cl ei hk hn] at hD1; exact hws ▸ hD1) hS1 hl)
theorem j_zast (C : JC g A x own cc nL Ts rm) (pc' : Nat) (hnp : pc + 1 = pc') (q0 k : Nat) {a n : Nat} {f : Nat → Int32} {i v : Int32} {ws' : va_W} (ha : ws[q0]? = some (a, gZ g n f)) (ei : i = nI k) (hk : k < n) (hn : n < 2147483648) (hws : ws.set q0 (a, gZ g n (upd f k (vp_nar .boolean v))) = ws') (d : decode cc pc = .ok (.bastore, 1)) (kk : J l g A x nL kc kn pc' lv st ws') : J l g A x nL kc kn pc lv (.int v :: .int i :: .ref a :: st) ws := by subst hnp; exact fun H locs ls hP hD hS hl => va_zast C.1 C.2.1 C.2.2.2.2.2.1 hP hD hS q0 2 ha rfl (ix_in ei hk hn) d (fun H1 locs1 hP1 hD1 hS1 => kk H1 locs1 ls (by rw [ix_cl ei hk hn] at hP1; exact hws ▸ hP1) (by rw [ix_cl ei hk hn] at hD1; exact hws ▸ hD1) hS1 hl)
theorem j_min (C : JC g A x own cc nL Ts rm) (pc' : Nat) (hnp : pc + 3 = pc') {idx : Nat} {a b : Int32} (h1 : Cond.methodLink own idx Lib.Math.min.name ∈ Ts) (h2 : Cond.static Lib.Math.min.name ∈ Ts) (h3 : Cond.initialized "java/lang/Math" ∈ Ts) (h4 : Cond.code Lib.Math.min.name Lib.Math.min.code 2 (some .int) ∈ Ts) (hf : 1 ≤ rm.frames) (hlo : (st.map fun v => v.category).sum + 13 ≤ rm.locals) (hc : kc ≤ rm.cells) (hs : kn ≤ rm.slots) (d : decode cc pc = .ok (.invokestatic idx, 3)) (kk : J l g A x nL kc kn pc' lv (.int (iMi a b) :: st) ws) : J l g A x nL kc kn pc lv (.int b :: .int a :: st) ws := by subst hnp; exact fun H locs ls hP hD hS hl => va_mmin C.1 C.2.1 (C.2.2.1.trans hl.1.symm) C.2.2.2.1 (C.2.2.2.2.1 _ h1) (C.2.2.2.2.1 _ h2) (C.2.2.2.2.1 _ h3) (C.2.2.2.2.1 _ h4) (by rw [C.2.2.2.2.2.2.2.2]; exact hf) (by rw [C.2.2.2.2.2.2.2.2]; exact hlo) (by rw [C.2.2.2.2.2.2.2.2]; exact hc) (by rw [C.2.2.2.2.2.2.2.2]; exact hs) d (kk H locs ls hP hD hS hl)
theorem j_max (C : JC g A x own cc nL Ts rm) (pc' : Nat) (hnp : pc + 3 = pc') {idx : Nat} {a b : Int32} (h1 : Cond.methodLink own idx Lib.Math.max.name ∈ Ts) (h2 : Cond.static Lib.Math.max.name ∈ Ts) (h3 : Cond.initialized "java/lang/Math" ∈ Ts) (h4 : Cond.code Lib.Math.max.name Lib.Math.max.code 2 (some .int) ∈ Ts) (hf : 1 ≤ rm.frames) (hlo : (st.map fun v => v.category).sum + 13 ≤ rm.locals) (hc : kc ≤ rm.cells) (hs : kn ≤ rm.slots) (d : decode cc pc = .ok (.invokestatic idx, 3)) (kk : J l g A x nL kc kn pc' lv (.int (iMa a b) :: st) ws) : J l g A x nL kc kn pc lv (.int b :: .int a :: st) ws := by subst hnp; exact fun H locs ls hP hD hS hl => va_mmax C.1 C.2.1 (C.2.2.1.trans hl.1.symm) C.2.2.2.1 (C.2.2.2.2.1 _ h1) (C.2.2.2.2.1 _ h2) (C.2.2.2.2.1 _ h3) (C.2.2.2.2.1 _ h4) (by rw [C.2.2.2.2.2.2.2.2]; exact hf) (by rw [C.2.2.2.2.2.2.2.2]; exact hlo) (by rw [C.2.2.2.2.2.2.2.2]; exact hc) (by rw [C.2.2.2.2.2.2.2.2]; exact hs) d (kk H locs ls hP hD hS hl)
theorem j_copy (C : JC g A x own cc nL Ts rm) (pc' : Nat) (hnp : pc + 3 = pc') (q0 q1 s d0 n : Nat) {idx a0 a1 n0 n1 : Nat} {f0 f1 : Nat → Int32} {sp dp nn : Int32} {ws' : va_W} (h1 : Cond.methodLink own idx arraycopyName ∈ Ts) (h2 : Cond.native arraycopyName ∈ Ts) (h3 : Cond.static arraycopyName ∈ Ts) (h4 : Cond.initialized "java/lang/System" ∈ Ts) (ha0 : ws[q0]? = some (a0, gI g n0 f0)) (ha1 : ws[q1]? = some (a1, gI g n1 f1)) (es : sp = nI s) (ed : dp = nI d0) (en : nn = nI n) (hs : s + n ≤ n0) (hd : d0 + n ≤ n1) (hn0 : n0 < 2147483648) (hn1 : n1 < 2147483648) (hf : 1 ≤ rm.frames) (hlo : (st.map fun v => v.category).sum + (nativeFrameWords "java/lang/System" "arraycopy" 5 + 11) ≤ rm.locals) (hws : ws.set q1 (a1, gI g n1 (va_cpy f0 f1 s d0 n)) = ws') (d : decode cc pc = .ok (.invokestatic idx, 3)) (kk : J l g A x nL kc kn pc' lv st ws') : J l g A x nL kc kn pc lv (.int nn :: .int dp :: .ref a1 :: .int sp :: .ref a0 :: st) ws := by
  subst hnp
  intro H locs ls hP hD hS hl
  have c1 := ix_cle es (n := n0) (by omega) hn0
  have c2 := ix_cle ed (n := n1) (by omega) hn1
  have c3 := ix_cle en (n := n0) (by omega) hn0
  refine va_copyi (ty := .int) C.1 C.2.1 (C.2.2.1.trans hl.1.symm) C.2.2.2.1 (C.2.2.2.2.1 _ h1) (C.2.2.2.2.1 _ h2) (C.2.2.2.2.1 _ h3) (C.2.2.2.2.1 _ h4) C.2.2.2.2.2.1 hP hD hS q0 q1 0 0 ha0 ha1 rfl rfl rfl (ix_pos es (n := n0) (by omega) hn0) (ix_pos ed (n := n1) (by omega) hn1) (ix_pos en (n := n0) (by omega) hn0) (by rw [c1, c3]; exact hs) (by rw [c2, c3]; exact hd) (fun _ _ => rfl) (by rw [C.2.2.2.2.2.2.2.2]; exact hf) (by rw [C.2.2.2.2.2.2.2.2]; exact hlo) d (fun H1 locs1 hP1 hD1 hS1 => ?_)
  rw [c1, c2, c3] at hP1 hD1
  exact kk H1 locs1 ls (hws ▸ hP1) (hws ▸ hD1) hS1 hl
theorem j_ldc_w (C : JC g A x own cc nL Ts rm) (pc' : Nat) (hnp : pc + 3 = pc') {idx : Nat} {v : Int32} (hc : Cond.constant own idx v ∈ Ts) (d : decode cc pc = .ok (.ldc_w idx, 3)) (k : J l g A x nL kc kn pc' lv (.int v :: st) ws) : J l g A x nL kc kn pc lv st ws := by subst hnp; exact fun H locs ls hP hD hS hl => lv_ldcw C.1 C.2.1 C.2.2.2.1 (C.2.2.2.2.1 _ hc) d (k H locs ls hP hD hS hl)
theorem j_tout (C : JC g A x own cc nL Ts rm) {dflt lo hi : Int} {offs : Array Int} {len : Nat} {v : Int32} (tgt : Nat) (d : decode cc pc = .ok (.tableswitch dflt lo hi offs, len)) (h : v.toInt < lo ∨ hi < v.toInt) (ht : (pc : Int) + dflt = (tgt : Int)) (k : J l g A x nL kc kn tgt lv st ws) : J l g A x nL kc kn pc lv (.int v :: st) ws := fun H locs ls hP hD hS hl => lv_tableOut C.1 C.2.1 d h ht (k H locs ls hP hD hS hl)
theorem j_tin (C : JC g A x own cc nL Ts rm) {dflt lo hi : Int} {offs : Array Int} {len : Nat} {v : Int32} {off : Int} (tgt : Nat) (w : Int32) (hv : v = w) (d : decode cc pc = .ok (.tableswitch dflt lo hi offs, len)) (h1 : ¬ w.toInt < lo) (h2 : ¬ hi < w.toInt) (ho : offs[(w.toInt - lo).toNat]? = some off) (ht : (pc : Int) + off = (tgt : Int)) (k : J l g A x nL kc kn tgt lv st ws) : J l g A x nL kc kn pc lv (.int v :: st) ws := fun H locs ls hP hD hS hl => by subst hv; exact lv_tableIn C.1 C.2.1 d h1 h2 ho ht (k H locs ls hP hD hS hl)
theorem j_ldcS0 (C : JC g A x RX4 cc nL Ts rm) (pc' : Nat) (hnp : pc + 2 = pc') (d : decode cc pc = .ok (.ldc 62, 2)) (k : J l g A x nL kc kn pc' lv (.ref (g.2.2 0) :: st) ws) : J l g A x nL kc kn pc lv st ws := by subst hnp; exact fun H locs ls hP hD hS hl => va_ldcS C.1 C.2.1 C.2.2.2.1 C.2.2.2.2.2.2.2.1.2.2.1.1 d (k H locs ls hP hD hS hl)
theorem j_ldcS1 (C : JC g A x RX4 cc nL Ts rm) (pc' : Nat) (hnp : pc + 2 = pc') (d : decode cc pc = .ok (.ldc 75, 2)) (k : J l g A x nL kc kn pc' lv (.ref (g.2.2 1) :: st) ws) : J l g A x nL kc kn pc lv st ws := by subst hnp; exact fun H locs ls hP hD hS hl => va_ldcS C.1 C.2.1 C.2.2.2.1 C.2.2.2.2.2.2.2.1.2.2.1.2 d (k H locs ls hP hD hS hl)
theorem j_coder (C : JC g A x own cc nL Ts rm) (pc' : Nat) (hnp : pc + 3 = pc') (i : Nat) (hi : i < 2) {idx : Nat} (hlink : Cond.fieldLink own idx "java/lang/String" "coder" "B" ∈ Ts) (d : decode cc pc = .ok (.getfield idx, 3)) (k : J l g A x nL kc kn pc' lv (.int 0 :: st) ws) : J l g A x nL kc kn pc lv (.ref (g.2.2 i) :: st) ws := by subst hnp; exact fun H locs ls hP hD hS hl => vk_getf C.1 C.2.1 (C.2.2.2.2.2.2.2.1.1.1.1 i hi).2.1 hS C.2.2.2.1 (C.2.2.2.2.1 _ hlink) (fun _ h => h) d (k H locs ls hP hD hS hl)
theorem j_value (C : JC g A x own cc nL Ts rm) (pc' : Nat) (hnp : pc + 3 = pc') (i : Nat) (hi : i < 2) {idx : Nat} (hlink : Cond.fieldLink own idx "java/lang/String" "value" "[B" ∈ Ts) (d : decode cc pc = .ok (.getfield idx, 3)) (k : J l g A x nL kc kn pc' lv (.ref (g.2.2 (i + 10)) :: st) ws) : J l g A x nL kc kn pc lv (.ref (g.2.2 i) :: st) ws := by subst hnp; exact fun H locs ls hP hD hS hl => vk_getf C.1 C.2.1 (C.2.2.2.2.2.2.2.1.1.1.1 i hi).2.2.1 hS C.2.2.2.1 (C.2.2.2.2.1 _ hlink) (fun _ h => h) d (k H locs ls hP hD hS hl)
theorem j_blen (C : JC g A x own cc nL Ts rm) (pc' : Nat) (hnp : pc + 1 = pc') (i : Nat) (hi : i < 2) (d : decode cc pc = .ok (.arraylength, 1)) (k : J l g A x nL kc kn pc' lv (.int (nI (gLen.getD i 0)) :: st) ws) : J l g A x nL kc kn pc lv (.ref (g.2.2 (i + 10)) :: st) ws := by subst hnp; exact fun H locs ls hP hD hS hl => va_tlen C.1 C.2.1 (C.2.2.2.2.2.2.2.1.1.1.1 i hi).2.2.2 hS rfl d (k H locs ls hP hD hS hl)
theorem gLen_lt (i : Nat) : gLen.getD i 0 < 2147483648 := by
  match i with
  | 0 => decide
  | 1 => decide
  | n + 2 => simp [gLen]
theorem j_bald (C : JC g A x own cc nL Ts rm) (pc' : Nat) (hnp : pc + 1 = pc') (i k : Nat) (hi : i < 2) {z : Int32} (ei : z = nI k) (hk : k < gLen.getD i 0) (d : decode cc pc = .ok (.baload, 1)) (kk : J l g A x nL kc kn pc' lv (.int ((gByt.getD i []).getD k 0) :: st) ws) : J l g A x nL kc kn pc lv (.int z :: .ref (g.2.2 (i + 10)) :: st) ws := by subst hnp; exact fun H locs ls hP hD hS hl => va_tb C.1 C.2.1 (C.2.2.2.2.2.2.2.1.1.1.1 i hi).2.2.2 hS (ix_in ei hk (gLen_lt i)) (v := .int ((gByt.getD i []).getD k 0)) (by rw [ix_cl ei hk (gLen_lt i)]) d (kk H locs ls hP hD hS hl)
theorem j_compact (C : JC g A x own cc nL Ts rm) (pc' : Nat) (hnp : pc + 3 = pc') {idx : Nat} (hlink : Cond.fieldLink own idx "java/lang/String" "COMPACT_STRINGS" "Z" ∈ Ts) (d : decode cc pc = .ok (.getstatic idx, 3)) (k : J l g A x nL kc kn pc' lv (.int 1 :: st) ws) : J l g A x nL kc kn pc lv st ws := by subst hnp; exact fun H locs ls hP hD hS hl => va_gets C.1 C.2.1 C.2.2.2.2.2.2.2.1.1.2.1 hS C.2.2.2.1 (C.2.2.2.2.1 _ hlink) (fun _ h => h) d (k H locs ls hP hD hS hl)
theorem j_sioobe (C : JC g A x own cc nL Ts rm) (pc' : Nat) (hnp : pc + 3 = pc') {idx : Nat} (hlink : Cond.fieldLink own idx "jdk/internal/util/Preconditions" "SIOOBE_FORMATTER" "Ljava/util/function/BiFunction;" ∈ Ts) (d : decode cc pc = .ok (.getstatic idx, 3)) (k : ∀ v : Value, (v = .null ∨ ∃ t, v = .ref t) → J l g A x nL kc kn pc' lv (v :: st) ws) : J l g A x nL kc kn pc lv st ws := by
  subst hnp
  intro H locs ls hP hD hS hl
  rcases C.2.2.2.2.2.2.2.1.1.2.2 with h | ⟨t, h⟩
  · exact va_gets C.1 C.2.1 h hS C.2.2.2.1 (C.2.2.2.2.1 _ hlink) (fun _ h => h) d (k _ (Or.inl rfl) H locs ls hP hD hS hl)
  · exact va_gets C.1 C.2.1 h hS C.2.2.2.1 (C.2.2.2.2.1 _ hlink) (fun _ h => h) d (k _ (Or.inr ⟨t, rfl⟩) H locs ls hP hD hS hl)
theorem j_iret (C : JC g A x own cc nL Ts rm) {y : MethodName} {ty : FieldType} {mc ms : Nat} {S : Type} {post : Int32 → S → Prop} {w1 : S → va_W} (R : JR A x y (some ty) mc ms (va_Qi post (fun u t => va_P g.1 vwCl (w1 u) t.heap ∧ va_D A (w1 u)) A)) {v : Int32} (u : S) (hn : narrow ty (.int v) = .int v) (d : decode cc pc = .ok (.ireturn, 1)) (hw : w1 u = ws) (hp : post v u) : J l g A x nL mc ms pc lv [.int v] ws := by
  intro H locs ls hP hD hS hl
  rw [R.2.2.2]
  exact W.zret C.1 C.2.1 R.1 hn (fun t ht hW => ⟨⟨v, u, rfl, hp, by rw [ht, hw]; exact hP, by rw [hw]; exact hD⟩, hS.F ht⟩) hS.2.2 d R.2.1
theorem j_vret (C : JC g A x own cc nL Ts rm) {y : MethodName} {mc ms : Nat} {S : Type} {post : S → Prop} {w1 : S → va_W} (R : JR A x y none mc ms (va_Qv post (fun u t => va_P g.1 vwCl (w1 u) t.heap ∧ va_D A (w1 u)) A)) (u : S) (d : decode cc pc = .ok (.return_, 1)) (hw : w1 u = ws) (hp : post u) : J l g A x nL mc ms pc lv [] ws := by
  intro H locs ls hP hD hS hl
  rw [R.2.2.2]
  exact W.vret C.1 C.2.1 R.1 (fun t ht hW => ⟨⟨u, rfl, hp, by rw [ht, hw]; exact hP, by rw [hw]; exact hD⟩, hS.F ht⟩) hS.2.2 d R.2.1
theorem j_aret (C : JC g A x own cc nL Ts rm) {y : MethodName} {rt : FieldType} {mc ms : Nat} {S : Type} {ad : Nat} {post : S → Prop} {w1 : S → va_W} (R : JR A x y (some rt) mc ms (va_Qr post (fun u a t => a = ad ∧ va_P g.1 vwCl (w1 u) t.heap ∧ va_D A (w1 u)) A)) (u : S) (hrt : (∃ n, rt = .object n) ∨ ∃ t, rt = .array t) (d : decode cc pc = .ok (.areturn, 1)) (hw : w1 u = ws) (hp : post u) : J l g A x nL mc ms pc lv [.ref ad] ws := by
  intro H locs ls hP hD hS hl
  rw [R.2.2.2]
  exact W.aret C.1 C.2.1 R.1 hrt (Or.inr ⟨ad, rfl⟩) (fun t ht hW => ⟨⟨u, ad, rfl, hp, rfl, by rw [ht, hw]; exact hP, by rw [hw]; exact hD⟩, hS.F ht⟩) hS.2.2 d R.2.1
theorem j_pre {H : Heap} {locs : List Loc} {wc : va_W} {av : List Value} (C : JC g A x own cc nL Ts rm) (hP : va_P g.1 vwCl ws H) (hD : va_D A ws) (hS : va_S A x.2.2.2.1.heap H locs) (isC : List Nat) (hC : isC.map (fun i => ws[i]?) = wc.map some) (hn : va_nd isC = true) : ∀ U : State, U.heap = H → x.2.2.2.1.WarmedH U.vm → va_Pc av (gP g wc H.size) av.toArray U := by
  intro U hU hW
  have hs : isC.filterMap (fun i => ws[i]?) = wc := by
    have h1 : isC.filterMap (fun i => ws[i]?) = (isC.map (fun i => ws[i]?)).filterMap id := by rw [List.filterMap_map]; rfl
    rw [h1, hC, List.filterMap_map]
    simp
  exact ⟨rfl, by rw [hU], by rw [hU]; exact hP.sub isC hs, va_K.moved hW.alike C.2.2.2.2.2.1, (hD.sub isC hn hC).weaken (fun _ _ _ _ => trivial), gS_call C.2.2.2.2.2.2.2.1 hS hU hW (va_free hD hS C.2.2.2.2.2.2.1 isC hC)⟩
/-- a call that can be made: 'rest' is what is below it on the stack, wc its world, Qc what it says behind -/
def JCall (l : Launch) (g : gE) (A : Nat → Prop) (x : jX) (nL kc kn mc ms pc : Nat) (lv : List (Nat × Value)) (st rest : List Value) (ws wc : va_W) (Qc : Nat → Array Value → State → Outcome → State → Prop) : Prop :=
  ∀ (H : Heap) (locs : List Loc) (ls : Array Slot), va_P g.1 vwCl ws H → va_D A ws → va_S A x.2.2.2.1.heap H locs → lv_has ls nL lv → ∃ av : Array Value, va_Run x.1 l x.2.1 x.2.2.1 x.2.2.2.1 x.2.2.2.2.1 x.2.2.2.2.2.1 x.2.2.2.2.2.2.1 x.2.2.2.2.2.2.2.1 x.2.2.2.2.2.2.2.2.1 H locs kc kn mc ms (F0 x.2.2.2.2.1 pc ls st) rest (Qc H.size av) (va_A wc H.size)
theorem jc_V (C : JC g A x own cc nL Ts rm) {y : MethodName} {wy wy' : List Cond} {ry : Room} {b idx maxL : Nat} {As : List Value} {wc : va_W} {mc ms : Nat} {CC : String} {bytes : ByteArray} {ret : Option FieldType} {Qc : Nat → Array Value → State → Outcome → State → Prop} (hM : ∀ sz : Nat, Met l y wy ry (va_Pc (.ref b :: As) (gP g wc sz)) (Qc sz) mc ms (va_A wc sz)) (n : Nat) (hG : GoodIn Ts (wsV own idx CC y wy)) (hw : wy = Cond.code y bytes maxL ret :: wy') (hrc : ry.cells = mc) (hrs : ry.slots = ms) (hd : y.cls = CC ∧ y.cls ≠ "java/lang/invoke/MethodHandle" ∧ y.cls ≠ "java/lang/invoke/VarHandle" ∧ (parseMethodDescriptor y.desc).map (fun d => d.parameters.length) = some n) (hR : ry.frames + 1 ≤ rm.frames ∧ 8 + (maxL + 11) + ry.locals ≤ rm.locals) (hrec : ∀ (H : Heap) (locs : List Loc), va_P g.1 vwCl ws H → va_S A x.2.2.2.1.heap H locs → ∃ cell : Cell, H[b]? = some cell ∧ cell.vm.isStatics = false ∧ x.2.2.2.1.vm.findClass CC = some cell.cls) (isC : List Nat) (hC : isC.map (fun i => ws[i]?) = wc.map some) (hnd : va_nd isC = true) {rest : List Value} (hst : st = As.reverse ++ .ref b :: rest) (hn : As.length = n) (hcat : (rest.map fun v => v.category).sum ≤ 8) (d : decode cc pc = .ok (.invokevirtual idx, 3)) (hf : kc + mc ≤ rm.cells ∧ kn + ms ≤ rm.slots) : JCall l g A x nL kc kn mc ms pc lv st rest ws wc Qc := by
  intro H locs ls hP hD hS hl
  subst hst
  exact ⟨_, va_runV (As := As) (rest := rest) ⟨C.1, C.2.1, C.2.2.1, C.2.2.2.1, C.2.2.2.2.1⟩ (hM H.size) (cwV n C.2.2.2.2.1 hG hw hrc hrs hd (by rw [C.2.2.2.2.2.2.2.2]; exact hR)) ⟨gP_blind, hrec H locs hP hS, j_pre C hP hD hS isC hC hnd⟩ rfl hn hl.1 rfl (lv_room hcat) d (by rw [C.2.2.2.2.2.2.2.2]; exact hf)⟩
theorem j_rec (C : JC g A x own cc nL Ts rm) (q0 ci : Nat) {b : Nat} {CC : String} {fs : List Value} {T : u_T} {N : Nat} (he : ws[q0]? = some (b, .inr (ci, fs))) (hcl : vwCl[ci]? = some (CC, T, N)) : ∀ (H : Heap) (locs : List Loc), va_P g.1 vwCl ws H → va_S A x.2.2.2.1.heap H locs → ∃ cell : Cell, H[b]? = some cell ∧ cell.vm.isStatics = false ∧ x.2.2.2.1.vm.findClass CC = some cell.cls := fun _ _ hP _ => va_recv C.2.2.2.2.2.1 hP hcl he
theorem j_recK (C : JC g A x own cc nL Ts rm) (i : Nat) (hi : i < 2) : ∀ (H : Heap) (locs : List Loc), va_P g.1 vwCl ws H → va_S A x.2.2.2.1.heap H locs → ∃ cell : Cell, H[g.2.2 i]? = some cell ∧ cell.vm.isStatics = false ∧ x.2.2.2.1.vm.findClass "java/lang/String" = some cell.cls := fun _ _ _ hS => vk_recv (i := i) C.2.2.2.2.2.2.2.1.1.1 hi hS
theorem jc_S (C : JC g A x own cc nL Ts rm) {y : MethodName} {wy wy' : List Cond} {ry : Room} {idx maxL : Nat} {As : List Value} {wc : va_W} {mc ms : Nat} {bytes : ByteArray} {ret : Option FieldType} {Qc : Nat → Array Value → State → Outcome → State → Prop} (hM : ∀ sz : Nat, Met l y wy ry (va_Pc As (gP g wc sz)) (Qc sz) mc ms (va_A wc sz)) (n : Nat) (hG : GoodIn Ts (va_wsS own idx y wy)) (hw : wy = Cond.code y bytes maxL ret :: wy') (hrc : ry.cells = mc) (hrs : ry.slots = ms) (hd : y.cls ≠ "java/lang/invoke/MethodHandle" ∧ y.cls ≠ "java/lang/invoke/VarHandle" ∧ (parseMethodDescriptor y.desc).map (fun d => d.parameters.length) = some n) (hR : ry.frames + 1 ≤ rm.frames ∧ 8 + (maxL + 11) + ry.locals ≤ rm.locals) (isC : List Nat) (hC : isC.map (fun i => ws[i]?) = wc.map some) (hnd : va_nd isC = true) {rest : List Value} (hst : st = As.reverse ++ rest) (hn : As.length = n) (hcat : (rest.map fun v => v.category).sum ≤ 8) (d : decode cc pc = .ok (.invokestatic idx, 3)) (hf : kc + mc ≤ rm.cells ∧ kn + ms ≤ rm.slots) : JCall l g A x nL kc kn mc ms pc lv st rest ws wc Qc := by
  intro H locs ls hP hD hS hl
  subst hst
  exact ⟨_, va_runS (As := As) (rest := rest) ⟨C.1, C.2.1, C.2.2.1, C.2.2.2.1, C.2.2.2.2.1⟩ (hM H.size) (va_cwS n C.2.2.2.2.1 hG hw hrc hrs hd (by rw [C.2.2.2.2.2.2.2.2]; exact hR)) ⟨gP_blind, j_pre C hP hD hS isC hC hnd⟩ rfl hn hl.1 rfl (lv_room hcat) d (by rw [C.2.2.2.2.2.2.2.2]; exact hf)⟩
theorem jc_I (C : JC g A x own cc nL Ts rm) {y : MethodName} {wy wy' : List Cond} {ry : Room} {b idx maxL : Nat} {As : List Value} {wc : va_W} {mc ms : Nat} {bytes : ByteArray} {Qc : Nat → Array Value → State → Outcome → State → Prop} (hM : ∀ sz : Nat, Met l y wy ry (va_Pc (.ref b :: As) (gP g wc sz)) (Qc sz) mc ms (va_A wc sz)) (n : Nat) (hG : GoodIn Ts wy) (hw : wy = Cond.code y bytes maxL none :: wy') (hrc : ry.cells = mc) (hrs : ry.slots = ms) (hini : Cond.initialized y.cls ∈ Ts) (hli : Cond.methodLink own idx y ∈ Ts) (hins : Cond.instanceMethod y ∈ Ts) (hy1 : y.name = "<init>") (hd : y.cls ≠ "java/lang/invoke/MethodHandle" ∧ y.cls ≠ "java/lang/invoke/VarHandle" ∧ (parseMethodDescriptor y.desc).map (fun d => d.parameters.length) = some n) (hR : ry.frames + 1 ≤ rm.frames ∧ 8 + (maxL + 11) + ry.locals ≤ rm.locals) (isC : List Nat) (hC : isC.map (fun i => ws[i]?) = wc.map some) (hnd : va_nd isC = true) {rest : List Value} (hst : st = As.reverse ++ .ref b :: rest) (hn : As.length = n) (hcat : (rest.map fun v => v.category).sum ≤ 8) (d : decode cc pc = .ok (.invokespecial idx, 3)) (hf : kc + mc ≤ rm.cells ∧ kn + ms ≤ rm.slots) : JCall l g A x nL kc kn mc ms pc lv st rest ws wc Qc := by
  intro H locs ls hP hD hS hl
  subst hst
  exact ⟨_, va_runI (As := As) (rest := rest) ⟨C.1, C.2.1, C.2.2.1, C.2.2.2.1, C.2.2.2.2.1⟩ (hM H.size) (cwI n C.2.2.2.2.1 hG hw hrc hrs (C.2.2.2.2.1 _ hini) (C.2.2.2.2.1 _ hli) (C.2.2.2.2.1 _ hins) hy1 hd (by rw [C.2.2.2.2.2.2.2.2]; exact hR)) ⟨gP_blind, j_pre C hP hD hS isC hC hnd⟩ rfl hn hl.1 rfl (lv_room hcat) d (by rw [C.2.2.2.2.2.2.2.2]; exact hf)⟩
theorem jc_IN (C : JC g A x own cc nL Ts rm) {y : MethodName} {wy wy' : List Cond} {ry : Room} {b idx maxL : Nat} {host : String} {As : List Value} {wc : va_W} {mc ms : Nat} {bytes : ByteArray} {Qc : Nat → Array Value → State → Outcome → State → Prop} (hM : ∀ sz : Nat, Met l y wy ry (va_Pc (.ref b :: As) (gP g wc sz)) (Qc sz) mc ms (va_A wc sz)) (n : Nat) (hG : GoodIn Ts wy) (hw : wy = Cond.code y bytes maxL none :: wy') (hrc : ry.cells = mc) (hrs : ry.slots = ms) (hini : Cond.initialized y.cls ∈ Ts) (hli : va_Nw (.methodLinkNest own idx y host) x.2.2.2.1) (hins : Cond.instanceMethod y ∈ Ts) (hy1 : y.name = "<init>") (hd : y.cls ≠ "java/lang/invoke/MethodHandle" ∧ y.cls ≠ "java/lang/invoke/VarHandle" ∧ (parseMethodDescriptor y.desc).map (fun d => d.parameters.length) = some n) (hR : ry.frames + 1 ≤ rm.frames ∧ 8 + (maxL + 11) + ry.locals ≤ rm.locals) (isC : List Nat) (hC : isC.map (fun i => ws[i]?) = wc.map some) (hnd : va_nd isC = true) {rest : List Value} (hst : st = As.reverse ++ .ref b :: rest) (hn : As.length = n) (hcat : (rest.map fun v => v.category).sum ≤ 8) (d : decode cc pc = .ok (.invokespecial idx, 3)) (hf : kc + mc ≤ rm.cells ∧ kn + ms ≤ rm.slots) : JCall l g A x nL kc kn mc ms pc lv st rest ws wc Qc := by
  intro H locs ls hP hD hS hl
  subst hst
  exact ⟨_, va_runIN (As := As) (rest := rest) ⟨C.1, C.2.1, C.2.2.1, C.2.2.2.1, C.2.2.2.2.1⟩ (hM H.size) ⟨va_cnB n C.2.2.2.2.1 hG hw hrc hrs hli (C.2.2.2.2.1 _ hini) hd (by rw [C.2.2.2.2.2.2.2.2]; exact hR), hy1, C.2.2.2.2.1 _ hins⟩ ⟨gP_blind, j_pre C hP hD hS isC hC hnd⟩ rfl hn hl.1 rfl (lv_room hcat) d (by rw [C.2.2.2.2.2.2.2.2]; exact hf)⟩
/-- behind a call: its world stays as it is -/
theorem j_ri (C : JC g A x own cc nL Ts rm) (pc' : Nat) (hnp : pc + 3 = pc') {mc ms : Nat} {wc : va_W} {rest : List Value} {S : Type} {post : Int32 → S → Prop} {w1 : S → va_W} (h : JCall l g A x nL kc kn mc ms pc lv st rest ws wc (fun sz => va_Qi post (fun u t => va_P g.1 vwCl (w1 u) t.heap ∧ va_D (va_A wc sz) (w1 u)) (va_A wc sz))) (isC : List Nat) (hC : isC.map (fun i => ws[i]?) = wc.map some) (hsame : ∀ u, w1 u = wc) (kk : ∀ (r : Int32) (u : S), post r u → J l g A x nL (kc + mc) (kn + ms) pc' lv (.int r :: rest) ws) : J l g A x nL kc kn pc lv st ws := by
  subst hnp
  intro H locs ls hP hD hS hl
  have hF := va_free hD hS C.2.2.2.2.2.2.1 isC hC
  obtain ⟨av, hr⟩ := h H locs ls hP hD hS hl
  refine va_calli hr hS (fun q _ h => hF q h) hF (fun r u t H1 locs1 ht hvm hq hB hz hk hS1 => ?_)
  rw [ht, hsame u] at hB
  exact kk r u hq H1 locs1 ls (va_same hP hD isC hC hk hB.1) hD hS1 hl
theorem j_rv (C : JC g A x own cc nL Ts rm) (pc' : Nat) (hnp : pc + 3 = pc') {mc ms : Nat} {wc : va_W} {rest : List Value} {S : Type} {post : S → Prop} {w1 : S → va_W} (h : JCall l g A x nL kc kn mc ms pc lv st rest ws wc (fun sz => va_Qv post (fun u t => va_P g.1 vwCl (w1 u) t.heap ∧ va_D (va_A wc sz) (w1 u)) (va_A wc sz))) (isC : List Nat) (hC : isC.map (fun i => ws[i]?) = wc.map some) (hsame : ∀ u, w1 u = wc) (kk : ∀ (u : S), post u → J l g A x nL (kc + mc) (kn + ms) pc' lv rest ws) : J l g A x nL kc kn pc lv st ws := by
  subst hnp
  intro H locs ls hP hD hS hl
  have hF := va_free hD hS C.2.2.2.2.2.2.1 isC hC
  obtain ⟨av, hr⟩ := h H locs ls hP hD hS hl
  refine va_callv hr hS (fun q _ h => hF q h) hF (fun u t H1 locs1 ht hvm hq hB hz hk hS1 => ?_)
  rw [ht, hsame u] at hB
  exact kk u hq H1 locs1 ls (va_same hP hD isC hC hk hB.1) hD hS1 hl
theorem va_perm {A : Nat → Prop} {w w' : va_W} {H : Heap} (hP : va_P g.1 vwCl w H) (hD : va_D A w) (perm : List Nat) (hn : va_nd perm = true) (h : perm.map (fun i => w[i]?) = w'.map some) : va_P g.1 vwCl w' H ∧ va_D A w' := by
  refine ⟨hP.sub perm ?_, hD.sub perm hn h⟩
  have h1 : perm.filterMap (fun i => w[i]?) = (perm.map (fun i => w[i]?)).filterMap id := by rw [List.filterMap_map]; rfl
  rw [h1, h, List.filterMap_map]
  simp
/-- .. its world changes: the caller's other cells (places isR: wr), then the callee's; perm puts them in their order again -/
theorem j_rwi (C : JC g A x own cc nL Ts rm) (pc' : Nat) (hnp : pc + 3 = pc') {mc ms : Nat} {wc : va_W} {rest : List Value} {S : Type} {post : Int32 → S → Prop} {w1 : S → va_W} (h : JCall l g A x nL kc kn mc ms pc lv st rest ws wc (fun sz => va_Qi post (fun u t => va_P g.1 vwCl (w1 u) t.heap ∧ va_D (va_A wc sz) (w1 u)) (va_A wc sz))) (isC isR perm : List Nat) {wr : va_W} {ws' : S → va_W} (hC : isC.map (fun i => ws[i]?) = wc.map some) (hRr : isR.map (fun i => ws[i]?) = wr.map some) (hnR : va_nd isR = true) (hdis : ∀ i ∈ isR, i ∉ isC) (hpn : va_nd perm = true) (hpm : ∀ u, perm.map (fun i => (wr ++ w1 u)[i]?) = (ws' u).map some) (kk : ∀ (r : Int32) (u : S), post r u → J l g A x nL (kc + mc) (kn + ms) pc' lv (.int r :: rest) (ws' u)) : J l g A x nL kc kn pc lv st ws := by
  subst hnp
  intro H locs ls hP hD hS hl
  have hF := va_free hD hS C.2.2.2.2.2.2.1 isC hC
  obtain ⟨av, hr⟩ := h H locs ls hP hD hS hl
  refine va_calli hr hS (fun q _ h => hF q h) hF (fun r u t H1 locs1 ht hvm hq hB hz hk hS1 => ?_)
  rw [ht] at hB
  obtain ⟨hP2, hD2⟩ := va_join hP hD isC isR hC hRr hnR hdis hk hF hB.1 hB.2
  obtain ⟨hP3, hD3⟩ := va_perm hP2 hD2 perm hpn (hpm u)
  exact kk r u hq H1 locs1 ls hP3 hD3 hS1 hl
theorem j_rwv (C : JC g A x own cc nL Ts rm) (pc' : Nat) (hnp : pc + 3 = pc') {mc ms : Nat} {wc : va_W} {rest : List Value} {S : Type} {post : S → Prop} {w1 : S → va_W} (h : JCall l g A x nL kc kn mc ms pc lv st rest ws wc (fun sz => va_Qv post (fun u t => va_P g.1 vwCl (w1 u) t.heap ∧ va_D (va_A wc sz) (w1 u)) (va_A wc sz))) (isC isR perm : List Nat) {wr : va_W} {ws' : S → va_W} (hC : isC.map (fun i => ws[i]?) = wc.map some) (hRr : isR.map (fun i => ws[i]?) = wr.map some) (hnR : va_nd isR = true) (hdis : ∀ i ∈ isR, i ∉ isC) (hpn : va_nd perm = true) (hpm : ∀ u, perm.map (fun i => (wr ++ w1 u)[i]?) = (ws' u).map some) (kk : ∀ (u : S), post u → J l g A x nL (kc + mc) (kn + ms) pc' lv rest (ws' u)) : J l g A x nL kc kn pc lv st ws := by
  subst hnp
  intro H locs ls hP hD hS hl
  have hF := va_free hD hS C.2.2.2.2.2.2.1 isC hC
  obtain ⟨av, hr⟩ := h H locs ls hP hD hS hl
  refine va_callv hr hS (fun q _ h => hF q h) hF (fun u t H1 locs1 ht hvm hq hB hz hk hS1 => ?_)
  rw [ht] at hB
  obtain ⟨hP2, hD2⟩ := va_join hP hD isC isR hC hRr hnR hdis hk hF hB.1 hB.2
  obtain ⟨hP3, hD3⟩ := va_perm hP2 hD2 perm hpn (hpm u)
  exact kk u hq H1 locs1 ls hP3 hD3 hS1 hl
theorem j_rwr (C : JC g A x own cc nL Ts rm) (pc' : Nat) (hnp : pc + 3 = pc') {mc ms ad : Nat} {wc : va_W} {rest : List Value} {S : Type} {post : S → Prop} {w1 : S → va_W} (h : JCall l g A x nL kc kn mc ms pc lv st rest ws wc (fun sz => va_Qr post (fun u a t => a = ad ∧ va_P g.1 vwCl (w1 u) t.heap ∧ va_D (va_A wc sz) (w1 u)) (va_A wc sz))) (isC isR perm : List Nat) {wr : va_W} {ws' : S → va_W} (hC : isC.map (fun i => ws[i]?) = wc.map some) (hRr : isR.map (fun i => ws[i]?) = wr.map some) (hnR : va_nd isR = true) (hdis : ∀ i ∈ isR, i ∉ isC) (hpn : va_nd perm = true) (hpm : ∀ u, perm.map (fun i => (wr ++ w1 u)[i]?) = (ws' u).map some) (kk : ∀ (u : S), post u → J l g A x nL (kc + mc) (kn + ms) pc' lv (.ref ad :: rest) (ws' u)) : J l g A x nL kc kn pc lv st ws := by
  subst hnp
  intro H locs ls hP hD hS hl
  have hF := va_free hD hS C.2.2.2.2.2.2.1 isC hC
  obtain ⟨av, hr⟩ := h H locs ls hP hD hS hl
  refine va_callr hr hS (fun q _ h => hF q h) hF (fun u ra t H1 locs1 ht hvm hq hB hz hk hS1 => ?_)
  obtain ⟨rfl, hB⟩ := hB
  rw [ht] at hB
  obtain ⟨hP2, hD2⟩ := va_join hP hD isC isR hC hRr hnR hdis hk hF hB.1 hB.2
  obtain ⟨hP3, hD3⟩ := va_perm hP2 hD2 perm hpn (hpm u)
  exact kk u hq H1 locs1 ls hP3 hD3 hS1 hl
/-- Object's constructor -/
theorem j_objInit (C : JC g A x own cc nL Ts rm) (pc' : Nat) (hnp : pc + 3 = pc') {idx a : Nat} (h1 : Cond.methodLink own idx Lib.objectInit ∈ Ts) (h2 : Cond.instanceMethod Lib.objectInit ∈ Ts) (h3 : Cond.code Lib.objectInit ⟨#[0xb1]⟩ 1 none ∈ Ts) (hf : 1 ≤ rm.frames) (hlo : (st.map fun v => v.category).sum + 12 ≤ rm.locals) (d : decode cc pc = .ok (.invokespecial idx, 3)) (kk : J l g A x nL kc kn pc' lv st ws) : J l g A x nL kc kn pc lv (.ref a :: st) ws := by subst hnp; exact fun H locs ls hP hD hS hl => W.objInit C.1 C.2.1 C.2.2.2.1 (C.2.2.2.2.1 _ h1) (C.2.2.2.2.1 _ h2) (C.2.2.2.2.1 _ h3) rfl (by rw [C.2.2.1]; exact hl.1) rfl d (by rw [C.2.2.2.2.2.2.2.2]; exact hf) (by rw [C.2.2.2.2.2.2.2.2]; show 2 * 0 + _ + 12 ≤ _; omega) (W.eq rfl (kk H locs ls hP hD hS hl))
theorem j_newa (C : JC g A x own cc nL Ts rm) (pc' : Nat) (hnp : pc + 2 = pc') (N t : Nat) {n : Int32} {atype : ArrayType} {ty : FieldType} (harr : Cond.arrayClass ty ∈ Ts) (hty : newarray.typeOf atype = ty) (ht : (gTy g)[t]? = some (g.2.1 t, ty)) (hz : ∀ cA : ClassId, vp_cell cA (N, .inl (fun _ => 0)) = arrV cA N (fun _ => defaultValue ty)) (hn : n = nI N) (hN : N < 2147483648) (hb : N * componentBytes ty ≤ 536870912) (hc : kc + 1 ≤ rm.cells) (hs : kn + N ≤ rm.slots) (d : decode cc pc = .ok (.newarray atype, 2)) (kk : ∀ q : Nat, J l g A x nL (kc + 1) (kn + N) pc' lv (.ref q :: st) (ws ++ [(q, .inl (g.2.1 t, N, .inl (fun _ => 0)))])) : J l g A x nL kc kn pc lv (.int n :: st) ws := by
  subst hnp; subst hty
  intro H locs ls hP hD hS hl
  refine va_newa (a0 := (N, .inl (fun _ => 0))) C.1 C.2.1 (C.2.2.2.2.1 _ harr) rfl C.2.2.2.2.2.1 hP hD hS C.2.2.2.2.2.2.1 hz (ix_pos hn (Nat.le_refl N) hN) (ix_cle hn (Nat.le_refl N) hN) hb (by rw [C.2.2.2.2.2.2.2.2]; exact hc) (by rw [C.2.2.2.2.2.2.2.2]; exact hs) d (fun q cA H1 hK1 hP1 hD1 hS1 => ?_)
  have e : cA = g.2.1 t := va_RAuni ((hK1.2 4 _ rfl).2) ((C.2.2.2.2.2.1.2 t _ ht).2)
  subst e
  exact kk q H1 locs ls hP1 hD1 hS1 hl
theorem j_newq (C : JC g A x own cc nL Ts rm) (pc' : Nat) (hnp : pc + 3 = pc') (N : Nat) {n : Int32} {idx : Nat} (hcl : Cond.classLink own idx RX2 ∈ Ts) (hn : n = nI N) (hN : N < 2147483648) (hb : N * 4 ≤ 536870912) (hc : kc + 1 ≤ rm.cells) (hs : kn + N ≤ rm.slots) (d : decode cc pc = .ok (.anewarray idx, 3)) (kk : ∀ q : Nat, J l g A x nL (kc + 1) (kn + N) pc' lv (.ref q :: st) (ws ++ [(q, gO g N (fun _ => none))])) : J l g A x nL kc kn pc lv (.int n :: st) ws := by
  subst hnp
  intro H locs ls hP hD hS hl
  refine va_newq C.1 C.2.1 C.2.2.2.1 (C.2.2.2.2.1 _ hcl) C.2.2.2.2.2.2.2.1.2.2.2.2.2 C.2.2.2.2.2.1 hP hD hS C.2.2.2.2.2.2.1 (ix_pos hn (Nat.le_refl N) hN) (ix_cle hn (Nat.le_refl N) hN) hb (by rw [C.2.2.2.2.2.2.2.2]; exact hc) (by rw [C.2.2.2.2.2.2.2.2]; exact hs) d (fun q cA H1 hK1 hP1 hD1 hS1 => ?_)
  have e : cA = g.2.1 3 := va_RAuni ((hK1.2 4 _ rfl).2) ((C.2.2.2.2.2.1.2 3 _ rfl).2)
  subst e
  exact kk q H1 locs ls hP1 hD1 hS1 hl
theorem j_new (C : JC g A x own cc nL Ts rm) (pc' : Nat) (hnp : pc + 3 = pc') (ci : Nat) {C0 : String} {T : u_T} {N idx : Nat} {fs : List Value} {ty0 : Nat → FieldType} (hty : ∀ k, k < N → parseFieldDescriptor (T k).2.2.1 = some (ty0 k)) (hin : ∀ w ∈ u_ws C0 T N, w ∈ Ts) (hc0 : vwCl[ci]? = some (C0, T, N)) (hcl : Cond.classLink own idx C0 ∈ Ts) (hins : Cond.instantiable C0 N ∈ Ts) (hini : Cond.initialized C0 ∈ Ts) (hfs : ∀ j, j < N → defaultValue (ty0 j) = vp_V fs j) (hc : kc + 1 ≤ rm.cells) (hs : kn + N ≤ rm.slots) (d : decode cc pc = .ok (.new idx, 3)) (kk : ∀ q : Nat, J l g A x nL (kc + 1) (kn + N) pc' lv (.ref q :: st) (ws ++ [(q, .inr (ci, fs))])) : J l g A x nL kc kn pc lv st ws := by
  subst hnp
  intro H locs ls hP hD hS hl
  exact va_new C.1 C.2.1 C.2.2.2.2.1 hin ty0 hty C.2.2.2.1 (C.2.2.2.2.1 _ hcl) (C.2.2.2.2.1 _ hins) (C.2.2.2.2.1 _ hini) C.2.2.2.2.2.1 hP hD hS C.2.2.2.2.2.2.1 hc0 hfs (by rw [C.2.2.2.2.2.2.2.2]; exact hc) (by rw [C.2.2.2.2.2.2.2.2]; exact hs) d (fun q H1 hP1 hD1 hS1 => kk q H1 locs ls hP1 hD1 hS1 hl)
theorem j_getsT0 (C : JC g A x RX2 cc nL Ts rm) (pc' : Nat) (hnp : pc + 3 = pc') (d : decode cc pc = .ok (.getstatic 28, 3)) (k : J l g A x nL kc kn pc' lv (.ref (g.2.2 20) :: st) ws) : J l g A x nL kc kn pc lv st ws := by
  subst hnp
  intro H locs ls hP hD hS hl
  exact va_getsN C.1 C.2.1 C.2.2.2.2.2.2.2.1.2.1.1.1 hS C.2.2.2.1 (va_Nw.use rfl C.2.2.2.2.2.2.2.1.2.2.2.2.1.1) (fun _ h => h) d (k H locs ls hP hD hS hl)
theorem j_getsT1 (C : JC g A x RX2 cc nL Ts rm) (pc' : Nat) (hnp : pc + 3 = pc') (d : decode cc pc = .ok (.getstatic 31, 3)) (k : J l g A x nL kc kn pc' lv (.ref (g.2.2 21) :: st) ws) : J l g A x nL kc kn pc lv st ws := by
  subst hnp
  intro H locs ls hP hD hS hl
  exact va_getsN C.1 C.2.1 C.2.2.2.2.2.2.2.1.2.1.2.1 hS C.2.2.2.1 (va_Nw.use rfl C.2.2.2.2.2.2.2.1.2.2.2.2.1.2) (fun _ h => h) d (k H locs ls hP hD hS hl)
theorem j_tab0 (C : JC g A x own cc nL Ts rm) (pc' : Nat) (hnp : pc + 1 = pc') (k : Nat) {i : Int32} (ei : i = nI k) (hk : k < 5) (d : decode cc pc = .ok (.iaload, 1)) (kk : J l g A x nL kc kn pc' lv (.int (gFS.getD k 0) :: st) ws) : J l g A x nL kc kn pc lv (.int i :: .ref (g.2.2 20) :: st) ws := by
  subst hnp
  intro H locs ls hP hD hS hl
  exact va_ti C.1 C.2.1 C.2.2.2.2.2.2.2.1.2.1.1.2 hS (ix_in ei hk (by decide)) (v := .int (gFS.getD k 0)) (by rw [ix_cl ei hk (by decide)]) d (kk H locs ls hP hD hS hl)
theorem j_tab1 (C : JC g A x own cc nL Ts rm) (pc' : Nat) (hnp : pc + 1 = pc') (k : Nat) {i : Int32} (ei : i = nI k) (hk : k < 5) (d : decode cc pc = .ok (.iaload, 1)) (kk : J l g A x nL kc kn pc' lv (.int (gFW.getD k 0) :: st) ws) : J l g A x nL kc kn pc lv (.int i :: .ref (g.2.2 21) :: st) ws := by
  subst hnp
  intro H locs ls hP hD hS hl
  exact va_ti C.1 C.2.1 C.2.2.2.2.2.2.2.1.2.1.2.2 hS (ix_in ei hk (by decide)) (v := .int (gFW.getD k 0)) (by rw [ix_cl ei hk (by decide)]) d (kk H locs ls hP hD hS hl)
theorem j_aaldN (C : JC g A x own cc nL Ts rm) (pc' : Nat) (hnp : pc + 1 = pc') (q0 k : Nat) {a n : Nat} {f : Nat → Option Nat} {i : Int32} (ha : ws[q0]? = some (a, gO g n f)) (ei : i = nI k) (hk : k < n) (hn : n < 2147483648) (hf : f k = none) (d : decode cc pc = .ok (.aaload, 1)) (kk : J l g A x nL kc kn pc' lv (.null :: st) ws) : J l g A x nL kc kn pc lv (.int i :: .ref a :: st) ws := by
  subst hnp
  intro H locs ls hP hD hS hl
  exact va_aldq C.1 C.2.1 C.2.2.2.2.2.1 hP q0 3 ha rfl (ix_in ei hk hn) d (by rw [ix_cl ei hk hn, hf]; exact kk H locs ls hP hD hS hl)
theorem j_aaldS (C : JC g A x own cc nL Ts rm) (pc' : Nat) (hnp : pc + 1 = pc') (q0 k b : Nat) {a n : Nat} {f : Nat → Option Nat} {i : Int32} (ha : ws[q0]? = some (a, gO g n f)) (ei : i = nI k) (hk : k < n) (hn : n < 2147483648) (hf : f k = some b) (d : decode cc pc = .ok (.aaload, 1)) (kk : J l g A x nL kc kn pc' lv (.ref b :: st) ws) : J l g A x nL kc kn pc lv (.int i :: .ref a :: st) ws := by
  subst hnp
  intro H locs ls hP hD hS hl
  exact va_aldq C.1 C.2.1 C.2.2.2.2.2.1 hP q0 3 ha rfl (ix_in ei hk hn) d (by rw [ix_cl ei hk hn, hf]; exact kk H locs ls hP hD hS hl)
theorem j_aast (C : JC g A x own cc nL Ts rm) (pc' : Nat) (hnp : pc + 1 = pc') (q0 qk k : Nat) {a n v : Nat} {vs : List Value} {f : Nat → Option Nat} {i : Int32} {ws' : va_W} (ha : ws[q0]? = some (a, gO g n f)) (hv : ws[qk]? = some (v, .inr (2, vs))) (ei : i = nI k) (hk : k < n) (hn : n < 2147483648) (hws : ws.set q0 (a, gO g n (va_up f k (some v))) = ws') (d : decode cc pc = .ok (.aastore, 1)) (kk : J l g A x nL kc kn pc' lv st ws') : J l g A x nL kc kn pc lv (.ref v :: .int i :: .ref a :: st) ws := by
  subst hnp
  intro H locs ls hP hD hS hl
  refine va_astq (r := (RX2, TX2, 6)) C.1 C.2.1 C.2.2.2.2.2.1 hP hD hS q0 3 qk 2 ha rfl hv rfl (ix_in ei hk hn) d (fun H1 locs1 hP1 hD1 hS1 => ?_)
  rw [ix_cl ei hk hn] at hP1 hD1
  exact kk H1 locs1 ls (hws ▸ hP1) (hws ▸ hD1) hS1 hl
theorem j_ifnonnull (C : JC g A x own cc nL Ts rm) {b : Nat} {off : Int} (tgt : Nat) (d : decode cc pc = .ok (.ifnonnull off, 3)) (ht : (pc : Int) + off = (tgt : Int)) (k : J l g A x nL kc kn tgt lv st ws) : J l g A x nL kc kn pc lv (.ref b :: st) ws := fun H locs ls hP hD hS hl => lv_ifnonnull C.1 C.2.1 d ht (k H locs ls hP hD hS hl)
theorem j_ifnonnullN (C : JC g A x own cc nL Ts rm) (pc' : Nat) (hnp : pc + 3 = pc') {off : Int} (d : decode cc pc = .ok (.ifnonnull off, 3)) (k : J l g A x nL kc kn pc' lv st ws) : J l g A x nL kc kn pc lv (.null :: st) ws := by
  subst hnp
  intro H locs ls hP hD hS hl
  exact lv_ifnonnullN C.1 C.2.1 d (k H locs ls hP hD hS hl)
theorem hz_int (N : Nat) (cA : ClassId) : vp_cell cA (N, .inl (fun _ => 0)) = arrV cA N (fun _ => defaultValue .int) := rfl
theorem hz_char (N : Nat) (cA : ClassId) : vp_cell cA (N, .inl (fun _ => 0)) = arrV cA N (fun _ => defaultValue .char) := rfl
theorem hz_boolean (N : Nat) (cA : ClassId) : vp_cell cA (N, .inl (fun _ => 0)) = arrV cA N (fun _ => defaultValue .boolean) := rfl
end JROWS
