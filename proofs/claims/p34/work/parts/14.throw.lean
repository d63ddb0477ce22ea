/-! ===== methods that return or throw ===== -/
def xname : Nat → String
  | 0 => "java/lang/IllegalArgumentException"
  | 1 => "java/lang/IndexOutOfBoundsException"
  | 2 => "java/lang/IllegalStateException"
  | _ => "java/util/NoSuchElementException"
def xNM : List String := ["java/lang/RuntimeException", "java/lang/Exception"]
def xic : Nat → Nat
  | 0 => 96
  | 1 => 265
  | 2 => 183
  | _ => 255
def tc {ρ : Type} : Nat ⊕ ρ → Nat
  | .inl _ => 1
  | .inr _ => 0
def lw_strs : List (Nat × String) := [(263, "there is no such pixel"), (256, "the value must be 0 to 255"), (125, "the area must not be empty and must lie within the picture"), (130, "the first step must be 1 to 32"), (132, "the second step must be 0, or 1 to 32 and less than the first"), (134, "the third step must be 0, or 1 to 32 and less than the second"), (271, "the stream has no such byte"), (171, "the size must be between 0 and that of the stream"), (173, "the number of layers must be 1 to 3"), (181, "the header of the stream is not valid"), (273, "nothing has been decoded"), (269, "there is no such slice"), (275, "the decoded picture has another size"), (277, "the stream was not coded last"), (279, "there was no such layer"), (253, "the stream was never replaced"), (94, "the width must be 1 to 16 and the height 1 to 24"), (281, "the coded picture had no such pixel")]
def gS (U : State) : Prop := ∀ q ∈ lw_strs, ∃ a, vk_R RX8 q.1 q.2 a U
def gZ (A : Nat → Prop) (U : State) (H : Heap) : Prop := vx_Zq Bundle.tN "UNASSIGNED_STACK" Bundle.steD A U H ∧ vx_Zq Bundle.tN "SUPPRESSED_SENTINEL" Bundle.listD A U H
def gPx (G : gG) (av : List Value) (sz : Nat) (ww : va_W) : Array Value → State → Prop := va_Pc av (fun U => U.heap.size = sz ∧ va_P G.1 vwCl ww U.heap ∧ gK G U ∧ va_D (fun _ => True) ww ∧ gS U ∧ gZ (va_A ww sz) U U.heap)
theorem gS.warm {s U : State} (hW : s.WarmedH U.vm) (h : gS s) : gS U := fun q hq => (h q hq).imp fun _ hr => vk_R.warm hW hr
theorem gPx_blind {G : gG} {av : List Value} {sz : Nat} {ww : va_W} : FrameBlind (gPx G av sz ww) := fun a U g mk q => by
  obtain ⟨q0, q1, qP, qK, qD, qS, qZ⟩ := q
  exact ⟨q0, q1, qP, ⟨va_K.moved (u := U) (U := U.calling g mk a) (Vm.Alike.refl U.vm) qK.1, fun w hw => va_Nw.same (u := U) (U := U.calling g mk a) (lw_nest_on hw) rfl (qK.2 w hw)⟩, qD,
    fun w hw => (qS w hw).imp fun _ hr => vk_R.same (u := U) (U := U.calling g mk a) rfl hr, vx_Zq.moved (u := U) (U := U.calling g mk a) (Vm.Alike.refl U.vm) qZ.1, vx_Zq.moved (u := U) (U := U.calling g mk a) (Vm.Alike.refl U.vm) qZ.2⟩
def gXC (G : gG) (ww : va_W) (A : Nat → Prop) {ρ : Type} (o : Nat ⊕ ρ) : String → State → State → Prop := vx_X (fun (k : Nat) => o = .inl k) (fun E k t => E = xname k ∧ gB G ww A t) A
abbrev gTQi (G : gG) {ρ : Type} (rf : ρ → Int32) (w1 : ρ → Nat → va_W) (A : Nat → Prop) (o : Nat ⊕ ρ) : Array Value → State → Outcome → State → Prop := va_Qi (fun r (x : ρ × Nat) => o = .inr x.1 ∧ r = rf x.1) (fun x => gB G (w1 x.1 x.2) A) A
abbrev gTQf (G : gG) {ρ : Type} (rf : ρ → UInt32) (w1 : ρ → Nat → va_W) (A : Nat → Prop) (o : Nat ⊕ ρ) : Array Value → State → Outcome → State → Prop := va_Qf (fun r (x : ρ × Nat) => o = .inr x.1 ∧ r = rf x.1) (fun x => gB G (w1 x.1 x.2) A) A
abbrev gTQv (G : gG) {ρ : Type} (w1 : ρ → Nat → va_W) (A : Nat → Prop) (o : Nat ⊕ ρ) : Array Value → State → Outcome → State → Prop := va_Qv (fun (x : ρ × Nat) => o = .inr x.1) (fun x => gB G (w1 x.1 x.2) A) A
def gTi (l : Launch) (G : gG) (y : MethodName) (cc : ByteArray) (n : Nat) (ty : FieldType) (rm : Room) (av : List Value) (sz : Nat) (ww : va_W) {ρ : Type} (o : Nat ⊕ ρ) (rf : ρ → Int32) (w1 : ρ → Nat → va_W) : Prop :=
  vx_Met l y (gw y cc n (some ty)) rm (gPx G av sz ww) (gTQi G rf w1 (va_A ww sz) o) (gXC G ww (va_A ww sz) o) (tc o) (6 * tc o) (va_A ww sz)
def gTv (l : Launch) (G : gG) (y : MethodName) (cc : ByteArray) (n : Nat) (rm : Room) (av : List Value) (sz : Nat) (ww : va_W) {ρ : Type} (o : Nat ⊕ ρ) (w1 : ρ → Nat → va_W) : Prop :=
  vx_Met l y (gw y cc n none) rm (gPx G av sz ww) (gTQv G w1 (va_A ww sz) o) (gXC G ww (va_A ww sz) o) (tc o) (6 * tc o) (va_A ww sz)
theorem g_startT {l : Launch} {G : gG} {y : MethodName} {cc : ByteArray} {n : Nat} {ret : Option FieldType} {rm : Room} {av : List Value} {sz : Nat} {ww : va_W} {mc ms : Nat} {Qc : (Nat → Prop) → Array Value → State → Outcome → State → Prop} {XC : (Nat → Prop) → String → State → State → Prop} (hy : plainName y.cls = true) (hn : (lg_sl av).length ≤ n)
    (h : ∀ (p : Program) (e : Env) (s : State) (m : MethodId) (below : List Frame) (meth : Method) (c : Code) (ls : Array Slot) (A : Nat → Prop), gX p s m meth c cc n ret y.cls av.toArray → gK G s → (∀ q : Nat, s.heap.size ≤ q → A q) → sz = s.heap.size → gH G A s.heap s.heap [] ww → lv_has ls n (lv_args 0 av) → gS s → gZ A s s.heap → (∀ x ∈ c.exceptionTable.toList, False) →
      W p l e rm s m av.toArray below meth c s.heap [] 0 0 (vx_MQ below (Qc A) (XC A) av.toArray s mc ms A) (F0 m 0 ls [])) : vx_Met l y (gw y cc n ret) rm (gPx G av sz ww) (Qc (va_A ww sz)) (XC (va_A ww sz)) mc ms (va_A ww sz) := by
  refine vx_ofW (cc := cc) (maxL := n) (ret := ret) hy rfl ?_
  intro p e s m args below meth c s₁ B hml hno hv
  obtain ⟨rfl, hsz, hP, hK, hD0, hS, hZ⟩ := hv
  subst hsz
  have hD := hD0.self (sz := s.heap.size)
  have hl := lv_entry av hn
  rw [lg_entry_eq]
  exact h p e s m below meth c _ _ ⟨B.exec, B.bytes, B.returns, hml, fun w hw => (atoms_spec (ws := gw y cc n ret) B.pre) w (List.mem_cons_of_mem _ hw), findClass_of_methodNamed B.named, B.notSynchronized⟩ hK (fun q h => Or.inr h) rfl ⟨hP, hD, va_S.rf⟩ hl hS hZ hno
theorem gTi_of {l : Launch} {G : gG} {y : MethodName} {cc : ByteArray} {n : Nat} {ty : FieldType} {rm : Room} {av : List Value} {sz : Nat} {ww : va_W} {ρ : Type} {o : Nat ⊕ ρ} {rf : ρ → Int32} {w1 : ρ → Nat → va_W} (hy : plainName y.cls = true) (hn : (lg_sl av).length ≤ n)
    (h : ∀ (p : Program) (e : Env) (s : State) (m : MethodId) (args : Array Value) (below : List Frame) (meth : Method) (c : Code) (ls : Array Slot) (A : Nat → Prop) (Q : State → Prop), gX p s m meth c cc n (some ty) y.cls args → gK G s → (∀ q : Nat, s.heap.size ≤ q → A q) → sz = s.heap.size → gH G A s.heap s.heap [] ww → lv_has ls n (lv_args 0 av) → gS s → gZ A s s.heap → (∀ x ∈ c.exceptionTable.toList, False) →
      Q = vx_MQ below (gTQi G rf w1 A o) (gXC G ww A o) args s (tc o) (6 * tc o) A →
      (∀ (x : ρ) (u : Nat) (H : Heap) (locs : List Loc) (pc : Nat) (ls : Array Slot), o = .inr x → narrow ty (.int (rf x)) = .int (rf x) → gH G A s.heap H locs (w1 x u) → decode cc pc = .ok (.ireturn, 1) → W p l e rm s m args below meth c H locs 0 0 Q (F0 m pc ls [.int (rf x)])) →
      W p l e rm s m args below meth c s.heap [] 0 0 Q (F0 m 0 ls [])) : gTi l G y cc n ty rm av sz ww o rf w1 :=
  g_startT (Qc := fun A => gTQi G rf w1 A o) (XC := fun A => gXC G ww A o) hy hn (fun p e s m below meth c ls A X hK hA hsz hH hl hS hZ hno => h p e s m av.toArray below meth c ls A _ X hK hA hsz hH hl hS hZ hno rfl (fun x u H locs pc ls ho hnr hH hd => by
    refine W.widen (k := tc o) (n := 6 * tc o) (Nat.zero_le _) (Nat.zero_le _) ?_
    exact vx_ret (W.zret X.1 X.2.1 X.2.2.1 hnr (fun t ht hW => ⟨⟨_, (x, u), rfl, ⟨ho, rfl⟩, by rw [ht]; exact hH.1, hH.2.1⟩, hH.2.2.F ht⟩) hH.2.2.2.2 hd X.2.2.2.2.2.2)))
theorem gTv_of {l : Launch} {G : gG} {y : MethodName} {cc : ByteArray} {n : Nat} {rm : Room} {av : List Value} {sz : Nat} {ww : va_W} {ρ : Type} {o : Nat ⊕ ρ} {w1 : ρ → Nat → va_W} (hy : plainName y.cls = true) (hn : (lg_sl av).length ≤ n)
    (h : ∀ (p : Program) (e : Env) (s : State) (m : MethodId) (args : Array Value) (below : List Frame) (meth : Method) (c : Code) (ls : Array Slot) (A : Nat → Prop) (Q : State → Prop), gX p s m meth c cc n none y.cls args → gK G s → (∀ q : Nat, s.heap.size ≤ q → A q) → sz = s.heap.size → gH G A s.heap s.heap [] ww → lv_has ls n (lv_args 0 av) → gS s → gZ A s s.heap → (∀ x ∈ c.exceptionTable.toList, False) →
      Q = vx_MQ below (gTQv G w1 A o) (gXC G ww A o) args s (tc o) (6 * tc o) A →
      (∀ (x : ρ) (u : Nat) (H : Heap) (locs : List Loc) (pc : Nat) (ls : Array Slot), o = .inr x → gH G A s.heap H locs (w1 x u) → decode cc pc = .ok (.return_, 1) → W p l e rm s m args below meth c H locs 0 0 Q (F0 m pc ls [])) →
      W p l e rm s m args below meth c s.heap [] 0 0 Q (F0 m 0 ls [])) : gTv l G y cc n rm av sz ww o w1 :=
  g_startT (Qc := fun A => gTQv G w1 A o) (XC := fun A => gXC G ww A o) hy hn (fun p e s m below meth c ls A X hK hA hsz hH hl hS hZ hno => h p e s m av.toArray below meth c ls A _ X hK hA hsz hH hl hS hZ hno rfl (fun x u H locs pc ls ho hH hd => by
    refine W.widen (k := tc o) (n := 6 * tc o) (Nat.zero_le _) (Nat.zero_le _) ?_
    exact vx_ret (W.vret X.1 X.2.1 X.2.2.1 (fun t ht hW => ⟨⟨(x, u), rfl, ho, by rw [ht]; exact hH.1, hH.2.1⟩, hH.2.2.F ht⟩) hH.2.2.2.2 hd X.2.2.2.2.2.2)))
/-! ===== throw new E("text"), E's own constructor at any entry of its pool: as the library's ctorThrowS and the skeleton's vx_throwS go ===== -/
def g_chA (X : String) (ix : Nat) (rx : ByteArray) : List String → List Cond
  | [] => Bundle.passSAtoms X Bundle.tN ix rx
  | Y :: r => Bundle.passSAtoms X Y ix rx ++ Bundle.chainSAtoms Y r
theorem g_chain {args : Array Value} {s : State} {pl : Platform} (hpl : pl.magicAccessors = ({} : Platform).magicAccessors) {top : MethodId} (htop : s.methodNamed? (Bundle.initS Bundle.tN) = some top)
    {ix : Nat} {rx : ByteArray} (x0 : decode rx 0 = .ok (.aload_n 0, 1)) (x1 : decode rx 1 = .ok (.aload_n 1, 1)) (x2 : decode rx 2 = .ok (.invokespecial ix, 3)) (x5 : decode rx 5 = .ok (.return_, 1)) (names : List String) (X : String) (hX : Bundle.fit X = true) (hn : ∀ n ∈ names, Bundle.fit n = true) (h : ∀ c ∈ g_chA X ix rx names, c.before args s = true) :
    ∃ (P1 : PassC) (Ps : List PassC), Ps.length = names.length ∧ P1.LinksS pl s ∧ (∀ P, P ∈ Ps → P.LinksS pl s) ∧ s.methodNamed? (Bundle.initS X) = some P1.m ∧ P1.sup = firstOf top (Ps.map (·.toPassT)) ∧ PassesOn top (Ps.map (·.toPassT)) := by
  cases names with
  | nil =>
    obtain ⟨P, L, hm, hs⟩ := PassC.ofS_atoms (args := args) (s := s) hpl (X := X) (Y := Bundle.tN) (Bundle.fit_spec hX).1 (by decide) x0 x1 x2 x5 h
    exact ⟨P, [], rfl, L, (fun _ hP => by cases hP), hm, Option.some.inj (hs.symm.trans htop), trivial⟩
  | cons Y r =>
    obtain ⟨P, L, hm, hs⟩ := PassC.ofS_atoms (args := args) (s := s) hpl (X := X) (Y := Y) (Bundle.fit_spec hX).1 (Bundle.fit_spec (hn Y List.mem_cons_self)).2 x0 x1 x2 x5 (fun c hc => h c (List.mem_append.mpr (Or.inl hc)))
    obtain ⟨P', Ps, hlen, L', hL, hm', hsup, hpass⟩ := Bundle.chainS (args := args) hpl htop r Y (hn Y List.mem_cons_self) (fun n hn' => hn n (List.mem_cons_of_mem _ hn')) (fun c hc => h c (List.mem_append.mpr (Or.inr hc)))
    refine ⟨P, P' :: Ps, by simp [hlen], L, ?_, hm, Option.some.inj (hs.symm.trans hm'), hsup, hpass⟩
    intro Q hQ
    rcases List.mem_cons.mp hQ with rfl | hQ
    · exact L'
    · exact hL Q hQ
def g_atX (own : String) (ic : Nat) (X : String) (ix : Nat) (rx : ByteArray) (names : List String) : List Cond :=
  Bundle.throwableAtoms ++ Bundle.throwableSAtoms ++ g_chA X ix rx names ++
  [.methodLink own ic (Bundle.initS X), .instantiable X 6, .castable X X, .selects X Bundle.tFill0 Bundle.tFill0, .selects X Bundle.tFill Bundle.tFill,
   .lays X Bundle.tN "cause" "Ljava/lang/Throwable;", .lays X Bundle.tN "stackTrace" Bundle.steD, .lays X Bundle.tN "suppressedExceptions" Bundle.listD, .lays X Bundle.tN "detailMessage" "Ljava/lang/String;",
   .isRef (.static Bundle.tN "UNASSIGNED_STACK" Bundle.steD), .isRef (.static Bundle.tN "SUPPRESSED_SENTINEL" Bundle.listD),
   .fieldLink Bundle.tN 198 Bundle.tN "backtrace" "Ljava/lang/Object;", .lays Bundle.tN Bundle.tN "backtrace" "Ljava/lang/Object;", .lays X Bundle.tN "backtrace" "Ljava/lang/Object;"]
def xg_at (own : String) (ic : Nat) (X : String) (ix : Nat) (rx : ByteArray) (names : List String) : List Cond := (g_atX own ic X ix rx names).filter vx_no
section GSX
variable {p : Program} {l : Launch} {e : Env} {R : Room} {s : State} {m₀ : MethodId} {args : Array Value} {below : List Frame} {meth : Method} {c : Code} {W9 : State} {locs : List Loc} {cells slots : Nat}
set_option maxHeartbeats 1000000 in
theorem g_ctorSX (X : Stand p l e R s m₀ args below meth c W9 locs cells slots) (hexec : p.tables.exec = Jvm.exec) (htr : e.platform.stackTraces = false) {own cls : String} {names : List String} {ic ix : Nat} {rx : ByteArray}
    (x0 : decode rx 0 = .ok (.aload_n 0, 1)) (x1 : decode rx 1 = .ok (.aload_n 1, 1)) (x2 : decode rx 2 = .ok (.invokespecial ix, 3)) (x5 : decode rx 5 = .ok (.return_, 1))
    (hown : s.vm.findClass own = some m₀.cls) (hcls : Bundle.fit cls = true) (hnames : ∀ n ∈ names, Bundle.fit n = true)
    (h : ∀ a ∈ g_atX own ic cls ix rx names, a.before args s = true)
    (hlocs : ∀ x ∈ locs, ∀ cell, s.heap[x.base]? = some cell → cell.vm.isStatics = false)
    {a : Addr} {cX : ClassId} {kX : Class} (hfoundX : s.vm.findClass cls = some cX) (hkX : s.vm.classes[cX]? = some kX) (hcell : W9.heap[a]? = some (freshCell cX kX)) (hnew : s.heap.size ≤ a)
    {msg : Value} (hmsg : msg.isRef = true)
    {g : JFrame} (hg : g.method = m₀) (hsize : g.locals.size = c.maxLocals) (hlocked : g.locked = none) (hentered : g.entered = []) {rest : List Value} (hstack : g.stack = msg :: .ref a :: .ref a :: rest)
    (hd6 : decode c.code g.pc = .ok (.invokespecial ic, 3)) (hd9 : decode c.code (g.pc + 3) = .ok (.athrow, 1)) (hout : ∀ x ∈ c.exceptionTable.toList, covers x (g.pc + 3) = false)
    (hRframes : names.length + 3 < R.frames) (hRlocals : 2 * g.monitorRoom + ((Value.ref a :: rest).map fun v => v.category).sum + (13 * (names.length + 1) + 42) ≤ R.locals) (hlocks : meth.locks = false) :
    ∃ U : State, Steps p.tables e below (W9.setTop g) U ∧ U.status = .running ∧ Ended U below (.threw a) ∧ s.WarmedH U.vm ∧ s.sameButNew ({ U with vm := s.vm } : State) locs cells slots ∧
      ∃ ce, U.heap[a]? = some ce ∧ s.vm.findClass cls = some ce.cls ∧ ce.vm = .none := by
  have howns : e.platform.frameOwnsMonitors = true := by rw [X.admits.platform]
  have hfin : e.platform.finalization = false := by rw [X.admits.platform]
  have hpl : e.platform.magicAccessors = ({} : Platform).magicAccessors := by rw [X.admits.platform]
  have a' : ∀ x, x ∈ g_atX own ic cls ix rx names → x.holds args s none s [] = true := fun x hx => h x hx
  obtain ⟨T, Z0, L, -, Y⟩ := ThrowableC.of_atoms (args := args) howns hfin hpl (fun x hx => h x (by simp [g_atX, hx]))
  obtain ⟨Z, M, LZ, LM, hnZ⟩ := Init0T.ofS_atoms (args := args) hpl L Y (fun x hx => h x (by simp [g_atX, hx]))
  obtain ⟨P1, Ps, hlen, L1, hL, hP1m, hlink1, hlink⟩ := g_chain (args := args) hpl hnZ x0 x1 x2 x5 names cls hcls hnames (fun x hx => h x (by simp [g_atX, hx]))
  have hfound : s.vm.findClass cls = some P1.m.cls := findClass_of_methodNamed hP1m
  cases Option.some.inj (hfoundX.symm.trans hfound)
  obtain ⟨c1, kX', hc1, hk, hord, -, -, hn6⟩ := Cond.instantiable_spec (a' (.instantiable cls 6) (by simp [g_atX]))
  cases Option.some.inj (hc1.symm.trans hfound)
  cases Option.some.inj (hkX.symm.trans hk)
  have hsel0 : selectMethod e.platform s.vm P1.m.cls T.fill0 = .method T.fill0 := by
    obtain ⟨c2, r2, m2, q1, q2, q3, q4, -⟩ := Cond.selects_spec (a' (.selects cls Bundle.tFill0 Bundle.tFill0) (by simp [g_atX]))
    cases Option.some.inj (q1.symm.trans hfound)
    cases Option.some.inj (q2.symm.trans (State.methodFound?_of_named Y.fill0 (by decide)))
    cases Option.some.inj (q3.symm.trans Y.fill0)
    rw [Launch.admits_selectMethod X.admits]; exact q4
  have hselF : selectMethod e.platform s.vm P1.m.cls T.fill = .method T.fill := by
    obtain ⟨c2, r2, m2, q1, q2, q3, q4, -⟩ := Cond.selects_spec (a' (.selects cls Bundle.tFill Bundle.tFill) (by simp [g_atX]))
    cases Option.some.inj (q1.symm.trans hfound)
    cases Option.some.inj (q2.symm.trans (State.methodFound?_of_named Y.fill (by decide)))
    cases Option.some.inj (q3.symm.trans Y.fill)
    rw [Launch.admits_selectMethod X.admits]; exact q4
  obtain ⟨cellS0, hcS0, hiss⟩ := Y.statics
  obtain ⟨u0, hu0⟩ := Cond.staticRefV Y.unassigned L.unassignedStatic L.statics hcS0 hiss (a' (.isRef (.static Bundle.tN "UNASSIGNED_STACK" Bundle.steD)) (by simp [g_atX]))
  obtain ⟨sen, hsen⟩ := Cond.staticRefV Y.sentinel L.sentinelStatic L.statics hcS0 hiss (a' (.isRef (.static Bundle.tN "SUPPRESSED_SENTINEL" Bundle.listD)) (by simp [g_atX]))
  obtain ⟨ci198, i198, fB, hk198, hg198, ha198, hsB, -, hnB, htB, hffB⟩ := Cond.ownField (t := .object "java/lang/Object") Y.found L.cls (by decide +kernel) (a' (.fieldLink Bundle.tN 198 Bundle.tN "backtrace" "Ljava/lang/Object;") (by simp [g_atX])) (a' (.lays Bundle.tN Bundle.tN "backtrace" "Ljava/lang/Object;") (by simp [g_atX])) e.platform hpl
  obtain ⟨cellS, hcS', heS, -, hkeep⟩ := X.same.2.2.2.2.2 T.aS cellS0 hcS0
  have hcellS : W9.heap[T.aS]? = some cellS := hcS'
  have hout' : ∀ i, (⟨T.aS, i⟩ : Loc) ∉ locs := fun i hmem => by
    have := hlocs _ hmem cellS0 hcS0
    rw [hiss] at this; cases this
  have hknownS : cellS.vm ≠ .unknown := by
    rw [heS]; intro hu
    rw [show cellS0.vm = .unknown from hu] at hiss
    cases hiss
  have hneS : T.aS ≠ a := Nat.ne_of_lt (Nat.lt_of_lt_of_le (Array.getElem?_eq_some_iff.mp hcS0).1 hnew)
  obtain ⟨iM, hffM⟩ := Y.msg
  obtain ⟨tyC, dC, hdC, hdnC⟩ := Cond.laysAt hfound hk Y.cause (a' (.lays cls Bundle.tN "cause" "Ljava/lang/Throwable;") (by simp [g_atX]))
  obtain ⟨tyS, dS, hdS, hdnS⟩ := Cond.laysAt hfound hk Y.stack (a' (.lays cls Bundle.tN "stackTrace" Bundle.steD) (by simp [g_atX]))
  obtain ⟨tyP, dP, hdP, hdnP⟩ := Cond.laysAt hfound hk Y.supp (a' (.lays cls Bundle.tN "suppressedExceptions" Bundle.listD) (by simp [g_atX]))
  obtain ⟨tyM, dM, hdM, hdnM⟩ := Cond.laysAt hfound hk hffM (a' (.lays cls Bundle.tN "detailMessage" "Ljava/lang/String;") (by simp [g_atX]))
  obtain ⟨tyB, dB, hdB, hdnB⟩ := Cond.laysAt hfound hk hffB (a' (.lays cls Bundle.tN "backtrace" "Ljava/lang/Object;") (by simp [g_atX]))
  have bC := Cond.laysApart hdB hdC hdnB hdnC (by rw [hnB, Y.causeName]; decide)
  have bS := Cond.laysApart hdB hdS hdnB hdnS (by rw [hnB, Y.stackName]; decide)
  have bP := Cond.laysApart hdB hdP hdnB hdnP (by rw [hnB, Y.suppName]; decide)
  have hskip : SkipFacts T e.platform s (fun u => u) u0 ((preparedCellV T.toThrowableT (freshCell P1.m.cls kX) a u0 sen).withEntry W9.cur) :=
    ⟨{ ci198 := ci198, i198 := i198, fBack := fB }, ⟨hk198, hg198, ha198, hsB⟩, by
      have := fresh_default (c := P1.m.cls) tyB
      rw [htB] at this
      simpa [preparedCellV, Cell.setSlot, Cell.withEntry, Array.getElem?_setIfInBounds, bC, bS, bP, bC.symm, bS.symm, bP.symm, defaultValue] using this, fun _ _ => rfl⟩
  obtain ⟨tm, methC, cdC, kC, vm₁, hnC, -, -, -, -, -, -, -, hW₁, st1⟩ := Steps.initColdS (tb := p.tables) (e := e) (below := below) (s := s) (U := W9) X.here hexec X.warmed hpl hown (t := Bundle.initS cls) rfl rfl (Bundle.fit_spec hcls).2
    (a' (.methodLink own ic (Bundle.initS cls)) (by simp [g_atX])) (h (.instanceMethod (Bundle.initS cls)) (by cases names <;> simp [g_atX, g_chA, Bundle.passSAtoms])) (bytes := rx) (maxL := 2) (h (.code (Bundle.initS cls) rx 2 none) (by cases names <;> simp [g_atX, g_chA, Bundle.passSAtoms]))
    (f := g) hg (a := a) (msg := msg) (rest := .ref a :: rest) hstack hd6
  cases Option.some.inj (hnC.symm.trans hP1m)
  have X₁ := X.noted hW₁
  obtain ⟨vm₂, X₂, st2⟩ := X₁.ctorMessageOffV hexec (g := { g with stack := .ref a :: rest }) hg hsize T L Z LZ M LM (P1 :: Ps)
    (fun P hP => by rcases List.mem_cons.mp hP with rfl | hP; exact L1; exact hL P hP) ⟨hlink1, hlink⟩ (u0 := u0) (sen := sen) (self := a) hmsg (cell := freshCell P1.m.cls kX) (cellS := cellS)
    hcell (fun _ => by simp) (by simp) rfl rfl hsel0 hselF hcellS hneS hknownS (by rw [hkeep _ (hout' _)]; exact hu0) (by rw [hkeep _ (hout' _)]; exact hsen)
    (Takes.of_laid hk hord tyC (by rw [Y.causeType]; rfl)) (Takes.of_laid hk hord tyS (by rw [Y.stackType]; exact fits_refV_array _ u0)) (Takes.of_laid hk hord tyP (by rw [Y.suppType]; exact fits_refV_object _ sen))
    (Takes.of_laid hk hord tyM (by rw [Y.msgType]; exact fits_refV_object _ ⟨msg, hmsg⟩)) Y.objLocals hskip htr [] hd6
    (by simp only [List.length_cons, hlen]; omega) (by simp only [List.length_cons, hlen]; exact hRlocals)
  obtain ⟨hwalk, hrun, hended, hWU, hsame⟩ := X₂.athrowLeaves hexec (g := { g with stack := .ref a :: rest, pc := g.pc + 3 }) hg hlocked hentered hout (a := a) (rest := rest) rfl hd9
  have hlt : a < ((W9.setVm vm₁).setVm vm₂).heap.size := (Array.getElem?_eq_some_iff.mp hcell).1
  have hU := heapAt_setCell_self (s := (W9.setVm vm₁).setVm vm₂) (plainBareV T.toThrowableT (freshCell P1.m.cls kX) a u0 sen msg) hlt
  refine ⟨_, st1 _ (fun acts => ?_), hrun, hended, hWU, hsame.weaken (fun y hy hlt' => ?_) (Nat.le_refl _) (Nat.le_refl _), _, hU, hfound, rfl⟩
  · rw [doInvoke_state]
    exact st2 _ hwalk
  · rcases List.mem_append.mp hy with h1 | h1
    · exact h1
    · exfalso
      have hb : y.base = a := by
        simp only [List.mem_cons, List.not_mem_nil, or_false] at h1
        rcases h1 with rfl | rfl | rfl | rfl | rfl <;> rfl
      rw [hb] at hlt'
      exact Nat.not_lt.mpr hnew hlt'
end GSX
section GSXE
variable {p : Program} {l : Launch} {e : Env} {R : Room} {s : State} {m : MethodId} {args : Array Value} {below : List Frame} {meth : Method} {c : Code} {H : Heap} {locs : List Loc} {cells slots : Nat} {Q : State → Prop}
variable {mc ms : Nat} {free : Addr → Prop} {A0 A1 : Nat → Prop} {H0 : Heap} {a : Array Value} {ls : Array Slot} {st0 rest : List Value}
variable {Qc : Array Value → State → Outcome → State → Prop} {XC : String → State → State → Prop}
theorem g_throwSX {cc : ByteArray} {pc : Nat} (hexec : p.tables.exec = Jvm.exec) (hb : c.code = cc) (hl : l.stackTraces = false) {own cls text : String} {names : List String} {ik is ic ix mc ms sa : Nat} {rx : ByteArray} {A : Nat → Prop}
    (x0 : decode rx 0 = .ok (.aload_n 0, 1)) (x1 : decode rx 1 = .ok (.aload_n 1, 1)) (x2 : decode rx 2 = .ok (.invokespecial ix, 3)) (x5 : decode rx 5 = .ok (.return_, 1))
    (hown : s.vm.findClass own = some m.cls) (hcls : Bundle.fit cls = true) (hnames : ∀ n ∈ names, Bundle.fit n = true)
    (hk : (Cond.classLink own ik cls).before args s = true) (hini : (Cond.initialized cls).before args s = true) (hstr : vk_R own is text sa s) (hat : ∀ w ∈ xg_at own ic cls ix rx names, w.before args s = true)
    (hgood : ∀ w ∈ Cond.classLink own ik cls :: Cond.initialized cls :: xg_at own ic cls ix rx names, vx_ot w = true)
    (hU : vx_Zq Bundle.tN "UNASSIGNED_STACK" Bundle.steD A s s.heap) (hN : vx_Zq Bundle.tN "SUPPRESSED_SENTINEL" Bundle.listD A s s.heap) (hS : va_S A s.heap H locs) (hsize : ls.size = c.maxLocals)
    (d0 : decode cc pc = .ok (.new ik, 3)) (d3 : decode cc (pc + 3) = .ok (.dup, 1)) (d4 : decode cc (pc + 4) = .ok (.ldc is, 2)) (d6 : decode cc (pc + 6) = .ok (.invokespecial ic, 3)) (d9 : decode cc (pc + 9) = .ok (.athrow, 1))
    (hout : ∀ x ∈ c.exceptionTable.toList, covers x (pc + 9) = false)
    (hRframes : names.length + 3 < R.frames) (hRlocals : (rest.map fun v => v.category).sum + (13 * (names.length + 1) + 43) ≤ R.locals) (hRcells : cells + 1 ≤ R.cells) (hRslots : slots + 6 ≤ R.slots) (hlocks : meth.locks = false)
    (hx : ∀ t : State, s.vm.Alike t.vm → H.size ≤ t.heap.size → (∀ q : Nat, q < H.size → t.heap[q]? = H[q]?) → XC cls s t)
    (hf : ∀ z ∈ locs, free z.base) (hc : cells + 1 ≤ mc) (hs : slots + 6 ≤ ms) :
    W p l e R s m args below meth c H locs cells slots (vx_MQ below Qc XC args s mc ms free) (F0 m pc ls rest) := by
  intro T hT X
  have htr : e.platform.stackTraces = false := (show e.platform.stackTraces = l.stackTraces by rw [X.admits.platform]).trans hl
  have Y := vx_rebase X (R' := { frames := R.frames, locals := R.locals, cells := 1, slots := 6 }) (Nat.le_refl _) (Nat.le_refl _) hRcells hRslots
  obtain ⟨s', hA⟩ : ∃ z, z = (T.setVm s.vm).setFrames (.invoking m args :: below) := ⟨_, rfl⟩
  rw [← hA] at Y
  have hvm : s'.vm = s.vm := by rw [hA]; rfl
  have hhp : s'.heap = H := by rw [hA]; exact hT
  have hW0 : s.WarmedH s'.vm := by rw [hvm]; exact State.WarmedH.refl s
  have hat' : ∀ w ∈ xg_at own ic cls ix rx names, w.before args s' = true := fun w hw => vx_ot_at hW0 hvm.symm (hgood w (List.mem_cons_of_mem _ (List.mem_cons_of_mem _ hw))) (hat w hw)
  have hk' : (Cond.classLink own ik cls).before args s' = true := vx_ot_at hW0 hvm.symm (hgood _ List.mem_cons_self) hk
  have hini' : (Cond.initialized cls).before args s' = true := vx_ot_at hW0 hvm.symm (hgood _ (List.mem_cons_of_mem _ List.mem_cons_self)) hini
  have hU' : vx_Zq Bundle.tN "UNASSIGNED_STACK" Bundle.steD A s' s'.heap := by rw [hhp]; exact vx_Zq.moved hW0.alike (hU.kept hS.2.1)
  have hN' : vx_Zq Bundle.tN "SUPPRESSED_SENTINEL" Bundle.listD A s' s'.heap := by rw [hhp]; exact vx_Zq.moved hW0.alike (hN.kept hS.2.1)
  have h : ∀ w ∈ g_atX own ic cls ix rx names, w.before args s' = true := vx_own hat' (vx_isRefq hU'.1) (vx_isRefq hN'.1) hU'.2.word hN'.2.word
  have hown' : s'.vm.findClass own = some m.cls := by rw [hvm]; exact hown
  have hins : (Cond.instantiable cls 6).before args s' = true := h _ (by simp [g_atX])
  obtain ⟨vm₁, cX, kX, hfX, hkX, -, -, X₁, st1⟩ := Y.newCold hexec (own := own) (C := cls) (index := ik) (n := 6) hown' hk' hins hini'
    (g := F0 m pc ls rest) rfl (by rw [hb]; exact d0) (Nat.le_refl _) (Nat.le_refl _)
  generalize hT1 : (T.setVm vm₁).pushCell { cls := cX, slots := kX.instanceTypes.map defaultValue, vm := .none } = T1 at X₁ st1
  have hcat : (Value.ref T.heap.size).category = 1 := rfl
  have hcellA : T1.heap[T.heap.size]? = some (freshCell cX kX) := by rw [← hT1]; exact State.heap_pushCell_size _ _
  have d3' : decode c.code (pc + 3) = .ok (.dup, 1) := by rw [hb]; exact d3
  have d4' : decode c.code (pc + 4) = .ok (.ldc is, 2) := by rw [hb]; exact d4
  have hstr' : vk_R own is text sa s' := vk_R.warm hW0 hstr
  obtain ⟨U, hsteps, hrun, hend, hW, hsame, ce, hce, hO1, hO2⟩ := g_ctorSX X₁ hexec htr x0 x1 x2 x5 (own := own) (cls := cls) (names := names) (ic := ic) hown' hcls hnames h (fun x hx => nomatch hx) hfX hkX hcellA (by rw [hhp, hT]; exact Nat.le_refl _) (msg := .ref sa) rfl
    (g := { method := m, pc := pc + 6, locals := ls, stack := .ref sa :: .ref T.heap.size :: .ref T.heap.size :: rest, locked := none }) rfl hsize rfl rfl (rest := rest) rfl
    (by rw [hb]; exact d6) (by rw [hb]; exact d9) hout hRframes (by simp only [List.map_cons, List.sum_cons, hcat]; omega) hlocks
  obtain ⟨f1, f2⟩ := vx_frame hsame
  rw [hhp] at f1 f2
  have hWs : s.WarmedH U.vm := State.WarmedH.trans hW0 hW
  have hcl : s.vm.findClass cls = some ce.cls := by
    have h9 := hO1
    rw [hvm] at h9
    exact h9
  have hall : s.sameButNew ({ U with vm := s.vm } : State) locs mc ms := by
    subst hA
    obtain ⟨e1, e2⟩ := hsame
    rw [State.setFrames_setFrames] at e1
    have h2 : (T.setVm s.vm).sameButNew ({ U with vm := s.vm } : State) [] (0 + 1) (0 + 6) := ⟨e1, e2⟩
    have h3 := X.same.trans h2
    rw [List.append_nil] at h3
    exact h3.mono hc hs
  refine ⟨U, ?_, .threw T.heap.size, hrun, hend, Or.inr ⟨T.heap.size, rfl, cls, ce, locs, hx U hWs.alike f1 (fun q hq => f2 q hq (fun z hz => nomatch hz)), hce, hO2, hcl, hWs, hall, hf⟩⟩
  refine st1 _ ?_
  show Steps p.tables e below (T1.setTop { method := m, pc := pc + 3, locals := ls, stack := .ref T.heap.size :: rest, locked := none }) _
  jvm_step X₁.here [X₁.here.top, hexec, d3', Value.category]
  exact X₁.ldcString hexec (own := own) (text := text) (index := is) (a := sa) hown' hstr'.1 hstr'.2
    (g := { method := m, pc := pc + 4, locals := ls, stack := .ref T.heap.size :: .ref T.heap.size :: rest, locked := none }) rfl d4' _ hsteps
theorem g_throwSXW {cc : ByteArray} {pc : Nat} (hexec : p.tables.exec = Jvm.exec) (hb : c.code = cc) (hl : l.stackTraces = false) {own cls text : String} {names : List String} {ik is ic ix mc ms sa : Nat} {rx : ByteArray} {A : Nat → Prop}
    (x0 : decode rx 0 = .ok (.aload_n 0, 1)) (x1 : decode rx 1 = .ok (.aload_n 1, 1)) (x2 : decode rx 2 = .ok (.invokespecial ix, 3)) (x5 : decode rx 5 = .ok (.return_, 1))
    (hown : s.vm.findClass own = some m.cls) (hcls : Bundle.fit cls = true) (hnames : ∀ n ∈ names, Bundle.fit n = true)
    (hk : (Cond.classLink own ik cls).before args s = true) (hini : (Cond.initialized cls).before args s = true) (hstr : vk_R own is text sa s) (hat : ∀ w ∈ xg_at own ic cls ix rx names, w.before args s = true)
    (hgood : ∀ w ∈ Cond.classLink own ik cls :: Cond.initialized cls :: xg_at own ic cls ix rx names, vx_ot w = true)
    (hU : vx_Zq Bundle.tN "UNASSIGNED_STACK" Bundle.steD A s s.heap) (hN : vx_Zq Bundle.tN "SUPPRESSED_SENTINEL" Bundle.listD A s s.heap) (hS : va_S A s.heap H locs) (hsize : ls.size = c.maxLocals)
    (d0 : decode cc pc = .ok (.new ik, 3)) (d3 : decode cc (pc + 3) = .ok (.dup, 1)) (d4 : decode cc (pc + 4) = .ok (.ldc_w is, 3)) (d6 : decode cc (pc + 7) = .ok (.invokespecial ic, 3)) (d9 : decode cc (pc + 10) = .ok (.athrow, 1))
    (hout : ∀ x ∈ c.exceptionTable.toList, covers x (pc + 10) = false)
    (hRframes : names.length + 3 < R.frames) (hRlocals : (rest.map fun v => v.category).sum + (13 * (names.length + 1) + 43) ≤ R.locals) (hRcells : cells + 1 ≤ R.cells) (hRslots : slots + 6 ≤ R.slots) (hlocks : meth.locks = false)
    (hx : ∀ t : State, s.vm.Alike t.vm → H.size ≤ t.heap.size → (∀ q : Nat, q < H.size → t.heap[q]? = H[q]?) → XC cls s t)
    (hf : ∀ z ∈ locs, free z.base) (hc : cells + 1 ≤ mc) (hs : slots + 6 ≤ ms) :
    W p l e R s m args below meth c H locs cells slots (vx_MQ below Qc XC args s mc ms free) (F0 m pc ls rest) := by
  intro T hT X
  have htr : e.platform.stackTraces = false := (show e.platform.stackTraces = l.stackTraces by rw [X.admits.platform]).trans hl
  have Y := vx_rebase X (R' := { frames := R.frames, locals := R.locals, cells := 1, slots := 6 }) (Nat.le_refl _) (Nat.le_refl _) hRcells hRslots
  obtain ⟨s', hA⟩ : ∃ z, z = (T.setVm s.vm).setFrames (.invoking m args :: below) := ⟨_, rfl⟩
  rw [← hA] at Y
  have hvm : s'.vm = s.vm := by rw [hA]; rfl
  have hhp : s'.heap = H := by rw [hA]; exact hT
  have hW0 : s.WarmedH s'.vm := by rw [hvm]; exact State.WarmedH.refl s
  have hat' : ∀ w ∈ xg_at own ic cls ix rx names, w.before args s' = true := fun w hw => vx_ot_at hW0 hvm.symm (hgood w (List.mem_cons_of_mem _ (List.mem_cons_of_mem _ hw))) (hat w hw)
  have hk' : (Cond.classLink own ik cls).before args s' = true := vx_ot_at hW0 hvm.symm (hgood _ List.mem_cons_self) hk
  have hini' : (Cond.initialized cls).before args s' = true := vx_ot_at hW0 hvm.symm (hgood _ (List.mem_cons_of_mem _ List.mem_cons_self)) hini
  have hU' : vx_Zq Bundle.tN "UNASSIGNED_STACK" Bundle.steD A s' s'.heap := by rw [hhp]; exact vx_Zq.moved hW0.alike (hU.kept hS.2.1)
  have hN' : vx_Zq Bundle.tN "SUPPRESSED_SENTINEL" Bundle.listD A s' s'.heap := by rw [hhp]; exact vx_Zq.moved hW0.alike (hN.kept hS.2.1)
  have h : ∀ w ∈ g_atX own ic cls ix rx names, w.before args s' = true := vx_own hat' (vx_isRefq hU'.1) (vx_isRefq hN'.1) hU'.2.word hN'.2.word
  have hown' : s'.vm.findClass own = some m.cls := by rw [hvm]; exact hown
  have hins : (Cond.instantiable cls 6).before args s' = true := h _ (by simp [g_atX])
  obtain ⟨vm₁, cX, kX, hfX, hkX, -, -, X₁, st1⟩ := Y.newCold hexec (own := own) (C := cls) (index := ik) (n := 6) hown' hk' hins hini'
    (g := F0 m pc ls rest) rfl (by rw [hb]; exact d0) (Nat.le_refl _) (Nat.le_refl _)
  generalize hT1 : (T.setVm vm₁).pushCell { cls := cX, slots := kX.instanceTypes.map defaultValue, vm := .none } = T1 at X₁ st1
  have hcat : (Value.ref T.heap.size).category = 1 := rfl
  have hcellA : T1.heap[T.heap.size]? = some (freshCell cX kX) := by rw [← hT1]; exact State.heap_pushCell_size _ _
  have d3' : decode c.code (pc + 3) = .ok (.dup, 1) := by rw [hb]; exact d3
  have d4' : decode c.code (pc + 4) = .ok (.ldc_w is, 3) := by rw [hb]; exact d4
  have hstr' : vk_R own is text sa s' := vk_R.warm hW0 hstr
  obtain ⟨U, hsteps, hrun, hend, hW, hsame, ce, hce, hO1, hO2⟩ := g_ctorSX X₁ hexec htr x0 x1 x2 x5 (own := own) (cls := cls) (names := names) (ic := ic) hown' hcls hnames h (fun x hx => nomatch hx) hfX hkX hcellA (by rw [hhp, hT]; exact Nat.le_refl _) (msg := .ref sa) rfl
    (g := { method := m, pc := pc + 7, locals := ls, stack := .ref sa :: .ref T.heap.size :: .ref T.heap.size :: rest, locked := none }) rfl hsize rfl rfl (rest := rest) rfl
    (by rw [hb]; exact d6) (by rw [hb]; exact d9) hout hRframes (by simp only [List.map_cons, List.sum_cons, hcat]; omega) hlocks
  obtain ⟨f1, f2⟩ := vx_frame hsame
  rw [hhp] at f1 f2
  have hWs : s.WarmedH U.vm := State.WarmedH.trans hW0 hW
  have hcl : s.vm.findClass cls = some ce.cls := by
    have h9 := hO1
    rw [hvm] at h9
    exact h9
  have hall : s.sameButNew ({ U with vm := s.vm } : State) locs mc ms := by
    subst hA
    obtain ⟨e1, e2⟩ := hsame
    rw [State.setFrames_setFrames] at e1
    have h2 : (T.setVm s.vm).sameButNew ({ U with vm := s.vm } : State) [] (0 + 1) (0 + 6) := ⟨e1, e2⟩
    have h3 := X.same.trans h2
    rw [List.append_nil] at h3
    exact h3.mono hc hs
  refine ⟨U, ?_, .threw T.heap.size, hrun, hend, Or.inr ⟨T.heap.size, rfl, cls, ce, locs, hx U hWs.alike f1 (fun q hq => f2 q hq (fun z hz => nomatch hz)), hce, hO2, hcl, hWs, hall, hf⟩⟩
  refine st1 _ ?_
  show Steps p.tables e below (T1.setTop { method := m, pc := pc + 3, locals := ls, stack := .ref T.heap.size :: rest, locked := none }) _
  jvm_step X₁.here [X₁.here.top, hexec, d3', Value.category]
  exact X₁.ldcStringW hexec (own := own) (text := text) (index := is) (a := sa) hown' hstr'.1 hstr'.2
    (g := { method := m, pc := pc + 4, locals := ls, stack := .ref T.heap.size :: .ref T.heap.size :: rest, locked := none }) rfl d4' _ hsteps
end GSXE
def xix : Nat → Nat
  | 3 => 13
  | _ => 7
def xrx : Nat → ByteArray
  | 3 => prog_24_method_4_code
  | _ => Bundle.six
def xat (k : Nat) : List Cond := xg_at RX8 (xic k) (xname k) (xix k) (xrx k) xNM
theorem at_g0 : ∀ w ∈ (xat 0).filter goodWord, w ∈ lw_all := by decide +kernel
theorem at_n0 : ∀ w ∈ (xat 0).filter (fun w => !goodWord w), w ∈ lw_nest := by decide +kernel
theorem at_g1 : ∀ w ∈ (xat 1).filter goodWord, w ∈ lw_all := by decide +kernel
theorem at_n1 : ∀ w ∈ (xat 1).filter (fun w => !goodWord w), w ∈ lw_nest := by decide +kernel
theorem at_g2 : ∀ w ∈ (xat 2).filter goodWord, w ∈ lw_all := by decide +kernel
theorem at_n2 : ∀ w ∈ (xat 2).filter (fun w => !goodWord w), w ∈ lw_nest := by decide +kernel
theorem at_g3 : ∀ w ∈ (xat 3).filter goodWord, w ∈ lw_all := by decide +kernel
theorem at_n3 : ∀ w ∈ (xat 3).filter (fun w => !goodWord w), w ∈ lw_nest := by decide +kernel
def atG (k : Nat) : Prop := (∀ w ∈ (xat k).filter goodWord, w ∈ lw_all) ∧ (∀ w ∈ (xat k).filter (fun w => !goodWord w), w ∈ lw_nest) ∧ (∀ w ∈ xat k, vx_ot w = true) ∧ Bundle.fit (xname k) = true ∧ Cond.initialized (xname k) ∈ lw_all ∧ decode (xrx k) 0 = .ok (.aload_n 0, 1) ∧ decode (xrx k) 1 = .ok (.aload_n 1, 1) ∧ decode (xrx k) 2 = .ok (.invokespecial (xix k), 3) ∧ decode (xrx k) 5 = .ok (.return_, 1)
theorem atG0 : atG 0 := ⟨at_g0, at_n0, by decide +kernel, by decide +kernel, by decide +kernel, by decide +kernel, by decide +kernel, by decide +kernel, by decide +kernel⟩
theorem atG1 : atG 1 := ⟨at_g1, at_n1, by decide +kernel, by decide +kernel, by decide +kernel, by decide +kernel, by decide +kernel, by decide +kernel, by decide +kernel⟩
theorem atG2 : atG 2 := ⟨at_g2, at_n2, by decide +kernel, by decide +kernel, by decide +kernel, by decide +kernel, by decide +kernel, by decide +kernel, by decide +kernel⟩
theorem atG3 : atG 3 := ⟨at_g3, at_n3, by decide +kernel, by decide +kernel, by decide +kernel, by decide +kernel, by decide +kernel, by decide +kernel, by decide +kernel⟩
theorem va_P_ext {D : va_G} {cl : List vw_C} {ws : va_W} {H H1 : Heap} (h : va_P D cl ws H) (he : ∀ q : Nat, q < H.size → H1[q]? = H[q]?) : va_P D cl ws H1 := fun k q hq => (h k q hq).kept (he q.1 (h k q hq).lt)
section GTHROW
variable {p : Program} {l : Launch} {e : Env} {R : Room} {s : State} {m : MethodId} {args : Array Value} {below : List Frame} {meth : Method} {c : Code} {H : Heap} {locs : List Loc} {cells slots : Nat} {Q : State → Prop}
variable {G : gG} {A : Nat → Prop} {ww : va_W} {cc : ByteArray} {nL : Nat} {ret : Option FieldType} {pc : Nat} {ls : Array Slot} {rest : List Value} {lv : List (Nat × Value)}
theorem g_xc (hH : gH G A s.heap H locs ww) {ρ : Type} (k : Nat) (t : State) (hz : H.size ≤ t.heap.size) (he : ∀ q : Nat, q < H.size → t.heap[q]? = H[q]?) : gXC G ww A (.inl k : Nat ⊕ ρ) (xname k) s t :=
  ⟨k, rfl, ⟨rfl, va_P_ext hH.1 he, hH.2.1⟩, Nat.le_trans hH.2.2.1 hz, fun q h1 h2 => by rw [he q (Nat.lt_of_lt_of_le h1 hH.2.2.1)]; exact hH.2.2.2.1 q h1 h2⟩
theorem g_throw {Qc : Array Value → State → Outcome → State → Prop} (X : gX p s m meth c cc nL ret RX8 args) (hst : l.stackTraces = false) (hK : gK G s) (hS : gS s) (hZ : gZ A s s.heap) (hH : gH G A s.heap H locs ww) (hls : lv_has ls nL lv) (hno : ∀ x ∈ c.exceptionTable.toList, False) {ρ : Type} (k : Nat) (hG : atG k) {text : String} {ik is : Nat} (hcl : Cond.classLink RX8 ik (xname k) ∈ lw_all) (hstr : (is, text) ∈ lw_strs)
    (d0 : decode cc pc = .ok (.new ik, 3)) (d3 : decode cc (pc + 3) = .ok (.dup, 1)) (d4 : decode cc (pc + 4) = .ok (.ldc is, 2)) (d6 : decode cc (pc + 6) = .ok (.invokespecial (xic k), 3)) (d9 : decode cc (pc + 9) = .ok (.athrow, 1))
    (hR : 5 < R.frames ∧ (rest.map fun v => v.category).sum + 82 ≤ R.locals) (hRc : 0 + 1 ≤ R.cells ∧ 0 + 6 ≤ R.slots) : W p l e R s m args below meth c H locs 0 0 (vx_MQ below Qc (gXC G ww A (.inl k : Nat ⊕ ρ)) args s 1 6 A) (F0 m pc ls rest) := by
  obtain ⟨sa, hsa⟩ := hS _ hstr
  have hat : ∀ w ∈ xat k, w.before args s = true := vx_hat (B := lw_nest) (fun w hw => X.2.2.2.2.1 w (hG.1 w hw)) hG.2.1 (fun w hw => va_Nw.use (lw_nest_on hw) (hK.2 w hw))
  refine g_throwSX X.1 X.2.1 hst (names := xNM) hG.2.2.2.2.2.1 hG.2.2.2.2.2.2.1 hG.2.2.2.2.2.2.2.1 hG.2.2.2.2.2.2.2.2 X.2.2.2.2.2.1 hG.2.2.2.1 (by decide +kernel) (X.2.2.2.2.1 _ hcl) (X.2.2.2.2.1 _ hG.2.2.2.2.1) hsa hat ?_ hZ.1 hZ.2 hH.2.2 (hls.1.trans X.2.2.2.1.symm) d0 d3 d4 d6 d9 (fun x hx => (hno x hx).elim) hR.1 hR.2 hRc.1 hRc.2 X.2.2.2.2.2.2 (fun t _ hz he => g_xc hH k t hz he) hH.2.2.2.2 (Nat.le_refl _) (Nat.le_refl _)
  intro w hw
  rcases List.mem_cons.mp hw with rfl | hw
  · rfl
  rcases List.mem_cons.mp hw with rfl | hw
  · rfl
  · exact hG.2.2.1 w hw
theorem g_throwW {Qc : Array Value → State → Outcome → State → Prop} (X : gX p s m meth c cc nL ret RX8 args) (hst : l.stackTraces = false) (hK : gK G s) (hS : gS s) (hZ : gZ A s s.heap) (hH : gH G A s.heap H locs ww) (hls : lv_has ls nL lv) (hno : ∀ x ∈ c.exceptionTable.toList, False) {ρ : Type} (k : Nat) (hG : atG k) {text : String} {ik is : Nat} (hcl : Cond.classLink RX8 ik (xname k) ∈ lw_all) (hstr : (is, text) ∈ lw_strs)
    (d0 : decode cc pc = .ok (.new ik, 3)) (d3 : decode cc (pc + 3) = .ok (.dup, 1)) (d4 : decode cc (pc + 4) = .ok (.ldc_w is, 3)) (d7 : decode cc (pc + 7) = .ok (.invokespecial (xic k), 3)) (d10 : decode cc (pc + 10) = .ok (.athrow, 1))
    (hR : 5 < R.frames ∧ (rest.map fun v => v.category).sum + 82 ≤ R.locals) (hRc : 0 + 1 ≤ R.cells ∧ 0 + 6 ≤ R.slots) : W p l e R s m args below meth c H locs 0 0 (vx_MQ below Qc (gXC G ww A (.inl k : Nat ⊕ ρ)) args s 1 6 A) (F0 m pc ls rest) := by
  obtain ⟨sa, hsa⟩ := hS _ hstr
  have hat : ∀ w ∈ xat k, w.before args s = true := vx_hat (B := lw_nest) (fun w hw => X.2.2.2.2.1 w (hG.1 w hw)) hG.2.1 (fun w hw => va_Nw.use (lw_nest_on hw) (hK.2 w hw))
  refine g_throwSXW X.1 X.2.1 hst (names := xNM) hG.2.2.2.2.2.1 hG.2.2.2.2.2.2.1 hG.2.2.2.2.2.2.2.1 hG.2.2.2.2.2.2.2.2 X.2.2.2.2.2.1 hG.2.2.2.1 (by decide +kernel) (X.2.2.2.2.1 _ hcl) (X.2.2.2.2.1 _ hG.2.2.2.2.1) hsa hat ?_ hZ.1 hZ.2 hH.2.2 (hls.1.trans X.2.2.2.1.symm) d0 d3 d4 d7 d10 (fun x hx => (hno x hx).elim) hR.1 hR.2 hRc.1 hRc.2 X.2.2.2.2.2.2 (fun t _ hz he => g_xc hH k t hz he) hH.2.2.2.2 (Nat.le_refl _) (Nat.le_refl _)
  intro w hw
  rcases List.mem_cons.mp hw with rfl | hw
  · rfl
  rcases List.mem_cons.mp hw with rfl | hw
  · rfl
  · exact hG.2.2.1 w hw
end GTHROW

/-! ===== calls of methods that return nothing or throw ===== -/
def gCT (rm : Room) (k : Nat) (R : Room) (y : MethodName) (yc : ByteArray) (yn : Nat) (n : Nat) : Prop :=
  Cond.initialized y.cls ∈ lw_all ∧ Cond.code y yc yn none ∈ lw_all ∧ (y.cls ≠ "java/lang/invoke/MethodHandle" ∧ y.cls ≠ "java/lang/invoke/VarHandle" ∧ (parseMethodDescriptor y.desc).map (fun d => d.parameters.length) = some n) ∧ rm.cells = k ∧ rm.slots = 6 * k ∧ (rm.frames + 1 ≤ R.frames ∧ 8 + (yn + 11) + rm.locals ≤ R.locals) ∧ (0 + k ≤ R.cells ∧ 0 + 6 * k ≤ R.slots)
section GTCALLS
variable {p : Program} {l : Launch} {e : Env} {R : Room} {s : State} {m : MethodId} {args : Array Value} {below : List Frame} {meth : Method} {c : Code} {H : Heap} {locs : List Loc} {Q : State → Prop}
variable {G : gG} {A : Nat → Prop} {ww wc wr : va_W} {cc : ByteArray} {nL : Nat} {ret : Option FieldType} {own : String} {pc : Nat} {ls : Array Slot} {rest st : List Value} {lv : List (Nat × Value)}
variable {rm : Room} {y : MethodName} {yc : ByteArray} {yn n index b k : Nat} {As : List Value} {isC isR isP : List Nat} {T : u_T} {N ci q0 : Nat} {fs : List Value}
theorem g_cbT (X : gX p s m meth c cc nL ret own args) (C : gCT rm k R y yc yn n) (hl : Cond.methodLink own index y ∈ lw_all) : CallB R s args own index y yc yn none (gw y yc yn none) rm k (6 * k) n :=
  callB_of n X.2.2.2.2.1 (gw_in C.2.1) rfl C.2.2.2.1 C.2.2.2.2.1 (X.2.2.2.2.1 _ C.1) (X.2.2.2.2.1 _ hl) C.2.2.1 C.2.2.2.2.2.1
theorem g_preT (hK : gK G s) (hS : gS s) (hZ : gZ A s s.heap) (hA : ∀ q : Nat, s.heap.size ≤ q → A q) (hH : gH G A s.heap H locs ww) {w1 w2 : va_W} (J : gJ ww wc w1 w2 isC isR isP wr) {av : List Value} : PreS s H (gPx G av H.size wc) av :=
  ⟨gPx_blind, fun U hU hW => ⟨rfl, by rw [hU], by rw [hU]; exact hH.1.sub isC (g_fm J.1), hK.warm hW, (hH.2.1.sub isC J.2.2.1 J.1).weaken (fun _ _ _ _ => trivial), hS.warm hW, by
    have hF := va_free hH.2.1 hH.2.2 hA isC J.1
    rw [hU]
    exact ⟨((hZ.1.kept hH.2.2.2.1).moved hW.alike).narrow hF, ((hZ.2.kept hH.2.2.2.1).moved hW.alike).narrow hF⟩⟩⟩
theorem g_tpost_r (hA : ∀ q : Nat, s.heap.size ≤ q → A q) (hH : gH G A s.heap H locs ww) {ρ : Type} {x : ρ} {w1 : ρ → Nat → va_W} {w2 : Nat → va_W} (J : ∀ u, gJ ww wc (w1 x u) (w2 u) isC isR isP wr) {av : Array Value}
    (hr : vx_Run p l e R s m args below meth c H locs 0 0 (tc (.inr x : Nat ⊕ ρ)) (6 * tc (.inr x : Nat ⊕ ρ)) (F0 m pc ls st) rest (gTQv G w1 (va_A wc H.size) (.inr x) av) (gXC G wc (va_A wc H.size) (.inr x : Nat ⊕ ρ)) (va_A wc H.size))
    (kk : ∀ (u : Nat) (H1 : Heap) (locs1 : List Loc), gH G A s.heap H1 locs1 (w2 u) → W p l e R s m args below meth c H1 locs1 0 0 Q (F0 m (pc + 3) ls rest)) : W p l e R s m args below meth c H locs 0 0 Q (F0 m pc ls st) := by
  have hF := va_free hH.2.1 hH.2.2 hA isC (J 0).1
  refine vx_callv hr hH.2.2 (fun q _ h => hF q h) hF (fun q _ h => hF q h) (fun E ce q9 u t H1 locs1 ht hvm hp hB hz1 hk1 hS hce hcv hcl => ?_) (fun u t H1 locs1 ht hvm hp hB hz1 hk1 hS => ?_)
  · cases hp
  · obtain ⟨x2, u2⟩ := u
    have hp : (.inr x : Nat ⊕ ρ) = .inr x2 := hp
    cases hp
    exact kk u2 H1 locs1 (g_join hA hH (J u2) ht hB hk1 hS)
theorem g_tpost_x (hA : ∀ q : Nat, s.heap.size ≤ q → A q) (hH : gH G A s.heap H locs ww) {ρ ρ' : Type} {k9 : Nat} {w1 : ρ → Nat → va_W} (J : gJ ww wc wc ww isC isR isP wr) {av : Array Value} {Qc : Array Value → State → Outcome → State → Prop} (hno : ∀ x ∈ c.exceptionTable.toList, False) (hlk : meth.locks = false)
    (hr : vx_Run p l e R s m args below meth c H locs 0 0 (tc (.inl k9 : Nat ⊕ ρ)) (6 * tc (.inl k9 : Nat ⊕ ρ)) (F0 m pc ls st) rest (gTQv G w1 (va_A wc H.size) (.inl k9) av) (gXC G wc (va_A wc H.size) (.inl k9 : Nat ⊕ ρ)) (va_A wc H.size)) :
    W p l e R s m args below meth c H locs 0 0 (vx_MQ below Qc (gXC G ww A (.inl k9 : Nat ⊕ ρ')) args s 1 6 A) (F0 m pc ls st) := by
  have hF := va_free hH.2.1 hH.2.2 hA isC J.1
  refine vx_callv hr hH.2.2 (fun q _ h => hF q h) hF (fun q _ h => hF q h) (fun E ce q9 u t H1 locs1 ht hvm hp hB hz1 hk1 hS hce hcv hcl => ?_) (fun u t H1 locs1 ht hvm hp hB hz1 hk1 hS => ?_)
  · have hp : (.inl k9 : Nat ⊕ ρ) = .inl u := hp
    cases hp
    obtain ⟨hE, hB⟩ := hB
    have hJ := g_join hA hH J ht hB hk1 hS
    exact vx_out (fun x hx => (hno x hx).elim) hlk hce hcv hcl (fun t2 ht2 _ => ⟨k9, rfl, ⟨hE, by rw [ht2]; exact hJ.1, hJ.2.1⟩, hJ.2.2.F ht2⟩) hJ.2.2.2.2 (Nat.le_refl _) (Nat.le_refl _)
  · cases hp
theorem g_tVr (X : gX p s m meth c cc nL ret own args) (hK : gK G s) (hS : gS s) (hZ : gZ A s s.heap) (hA : ∀ q : Nat, s.heap.size ≤ q → A q) (hH : gH G A s.heap H locs ww) (hls : lv_has ls nL lv) {ρ : Type} {x : ρ} {w1 : ρ → Nat → va_W} {w2 : Nat → va_W} (hM : gTv l G y yc yn rm (.ref b :: As) H.size wc (.inr x : Nat ⊕ ρ) w1) (C : gCT rm 0 R y yc yn n) (hl : Cond.methodLink own index y ∈ lw_all) (hi : Cond.instanceMethod y ∈ lw_all) {Cr : String} (hs : Cond.selects Cr y y ∈ lw_all)
    (he : ww[q0]? = some (b, .inr (ci, fs))) (hc : vwCl[ci]? = some (Cr, T, N)) (J : ∀ u, gJ ww wc (w1 x u) (w2 u) isC isR isP wr) (hn : As.length = n) (hst : st = As.reverse ++ .ref b :: rest) (hW : (rest.map fun v => v.category).sum ≤ 8) (hdg : decode cc pc = .ok (.invokevirtual index, 3))
    (kk : ∀ (u : Nat) (H1 : Heap) (locs1 : List Loc), gH G A s.heap H1 locs1 (w2 u) → W p l e R s m args below meth c H1 locs1 0 0 Q (F0 m (pc + 3) ls rest)) : W p l e R s m args below meth c H locs 0 0 Q (F0 m pc ls st) := by
  subst hst
  exact g_tpost_r hA hH J (vx_runV (g_fix X) hM ⟨g_cbT X C hl, X.2.2.2.2.1 _ hi, X.2.2.2.2.1 _ hs⟩ ⟨gPx_blind, va_recv hK.1 hH.1 hc he, (g_preT hK hS hZ hA hH (J 0)).2⟩ rfl hn hls.1 rfl (lv_room hW) hdg C.2.2.2.2.2.2) kk
theorem g_tSr (X : gX p s m meth c cc nL ret own args) (hK : gK G s) (hS : gS s) (hZ : gZ A s s.heap) (hA : ∀ q : Nat, s.heap.size ≤ q → A q) (hH : gH G A s.heap H locs ww) (hls : lv_has ls nL lv) {ρ : Type} {x : ρ} {w1 : ρ → Nat → va_W} {w2 : Nat → va_W} (hM : gTv l G y yc yn rm As H.size wc (.inr x : Nat ⊕ ρ) w1) (C : gCT rm 0 R y yc yn n) (hl : Cond.methodLink own index y ∈ lw_all) (hi : Cond.static y ∈ lw_all)
    (J : ∀ u, gJ ww wc (w1 x u) (w2 u) isC isR isP wr) (hn : As.length = n) (hst : st = As.reverse ++ rest) (hW : (rest.map fun v => v.category).sum ≤ 8) (hdg : decode cc pc = .ok (.invokestatic index, 3))
    (kk : ∀ (u : Nat) (H1 : Heap) (locs1 : List Loc), gH G A s.heap H1 locs1 (w2 u) → W p l e R s m args below meth c H1 locs1 0 0 Q (F0 m (pc + 3) ls rest)) : W p l e R s m args below meth c H locs 0 0 Q (F0 m pc ls st) := by
  subst hst
  exact g_tpost_r hA hH J (vx_runS (g_fix X) hM ⟨g_cbT X C hl, X.2.2.2.2.1 _ hi⟩ (g_preT hK hS hZ hA hH (J 0)) rfl hn hls.1 rfl (lv_room hW) hdg C.2.2.2.2.2.2) kk
theorem g_tVx (X : gX p s m meth c cc nL ret own args) (hK : gK G s) (hS : gS s) (hZ : gZ A s s.heap) (hno : ∀ x ∈ c.exceptionTable.toList, False) (hA : ∀ q : Nat, s.heap.size ≤ q → A q) (hH : gH G A s.heap H locs ww) (hls : lv_has ls nL lv) {ρ ρ' : Type} {k9 : Nat} {w1 : ρ → Nat → va_W} {Qc : Array Value → State → Outcome → State → Prop} (hM : gTv l G y yc yn rm (.ref b :: As) H.size wc (.inl k9 : Nat ⊕ ρ) w1) (C : gCT rm 1 R y yc yn n) (hl : Cond.methodLink own index y ∈ lw_all) (hi : Cond.instanceMethod y ∈ lw_all) {Cr : String} (hs : Cond.selects Cr y y ∈ lw_all)
    (he : ww[q0]? = some (b, .inr (ci, fs))) (hc : vwCl[ci]? = some (Cr, T, N)) (J : gJ ww wc wc ww isC isR isP wr) (hn : As.length = n) (hst : st = As.reverse ++ .ref b :: rest) (hW : (rest.map fun v => v.category).sum ≤ 8) (hdg : decode cc pc = .ok (.invokevirtual index, 3)) : W p l e R s m args below meth c H locs 0 0 (vx_MQ below Qc (gXC G ww A (.inl k9 : Nat ⊕ ρ')) args s 1 6 A) (F0 m pc ls st) := by
  subst hst
  exact g_tpost_x hA hH J hno X.2.2.2.2.2.2 (vx_runV (g_fix X) hM ⟨g_cbT X C hl, X.2.2.2.2.1 _ hi, X.2.2.2.2.1 _ hs⟩ ⟨gPx_blind, va_recv hK.1 hH.1 hc he, (g_preT hK hS hZ hA hH J).2⟩ rfl hn hls.1 rfl (lv_room hW) hdg C.2.2.2.2.2.2)
theorem g_tSx (X : gX p s m meth c cc nL ret own args) (hK : gK G s) (hS : gS s) (hZ : gZ A s s.heap) (hno : ∀ x ∈ c.exceptionTable.toList, False) (hA : ∀ q : Nat, s.heap.size ≤ q → A q) (hH : gH G A s.heap H locs ww) (hls : lv_has ls nL lv) {ρ ρ' : Type} {k9 : Nat} {w1 : ρ → Nat → va_W} {Qc : Array Value → State → Outcome → State → Prop} (hM : gTv l G y yc yn rm As H.size wc (.inl k9 : Nat ⊕ ρ) w1) (C : gCT rm 1 R y yc yn n) (hl : Cond.methodLink own index y ∈ lw_all) (hi : Cond.static y ∈ lw_all)
    (J : gJ ww wc wc ww isC isR isP wr) (hn : As.length = n) (hst : st = As.reverse ++ rest) (hW : (rest.map fun v => v.category).sum ≤ 8) (hdg : decode cc pc = .ok (.invokestatic index, 3)) : W p l e R s m args below meth c H locs 0 0 (vx_MQ below Qc (gXC G ww A (.inl k9 : Nat ⊕ ρ')) args s 1 6 A) (F0 m pc ls st) := by
  subst hst
  exact g_tpost_x hA hH J hno X.2.2.2.2.2.2 (vx_runS (g_fix X) hM ⟨g_cbT X C hl, X.2.2.2.2.1 _ hi⟩ (g_preT hK hS hZ hA hH J) rfl hn hls.1 rfl (lv_room hW) hdg C.2.2.2.2.2.2)
end GTCALLS
