/-! ===== worlds, contracts ===== -/
abbrev gG : Type := va_G × ClassId × ClassId × ClassId
abbrev gT (G : gG) : List (ClassId × FieldType) := [(G.2.1, .int), (G.2.2.1, .char), (G.2.2.2, .object "PixelPress$Layer")]
abbrev gA (G : gG) (n : Nat) (f : Nat → Int32) : va_E := .inl (G.2.1, n, .inl f)
abbrev gC (G : gG) (n : Nat) (f : Nat → Int32) : va_E := .inl (G.2.2.1, n, .inl f)
abbrev gO (G : gG) (n : Nat) (f : Nat → Option Nat) : va_E := .inl (G.2.2.2, n, .inr (.inr (.inr (.inr f))))
theorem lw_nest_on {w : Cond} (h : w ∈ lw_nest) : w.onTables = true := by
  have h2 := (List.mem_filter.mp h).2
  cases w <;> first | rfl | cases h2
theorem lw_nest_warm {w : Cond} (h : w ∈ lw_nest) {s U : State} (hW : s.WarmedH U.vm) (hz : va_Nw w s) : va_Nw w U := by
  have h2 := (List.mem_filter.mp h).2
  cases w <;> first | exact va_Nw.warmF hW hz | exact va_Nw.warmM hW hz | exact va_Nw.warmD hW hz | exact va_Nw.warmC hW hz | cases h2
def gK (G : gG) (U : State) : Prop := va_K G.1 vwCl (gT G) U ∧ ∀ w ∈ lw_nest, va_Nw w U
theorem gK.warm {G : gG} {s U : State} (hW : s.WarmedH U.vm) (h : gK G s) : gK G U := ⟨va_K.moved hW.alike h.1, fun w hw => lw_nest_warm hw hW (h.2 w hw)⟩
def gB (G : gG) (ww : va_W) (A : Nat → Prop) (t : State) : Prop := va_P G.1 vwCl ww t.heap ∧ va_D A ww
def gP (G : gG) (av : List Value) (sz : Nat) (ww : va_W) : Array Value → State → Prop := va_Pc av (fun U => U.heap.size = sz ∧ va_P G.1 vwCl ww U.heap ∧ gK G U ∧ va_D (fun _ => True) ww)
theorem gP_blind {G : gG} {av : List Value} {sz : Nat} {ww : va_W} : FrameBlind (gP G av sz ww) := fun a U g mk q => by
  obtain ⟨q0, q1, qP, qK, qD⟩ := q
  exact ⟨q0, q1, qP, ⟨va_K.moved (u := U) (U := U.calling g mk a) (Vm.Alike.refl U.vm) qK.1, fun w hw => va_Nw.same (u := U) (U := U.calling g mk a) (lw_nest_on hw) rfl (qK.2 w hw)⟩, qD⟩
def gH (G : gG) (A : Nat → Prop) (H0 H : Heap) (locs : List Loc) (ww : va_W) : Prop := va_P G.1 vwCl ww H ∧ va_D A ww ∧ va_S A H0 H locs
def gX (p : Program) (s : State) (m : MethodId) (meth : Method) (c : Code) (cc : ByteArray) (n : Nat) (ret : Option FieldType) (own : String) (args : Array Value) : Prop :=
  p.tables.exec = Jvm.exec ∧ c.code = cc ∧ meth.sig.returnType = ret ∧ c.maxLocals = n ∧ (∀ w ∈ lw_all, w.before args s = true) ∧ s.vm.findClass own = some m.cls ∧ meth.locks = false
abbrev gQi (G : gG) (r0 : Int32) (w1 : va_W) (A : Nat → Prop) : Array Value → State → Outcome → State → Prop := va_Qi (fun (r : Int32) (_ : Unit) => r = r0) (fun _ => gB G w1 A) A
abbrev gQv (G : gG) (w1 : va_W) (A : Nat → Prop) : Array Value → State → Outcome → State → Prop := va_Qv (fun (_ : Unit) => True) (fun _ => gB G w1 A) A
/-- a method that answers an int: from the world ww it answers r0, the world is w1 then; it makes nothing -/
def gI (l : Launch) (G : gG) (y : MethodName) (cc : ByteArray) (n : Nat) (ty : FieldType) (rm : Room) (av : List Value) (sz : Nat) (ww : va_W) (r0 : Int32) (w1 : va_W) : Prop :=
  Met l y (gw y cc n (some ty)) rm (gP G av sz ww) (gQi G r0 w1 (va_A ww sz)) 0 0 (va_A ww sz)
def gV (l : Launch) (G : gG) (y : MethodName) (cc : ByteArray) (n : Nat) (rm : Room) (av : List Value) (sz : Nat) (ww : va_W) (w1 : va_W) : Prop :=
  Met l y (gw y cc n none) rm (gP G av sz ww) (gQv G w1 (va_A ww sz)) 0 0 (va_A ww sz)
theorem g_ofW {l : Launch} {y : MethodName} {ws ws' : List Cond} {rm : Room} {Pc : Array Value → State → Prop} {Qc : Array Value → State → Outcome → State → Prop} {mc ms : Nat} {free : Addr → Prop} {cc : ByteArray} {maxL : Nat} {ret : Option FieldType}
    (hy : plainFor y = true) (hw : ws = Cond.code y cc maxL ret :: ws')
    (body : ∀ p e s m args below meth c s₁, BodyLoose p l y (headSpec ws rm) cc maxL ret e s m args below meth c s₁ → c.maxLocals = maxL → Pc args s →
      W p l e (headSpec ws rm).room s m args below meth c s.heap [] 0 0 (MQ below Qc args s mc ms free) (entryFrame m args maxL)) : Met l y ws rm Pc Qc mc ms free := by
  refine MetFree.of_bodySF (code := cc) (maxLocals := maxL) (ret := ret) hy ?_ ?_
  · intro args s m h hn
    obtain ⟨meth, c, h1, h2, h3, h4, h5, h6, -, -⟩ := Cond.code_spec hn (atoms_spec (ws := ws) h _ (by rw [hw]; exact List.mem_cons_self))
    exact ⟨meth, c, h1, h2, h3, h4, h5, h6⟩
  · intro p e s m args below meth c s₁ B hml hP _
    have hh0 : s₁.heap = s.heap := by rw [B.state]; rfl
    obtain ⟨t, a1, o, b1, b2, b3⟩ := body p e s m args below meth c s₁ B hml hP s₁ hh0 (Stand.of_body B)
    exact ⟨t, o, a1, b1, b2, ⟨b3.1, b3.2⟩⟩
theorem g_start {l : Launch} {G : gG} {y : MethodName} {cc : ByteArray} {n : Nat} {ret : Option FieldType} {rm : Room} {av : List Value} {sz : Nat} {ww : va_W} {mc ms : Nat} {Qc : (Nat → Prop) → Array Value → State → Outcome → State → Prop} (hy : plainFor y = true) (hn : (lg_sl av).length ≤ n)
    (h : ∀ (p : Program) (e : Env) (s : State) (m : MethodId) (below : List Frame) (meth : Method) (c : Code) (ls : Array Slot) (A : Nat → Prop), gX p s m meth c cc n ret y.cls av.toArray → gK G s → (∀ q : Nat, s.heap.size ≤ q → A q) → sz = s.heap.size → gH G A s.heap s.heap [] ww → lv_has ls n (lv_args 0 av) →
      W p l e rm s m av.toArray below meth c s.heap [] 0 0 (MQ below (Qc A) av.toArray s mc ms A) (F0 m 0 ls [])) : Met l y (gw y cc n ret) rm (gP G av sz ww) (Qc (va_A ww sz)) mc ms (va_A ww sz) := by
  refine g_ofW (cc := cc) (maxL := n) (ret := ret) hy rfl ?_
  intro p e s m args below meth c s₁ B hml hv
  obtain ⟨rfl, hsz, hP, hK, hD0⟩ := hv
  subst hsz
  have hD := hD0.self (sz := s.heap.size)
  have hl := lv_entry av hn
  rw [lg_entry_eq]
  refine h p e s m below meth c _ _ ⟨B.exec, B.bytes, B.returns, hml, fun w hw => (atoms_spec (ws := gw y cc n ret) B.pre) w (List.mem_cons_of_mem _ hw), findClass_of_methodNamed B.named, B.notSynchronized⟩ hK (fun q h => Or.inr h) rfl ⟨hP, hD, va_S.rf⟩ hl
/-! ===== pure pictures: reading, writing, naming, joining, looping ===== -/
def rdA (n : Nat) (f : Nat → Int32) (i : Int32) : Option Int32 := if i < 0 ∨ n ≤ i.toNatClampNeg then none else some (f i.toNatClampNeg)
def wrA (n : Nat) (f : Nat → Int32) (i x : Int32) : Option (Nat → Int32) := if i < 0 ∨ n ≤ i.toNatClampNeg then none else some (upd f i.toNatClampNeg x)
def dvO (x y : Int32) : Option Int32 := if y = 0 then none else some (x / y)
def rmO (x y : Int32) : Option Int32 := if y = 0 then none else some (x - x / y * y)
def bnd {α β : Type} (e : α) (k : α → Option β) : Option β := k e
def jn {φ β : Type} (K : φ → Option β) (B : (φ → Option β) → Option β) : Option β := B K
def fixN {φ β : Type} : Nat → ((φ → Option β) → φ → Option β) → φ → Option β
  | 0, _, _ => none
  | n + 1, F, x => F (fixN n F) x
def FUEL : Nat := 1000000
theorem rdA_s {n : Nat} {f : Nat → Int32} {i x : Int32} (h : rdA n f i = some x) : vp_in i n ∧ f i.toNatClampNeg = x := by
  unfold rdA at h
  split at h
  · cases h
  · next c => exact ⟨c, Option.some.inj h⟩
theorem wrA_s {n : Nat} {f g : Nat → Int32} {i x : Int32} (h : wrA n f i x = some g) : vp_in i n ∧ upd f i.toNatClampNeg x = g := by
  unfold wrA at h
  split at h
  · cases h
  · next c => exact ⟨c, Option.some.inj h⟩
theorem dvO_s {x y z : Int32} (h : dvO x y = some z) : ¬ y = 0 ∧ x / y = z := by
  unfold dvO at h
  split at h
  · cases h
  · next c => exact ⟨c, Option.some.inj h⟩
theorem rmO_s {x y z : Int32} (h : rmO x y = some z) : ¬ y = 0 ∧ x - x / y * y = z := by
  unfold rmO at h
  split at h
  · cases h
  · next c => exact ⟨c, Option.some.inj h⟩
theorem sbnd {α β : Type} {e : α} {k : α → Option β} {o : β} (h : bnd e k = some o) : ∀ x, x = e → k x = some o := fun x hx => by rw [hx]; exact h
theorem sbind {α β : Type} {a : Option α} {k : α → Option β} {o : β} (h : a.bind k = some o) : ∃ x, a = some x ∧ k x = some o := by
  cases a with
  | none => cases h
  | some x => exact ⟨x, rfl, h⟩
theorem sjn {φ β : Type} {K : φ → Option β} {B : (φ → Option β) → Option β} {o : β} (h : jn K B = some o) : ∃ k : φ → Option β, (∀ x o', k x = some o' → K x = some o') ∧ B k = some o := ⟨K, fun _ _ h => h, h⟩
theorem sfix {φ β : Type} {n : Nat} {F : (φ → Option β) → φ → Option β} {x : φ} {o : β} (h : fixN n F x = some o) : ∃ F' : (φ → Option β) → φ → Option β, F' = F ∧ fixN n F' x = some o := ⟨F, rfl, h⟩
theorem sstep {φ β : Type} {n : Nat} {F F0 : (φ → Option β) → φ → Option β} {x : φ} {o : β} (hF : F = F0) (h : fixN (n + 1) F x = some o) : ∃ self : φ → Option β, (∀ y o', self y = some o' → fixN n F y = some o') ∧ F0 self x = some o := ⟨fixN n F, fun _ _ h => h, hF ▸ h⟩
theorem sfix0 {φ β : Type} {F : (φ → Option β) → φ → Option β} {x : φ} {o : β} {P : Prop} (h : fixN 0 F x = some o) : P := by cases h
theorem spos {c : Prop} [Decidable c] {β : Type} {a b : Option β} {o : β} (h : (if c then a else b) = some o) (hc : c) : a = some o := by rw [if_pos hc] at h; exact h
theorem sneg {c : Prop} [Decidable c] {β : Type} {a b : Option β} {o : β} (h : (if c then a else b) = some o) (hc : ¬ c) : b = some o := by rw [if_neg hc] at h; exact h
/-! ===== rows over these worlds ===== -/
section GROWS
variable {p : Program} {l : Launch} {e : Env} {R : Room} {s : State} {m : MethodId} {args : Array Value} {below : List Frame} {meth : Method} {c : Code} {H : Heap} {locs : List Loc} {cells slots : Nat} {Q : State → Prop}
variable {G : gG} {A : Nat → Prop} {H0 : Heap} {ww w1 w2 : va_W} {cc : ByteArray} {nL : Nat} {ret : Option FieldType} {own : String} {pc : Nat} {ls : Array Slot} {rest st : List Value} {a : Nat}
theorem g_get (X : gX p s m meth c cc nL ret own args) (hK : gK G s) (hH : gH G A H0 H locs ww) {ref C : String} {T : u_T} {N ci index : Nat} (hin : ∀ w ∈ u_ws C T N, w ∈ lw_all) (q0 : Nat) {fs : List Value} (he : ww[q0]? = some (a, .inr (ci, fs))) (hc : vwCl[ci]? = some (C, T, N)) (k : Nat) (hk : k < N) (hlink : Cond.fieldLink own index ref (T k).2.1 (T k).2.2.1 ∈ lw_all) (hsame : ∀ x, s.fieldFound? (T k).1 (T k).2.1 (T k).2.2.1 = some x → s.fieldFound? ref (T k).2.1 (T k).2.2.1 = some x) {v : Value} (hv : fs[k]? = some v) (hdg : decode cc pc = .ok (.getfield index, 3))
    (kk : W p l e R s m args below meth c H locs cells slots Q (F0 m (pc + 3) ls (v :: rest))) : W p l e R s m args below meth c H locs cells slots Q (F0 m pc ls (.ref a :: rest)) :=
  va_get X.1 X.2.1 X.2.2.2.2.1 hin X.2.2.2.2.2.1 hK.1 hH.1 q0 he hc k hk (X.2.2.2.2.1 _ hlink) hsame hv hdg kk
theorem g_put (X : gX p s m meth c cc nL ret own args) (hK : gK G s) (hH : gH G A H0 H locs ww) {ref C : String} {T : u_T} {N ci index : Nat} (hin : ∀ w ∈ u_ws C T N, w ∈ lw_all) (ty0 : Nat → FieldType) (hty : ∀ k, k < N → parseFieldDescriptor (T k).2.2.1 = some (ty0 k)) (hnm : ∀ a, a < N → ∀ b, b < N → a ≠ b → (T a).2.1 ≠ (T b).2.1) (q0 : Nat) {fs : List Value} (he : ww[q0]? = some (a, .inr (ci, fs))) (hc : vwCl[ci]? = some (C, T, N)) (k : Nat) (hk : k < N) (hlink : Cond.fieldLink own index ref (T k).2.1 (T k).2.2.1 ∈ lw_all) (hsame : ∀ x, s.fieldFound? (T k).1 (T k).2.1 (T k).2.2.1 = some x → s.fieldFound? ref (T k).2.1 (T k).2.2.1 = some x) (hfin : (T k).2.2.2 = false) {ty : FieldType} {v : Value} (hd : parseFieldDescriptor (T k).2.2.1 = some ty) (hn : narrow ty v = v) (hfit : fits ty v = true) (hl : k < fs.length) (hdg : decode cc pc = .ok (.putfield index, 3)) {fs' : List Value} (hs : fs.set k v = fs') (hw : ww.set q0 (a, .inr (ci, fs')) = w1)
    (kk : ∀ (H1 : Heap) (locs1 : List Loc), gH G A H0 H1 locs1 w1 → W p l e R s m args below meth c H1 locs1 cells slots Q (F0 m (pc + 3) ls rest)) : W p l e R s m args below meth c H locs cells slots Q (F0 m pc ls (v :: .ref a :: rest)) :=
  va_put X.1 X.2.1 X.2.2.2.2.1 hin ty0 hty hnm X.2.2.2.2.2.1 hK.1 hH.1 hH.2.1 hH.2.2 q0 he hc k hk (X.2.2.2.2.1 _ hlink) hsame hfin hd hn hfit hl hdg (fun H1 locs1 hP hD hS => kk H1 locs1 ⟨by rw [← hw, ← hs]; exact hP, by rw [← hw, ← hs]; exact hD, hS⟩)
theorem g_getN (X : gX p s m meth c cc nL ret own args) (hK : gK G s) (hH : gH G A H0 H locs ww) {ref C host : String} {T : u_T} {N ci index : Nat} (hin : ∀ w ∈ u_ws C T N, w ∈ lw_all) (q0 : Nat) {fs : List Value} (he : ww[q0]? = some (a, .inr (ci, fs))) (hc : vwCl[ci]? = some (C, T, N)) (k : Nat) (hk : k < N) (hlink : Cond.fieldLinkNest own index ref (T k).2.1 (T k).2.2.1 host ∈ lw_nest) (hsame : ∀ x, s.fieldFound? (T k).1 (T k).2.1 (T k).2.2.1 = some x → s.fieldFound? ref (T k).2.1 (T k).2.2.1 = some x) {v : Value} (hv : fs[k]? = some v) (hdg : decode cc pc = .ok (.getfield index, 3))
    (kk : W p l e R s m args below meth c H locs cells slots Q (F0 m (pc + 3) ls (v :: rest))) : W p l e R s m args below meth c H locs cells slots Q (F0 m pc ls (.ref a :: rest)) :=
  va_getN X.1 X.2.1 X.2.2.2.2.1 hin X.2.2.2.2.2.1 hK.1 hH.1 q0 he hc k hk (va_Nw.use (lw_nest_on hlink) (hK.2 _ hlink)) hsame hv hdg kk
theorem g_putN (X : gX p s m meth c cc nL ret own args) (hK : gK G s) (hH : gH G A H0 H locs ww) {ref C host : String} {T : u_T} {N ci index : Nat} (hin : ∀ w ∈ u_ws C T N, w ∈ lw_all) (ty0 : Nat → FieldType) (hty : ∀ k, k < N → parseFieldDescriptor (T k).2.2.1 = some (ty0 k)) (hnm : ∀ a, a < N → ∀ b, b < N → a ≠ b → (T a).2.1 ≠ (T b).2.1) (q0 : Nat) {fs : List Value} (he : ww[q0]? = some (a, .inr (ci, fs))) (hc : vwCl[ci]? = some (C, T, N)) (k : Nat) (hk : k < N) (hlink : Cond.fieldLinkNest own index ref (T k).2.1 (T k).2.2.1 host ∈ lw_nest) (hsame : ∀ x, s.fieldFound? (T k).1 (T k).2.1 (T k).2.2.1 = some x → s.fieldFound? ref (T k).2.1 (T k).2.2.1 = some x) (hfin : (T k).2.2.2 = false) {ty : FieldType} {v : Value} (hd : parseFieldDescriptor (T k).2.2.1 = some ty) (hn : narrow ty v = v) (hfit : fits ty v = true) (hl : k < fs.length) (hdg : decode cc pc = .ok (.putfield index, 3)) {fs' : List Value} (hs : fs.set k v = fs') (hw : ww.set q0 (a, .inr (ci, fs')) = w1)
    (kk : ∀ (H1 : Heap) (locs1 : List Loc), gH G A H0 H1 locs1 w1 → W p l e R s m args below meth c H1 locs1 cells slots Q (F0 m (pc + 3) ls rest)) : W p l e R s m args below meth c H locs cells slots Q (F0 m pc ls (v :: .ref a :: rest)) :=
  va_putN X.1 X.2.1 X.2.2.2.2.1 hin ty0 hty hnm X.2.2.2.2.2.1 hK.1 hH.1 hH.2.1 hH.2.2 q0 he hc k hk (va_Nw.use (lw_nest_on hlink) (hK.2 _ hlink)) hsame hfin hd hn hfit hl hdg (fun H1 locs1 hP hD hS => kk H1 locs1 ⟨by rw [← hw, ← hs]; exact hP, by rw [← hw, ← hs]; exact hD, hS⟩)
theorem g_same {ref owner n d : String} (X : gX p s m meth c cc nL ret own args) (h : Cond.sameField ref owner n d ∈ lw_all) : ∀ x, s.fieldFound? owner n d = some x → s.fieldFound? ref n d = some x :=
  fun x ho => u_same (X.2.2.2.2.1 _ h) x ho
theorem g_ald (X : gX p s m meth c cc nL ret own args) (hK : gK G s) (hH : gH G A H0 H locs ww) (q0 : Nat) {n : Nat} {f : Nat → Int32} {i x : Int32} (ha : ww[q0]? = some (a, gA G n f)) (hx : rdA n f i = some x) (hdg : decode cc pc = .ok (.iaload, 1))
    (kk : W p l e R s m args below meth c H locs cells slots Q (F0 m (pc + 1) ls (.int x :: rest))) : W p l e R s m args below meth c H locs cells slots Q (F0 m pc ls (.int i :: .ref a :: rest)) := by
  obtain ⟨h1, h2⟩ := rdA_s hx
  subst h2
  exact va_iald X.1 X.2.1 hK.1 hH.1 q0 0 ha rfl h1 hdg kk
theorem g_alen (X : gX p s m meth c cc nL ret own args) (hK : gK G s) (hH : gH G A H0 H locs ww) (q0 : Nat) {n : Nat} {f : Nat → Int32} (ha : ww[q0]? = some (a, gA G n f)) (hdg : decode cc pc = .ok (.arraylength, 1))
    (kk : W p l e R s m args below meth c H locs cells slots Q (F0 m (pc + 1) ls (.int (Int32.ofNat n) :: rest))) : W p l e R s m args below meth c H locs cells slots Q (F0 m pc ls (.ref a :: rest)) :=
  va_alen X.1 X.2.1 hK.1 hH.1 q0 0 ha rfl rfl hdg kk
theorem g_ast (X : gX p s m meth c cc nL ret own args) (hK : gK G s) (hH : gH G A H0 H locs ww) (q0 : Nat) {n : Nat} {f g : Nat → Int32} {i x : Int32} (ha : ww[q0]? = some (a, gA G n f)) (hx : wrA n f i x = some g) (hdg : decode cc pc = .ok (.iastore, 1)) (hw : ww.set q0 (a, gA G n g) = w1)
    (kk : ∀ (H1 : Heap) (locs1 : List Loc), gH G A H0 H1 locs1 w1 → W p l e R s m args below meth c H1 locs1 cells slots Q (F0 m (pc + 1) ls rest)) : W p l e R s m args below meth c H locs cells slots Q (F0 m pc ls (.int x :: .int i :: .ref a :: rest)) := by
  obtain ⟨h1, h2⟩ := wrA_s hx
  subst h2
  exact va_iast X.1 X.2.1 hK.1 hH.1 hH.2.1 hH.2.2 q0 0 ha rfl h1 hdg (fun H1 locs1 hP hD hS => kk H1 locs1 ⟨hw ▸ hP, hw ▸ hD, hS⟩)
theorem g_cald (X : gX p s m meth c cc nL ret own args) (hK : gK G s) (hH : gH G A H0 H locs ww) (q0 : Nat) {n : Nat} {f : Nat → Int32} {i x : Int32} (ha : ww[q0]? = some (a, gC G n f)) (hx : rdA n f i = some x) (hdg : decode cc pc = .ok (.caload, 1))
    (kk : W p l e R s m args below meth c H locs cells slots Q (F0 m (pc + 1) ls (.int x :: rest))) : W p l e R s m args below meth c H locs cells slots Q (F0 m pc ls (.int i :: .ref a :: rest)) := by
  obtain ⟨h1, h2⟩ := rdA_s hx
  subst h2
  exact va_cald X.1 X.2.1 hK.1 hH.1 q0 1 ha rfl h1 hdg kk
theorem g_div (X : gX p s m meth c cc nL ret own args) {x y z : Int32} (hx : dvO x y = some z) (hdg : decode cc pc = .ok (.idiv, 1))
    (kk : W p l e R s m args below meth c H locs cells slots Q (F0 m (pc + 1) ls (.int z :: rest))) : W p l e R s m args below meth c H locs cells slots Q (F0 m pc ls (.int y :: .int x :: rest)) := by
  obtain ⟨h1, h2⟩ := dvO_s hx
  subst h2
  exact lv_idiv X.1 X.2.1 hdg h1 kk
theorem g_rem (X : gX p s m meth c cc nL ret own args) {x y z : Int32} (hx : rmO x y = some z) (hdg : decode cc pc = .ok (.irem, 1))
    (kk : W p l e R s m args below meth c H locs cells slots Q (F0 m (pc + 1) ls (.int z :: rest))) : W p l e R s m args below meth c H locs cells slots Q (F0 m pc ls (.int y :: .int x :: rest)) := by
  obtain ⟨h1, h2⟩ := rmO_s hx
  subst h2
  exact lv_irem X.1 X.2.1 hdg h1 kk
theorem g_iret (X : gX p s m meth c cc nL (some .int) own args) (hK : gK G s) (hH : gH G A s.heap H locs w1) {r : Int32} (hdg : decode cc pc = .ok (.ireturn, 1)) : W p l e R s m args below meth c H locs 0 0 (MQ below (gQi G r w1 A) args s 0 0 A) (F0 m pc ls [.int r]) :=
  W.iret (v := r) X.1 X.2.1 X.2.2.1 (fun t ht hW => ⟨⟨r, (), rfl, rfl, by rw [ht]; exact hH.1, hH.2.1⟩, hH.2.2.F ht⟩) hH.2.2.2.2 hdg X.2.2.2.2.2.2
theorem g_zret {ty : FieldType} (X : gX p s m meth c cc nL (some ty) own args) (hK : gK G s) (hH : gH G A s.heap H locs w1) {r : Int32} (hn : narrow ty (.int r) = .int r) (hdg : decode cc pc = .ok (.ireturn, 1)) : W p l e R s m args below meth c H locs 0 0 (MQ below (gQi G r w1 A) args s 0 0 A) (F0 m pc ls [.int r]) :=
  W.zret (v := r) X.1 X.2.1 X.2.2.1 hn (fun t ht hW => ⟨⟨r, (), rfl, rfl, by rw [ht]; exact hH.1, hH.2.1⟩, hH.2.2.F ht⟩) hH.2.2.2.2 hdg X.2.2.2.2.2.2
theorem g_vret (X : gX p s m meth c cc nL none own args) (hK : gK G s) (hH : gH G A s.heap H locs w1) (hdg : decode cc pc = .ok (.return_, 1)) : W p l e R s m args below meth c H locs 0 0 (MQ below (gQv G w1 A) args s 0 0 A) (F0 m pc ls []) :=
  W.vret X.1 X.2.1 X.2.2.1 (fun t ht hW => ⟨⟨(), rfl, trivial, by rw [ht]; exact hH.1, hH.2.1⟩, hH.2.2.F ht⟩) hH.2.2.2.2 hdg X.2.2.2.2.2.2
end GROWS
theorem gI_of {l : Launch} {G : gG} {y : MethodName} {cc : ByteArray} {n : Nat} {ty : FieldType} {rm : Room} {av : List Value} {sz : Nat} {ww : va_W} {r0 : Int32} {w1 : va_W} (hy : plainFor y = true) (hn : (lg_sl av).length ≤ n)
    (h : ∀ (p : Program) (e : Env) (s : State) (m : MethodId) (args : Array Value) (below : List Frame) (meth : Method) (c : Code) (ls : Array Slot) (A : Nat → Prop) (Q : State → Prop), gX p s m meth c cc n (some ty) y.cls args → gK G s → (∀ q : Nat, s.heap.size ≤ q → A q) → sz = s.heap.size → gH G A s.heap s.heap [] ww → lv_has ls n (lv_args 0 av) →
      (∀ (H : Heap) (locs : List Loc) (pc : Nat) (ls : Array Slot), narrow ty (.int r0) = .int r0 → gH G A s.heap H locs w1 → decode cc pc = .ok (.ireturn, 1) → W p l e rm s m args below meth c H locs 0 0 Q (F0 m pc ls [.int r0])) →
      W p l e rm s m args below meth c s.heap [] 0 0 Q (F0 m 0 ls [])) : gI l G y cc n ty rm av sz ww r0 w1 :=
  g_start (Qc := fun A => gQi G r0 w1 A) hy hn (fun p e s m below meth c ls A X hK hA hsz hH hl => h p e s m av.toArray below meth c ls A _ X hK hA hsz hH hl (fun H locs pc ls hnr hH hd => g_zret X hK hH hnr hd))
theorem gV_of {l : Launch} {G : gG} {y : MethodName} {cc : ByteArray} {n : Nat} {rm : Room} {av : List Value} {sz : Nat} {ww : va_W} {w1 : va_W} (hy : plainFor y = true) (hn : (lg_sl av).length ≤ n)
    (h : ∀ (p : Program) (e : Env) (s : State) (m : MethodId) (args : Array Value) (below : List Frame) (meth : Method) (c : Code) (ls : Array Slot) (A : Nat → Prop) (Q : State → Prop), gX p s m meth c cc n none y.cls args → gK G s → (∀ q : Nat, s.heap.size ≤ q → A q) → sz = s.heap.size → gH G A s.heap s.heap [] ww → lv_has ls n (lv_args 0 av) →
      (∀ (H : Heap) (locs : List Loc) (pc : Nat) (ls : Array Slot), gH G A s.heap H locs w1 → decode cc pc = .ok (.return_, 1) → W p l e rm s m args below meth c H locs 0 0 Q (F0 m pc ls [])) →
      W p l e rm s m args below meth c s.heap [] 0 0 Q (F0 m 0 ls [])) : gV l G y cc n rm av sz ww w1 :=
  g_start (Qc := fun A => gQv G w1 A) hy hn (fun p e s m below meth c ls A X hK hA hsz hH hl => h p e s m av.toArray below meth c ls A _ X hK hA hsz hH hl (fun H locs pc ls hH hd => g_vret X hK hH hd))
def jmin (x y : Int32) : Int32 := if y < x then y else x
def jmax (x y : Int32) : Int32 := if x < y then y else x
def jabs (x : Int32) : Int32 := if 0 ≤ x then x else 0 - x
section GMATH
variable {p : Program} {l : Launch} {e : Env} {R : Room} {s : State} {m : MethodId} {args : Array Value} {below : List Frame} {meth : Method} {c : Code} {H : Heap} {locs : List Loc} {cells slots : Nat} {Q : State → Prop}
variable {cc : ByteArray} {nL : Nat} {ret : Option FieldType} {own : String} {pc : Nat} {ls : Array Slot} {rest : List Value} {lv : List (Nat × Value)} {index : Nat}
theorem g_min (X : gX p s m meth c cc nL ret own args) (hls : lv_has ls nL lv) (hl : Cond.methodLink own index Lib.Math.min.name ∈ lw_all) (hi : Cond.static Lib.Math.min.name ∈ lw_all) (hini : Cond.initialized "java/lang/Math" ∈ lw_all) (hcode : Cond.code Lib.Math.min.name Lib.Math.min.code 2 (some .int) ∈ lw_all) (hR : 1 ≤ R.frames ∧ (rest.map fun v => v.category).sum + 13 ≤ R.locals) (hcs : cells ≤ R.cells ∧ slots ≤ R.slots) {x y : Int32} (hdg : decode cc pc = .ok (.invokestatic index, 3))
    (kk : W p l e R s m args below meth c H locs cells slots Q (F0 m (pc + 3) ls (.int (jmin x y) :: rest))) : W p l e R s m args below meth c H locs cells slots Q (F0 m pc ls (.int y :: .int x :: rest)) :=
  va_mmin X.1 X.2.1 (X.2.2.2.1.trans hls.1.symm) X.2.2.2.2.2.1 (X.2.2.2.2.1 _ hl) (X.2.2.2.2.1 _ hi) (X.2.2.2.2.1 _ hini) (X.2.2.2.2.1 _ hcode) hR.1 hR.2 hcs.1 hcs.2 hdg kk
theorem g_max (X : gX p s m meth c cc nL ret own args) (hls : lv_has ls nL lv) (hl : Cond.methodLink own index Lib.Math.max.name ∈ lw_all) (hi : Cond.static Lib.Math.max.name ∈ lw_all) (hini : Cond.initialized "java/lang/Math" ∈ lw_all) (hcode : Cond.code Lib.Math.max.name Lib.Math.max.code 2 (some .int) ∈ lw_all) (hR : 1 ≤ R.frames ∧ (rest.map fun v => v.category).sum + 13 ≤ R.locals) (hcs : cells ≤ R.cells ∧ slots ≤ R.slots) {x y : Int32} (hdg : decode cc pc = .ok (.invokestatic index, 3))
    (kk : W p l e R s m args below meth c H locs cells slots Q (F0 m (pc + 3) ls (.int (jmax x y) :: rest))) : W p l e R s m args below meth c H locs cells slots Q (F0 m pc ls (.int y :: .int x :: rest)) :=
  va_mmax X.1 X.2.1 (X.2.2.2.1.trans hls.1.symm) X.2.2.2.2.2.1 (X.2.2.2.2.1 _ hl) (X.2.2.2.2.1 _ hi) (X.2.2.2.2.1 _ hini) (X.2.2.2.2.1 _ hcode) hR.1 hR.2 hcs.1 hcs.2 hdg kk
theorem g_abs (X : gX p s m meth c cc nL ret own args) (hls : lv_has ls nL lv) (hl : Cond.methodLink own index Lib.Math.abs.name ∈ lw_all) (hi : Cond.static Lib.Math.abs.name ∈ lw_all) (hini : Cond.initialized "java/lang/Math" ∈ lw_all) (hcode : Cond.code Lib.Math.abs.name Lib.Math.abs.code 1 (some .int) ∈ lw_all) (hR : 1 ≤ R.frames ∧ (rest.map fun v => v.category).sum + 13 ≤ R.locals) (hcs : cells ≤ R.cells ∧ slots ≤ R.slots) {x : Int32} (hdg : decode cc pc = .ok (.invokestatic index, 3))
    (kk : W p l e R s m args below meth c H locs cells slots Q (F0 m (pc + 3) ls (.int (jabs x) :: rest))) : W p l e R s m args below meth c H locs cells slots Q (F0 m pc ls (.int x :: rest)) :=
  va_mabs X.1 X.2.1 (X.2.2.2.1.trans hls.1.symm) X.2.2.2.2.2.1 (X.2.2.2.2.1 _ hl) (X.2.2.2.2.1 _ hi) (X.2.2.2.2.1 _ hini) (X.2.2.2.2.1 _ hcode) hR.1 hR.2 hcs.1 hcs.2 hdg kk
end GMATH
