/-! ===== calls in a large world: the callee's cells are put back in their places ===== -/
def wSel (w1 : va_W) : va_W → List (Option Nat) → va_W
  | q :: qs, none :: ps => q :: wSel w1 qs ps
  | _ :: qs, some j :: ps => match w1[j]? with
    | some q => q :: wSel w1 qs ps
    | none => []
  | _, _ => []
def posOk (isC : List Nat) : Nat → List (Option Nat) → Bool
  | _, [] => true
  | k, none :: ps => !(isC.contains k) && posOk isC (k + 1) ps
  | k, some j :: ps => (isC[j]? == some k) && posOk isC (k + 1) ps
theorem wSel_get {isC : List Nat} {w1 : va_W} : ∀ (ww : va_W) (pos : List (Option Nat)) (k0 i : Nat) (q : Nat × va_E), posOk isC k0 pos = true → (wSel w1 ww pos)[i]? = some q → (k0 + i ∉ isC ∧ ww[i]? = some q) ∨ ∃ j : Nat, isC[j]? = some (k0 + i) ∧ w1[j]? = some q := by
  intro ww
  induction ww with
  | nil =>
    intro pos k0 i q h1 h2
    cases h2
  | cons a as ih =>
    intro pos k0 i q h1 h2
    cases pos with
    | nil => cases h2
    | cons o ps =>
      cases o with
      | none =>
        have h1 : (!(isC.contains k0) && posOk isC (k0 + 1) ps) = true := h1
        rw [Bool.and_eq_true] at h1
        have h2 : (a :: wSel w1 as ps)[i]? = some q := h2
        cases i with
        | zero => exact Or.inl ⟨fun hm => by
          have h3 : ¬ k0 ∈ isC := by simpa using h1.1
          exact h3 hm, h2⟩
        | succ i =>
          have h4 := ih ps (k0 + 1) i q h1.2 h2
          rw [show k0 + 1 + i = k0 + (i + 1) by omega] at h4
          exact h4
      | some j =>
        have h1 : ((isC[j]? == some k0) && posOk isC (k0 + 1) ps) = true := h1
        rw [Bool.and_eq_true] at h1
        have h2 : (match w1[j]? with
          | some q => q :: wSel w1 as ps
          | none => [])[i]? = some q := h2
        cases hj : w1[j]? with
        | none => rw [hj] at h2; cases h2
        | some b =>
          rw [hj] at h2
          have h2 : (b :: wSel w1 as ps)[i]? = some q := h2
          cases i with
          | zero =>
            have h5 : b = q := Option.some.inj h2
            subst h5
            exact Or.inr ⟨j, by simpa using h1.1, hj⟩
          | succ i =>
            have h4 := ih ps (k0 + 1) i q h1.2 h2
            rw [show k0 + 1 + i = k0 + (i + 1) by omega] at h4
            exact h4
theorem mapIx {isC : List Nat} {ww wc : va_W} (hC : isC.map (fun i => ww[i]?) = wc.map some) {j : Nat} {q : Nat × va_E} (h : wc[j]? = some q) : ∃ i : Nat, isC[j]? = some i ∧ ww[i]? = some q := by
  have h1 : (isC.map (fun i => ww[i]?))[j]? = some (some q) := by rw [hC, List.getElem?_map, h]; rfl
  rw [List.getElem?_map] at h1
  cases hi : isC[j]? with
  | none => rw [hi] at h1; cases h1
  | some i => rw [hi] at h1; exact ⟨i, rfl, Option.some.inj h1⟩
theorem g_up {G : gG} {A : Nat → Prop} {H0 H H1 : Heap} {locs locs1 : List Loc} {ww wc w1 : va_W} {isC : List Nat} {pos : List (Option Nat)} (hA : ∀ q : Nat, H0.size ≤ q → A q) (hH : gH G A H0 H locs ww) (hC : isC.map (fun i => ww[i]?) = wc.map some) (hn : posOk isC 0 pos = true) {t : State} (ht : t.heap = H1) (hB : gB G w1 (va_A wc H.size) t) (hk : ∀ q : Nat, q < H.size → ¬ va_A wc H.size q → H1[q]? = H[q]?) (hS : va_S A H0 H1 locs1) : gH G A H0 H1 locs1 (wSel w1 ww pos) := by
  have wUp_get : ∀ (k : Nat) (q : Nat × va_E), (wSel w1 ww pos)[k]? = some q → (k ∉ isC ∧ ww[k]? = some q) ∨ ∃ j : Nat, isC[j]? = some k ∧ w1[j]? = some q := fun k q h => by
    have h9 := wSel_get ww pos 0 k q hn h
    rw [Nat.zero_add] at h9
    exact h9
  obtain ⟨hP1, hD1⟩ := hB
  rw [ht] at hP1
  have hF := va_free hH.2.1 hH.2.2 hA isC hC
  have hout : ∀ (k : Nat) (q : Nat × va_E), k ∉ isC → ww[k]? = some q → ¬ va_A wc H.size q.1 := by
    intro k q h1 h2 h3
    rcases h3 with ⟨j, e, h3⟩ | h3
    · obtain ⟨i, h4, h5⟩ := mapIx hC h3
      have h6 := hH.2.1.1 k i q (q.1, e) h2 h5 rfl
      subst h6
      exact h1 (List.mem_of_getElem? h4)
    · exact absurd (hH.1 k q h2).lt (Nat.not_lt.mpr h3)
  refine ⟨fun k q hq => ?_, ⟨fun i j p q hp hq e => ?_, fun k q hq => ?_⟩, hS⟩
  · rcases wUp_get k q hq with ⟨h1, h2⟩ | ⟨j, h1, h2⟩
    · exact (hH.1 k q h2).kept (hk q.1 (hH.1 k q h2).lt (hout k q h1 h2))
    · exact hP1 j q h2
  · rcases wUp_get i p hp with ⟨h1, h2⟩ | ⟨a, h1, h2⟩
    · rcases wUp_get j q hq with ⟨h3, h4⟩ | ⟨b, h3, h4⟩
      · exact hH.2.1.1 i j p q h2 h4 e
      · exact absurd (by rw [e]; exact hD1.2 b q h4) (hout i p h1 h2)
    · rcases wUp_get j q hq with ⟨h3, h4⟩ | ⟨b, h3, h4⟩
      · exact absurd (by rw [← e]; exact hD1.2 a p h2) (hout j q h3 h4)
      · have h5 := hD1.1 a b p q h2 h4 e
        subst h5
        exact Option.some.inj (h1.symm.trans h3)
  · rcases wUp_get k q hq with ⟨h1, h2⟩ | ⟨j, h1, h2⟩
    · exact hH.2.1.2 k q h2
    · exact hF q.1 (hD1.2 j q h2)
def gL (ww wc w1 w2 : va_W) (isC : List Nat) (pos : List (Option Nat)) : Prop := isC.map (fun i => ww[i]?) = wc.map some ∧ va_nd isC = true ∧ posOk isC 0 pos = true ∧ wSel w1 ww pos = w2
/-! ===== the law's own methods that catch: contracts ===== -/
abbrev gE : Type := ClassId × ClassId
abbrev gJl (E : gE) (n : Nat) (f : Nat → Int64) : va_E := .inl (E.1, n, .inr (.inl f))
abbrev gJd (E : gE) (n : Nat) (f : Nat → UInt64) : va_E := .inl (E.2, n, .inr (.inr (.inr (.inl f))))
def gKL (G : gG) (E : gE) (U : State) : Prop := va_K G.1 vwCl [(E.1, .long), (E.2, .double)] U
def gNc (U : State) : Prop := va_Nc (xname 0) (xname 1) U ∧ va_Nc (xname 2) (xname 0) U ∧ va_Nc (xname 1) (xname 3) U ∧ va_Nc (xname 2) (xname 3) U
theorem gNc.moved {u U : State} (hvm : u.vm.Alike U.vm) (h : gNc u) : gNc U := ⟨va_Nc.moved hvm h.1, va_Nc.moved hvm h.2.1, va_Nc.moved hvm h.2.2.1, va_Nc.moved hvm h.2.2.2⟩
theorem gM.moved {A : Nat → Prop} {u U : State} {H : Heap} (hvm : u.vm.Alike U.vm) (h : gM A u H) : gM A U H := by
  obtain ⟨t, a, b⟩ := h
  exact ⟨t, a.moved hvm, b.moved hvm⟩
theorem gM.kept {A : Nat → Prop} {U : State} {H H1 : Heap} (h : gM A U H) (hq : ∀ a : Nat, a < H.size → ¬ A a → H1[a]? = H[a]?) : gM A U H1 := by
  obtain ⟨t, a, b⟩ := h
  exact ⟨t, a.kept hq, b.kept hq⟩
theorem gM.narrow {A B : Nat → Prop} {U : State} {H : Heap} (h : gM A U H) (hAB : ∀ q, B q → A q) : gM B U H := by
  obtain ⟨t, a, b⟩ := h
  exact ⟨t, a.narrow hAB, b.narrow hAB⟩
theorem gPm_blind {G : gG} {av : List Value} {sz : Nat} {ww : va_W} : FrameBlind (gPm G av sz ww) := fun a U g mk q => by
  obtain ⟨q0, q1, qP, qK, qD, qS, qZ, qM⟩ := q
  exact ⟨q0, q1, qP, ⟨va_K.moved (u := U) (U := U.calling g mk a) (Vm.Alike.refl U.vm) qK.1, fun w hw => va_Nw.same (u := U) (U := U.calling g mk a) (lw_nest_on hw) rfl (qK.2 w hw)⟩, qD,
    fun w hw => (qS w hw).imp fun _ hr => vk_R.same (u := U) (U := U.calling g mk a) rfl hr, ⟨vx_Zq.moved (u := U) (U := U.calling g mk a) (Vm.Alike.refl U.vm) qZ.1, vx_Zq.moved (u := U) (U := U.calling g mk a) (Vm.Alike.refl U.vm) qZ.2⟩, gM.moved (u := U) (U := U.calling g mk a) (Vm.Alike.refl U.vm) qM⟩
def gPw (G : gG) (E : gE) (av : List Value) (sz : Nat) (ww : va_W) : Array Value → State → Prop := va_Pc av (fun U => U.heap.size = sz ∧ va_P G.1 vwCl ww U.heap ∧ gK G U ∧ va_D (fun _ => True) ww ∧ gS U ∧ gZ (va_A ww sz) U U.heap ∧ gM (va_A ww sz) U U.heap ∧ gKL G E U ∧ gNc U)
theorem gPw_blind {G : gG} {E : gE} {av : List Value} {sz : Nat} {ww : va_W} : FrameBlind (gPw G E av sz ww) := fun a U g mk q => by
  obtain ⟨q0, q1, qP, qK, qD, qS, qZ, qM, qL, qN⟩ := q
  exact ⟨q0, q1, qP, ⟨va_K.moved (u := U) (U := U.calling g mk a) (Vm.Alike.refl U.vm) qK.1, fun w hw => va_Nw.same (u := U) (U := U.calling g mk a) (lw_nest_on hw) rfl (qK.2 w hw)⟩, qD,
    fun w hw => (qS w hw).imp fun _ hr => vk_R.same (u := U) (U := U.calling g mk a) rfl hr, ⟨vx_Zq.moved (u := U) (U := U.calling g mk a) (Vm.Alike.refl U.vm) qZ.1, vx_Zq.moved (u := U) (U := U.calling g mk a) (Vm.Alike.refl U.vm) qZ.2⟩, gM.moved (u := U) (U := U.calling g mk a) (Vm.Alike.refl U.vm) qM, va_K.moved (u := U) (U := U.calling g mk a) (Vm.Alike.refl U.vm) qL, gNc.moved (u := U) (U := U.calling g mk a) (Vm.Alike.refl U.vm) qN⟩
abbrev gwH (y : MethodName) (cc : ByteArray) (n : Nat) (r : Option FieldType) (hh : List (Nat × Nat × Nat × Nat)) : List Cond := .codeWith y cc n r hh :: lw_all
theorem gwH_in {y : MethodName} {cc : ByteArray} {n : Nat} {r : Option FieldType} {hh : List (Nat × Nat × Nat × Nat)} (h : Cond.codeWith y cc n r hh ∈ lw_all) : GoodIn lw_all (gwH y cc n r hh) := fun w hw => (List.mem_cons.mp hw).elim (fun e => by rw [e]; exact lw_gd h) (fun h => lw_gd h)
def gWc (l : Launch) (G : gG) (E : gE) (y : MethodName) (cc : ByteArray) (n : Nat) (hh : List (Nat × Nat × Nat × Nat)) (rm : Room) (av : List Value) (sz : Nat) (ww : va_W) (r0 : Int32) (w1 : Nat → va_W) (mc ms : Nat) : Prop :=
  Met l y (gwH y cc n (some .int) hh) rm (gPw G E av sz ww) (va_Qi (fun (r : Int32) (_ : Nat) => r = r0) (fun u => gB G (w1 u) (va_A ww sz)) (va_A ww sz)) mc ms (va_A ww sz)
theorem gWc_of {l : Launch} {G : gG} {E : gE} {y : MethodName} {cc : ByteArray} {n : Nat} {hh : List (Nat × Nat × Nat × Nat)} {rm : Room} {av : List Value} {sz : Nat} {ww : va_W} {r0 : Int32} {w1 : Nat → va_W} {mc ms : Nat} (hy : plainName y.cls = true) (hn : (lg_sl av).length ≤ n)
    (h : ∀ (p : Program) (e : Env) (s : State) (m : MethodId) (args : Array Value) (below : List Frame) (meth : Method) (c : Code) (ls : Array Slot) (A : Nat → Prop) (Q : State → Prop), gX p s m meth c cc n (some .int) y.cls args → gK G s → gKL G E s → gNc s → (∀ q : Nat, s.heap.size ≤ q → A q) → sz = s.heap.size → gH G A s.heap s.heap [] ww → lv_has ls n (lv_args 0 av) → gS s → gZ A s s.heap → gM A s s.heap → c.exceptionTable.toList = tableOf hh →
      (∀ (u : Nat) (H : Heap) (locs : List Loc) (pc : Nat) (ls : Array Slot), gH G A s.heap H locs (w1 u) → decode cc pc = .ok (.ireturn, 1) → W p l e rm s m args below meth c H locs mc ms Q (F0 m pc ls [.int r0])) →
      W p l e rm s m args below meth c s.heap [] 0 0 Q (F0 m 0 ls [])) : gWc l G E y cc n hh rm av sz ww r0 w1 mc ms := by
  refine va_MetW (cc := cc) (maxL := n) (ret := some .int) (hh := hh) hy rfl ?_
  intro p e s m args below meth c s₁ B hml hv
  obtain ⟨rfl, hsz, hP, hK, hD0, hS, hZ, hM, hL, hN⟩ := hv
  subst hsz
  have hx := B.exec
  have hb := B.bytes
  have hr := B.returns
  have hlk := B.notSynchronized
  have hD := hD0.self (sz := s.heap.size)
  have hl := lv_entry av hn
  rw [lg_entry_eq]
  have hpre := atoms_spec (ws := gwH y cc n (some .int) hh) B.pre
  refine h p e s m av.toArray below meth c _ _ _ ⟨hx, hb, hr, hml, fun w hw => hpre w (List.mem_cons_of_mem _ hw), findClass_of_methodNamed B.named, hlk⟩ hK hL hN (fun q h => Or.inr h) rfl ⟨hP, hD, va_S.rf⟩ hl hS hZ hM (vx_table (x := y) B (hpre _ List.mem_cons_self)) (fun u H locs pc ls hH hd => ?_)
  exact W.iret (v := r0) hx hb hr (fun t ht hW => ⟨⟨r0, u, rfl, rfl, by rw [ht]; exact hH.1, hH.2.1⟩, hH.2.2.F ht⟩) hH.2.2.2.2 hd hlk
def gCTi (rm R : Room) (k : Nat) (y : MethodName) (yc : ByteArray) (yn : Nat) (ty : FieldType) (n : Nat) : Prop :=
  Cond.initialized y.cls ∈ lw_all ∧ Cond.code y yc yn (some ty) ∈ lw_all ∧ (y.cls ≠ "java/lang/invoke/MethodHandle" ∧ y.cls ≠ "java/lang/invoke/VarHandle" ∧ (parseMethodDescriptor y.desc).map (fun d => d.parameters.length) = some n) ∧ rm.cells = k ∧ rm.slots = 6 * k ∧ (rm.frames + 1 ≤ R.frames ∧ 8 + (yn + 11) + rm.locals ≤ R.locals) ∧ (0 + k ≤ R.cells ∧ 0 + 6 * k ≤ R.slots)
def gCW (rm R : Room) (mc ms : Nat) (y : MethodName) (yc : ByteArray) (yn : Nat) (hh : List (Nat × Nat × Nat × Nat)) (n : Nat) : Prop :=
  Cond.initialized y.cls ∈ lw_all ∧ Cond.codeWith y yc yn (some .int) hh ∈ lw_all ∧ (y.cls ≠ "java/lang/invoke/MethodHandle" ∧ y.cls ≠ "java/lang/invoke/VarHandle" ∧ (parseMethodDescriptor y.desc).map (fun d => d.parameters.length) = some n) ∧ rm.cells = mc ∧ rm.slots = ms ∧ (rm.frames + 1 ≤ R.frames ∧ 8 + (yn + 11) + rm.locals ≤ R.locals)
section GWCALLS
variable {p : Program} {l : Launch} {e : Env} {R : Room} {s : State} {m : MethodId} {args : Array Value} {below : List Frame} {meth : Method} {c : Code} {H : Heap} {locs : List Loc} {cells slots mc ms : Nat} {Q : State → Prop}
variable {G : gG} {E : gE} {A : Nat → Prop} {H0 : Heap} {ww wc w1 w2 : va_W} {cc : ByteArray} {nL : Nat} {ret : Option FieldType} {own : String} {pc : Nat} {ls : Array Slot} {rest st : List Value} {lv : List (Nat × Value)}
variable {rm : Room} {y : MethodName} {yc : ByteArray} {yn n index b k : Nat} {ty : FieldType} {As : List Value} {isC : List Nat} {pos : List (Option Nat)} {T : u_T} {N ci q0 : Nat} {fs : List Value} {hh : List (Nat × Nat × Nat × Nat)} {Pc : Array Value → State → Prop} {Cr : String}
theorem g_cbTi (X : gX p s m meth c cc nL ret own args) (C : gCTi rm R k y yc yn ty n) (hl : Cond.methodLink own index y ∈ lw_all) : CallB R s args own index y yc yn (some ty) (gw y yc yn (some ty)) rm k (6 * k) n :=
  callB_of n X.2.2.2.2.1 (gw_in C.2.1) rfl C.2.2.2.1 C.2.2.2.2.1 (X.2.2.2.2.1 _ C.1) (X.2.2.2.2.1 _ hl) C.2.2.1 C.2.2.2.2.2.1
theorem g_preL (hK : gK G s) (hA : ∀ q : Nat, H0.size ≤ q → A q) (hH : gH G A H0 H locs ww) (J : gL ww wc w1 w2 isC pos) {av : List Value} : PreS s H (gP G av H.size wc) av :=
  ⟨gP_blind, fun U hU hW => ⟨rfl, by rw [hU], by rw [hU]; exact hH.1.sub isC (g_fm J.1), hK.warm hW, (hH.2.1.sub isC J.2.1 J.1).weaken (fun _ _ _ _ => trivial)⟩⟩
theorem g_preX (hK : gK G s) (hS : gS s) (hZ : gZ A s s.heap) (hA : ∀ q : Nat, s.heap.size ≤ q → A q) (hH : gH G A s.heap H locs ww) (J : gL ww wc w1 w2 isC pos) {av : List Value} : PreS s H (gPx G av H.size wc) av :=
  ⟨gPx_blind, fun U hU hW => ⟨rfl, by rw [hU], by rw [hU]; exact hH.1.sub isC (g_fm J.1), hK.warm hW, (hH.2.1.sub isC J.2.1 J.1).weaken (fun _ _ _ _ => trivial), hS.warm hW, by
    have hF := va_free hH.2.1 hH.2.2 hA isC J.1
    rw [hU]
    exact ⟨((hZ.1.kept hH.2.2.2.1).moved hW.alike).narrow hF, ((hZ.2.kept hH.2.2.2.1).moved hW.alike).narrow hF⟩⟩⟩
theorem g_preM (hK : gK G s) (hS : gS s) (hZ : gZ A s s.heap) (hM : gM A s s.heap) (hA : ∀ q : Nat, s.heap.size ≤ q → A q) (hH : gH G A s.heap H locs ww) (J : gL ww wc w1 w2 isC pos) {av : List Value} : PreS s H (gPm G av H.size wc) av :=
  ⟨gPm_blind, fun U hU hW => by
    have hF := va_free hH.2.1 hH.2.2 hA isC J.1
    refine ⟨rfl, by rw [hU], by rw [hU]; exact hH.1.sub isC (g_fm J.1), hK.warm hW, (hH.2.1.sub isC J.2.1 J.1).weaken (fun _ _ _ _ => trivial), hS.warm hW, ?_, ?_⟩
    · rw [hU]
      exact ⟨((hZ.1.kept hH.2.2.2.1).moved hW.alike).narrow hF, ((hZ.2.kept hH.2.2.2.1).moved hW.alike).narrow hF⟩
    · rw [hU]
      exact ((hM.kept hH.2.2.2.1).moved hW.alike).narrow hF⟩
theorem g_preW (hK : gK G s) (hL : gKL G E s) (hN : gNc s) (hS : gS s) (hZ : gZ A s s.heap) (hM : gM A s s.heap) (hA : ∀ q : Nat, s.heap.size ≤ q → A q) (hH : gH G A s.heap H locs ww) (J : gL ww wc w1 w2 isC pos) {av : List Value} : PreS s H (gPw G E av H.size wc) av :=
  ⟨gPw_blind, fun U hU hW => by
    have hF := va_free hH.2.1 hH.2.2 hA isC J.1
    refine ⟨rfl, by rw [hU], by rw [hU]; exact hH.1.sub isC (g_fm J.1), hK.warm hW, (hH.2.1.sub isC J.2.1 J.1).weaken (fun _ _ _ _ => trivial), hS.warm hW, ?_, ?_, va_K.moved hW.alike hL, gNc.moved hW.alike hN⟩
    · rw [hU]
      exact ⟨((hZ.1.kept hH.2.2.2.1).moved hW.alike).narrow hF, ((hZ.2.kept hH.2.2.2.1).moved hW.alike).narrow hF⟩
    · rw [hU]
      exact ((hM.kept hH.2.2.2.1).moved hW.alike).narrow hF⟩
/-- a call in a body with handlers: it returns -/
theorem g_wVr (X : gX p s m meth c cc nL ret own args) (hA : ∀ q : Nat, s.heap.size ≤ q → A q) (hH : gH G A s.heap H locs ww) (hls : lv_has ls nL lv) {ρ : Type} {x : ρ} {rf : ρ → Int32} {v1 : ρ → Nat → va_W} {v2 : Nat → va_W} (hM : vx_Met l y (gw y yc yn (some ty)) rm Pc (gTQi G rf v1 (va_A wc H.size) (.inr x)) (gXC G wc (va_A wc H.size) (.inr x : Nat ⊕ ρ)) (tc (.inr x : Nat ⊕ ρ)) (6 * tc (.inr x : Nat ⊕ ρ)) (va_A wc H.size)) (hp : PreV s H Cr b Pc As) (C : gCTi rm R 0 y yc yn ty n) (hl : Cond.methodLink own index y ∈ lw_all) (hi : Cond.instanceMethod y ∈ lw_all) (hs : Cond.selects Cr y y ∈ lw_all)
    (J : ∀ u, gL ww wc (v1 x u) (v2 u) isC pos) (hn : As.length = n) (hst : st = As.reverse ++ .ref b :: rest) (hW : (rest.map fun v => v.category).sum ≤ 8) (hdg : decode cc pc = .ok (.invokevirtual index, 3))
    (kk : ∀ (u : Nat) (H1 : Heap) (locs1 : List Loc), gH G A s.heap H1 locs1 (v2 u) → W p l e R s m args below meth c H1 locs1 0 0 Q (F0 m (pc + 3) ls (.int (rf x) :: rest))) : W p l e R s m args below meth c H locs 0 0 Q (F0 m pc ls st) := by
  subst hst
  have hF := va_free hH.2.1 hH.2.2 hA isC (J 0).1
  refine vx_calli (vx_runV (g_fix X) hM ⟨g_cbTi X C hl, X.2.2.2.2.1 _ hi, X.2.2.2.2.1 _ hs⟩ hp rfl hn hls.1 rfl (lv_room hW) hdg C.2.2.2.2.2.2) hH.2.2 (fun q _ h => hF q h) hF (fun q _ h => hF q h) (fun E ce q9 u t H1 locs1 ht hvm hp hB hz1 hk1 hS hce hcv hcl => ?_) (fun r u t H1 locs1 ht hvm hp hB hz1 hk1 hS => ?_)
  · cases hp
  · obtain ⟨x2, u2⟩ := u
    obtain ⟨h1, h2⟩ := hp
    have h1 : (.inr x : Nat ⊕ ρ) = .inr x2 := h1
    cases h1
    have h2 : r = rf x := h2
    subst h2
    have hJ := g_up hA hH (J u2).1 (J u2).2.2.1 ht hB hk1 hS
    rw [(J u2).2.2.2] at hJ
    exact kk u2 H1 locs1 hJ
/-- a call in a body with handlers: it throws, and is caught -/
theorem g_wVx (X : gX p s m meth c cc nL ret own args) (hK : gK G s) (hA : ∀ q : Nat, s.heap.size ≤ q → A q) (hH : gH G A s.heap H locs ww) (hls : lv_has ls nL lv) {ρ : Type} {k9 : Nat} {rf : ρ → Int32} {v1 : ρ → Nat → va_W} (hM : vx_Met l y (gw y yc yn (some ty)) rm Pc (gTQi G rf v1 (va_A wc H.size) (.inl k9)) (gXC G wc (va_A wc H.size) (.inl k9 : Nat ⊕ ρ)) (tc (.inl k9 : Nat ⊕ ρ)) (6 * tc (.inl k9 : Nat ⊕ ρ)) (va_A wc H.size)) (hp : PreV s H Cr b Pc As) (C : gCTi rm R 1 y yc yn ty n) (hl : Cond.methodLink own index y ∈ lw_all) (hi : Cond.instanceMethod y ∈ lw_all) (hs : Cond.selects Cr y y ∈ lw_all)
    (J : gL ww wc wc ww isC pos) (pre : List ExceptionTableEntry) (xe : ExceptionTableEntry) (suf : List ExceptionTableEntry) (hsplit : c.exceptionTable.toList = pre ++ xe :: suf) (hpass : ∀ z ∈ pre, covers z pc = false ∨ (z.catchType ≠ 0 ∧ ∃ nm : String, (Cond.classLink own z.catchType nm).before args s = true ∧ va_Nc (xname k9) nm s)) (hxc : covers xe pc = true) (h0 : xe.catchType ≠ 0) (hlink : Cond.classLink own xe.catchType (xname k9) ∈ lw_all) (hcast : Cond.castable (xname k9) (xname k9) ∈ lw_nest)
    (hn : As.length = n) (hst : st = As.reverse ++ .ref b :: rest) (hW : (rest.map fun v => v.category).sum ≤ 8) (hdg : decode cc pc = .ok (.invokevirtual index, 3))
    (kk : ∀ (q9 : Nat) (H1 : Heap) (locs1 : List Loc), gH G A s.heap H1 locs1 ww → W p l e R s m args below meth c H1 locs1 1 6 Q (F0 m xe.handlerPc ls [.ref q9])) : W p l e R s m args below meth c H locs 0 0 Q (F0 m pc ls st) := by
  subst hst
  have hF := va_free hH.2.1 hH.2.2 hA isC J.1
  refine vx_calli (vx_runV (g_fix X) hM ⟨g_cbTi X C hl, X.2.2.2.2.1 _ hi, X.2.2.2.2.1 _ hs⟩ hp rfl hn hls.1 rfl (lv_room hW) hdg C.2.2.2.2.2.2) hH.2.2 (fun q _ h => hF q h) hF (fun q _ h => hF q h) (fun E ce q9 u t H1 locs1 ht hvm hp hB hz1 hk1 hS hce hcv hcl => ?_) (fun r u t H1 locs1 ht hvm hp hB hz1 hk1 hS => ?_)
  · have hp : (.inl k9 : Nat ⊕ ρ) = .inl u := hp
    cases hp
    obtain ⟨hE, hB⟩ := hB
    subst hE
    have hJ := g_up hA hH J.1 J.2.2.1 ht hB hk1 hS
    rw [J.2.2.2] at hJ
    exact vx_catch X.2.2.2.2.2.1 pre xe suf hsplit hpass hxc h0 (X.2.2.2.2.1 _ hlink) (va_Nw.use (lw_nest_on hcast) (hK.2 _ hcast)) hce hcv hcl (kk q9 H1 locs1 hJ)
  · have hp : (.inl k9 : Nat ⊕ ρ) = .inr u.1 := hp.1
    cases hp
/-- a call in a body with handlers: it returns -/
theorem g_wVrf (X : gX p s m meth c cc nL ret own args) (hA : ∀ q : Nat, s.heap.size ≤ q → A q) (hH : gH G A s.heap H locs ww) (hls : lv_has ls nL lv) {ρ : Type} {x : ρ} {rf : ρ → UInt32} {v1 : ρ → Nat → va_W} {v2 : Nat → va_W} (hM : vx_Met l y (gw y yc yn (some .float)) rm Pc (gTQf G rf v1 (va_A wc H.size) (.inr x)) (gXC G wc (va_A wc H.size) (.inr x : Nat ⊕ ρ)) (tc (.inr x : Nat ⊕ ρ)) (6 * tc (.inr x : Nat ⊕ ρ)) (va_A wc H.size)) (hp : PreV s H Cr b Pc As) (C : gCTi rm R 0 y yc yn .float n) (hl : Cond.methodLink own index y ∈ lw_all) (hi : Cond.instanceMethod y ∈ lw_all) (hs : Cond.selects Cr y y ∈ lw_all)
    (J : ∀ u, gL ww wc (v1 x u) (v2 u) isC pos) (hn : As.length = n) (hst : st = As.reverse ++ .ref b :: rest) (hW : (rest.map fun v => v.category).sum ≤ 8) (hdg : decode cc pc = .ok (.invokevirtual index, 3))
    (kk : ∀ (u : Nat) (H1 : Heap) (locs1 : List Loc), gH G A s.heap H1 locs1 (v2 u) → W p l e R s m args below meth c H1 locs1 0 0 Q (F0 m (pc + 3) ls (.float (rf x) :: rest))) : W p l e R s m args below meth c H locs 0 0 Q (F0 m pc ls st) := by
  subst hst
  have hF := va_free hH.2.1 hH.2.2 hA isC (J 0).1
  refine vx_callf (vx_runV (g_fix X) hM ⟨g_cbTi X C hl, X.2.2.2.2.1 _ hi, X.2.2.2.2.1 _ hs⟩ hp rfl hn hls.1 rfl (lv_room hW) hdg C.2.2.2.2.2.2) hH.2.2 (fun q _ h => hF q h) hF (fun q _ h => hF q h) (fun E ce q9 u t H1 locs1 ht hvm hp hB hz1 hk1 hS hce hcv hcl => ?_) (fun r u t H1 locs1 ht hvm hp hB hz1 hk1 hS => ?_)
  · cases hp
  · obtain ⟨x2, u2⟩ := u
    obtain ⟨h1, h2⟩ := hp
    have h1 : (.inr x : Nat ⊕ ρ) = .inr x2 := h1
    cases h1
    have h2 : r = rf x := h2
    subst h2
    have hJ := g_up hA hH (J u2).1 (J u2).2.2.1 ht hB hk1 hS
    rw [(J u2).2.2.2] at hJ
    exact kk u2 H1 locs1 hJ
/-- a call in a body with handlers: it throws, and is caught -/
theorem g_wVxf (X : gX p s m meth c cc nL ret own args) (hK : gK G s) (hA : ∀ q : Nat, s.heap.size ≤ q → A q) (hH : gH G A s.heap H locs ww) (hls : lv_has ls nL lv) {ρ : Type} {k9 : Nat} {rf : ρ → UInt32} {v1 : ρ → Nat → va_W} (hM : vx_Met l y (gw y yc yn (some .float)) rm Pc (gTQf G rf v1 (va_A wc H.size) (.inl k9)) (gXC G wc (va_A wc H.size) (.inl k9 : Nat ⊕ ρ)) (tc (.inl k9 : Nat ⊕ ρ)) (6 * tc (.inl k9 : Nat ⊕ ρ)) (va_A wc H.size)) (hp : PreV s H Cr b Pc As) (C : gCTi rm R 1 y yc yn .float n) (hl : Cond.methodLink own index y ∈ lw_all) (hi : Cond.instanceMethod y ∈ lw_all) (hs : Cond.selects Cr y y ∈ lw_all)
    (J : gL ww wc wc ww isC pos) (pre : List ExceptionTableEntry) (xe : ExceptionTableEntry) (suf : List ExceptionTableEntry) (hsplit : c.exceptionTable.toList = pre ++ xe :: suf) (hpass : ∀ z ∈ pre, covers z pc = false ∨ (z.catchType ≠ 0 ∧ ∃ nm : String, (Cond.classLink own z.catchType nm).before args s = true ∧ va_Nc (xname k9) nm s)) (hxc : covers xe pc = true) (h0 : xe.catchType ≠ 0) (hlink : Cond.classLink own xe.catchType (xname k9) ∈ lw_all) (hcast : Cond.castable (xname k9) (xname k9) ∈ lw_nest)
    (hn : As.length = n) (hst : st = As.reverse ++ .ref b :: rest) (hW : (rest.map fun v => v.category).sum ≤ 8) (hdg : decode cc pc = .ok (.invokevirtual index, 3))
    (kk : ∀ (q9 : Nat) (H1 : Heap) (locs1 : List Loc), gH G A s.heap H1 locs1 ww → W p l e R s m args below meth c H1 locs1 1 6 Q (F0 m xe.handlerPc ls [.ref q9])) : W p l e R s m args below meth c H locs 0 0 Q (F0 m pc ls st) := by
  subst hst
  have hF := va_free hH.2.1 hH.2.2 hA isC J.1
  refine vx_callf (vx_runV (g_fix X) hM ⟨g_cbTi X C hl, X.2.2.2.2.1 _ hi, X.2.2.2.2.1 _ hs⟩ hp rfl hn hls.1 rfl (lv_room hW) hdg C.2.2.2.2.2.2) hH.2.2 (fun q _ h => hF q h) hF (fun q _ h => hF q h) (fun E ce q9 u t H1 locs1 ht hvm hp hB hz1 hk1 hS hce hcv hcl => ?_) (fun r u t H1 locs1 ht hvm hp hB hz1 hk1 hS => ?_)
  · have hp : (.inl k9 : Nat ⊕ ρ) = .inl u := hp
    cases hp
    obtain ⟨hE, hB⟩ := hB
    subst hE
    have hJ := g_up hA hH J.1 J.2.2.1 ht hB hk1 hS
    rw [J.2.2.2] at hJ
    exact vx_catch X.2.2.2.2.2.1 pre xe suf hsplit hpass hxc h0 (X.2.2.2.2.1 _ hlink) (va_Nw.use (lw_nest_on hcast) (hK.2 _ hcast)) hce hcv hcl (kk q9 H1 locs1 hJ)
  · have hp : (.inl k9 : Nat ⊕ ρ) = .inr u.1 := hp.1
    cases hp
theorem g_last (X : gX p s m meth c cc nL ret own args) (hL : gKL G E s) (hH : gH G A H0 H locs ww) (q0 : Nat) {a n : Nat} {f : Nat → Int64} {x : Int64} (ha : ww[q0]? = some (a, gJl E (n + 1) f)) (hdg : decode cc pc = .ok (.lastore, 1)) (hw : ww.set q0 (a, gJl E (n + 1) (vp_updL f 0 x)) = w1)
    (kk : ∀ (H1 : Heap) (locs1 : List Loc), gH G A H0 H1 locs1 w1 → W p l e R s m args below meth c H1 locs1 cells slots Q (F0 m (pc + 1) ls rest)) : W p l e R s m args below meth c H locs cells slots Q (F0 m pc ls (.long x :: .int 0 :: .ref a :: rest)) := by
  have e : (0 : Int32).toNatClampNeg = 0 := by decide
  refine va_last X.1 X.2.1 hL hH.1 hH.2.1 hH.2.2 q0 0 ha rfl (i := 0) (by unfold vp_in; rw [e]; simp) hdg (fun H1 locs1 hP hD hS => kk H1 locs1 ⟨?_, ?_, hS⟩)
  · rw [e] at hP; exact hw ▸ hP
  · rw [e] at hD; exact hw ▸ hD
theorem g_dast (X : gX p s m meth c cc nL ret own args) (hL : gKL G E s) (hH : gH G A H0 H locs ww) (q0 : Nat) {a n : Nat} {f : Nat → UInt64} {x : UInt64} (ha : ww[q0]? = some (a, gJd E (n + 1) f)) (hdg : decode cc pc = .ok (.dastore, 1)) (hw : ww.set q0 (a, gJd E (n + 1) (vf_upd f 0 x)) = w1)
    (kk : ∀ (H1 : Heap) (locs1 : List Loc), gH G A H0 H1 locs1 w1 → W p l e R s m args below meth c H1 locs1 cells slots Q (F0 m (pc + 1) ls rest)) : W p l e R s m args below meth c H locs cells slots Q (F0 m pc ls (.double x :: .int 0 :: .ref a :: rest)) := by
  have e : (0 : Int32).toNatClampNeg = 0 := by decide
  refine va_dast X.1 X.2.1 hL hH.1 hH.2.1 hH.2.2 q0 1 ha rfl (i := 0) (by unfold vp_in; rw [e]; simp) hdg (fun H1 locs1 hP hD hS => kk H1 locs1 ⟨?_, ?_, hS⟩)
  · rw [e] at hP; exact hw ▸ hP
  · rw [e] at hD; exact hw ▸ hD
/-- the law's call of one of its own -/
theorem g_lS (X : gX p s m meth c cc nL ret own args) (hK : gK G s) (hL : gKL G E s) (hN : gNc s) (hS : gS s) (hZ : gZ A s s.heap) (hMM : gM A s s.heap) (hA : ∀ q : Nat, s.heap.size ≤ q → A q) (hH : gH G A s.heap H locs ww) (hls : lv_has ls nL lv) {r0 : Int32} {v1 v2 : Nat → va_W} (hM : gWc l G E y yc yn hh rm As H.size wc r0 v1 mc ms) (C : gCW rm R mc ms y yc yn hh n) (hl : Cond.methodLink own index y ∈ lw_all) (hi : Cond.static y ∈ lw_all)
    (J : ∀ u, gL ww wc (v1 u) (v2 u) isC pos) (hn : As.length = n) (hst : st = As.reverse ++ rest) (hW : (rest.map fun v => v.category).sum ≤ 8) (hdg : decode cc pc = .ok (.invokestatic index, 3)) (hf : cells + mc ≤ R.cells ∧ slots + ms ≤ R.slots)
    (kk : ∀ (u : Nat) (H1 : Heap) (locs1 : List Loc), gH G A s.heap H1 locs1 (v2 u) → W p l e R s m args below meth c H1 locs1 (cells + mc) (slots + ms) Q (F0 m (pc + 3) ls (.int r0 :: rest))) : W p l e R s m args below meth c H locs cells slots Q (F0 m pc ls st) := by
  subst hst
  have hF := va_free hH.2.1 hH.2.2 hA isC (J 0).1
  have hcw : vx_CSW R s args own index y yc yn (some .int) hh (gwH y yc yn (some .int) hh) rm mc ms n := by
    refine ⟨⟨C.2.2.2.1, C.2.2.2.2.1, C.2.2.2.2.2.1, C.2.2.2.2.2.2, pay_in X.2.2.2.2.1 (gwH_in C.2.1), List.mem_cons_self⟩, X.2.2.2.2.1 _ C.2.1, X.2.2.2.2.1 _ C.1, ⟨C.2.2.1.1, C.2.2.1.2.1⟩, fun sig h => ?_, X.2.2.2.2.1 _ hl, X.2.2.2.2.1 _ hi⟩
    have h2 := C.2.2.1.2.2
    rw [h] at h2
    exact (Option.some.inj h2).symm
  refine va_calli (vx_runSW (g_fix X) hM hcw (g_preW hK hL hN hS hZ hMM hA hH (J 0)) rfl hn hls.1 rfl (lv_room hW) hdg hf) hH.2.2 (fun q _ h => hF q h) hF (fun r u t H1 locs1 ht hvm hw hB hz1 hk1 hS => ?_)
  have hw : r = r0 := hw
  subst hw
  have hJ := g_up hA hH (J u).1 (J u).2.2.1 ht hB hk1 hS
  rw [(J u).2.2.2] at hJ
  exact kk u H1 locs1 hJ
/-- a call that answers an int, in a large world -/
theorem g_lVi (X : gX p s m meth c cc nL ret own args) (hK : gK G s) (hA : ∀ q : Nat, H0.size ≤ q → A q) (hH : gH G A H0 H locs ww) (hls : lv_has ls nL lv) {r0 : Int32} (hM : gI l G y yc yn ty rm (.ref b :: As) H.size wc r0 w1) (C : gCl rm R cells slots y yc yn (some ty) n) (hl : Cond.methodLink own index y ∈ lw_all) (hi : Cond.instanceMethod y ∈ lw_all) (hs : Cond.selects Cr y y ∈ lw_all)
    (he : ww[q0]? = some (b, .inr (ci, fs))) (hc : vwCl[ci]? = some (Cr, T, N)) (J : gL ww wc w1 w2 isC pos) (hn : As.length = n) (hst : st = As.reverse ++ .ref b :: rest) (hW : (rest.map fun v => v.category).sum ≤ 8) (hdg : decode cc pc = .ok (.invokevirtual index, 3))
    (kk : ∀ (H1 : Heap) (locs1 : List Loc), gH G A H0 H1 locs1 w2 → W p l e R s m args below meth c H1 locs1 cells slots Q (F0 m (pc + 3) ls (.int r0 :: rest))) : W p l e R s m args below meth c H locs cells slots Q (F0 m pc ls st) := by
  subst hst
  have hF := va_free hH.2.1 hH.2.2 hA isC J.1
  refine va_calli (va_runV (g_fix X) hM ⟨g_cb X C hl, X.2.2.2.2.1 _ hi, X.2.2.2.2.1 _ hs⟩ ⟨gP_blind, va_recv hK.1 hH.1 hc he, (g_preL hK hA hH J).2⟩ rfl hn hls.1 rfl (lv_room hW) hdg C.2.2.2.2.2.2) hH.2.2 (fun q _ h => hF q h) hF (fun r u t H1 locs1 ht hvm hw hB hz1 hk1 hS => ?_)
  have hw : r = r0 := hw
  subst hw
  have hJ := g_up hA hH J.1 J.2.2.1 ht hB hk1 hS
  rw [J.2.2.2] at hJ
  exact kk H1 locs1 hJ
theorem g_lVf (X : gX p s m meth c cc nL ret own args) (hK : gK G s) (hA : ∀ q : Nat, H0.size ≤ q → A q) (hH : gH G A H0 H locs ww) (hls : lv_has ls nL lv) {r0 : UInt32} (hM : gF l G y yc yn rm (.ref b :: As) H.size wc r0 w1) (C : gCl rm R cells slots y yc yn (some .float) n) (hl : Cond.methodLink own index y ∈ lw_all) (hi : Cond.instanceMethod y ∈ lw_all) (hs : Cond.selects Cr y y ∈ lw_all)
    (he : ww[q0]? = some (b, .inr (ci, fs))) (hc : vwCl[ci]? = some (Cr, T, N)) (J : gL ww wc w1 w2 isC pos) (hn : As.length = n) (hst : st = As.reverse ++ .ref b :: rest) (hW : (rest.map fun v => v.category).sum ≤ 8) (hdg : decode cc pc = .ok (.invokevirtual index, 3))
    (kk : ∀ (H1 : Heap) (locs1 : List Loc), gH G A H0 H1 locs1 w2 → W p l e R s m args below meth c H1 locs1 cells slots Q (F0 m (pc + 3) ls (.float r0 :: rest))) : W p l e R s m args below meth c H locs cells slots Q (F0 m pc ls st) := by
  subst hst
  have hF := va_free hH.2.1 hH.2.2 hA isC J.1
  refine va_callf (va_runV (g_fix X) hM ⟨g_cb X C hl, X.2.2.2.2.1 _ hi, X.2.2.2.2.1 _ hs⟩ ⟨gP_blind, va_recv hK.1 hH.1 hc he, (g_preL hK hA hH J).2⟩ rfl hn hls.1 rfl (lv_room hW) hdg C.2.2.2.2.2.2) hH.2.2 (fun q _ h => hF q h) hF (fun r u t H1 locs1 ht hvm hw hB hz1 hk1 hS => ?_)
  have hw : r = r0 := hw
  subst hw
  have hJ := g_up hA hH J.1 J.2.2.1 ht hB hk1 hS
  rw [J.2.2.2] at hJ
  exact kk H1 locs1 hJ
/-- the same, where a row of bytes may be made anew -/
theorem g_lVe (X : gX p s m meth c cc nL ret own args) (hK : gK G s) (hA : ∀ q : Nat, H0.size ≤ q → A q) (hH : gH G A H0 H locs ww) (hls : lv_has ls nL lv) {r0 : Int32} {v1 v2 : Nat → va_W} (hM : gIe l G y yc yn ty rm (.ref b :: As) H.size wc r0 v1 mc ms) (C : gClE rm R cells slots y yc yn (some ty) n) (hl : Cond.methodLink own index y ∈ lw_all) (hi : Cond.instanceMethod y ∈ lw_all) (hs : Cond.selects Cr y y ∈ lw_all)
    (he : ww[q0]? = some (b, .inr (ci, fs))) (hc : vwCl[ci]? = some (Cr, T, N)) (J : ∀ u, gL ww wc (v1 u) (v2 u) isC pos) (hn : As.length = n) (hst : st = As.reverse ++ .ref b :: rest) (hW : (rest.map fun v => v.category).sum ≤ 8) (hdg : decode cc pc = .ok (.invokevirtual index, 3))
    (kk : ∀ (u : Nat) (H1 : Heap) (locs1 : List Loc), gH G A H0 H1 locs1 (v2 u) → W p l e R s m args below meth c H1 locs1 (cells + mc) (slots + ms) Q (F0 m (pc + 3) ls (.int r0 :: rest))) : W p l e R s m args below meth c H locs cells slots Q (F0 m pc ls st) := by
  subst hst
  have hF := va_free hH.2.1 hH.2.2 hA isC (J 0).1
  refine va_calli (g_runV (g_fix X) hM ⟨g_cbE X C hl, X.2.2.2.2.1 _ hi, X.2.2.2.2.1 _ hs⟩ ⟨gP_blind, va_recv hK.1 hH.1 hc he, (g_preL hK hA hH (J 0)).2⟩ rfl hn hls.1 rfl (lv_room hW) hdg C.2.2.2.2) hH.2.2 (fun q _ h => hF q h) hF (fun r u t H1 locs1 ht hvm hw hB hz1 hk1 hS => ?_)
  have hw : r = r0 := hw
  subst hw
  have hJ := g_up hA hH (J u).1 (J u).2.2.1 ht hB hk1 hS
  rw [(J u).2.2.2] at hJ
  exact kk u H1 locs1 hJ
end GWCALLS
