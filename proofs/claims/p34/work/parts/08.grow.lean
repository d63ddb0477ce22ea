/-! ===== methods whose row of bytes may be made anew, or whose reader takes another row: the world behind holds an address that isn't told ===== -/
def GLIM : Nat := 32768
def gVe (l : Launch) (G : gG) (y : MethodName) (cc : ByteArray) (n : Nat) (rm : Room) (av : List Value) (sz : Nat) (ww : va_W) (w1 : Nat → va_W) (mc ms : Nat) : Prop :=
  Met l y (gw y cc n none) rm (gP G av sz ww) (va_Qv (fun (_ : Nat) => True) (fun u => gB G (w1 u) (va_A ww sz)) (va_A ww sz)) mc ms (va_A ww sz)
def gIe (l : Launch) (G : gG) (y : MethodName) (cc : ByteArray) (n : Nat) (ty : FieldType) (rm : Room) (av : List Value) (sz : Nat) (ww : va_W) (r0 : Int32) (w1 : Nat → va_W) (mc ms : Nat) : Prop :=
  Met l y (gw y cc n (some ty)) rm (gP G av sz ww) (va_Qi (fun (r : Int32) (_ : Nat) => r = r0) (fun u => gB G (w1 u) (va_A ww sz)) (va_A ww sz)) mc ms (va_A ww sz)
theorem gVe_of {l : Launch} {G : gG} {y : MethodName} {cc : ByteArray} {n : Nat} {rm : Room} {av : List Value} {sz : Nat} {ww : va_W} {w1 : Nat → va_W} {mc ms : Nat} (hy : plainFor y = true) (hn : (lg_sl av).length ≤ n)
    (h : ∀ (p : Program) (e : Env) (s : State) (m : MethodId) (args : Array Value) (below : List Frame) (meth : Method) (c : Code) (ls : Array Slot) (A : Nat → Prop) (Q : State → Prop), gX p s m meth c cc n none y.cls args → gK G s → (∀ q : Nat, s.heap.size ≤ q → A q) → sz = s.heap.size → gH G A s.heap s.heap [] ww → lv_has ls n (lv_args 0 av) →
      (∀ (u : Nat) (cells slots : Nat) (H : Heap) (locs : List Loc) (pc : Nat) (ls : Array Slot), cells ≤ mc → slots ≤ ms → gH G A s.heap H locs (w1 u) → decode cc pc = .ok (.return_, 1) → W p l e rm s m args below meth c H locs cells slots Q (F0 m pc ls [])) →
      W p l e rm s m args below meth c s.heap [] 0 0 Q (F0 m 0 ls [])) : gVe l G y cc n rm av sz ww w1 mc ms :=
  g_start (Qc := fun A => va_Qv (fun (_ : Nat) => True) (fun u => gB G (w1 u) A) A) hy hn (fun p e s m below meth c ls A X hK hA hsz hH hl => h p e s m av.toArray below meth c ls A _ X hK hA hsz hH hl (fun u cells slots H locs pc ls h1 h2 hH hd => by
    refine W.widen (k := mc) (n := ms) h1 h2 ?_
    exact W.vret X.1 X.2.1 X.2.2.1 (fun t ht hW => ⟨⟨u, rfl, trivial, by rw [ht]; exact hH.1, hH.2.1⟩, hH.2.2.F ht⟩) hH.2.2.2.2 hd X.2.2.2.2.2.2))
theorem gIe_of {l : Launch} {G : gG} {y : MethodName} {cc : ByteArray} {n : Nat} {ty : FieldType} {rm : Room} {av : List Value} {sz : Nat} {ww : va_W} {r0 : Int32} {w1 : Nat → va_W} {mc ms : Nat} (hy : plainFor y = true) (hn : (lg_sl av).length ≤ n)
    (h : ∀ (p : Program) (e : Env) (s : State) (m : MethodId) (args : Array Value) (below : List Frame) (meth : Method) (c : Code) (ls : Array Slot) (A : Nat → Prop) (Q : State → Prop), gX p s m meth c cc n (some ty) y.cls args → gK G s → (∀ q : Nat, s.heap.size ≤ q → A q) → sz = s.heap.size → gH G A s.heap s.heap [] ww → lv_has ls n (lv_args 0 av) →
      (∀ (u : Nat) (cells slots : Nat) (H : Heap) (locs : List Loc) (pc : Nat) (ls : Array Slot), cells ≤ mc → slots ≤ ms → narrow ty (.int r0) = .int r0 → gH G A s.heap H locs (w1 u) → decode cc pc = .ok (.ireturn, 1) → W p l e rm s m args below meth c H locs cells slots Q (F0 m pc ls [.int r0])) →
      W p l e rm s m args below meth c s.heap [] 0 0 Q (F0 m 0 ls [])) : gIe l G y cc n ty rm av sz ww r0 w1 mc ms :=
  g_start (Qc := fun A => va_Qi (fun (r : Int32) (_ : Nat) => r = r0) (fun u => gB G (w1 u) A) A) hy hn (fun p e s m below meth c ls A X hK hA hsz hH hl => h p e s m av.toArray below meth c ls A _ X hK hA hsz hH hl (fun u cells slots H locs pc ls h1 h2 hnr hH hd => by
    refine W.widen (k := mc) (n := ms) h1 h2 ?_
    exact W.zret X.1 X.2.1 X.2.2.1 hnr (fun t ht hW => ⟨⟨_, u, rfl, rfl, by rw [ht]; exact hH.1, hH.2.1⟩, hH.2.2.F ht⟩) hH.2.2.2.2 hd X.2.2.2.2.2.2))
section GBACK
variable {l : Launch} {R : Room} {p : Program} {e : Env} {below : List Frame} {s : State} {sargs : Array Value} {y : MethodName} {len W : Nat}
/-- as back_of, where the callee's room may be more than what it uses -/
theorem g_back {ws : List Cond} {rm : Room} {Pc : Array Value → State → Prop} {Qc : Array Value → State → Outcome → State → Prop} {mc ms : Nat} {free : Addr → Prop} {bytes : ByteArray} {maxL : Nat} {ret : Option FieldType}
    (hM : Met l y ws rm Pc Qc mc ms free) (hblind : FrameBlind Pc)
    (hframes : rm.frames + 1 ≤ R.frames) (hlocals : W + (maxL + 11) + rm.locals ≤ R.locals)
    (hws : ∀ w ∈ ws, ∀ a' U, s.WarmedH U.vm → w.before a' U = true) (hcode : Cond.code y bytes maxL ret ∈ ws) (hinit : ∀ a' U, s.WarmedH U.vm → (Cond.initialized y.cls).before a' U = true) :
    Back l R p e below s sargs y len W (PreOf R rm.cells rm.slots Pc) (PostOf Qc mc ms free) := by
  refine Back.of_free (S := headSpec ws rm) (P := Pc) (K := fun _ _ _ _ _ => True) (Q := fun a st o t => Qc a st o t ∧ ∃ L, FrameEnd st o t L mc ms ∧ ∀ q ∈ L, free q.base) (bytes := bytes) (maxL := maxL) (ret := ret)
    (E := fun a st o t L k n => k = mc ∧ n = ms ∧ ∀ q ∈ L, free q.base) hM hframes hlocals ?_ ?_ (fun _ _ _ _ _ _ _ _ _ => trivial) ?_ ?_
  · intro m meth c A a X hp
    exact ⟨atoms_intro fun w hw => hws w hw _ _ X.warmed, hws _ hcode _ _ X.warmed, hinit _ _ X.warmed, hp.1, hp.2.1⟩
  · intro m meth c A a g mk X hp
    exact hblind _ _ _ _ hp.2.2
  · intro a st o t ⟨hq, L, hF, hL⟩
    exact ⟨L, mc, ms, hF, rfl, rfl, hL⟩
  · intro m meth c A a g mk v t L k n X hp hq hF ⟨e1, e2, hL⟩
    subst e1; subst e2
    exact ⟨g, mk, t, L, rfl, rfl, hq.1, rfl, hL, rfl, rfl⟩
end GBACK
section GRUN
variable {p : Program} {l : Launch} {e : Env} {R : Room} {s : State} {m : MethodId} {args : Array Value} {below : List Frame} {meth : Method} {c : Code} {H : Heap} {locs : List Loc} {cells slots : Nat} {Q : State → Prop}
variable {y : MethodName} {bytes cc : ByteArray} {maxL nL mc ms n index : Nat} {ret : Option FieldType} {ws : List Cond} {rm : Room} {Pc : Array Value → State → Prop} {Qc : Array Value → State → Outcome → State → Prop} {free : Addr → Prop} {Ts : List Cond} {own C : String} {b : Addr} {As rest : List Value} {g : JFrame}
theorem g_callBack (cb : CallB R s args own index y bytes maxL ret ws rm rm.cells rm.slots n) (hM : Met l y ws rm Pc Qc mc ms free) (hbl : FrameBlind Pc) : Back l R p e below s args y 3 8 (PreOf R rm.cells rm.slots Pc) (PostOf Qc mc ms free) := by
  obtain ⟨-, -, hfr, hlo, hws, hcw, -, hini, -⟩ := cb
  exact g_back (bytes := bytes) (maxL := maxL) (ret := ret) hM hbl hfr hlo hws hcw (fun a' U hW => word_at hW (Or.inl (by first | rfl | simp [Cond.onTables, Cond.keeps, Cond.steady])) hini)
theorem g_runV (S : CallFix p m c cc nL s args Ts own) (hM : Met l y ws rm Pc Qc mc ms free) (cw : CallW R s args own C index y bytes maxL ret ws rm rm.cells rm.slots n) (hp : PreV s H C b Pc As)
    (hg : g.method = m) (hn : As.length = n) (hsize : g.locals.size = nL) (hstack : g.stack = As.reverse ++ .ref b :: rest) (hW : 2 * g.monitorRoom + (rest.map fun v => v.category).sum ≤ 8) (hdg : decode cc g.pc = .ok (.invokevirtual index, 3)) (hf : cells + rm.cells ≤ R.cells ∧ slots + rm.slots ≤ R.slots) :
    va_Run p l e R s m args below meth c H locs cells slots mc ms g rest (Qc (Value.ref b :: As).toArray) (free) := by
  have hK : Back l R p e below s args y 3 8 (PreOf R rm.cells rm.slots Pc) (PostOf Qc mc ms free) := g_callBack cw.1 hM hp.1
  obtain ⟨⟨-, -, -, -, -, -, hcode, -, hy, hlen, hl⟩, hin, hse⟩ := cw
  obtain ⟨hx, hb, hml, ho, -⟩ := S
  obtain ⟨-, ⟨cellB, hcB, hoB, hclB⟩, hPc⟩ := hp
  intro T hT X
  obtain ⟨v, vm₁, ⟨U', l2, c2, s2⟩, hW₁, X', ⟨g', mk, t, L, e1, e2, hq, h1, hL, h2, h3⟩, st⟩ := callV X hx (C := C) (bytes := bytes) (maxL := maxL) (ret := ret) ho hl hin hse hcode hy hK (by rw [hT]; exact hcB) hoB hclB hg (hsize.trans hml.symm) (argsL := As) (rest := rest) (fun sig h => hn.trans (hlen sig h)) hstack hW (by rw [hb]; exact hdg)
    (fun vm₁ hW₁ => ⟨hf.1, hf.2, hPc (T.setVm vm₁) hT hW₁⟩)
  dsimp only [Pt.U, Pt.locs, Pt.cells, Pt.slots] at X' e1 e2 h1 h2 h3 st
  subst h1; subst h2; subst h3
  exact ⟨v, (T.setVm vm₁).calling g' mk (Value.ref b :: As).toArray, t, U', L, hT, X', hL, e1, e2, hq, st⟩
theorem g_runS (S : CallFix p m c cc nL s args Ts own) (hM : Met l y ws rm Pc Qc mc ms free) (cw : CallB R s args own index y bytes maxL ret ws rm rm.cells rm.slots n ∧ (Cond.static y).before args s = true) (hp : PreS s H Pc As)
    (hg : g.method = m) (hn : As.length = n) (hsize : g.locals.size = nL) (hstack : g.stack = As.reverse ++ rest) (hW : 2 * g.monitorRoom + (rest.map fun v => v.category).sum ≤ 8) (hdg : decode cc g.pc = .ok (.invokestatic index, 3)) (hf : cells + rm.cells ≤ R.cells ∧ slots + rm.slots ≤ R.slots) :
    va_Run p l e R s m args below meth c H locs cells slots mc ms g rest (Qc As.toArray) (free) := by
  have hK : Back l R p e below s args y 3 8 (PreOf R rm.cells rm.slots Pc) (PostOf Qc mc ms free) := g_callBack cw.1 hM hp.1
  obtain ⟨⟨-, -, -, -, -, -, hcode, hini, hy, hlen, hl⟩, hstt⟩ := cw
  obtain ⟨hx, hb, hml, ho, -⟩ := S
  intro T hT X
  obtain ⟨v, vm₁, ⟨U', l2, c2, s2⟩, hW₁, X', ⟨g', mk, t, L, e1, e2, hq, h1, hL, h2, h3⟩, st⟩ := callS X hx (bytes := bytes) (maxL := maxL) (ret := ret) ho hl hstt hini hcode hy hK hg (hsize.trans hml.symm) (argsL := As) (rest := rest) (fun sig h => hn.trans (hlen sig h)) hstack hW (by rw [hb]; exact hdg)
    (fun vm₁ hW₁ => ⟨hf.1, hf.2, hp.2 (T.setVm vm₁) hT hW₁⟩)
  dsimp only [Pt.U, Pt.locs, Pt.cells, Pt.slots] at X' e1 e2 h1 h2 h3 st
  subst h1; subst h2; subst h3
  exact ⟨v, (T.setVm vm₁).calling g' mk As.toArray, t, U', L, hT, X', hL, e1, e2, hq, st⟩
end GRUN
section GECALLS
variable {p : Program} {l : Launch} {e : Env} {R : Room} {s : State} {m : MethodId} {args : Array Value} {below : List Frame} {meth : Method} {c : Code} {H : Heap} {locs : List Loc} {cells slots mc ms : Nat} {Q : State → Prop}
variable {G : gG} {A : Nat → Prop} {H0 : Heap} {ww wc wr : va_W} {w1 w2 : Nat → va_W} {cc : ByteArray} {nL : Nat} {ret : Option FieldType} {own : String} {pc : Nat} {ls : Array Slot} {rest st : List Value} {lv : List (Nat × Value)}
variable {rm : Room} {y : MethodName} {yc : ByteArray} {yn n index b : Nat} {ty : FieldType} {As : List Value} {r0 : Int32} {isC isR isP : List Nat} {host : String} {T : u_T} {N ci q0 : Nat} {fs : List Value}
def gClE (rm : Room) (R : Room) (cells slots : Nat) (y : MethodName) (yc : ByteArray) (yn : Nat) (r : Option FieldType) (n : Nat) : Prop :=
  Cond.initialized y.cls ∈ lw_all ∧ Cond.code y yc yn r ∈ lw_all ∧ (y.cls ≠ "java/lang/invoke/MethodHandle" ∧ y.cls ≠ "java/lang/invoke/VarHandle" ∧ (parseMethodDescriptor y.desc).map (fun d => d.parameters.length) = some n) ∧ (rm.frames + 1 ≤ R.frames ∧ 8 + (yn + 11) + rm.locals ≤ R.locals) ∧ (cells + rm.cells ≤ R.cells ∧ slots + rm.slots ≤ R.slots)
theorem g_cbE {r : Option FieldType} (X : gX p s m meth c cc nL ret own args) (C : gClE rm R cells slots y yc yn r n) (hl : Cond.methodLink own index y ∈ lw_all) : CallB R s args own index y yc yn r (gw y yc yn r) rm rm.cells rm.slots n :=
  callB_of n X.2.2.2.2.1 (gw_in C.2.1) rfl rfl rfl (X.2.2.2.2.1 _ C.1) (X.2.2.2.2.1 _ hl) C.2.2.1 C.2.2.2.1
theorem g_post_ve {av : Array Value} (hA : ∀ q : Nat, H0.size ≤ q → A q) (hH : gH G A H0 H locs ww) (J : ∀ u, gJ ww wc (w1 u) (w2 u) isC isR isP wr)
    (hr : va_Run p l e R s m args below meth c H locs cells slots mc ms (F0 m pc ls st) rest (va_Qv (fun (_ : Nat) => True) (fun u => gB G (w1 u) (va_A wc H.size)) (va_A wc H.size) av) (va_A wc H.size))
    (kk : ∀ (u : Nat) (H1 : Heap) (locs1 : List Loc), gH G A H0 H1 locs1 (w2 u) → W p l e R s m args below meth c H1 locs1 (cells + mc) (slots + ms) Q (F0 m (pc + 3) ls rest)) : W p l e R s m args below meth c H locs cells slots Q (F0 m pc ls st) := by
  have hF := va_free hH.2.1 hH.2.2 hA isC (J 0).1
  exact va_callv hr hH.2.2 (fun q _ h => hF q h) hF (fun u t H1 locs1 ht hvm hw hB hz1 hk1 hS => kk u H1 locs1 (g_join hA hH (J u) ht hB hk1 hS))
theorem g_post_ie {av : Array Value} (hA : ∀ q : Nat, H0.size ≤ q → A q) (hH : gH G A H0 H locs ww) (J : ∀ u, gJ ww wc (w1 u) (w2 u) isC isR isP wr)
    (hr : va_Run p l e R s m args below meth c H locs cells slots mc ms (F0 m pc ls st) rest (va_Qi (fun (r : Int32) (_ : Nat) => r = r0) (fun u => gB G (w1 u) (va_A wc H.size)) (va_A wc H.size) av) (va_A wc H.size))
    (kk : ∀ (u : Nat) (H1 : Heap) (locs1 : List Loc), gH G A H0 H1 locs1 (w2 u) → W p l e R s m args below meth c H1 locs1 (cells + mc) (slots + ms) Q (F0 m (pc + 3) ls (.int r0 :: rest))) : W p l e R s m args below meth c H locs cells slots Q (F0 m pc ls st) := by
  have hF := va_free hH.2.1 hH.2.2 hA isC (J 0).1
  refine va_calli hr hH.2.2 (fun q _ h => hF q h) hF (fun r u t H1 locs1 ht hvm hw hB hz1 hk1 hS => ?_)
  have hw : r = r0 := hw
  subst hw
  exact kk u H1 locs1 (g_join hA hH (J u) ht hB hk1 hS)
theorem g_cVve (X : gX p s m meth c cc nL ret own args) (hK : gK G s) (hA : ∀ q : Nat, H0.size ≤ q → A q) (hH : gH G A H0 H locs ww) (hls : lv_has ls nL lv) (hM : gVe l G y yc yn rm (.ref b :: As) H.size wc w1 mc ms) (C : gClE rm R cells slots y yc yn none n) (hl : Cond.methodLink own index y ∈ lw_all) (hi : Cond.instanceMethod y ∈ lw_all) {Cr : String} (hs : Cond.selects Cr y y ∈ lw_all)
    (he : ww[q0]? = some (b, .inr (ci, fs))) (hc : vwCl[ci]? = some (Cr, T, N)) (J : ∀ u, gJ ww wc (w1 u) (w2 u) isC isR isP wr) (hn : As.length = n) (hst : st = As.reverse ++ .ref b :: rest) (hW : (rest.map fun v => v.category).sum ≤ 8) (hdg : decode cc pc = .ok (.invokevirtual index, 3))
    (kk : ∀ (u : Nat) (H1 : Heap) (locs1 : List Loc), gH G A H0 H1 locs1 (w2 u) → W p l e R s m args below meth c H1 locs1 (cells + mc) (slots + ms) Q (F0 m (pc + 3) ls rest)) : W p l e R s m args below meth c H locs cells slots Q (F0 m pc ls st) := by
  subst hst
  exact g_post_ve hA hH J (g_runV (g_fix X) hM ⟨g_cbE X C hl, X.2.2.2.2.1 _ hi, X.2.2.2.2.1 _ hs⟩ ⟨gP_blind, va_recv hK.1 hH.1 hc he, (g_pre hK hA hH (J 0)).2⟩ rfl hn hls.1 rfl (lv_room hW) hdg C.2.2.2.2) kk
theorem g_cVie (X : gX p s m meth c cc nL ret own args) (hK : gK G s) (hA : ∀ q : Nat, H0.size ≤ q → A q) (hH : gH G A H0 H locs ww) (hls : lv_has ls nL lv) (hM : gIe l G y yc yn ty rm (.ref b :: As) H.size wc r0 w1 mc ms) (C : gClE rm R cells slots y yc yn (some ty) n) (hl : Cond.methodLink own index y ∈ lw_all) (hi : Cond.instanceMethod y ∈ lw_all) {Cr : String} (hs : Cond.selects Cr y y ∈ lw_all)
    (he : ww[q0]? = some (b, .inr (ci, fs))) (hc : vwCl[ci]? = some (Cr, T, N)) (J : ∀ u, gJ ww wc (w1 u) (w2 u) isC isR isP wr) (hn : As.length = n) (hst : st = As.reverse ++ .ref b :: rest) (hW : (rest.map fun v => v.category).sum ≤ 8) (hdg : decode cc pc = .ok (.invokevirtual index, 3))
    (kk : ∀ (u : Nat) (H1 : Heap) (locs1 : List Loc), gH G A H0 H1 locs1 (w2 u) → W p l e R s m args below meth c H1 locs1 (cells + mc) (slots + ms) Q (F0 m (pc + 3) ls (.int r0 :: rest))) : W p l e R s m args below meth c H locs cells slots Q (F0 m pc ls st) := by
  subst hst
  exact g_post_ie hA hH J (g_runV (g_fix X) hM ⟨g_cbE X C hl, X.2.2.2.2.1 _ hi, X.2.2.2.2.1 _ hs⟩ ⟨gP_blind, va_recv hK.1 hH.1 hc he, (g_pre hK hA hH (J 0)).2⟩ rfl hn hls.1 rfl (lv_room hW) hdg C.2.2.2.2) kk
theorem g_clI {cA : ClassId} {tys : List (ClassId × FieldType)} (hK : va_K G.1 vwCl (gT G ++ [(cA, .int)]) s) : cA = G.2.1 := by
  have h1 := (hK.2 0 (G.2.1, .int) rfl).2
  have h2 := (hK.2 3 (cA, .int) rfl).2
  exact Option.some.inj (h2.symm.trans h1)
theorem g_newI (X : gX p s m meth c cc nL ret own args) (hK : gK G s) (hA : ∀ q : Nat, H0.size ≤ q → A q) (hH : gH G A H0 H locs ww) (hw : Cond.arrayClass .int ∈ lw_all) {v : Int32} {N : Nat} (hn : ¬ v < 0) (hN : v.toNatClampNeg = N) (hby : N * 4 ≤ 536870912) (hc : cells + 1 ≤ R.cells) (hs : slots + N ≤ R.slots) (hdg : decode cc pc = .ok (.newarray .int, 2))
    (kk : ∀ (q : Nat) (H1 : Heap), gH G A H0 H1 locs (ww ++ [(q, gA G N (fun _ => 0))]) → W p l e R s m args below meth c H1 locs (cells + 1) (slots + N) Q (F0 m (pc + 2) ls (.ref q :: rest))) : W p l e R s m args below meth c H locs cells slots Q (F0 m pc ls (.int v :: rest)) := by
  refine va_newa (atype := .int) (ty := .int) (a0 := (N, .inl (fun _ => 0))) X.1 X.2.1 (X.2.2.2.2.1 _ hw) rfl hK.1 hH.1 hH.2.1 hH.2.2 hA (fun cA => rfl) hn hN hby hc hs hdg (fun q cA H1 hK' hP hD hS => ?_)
  have e := g_clI (tys := []) hK'
  subst e
  exact kk q H1 ⟨hP, hD, hS⟩
end GECALLS
theorem sgrd {c : Prop} [Decidable c] {β : Type} {a : Option β} {o : β} (h : (if c then a else none) = some o) : c ∧ a = some o := by
  by_cases hc : c
  · rw [if_pos hc] at h; exact ⟨hc, h⟩
  · rw [if_neg hc] at h; cases h
theorem gr_c {n0 n : Nat} (h : n0 ≤ n ∧ n ≤ GLIM) : n - n0 + (GLIM - n) ≤ GLIM - n0 := by omega
theorem gr_s {n0 n : Nat} (h : n0 ≤ n ∧ n ≤ GLIM) : 2 * (n - n0) + 2 * (GLIM - n) ≤ 2 * (GLIM - n0) := by omega
theorem gr_c0 {n0 n : Nat} (h : n0 ≤ n ∧ n ≤ GLIM) : n - n0 + 0 ≤ GLIM - n0 := by omega
theorem gr_s0 {n0 n : Nat} (h : n0 ≤ n ∧ n ≤ GLIM) : 2 * (n - n0) + 0 ≤ 2 * (GLIM - n0) := by omega
theorem gr_c1 {n0 n : Nat} (h : n0 ≤ n ∧ n ≤ GLIM) : n - n0 ≤ GLIM - n0 := by omega
theorem gr_s1 {n0 n : Nat} (h : n0 ≤ n ∧ n ≤ GLIM) : 2 * (n - n0) ≤ 2 * (GLIM - n0) := by omega
theorem gr_w {n0 n n1 : Nat} (h : n0 ≤ n ∧ n ≤ GLIM) (g : n ≤ n1 ∧ n1 ≤ GLIM) : n - n0 + (n1 - n) ≤ n1 - n0 := by omega
theorem gr_v {n0 n n1 : Nat} (h : n0 ≤ n ∧ n ≤ GLIM) (g : n ≤ n1 ∧ n1 ≤ GLIM) : 2 * (n - n0) + 2 * (n1 - n) ≤ 2 * (n1 - n0) := by omega
section GREFS
variable {p : Program} {l : Launch} {e : Env} {R : Room} {s : State} {m : MethodId} {args : Array Value} {below : List Frame} {meth : Method} {c : Code} {H : Heap} {locs : List Loc} {cells slots : Nat} {Q : State → Prop}
variable {G : gG} {A : Nat → Prop} {H0 : Heap} {ww w1 : va_W} {cc : ByteArray} {nL : Nat} {ret : Option FieldType} {own : String} {pc : Nat} {ls : Array Slot} {rest : List Value} {a : Nat}
theorem g_aald (X : gX p s m meth c cc nL ret own args) (hK : gK G s) (hH : gH G A H0 H locs ww) (q0 : Nat) {n : Nat} {f : Nat → Nat} (ha : ww[q0]? = some (a, gO G n (fun k => some (f k)))) {i : Int32} {k : Nat} (hi : i = nI k) (hk : k < n ∧ n < 2 ^ 31) (hdg : decode cc pc = .ok (.aaload, 1))
    (kk : W p l e R s m args below meth c H locs cells slots Q (F0 m (pc + 1) ls (.ref (f k) :: rest))) : W p l e R s m args below meth c H locs cells slots Q (F0 m pc ls (.int i :: .ref a :: rest)) := by
  subst hi
  refine va_aldq X.1 X.2.1 hK.1 hH.1 q0 2 ha rfl (vp_in_nI hk.1 hk.2) hdg ?_
  rw [nI_clamp (Nat.lt_trans hk.1 hk.2)]
  exact kk
theorem g_cast (X : gX p s m meth c cc nL ret own args) (hK : gK G s) (hH : gH G A H0 H locs ww) (q0 : Nat) {n : Nat} {f g : Nat → Int32} {i x : Int32} (ha : ww[q0]? = some (a, gC G n f)) (hx : wrA n f i (vp_nar .char x) = some g) (hdg : decode cc pc = .ok (.castore, 1)) (hw : ww.set q0 (a, gC G n g) = w1)
    (kk : ∀ (H1 : Heap) (locs1 : List Loc), gH G A H0 H1 locs1 w1 → W p l e R s m args below meth c H1 locs1 cells slots Q (F0 m (pc + 1) ls rest)) : W p l e R s m args below meth c H locs cells slots Q (F0 m pc ls (.int x :: .int i :: .ref a :: rest)) := by
  obtain ⟨h1, h2⟩ := wrA_s hx
  subst h2
  exact va_cast X.1 X.2.1 hK.1 hH.1 hH.2.1 hH.2.2 q0 1 ha rfl h1 hdg (fun H1 locs1 hP hD hS => kk H1 locs1 ⟨hw ▸ hP, hw ▸ hD, hS⟩)
end GREFS
