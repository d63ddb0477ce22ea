/-! ===== methods that return or throw ===== -/
def xname : Nat → String
  | 0 => "java/lang/IllegalArgumentException"
  | 1 => "java/lang/IndexOutOfBoundsException"
  | 2 => "java/lang/IllegalStateException"
  | _ => "java/util/NoSuchElementException"
def xNM : List String := ["java/lang/RuntimeException", "java/lang/Exception"]
def xic : Nat → Nat
  | 0 => 96
  | 1 => 265
  | 2 => 183
  | _ => 255
def tc {ρ : Type} : Nat ⊕ ρ → Nat
  | .inl _ => 1
  | .inr _ => 0
def lw_strs : List (Nat × String) := [(94, "the width must be 1 to 16 and the height 1 to 24"), (263, "there is no such pixel"), (256, "the value must be 0 to 255"), (125, "the area must not be empty and must lie within the picture"), (130, "the first step must be 1 to 32"), (132, "the second step must be 0, or 1 to 32 and less than the first"), (134, "the third step must be 0, or 1 to 32 and less than the second"), (271, "the stream has no such byte"), (171, "the size must be between 0 and that of the stream"), (173, "the number of layers must be 1 to 3"), (181, "the header of the stream is not valid"), (273, "nothing has been decoded"), (269, "there is no such slice"), (275, "the decoded picture has another size"), (277, "the stream was not coded last"), (279, "there was no such layer"), (281, "the coded picture had no such pixel"), (253, "the stream was never replaced")]
def gS (U : State) : Prop := ∀ q ∈ lw_strs, ∃ a, vk_R RX8 q.1 q.2 a U
def gZ (A : Nat → Prop) (U : State) (H : Heap) : Prop := vx_Zq Bundle.tN "UNASSIGNED_STACK" Bundle.steD A U H ∧ vx_Zq Bundle.tN "SUPPRESSED_SENTINEL" Bundle.listD A U H
def gPx (G : gG) (av : List Value) (sz : Nat) (ww : va_W) : Array Value → State → Prop := va_Pc av (fun U => U.heap.size = sz ∧ va_P G.1 vwCl ww U.heap ∧ gK G U ∧ va_D (fun _ => True) ww ∧ gS U ∧ gZ (va_A ww sz) U U.heap)
theorem gS.warm {s U : State} (hW : s.WarmedH U.vm) (h : gS s) : gS U := fun q hq => (h q hq).imp fun _ hr => vk_R.warm hW hr
theorem gPx_blind {G : gG} {av : List Value} {sz : Nat} {ww : va_W} : FrameBlind (gPx G av sz ww) := fun a U g mk q => by
  obtain ⟨q0, q1, qP, qK, qD, qS, qZ⟩ := q
  exact ⟨q0, q1, qP, ⟨va_K.moved (u := U) (U := U.calling g mk a) (Vm.Alike.refl U.vm) qK.1, fun w hw => va_Nw.same (u := U) (U := U.calling g mk a) (lw_nest_on hw) rfl (qK.2 w hw)⟩, qD,
    fun w hw => (qS w hw).imp fun _ hr => vk_R.same (u := U) (U := U.calling g mk a) rfl hr, vx_Zq.moved (u := U) (U := U.calling g mk a) (Vm.Alike.refl U.vm) qZ.1, vx_Zq.moved (u := U) (U := U.calling g mk a) (Vm.Alike.refl U.vm) qZ.2⟩
def gXC (G : gG) (ww : va_W) (A : Nat → Prop) {ρ : Type} (o : Nat ⊕ ρ) : String → State → State → Prop := vx_X (fun (k : Nat) => o = .inl k) (fun E k t => E = xname k ∧ gB G ww A t) A
abbrev gTQi (G : gG) {ρ : Type} (rf : ρ → Int32) (w1 : ρ → Nat → va_W) (A : Nat → Prop) (o : Nat ⊕ ρ) : Array Value → State → Outcome → State → Prop := va_Qi (fun r (x : ρ × Nat) => o = .inr x.1 ∧ r = rf x.1) (fun x => gB G (w1 x.1 x.2) A) A
abbrev gTQf (G : gG) {ρ : Type} (rf : ρ → UInt32) (w1 : ρ → Nat → va_W) (A : Nat → Prop) (o : Nat ⊕ ρ) : Array Value → State → Outcome → State → Prop := va_Qf (fun r (x : ρ × Nat) => o = .inr x.1 ∧ r = rf x.1) (fun x => gB G (w1 x.1 x.2) A) A
abbrev gTQv (G : gG) {ρ : Type} (w1 : ρ → Nat → va_W) (A : Nat → Prop) (o : Nat ⊕ ρ) : Array Value → State → Outcome → State → Prop := va_Qv (fun (x : ρ × Nat) => o = .inr x.1) (fun x => gB G (w1 x.1 x.2) A) A
def gTi (l : Launch) (G : gG) (y : MethodName) (cc : ByteArray) (n : Nat) (ty : FieldType) (rm : Room) (av : List Value) (sz : Nat) (ww : va_W) {ρ : Type} (o : Nat ⊕ ρ) (rf : ρ → Int32) (w1 : ρ → Nat → va_W) : Prop :=
  vx_Met l y (gw y cc n (some ty)) rm (gPx G av sz ww) (gTQi G rf w1 (va_A ww sz) o) (gXC G ww (va_A ww sz) o) (tc o) (6 * tc o) (va_A ww sz)
def gTv (l : Launch) (G : gG) (y : MethodName) (cc : ByteArray) (n : Nat) (rm : Room) (av : List Value) (sz : Nat) (ww : va_W) {ρ : Type} (o : Nat ⊕ ρ) (w1 : ρ → Nat → va_W) : Prop :=
  vx_Met l y (gw y cc n none) rm (gPx G av sz ww) (gTQv G w1 (va_A ww sz) o) (gXC G ww (va_A ww sz) o) (tc o) (6 * tc o) (va_A ww sz)
theorem g_startT {l : Launch} {G : gG} {y : MethodName} {cc : ByteArray} {n : Nat} {ret : Option FieldType} {rm : Room} {av : List Value} {sz : Nat} {ww : va_W} {mc ms : Nat} {Qc : (Nat → Prop) → Array Value → State → Outcome → State → Prop} {XC : (Nat → Prop) → String → State → State → Prop} (hy : plainName y.cls = true) (hn : (lg_sl av).length ≤ n)
    (h : ∀ (p : Program) (e : Env) (s : State) (m : MethodId) (below : List Frame) (meth : Method) (c : Code) (ls : Array Slot) (A : Nat → Prop), gX p s m meth c cc n ret y.cls av.toArray → gK G s → (∀ q : Nat, s.heap.size ≤ q → A q) → sz = s.heap.size → gH G A s.heap s.heap [] ww → lv_has ls n (lv_args 0 av) → gS s → gZ A s s.heap → (∀ x ∈ c.exceptionTable.toList, False) →
      W p l e rm s m av.toArray below meth c s.heap [] 0 0 (vx_MQ below (Qc A) (XC A) av.toArray s mc ms A) (F0 m 0 ls [])) : vx_Met l y (gw y cc n ret) rm (gPx G av sz ww) (Qc (va_A ww sz)) (XC (va_A ww sz)) mc ms (va_A ww sz) := by
  refine vx_ofW (cc := cc) (maxL := n) (ret := ret) hy rfl ?_
  intro p e s m args below meth c s₁ B hml hno hv
  obtain ⟨rfl, hsz, hP, hK, hD0, hS, hZ⟩ := hv
  subst hsz
  have hD := hD0.self (sz := s.heap.size)
  have hl := lv_entry av hn
  rw [lg_entry_eq]
  exact h p e s m below meth c _ _ ⟨B.exec, B.bytes, B.returns, hml, fun w hw => (atoms_spec (ws := gw y cc n ret) B.pre) w (List.mem_cons_of_mem _ hw), findClass_of_methodNamed B.named, B.notSynchronized⟩ hK (fun q h => Or.inr h) rfl ⟨hP, hD, va_S.rf⟩ hl hS hZ hno
theorem gTi_of {l : Launch} {G : gG} {y : MethodName} {cc : ByteArray} {n : Nat} {ty : FieldType} {rm : Room} {av : List Value} {sz : Nat} {ww : va_W} {ρ : Type} {o : Nat ⊕ ρ} {rf : ρ → Int32} {w1 : ρ → Nat → va_W} (hy : plainName y.cls = true) (hn : (lg_sl av).length ≤ n)
    (h : ∀ (p : Program) (e : Env) (s : State) (m : MethodId) (args : Array Value) (below : List Frame) (meth : Method) (c : Code) (ls : Array Slot) (A : Nat → Prop) (Q : State → Prop), gX p s m meth c cc n (some ty) y.cls args → gK G s → (∀ q : Nat, s.heap.size ≤ q → A q) → sz = s.heap.size → gH G A s.heap s.heap [] ww → lv_has ls n (lv_args 0 av) → gS s → gZ A s s.heap → (∀ x ∈ c.exceptionTable.toList, False) →
      Q = vx_MQ below (gTQi G rf w1 A o) (gXC G ww A o) args s (tc o) (6 * tc o) A →
      (∀ (x : ρ) (u : Nat) (H : Heap) (locs : List Loc) (pc : Nat) (ls : Array Slot), o = .inr x → narrow ty (.int (rf x)) = .int (rf x) → gH G A s.heap H locs (w1 x u) → decode cc pc = .ok (.ireturn, 1) → W p l e rm s m args below meth c H locs 0 0 Q (F0 m pc ls [.int (rf x)])) →
      W p l e rm s m args below meth c s.heap [] 0 0 Q (F0 m 0 ls [])) : gTi l G y cc n ty rm av sz ww o rf w1 :=
  g_startT (Qc := fun A => gTQi G rf w1 A o) (XC := fun A => gXC G ww A o) hy hn (fun p e s m below meth c ls A X hK hA hsz hH hl hS hZ hno => h p e s m av.toArray below meth c ls A _ X hK hA hsz hH hl hS hZ hno rfl (fun x u H locs pc ls ho hnr hH hd => by
    refine W.widen (k := tc o) (n := 6 * tc o) (Nat.zero_le _) (Nat.zero_le _) ?_
    exact vx_ret (W.zret X.1 X.2.1 X.2.2.1 hnr (fun t ht hW => ⟨⟨_, (x, u), rfl, ⟨ho, rfl⟩, by rw [ht]; exact hH.1, hH.2.1⟩, hH.2.2.F ht⟩) hH.2.2.2.2 hd X.2.2.2.2.2.2)))
theorem gTv_of {l : Launch} {G : gG} {y : MethodName} {cc : ByteArray} {n : Nat} {rm : Room} {av : List Value} {sz : Nat} {ww : va_W} {ρ : Type} {o : Nat ⊕ ρ} {w1 : ρ → Nat → va_W} (hy : plainName y.cls = true) (hn : (lg_sl av).length ≤ n)
    (h : ∀ (p : Program) (e : Env) (s : State) (m : MethodId) (args : Array Value) (below : List Frame) (meth : Method) (c : Code) (ls : Array Slot) (A : Nat → Prop) (Q : State → Prop), gX p s m meth c cc n none y.cls args → gK G s → (∀ q : Nat, s.heap.size ≤ q → A q) → sz = s.heap.size → gH G A s.heap s.heap [] ww → lv_has ls n (lv_args 0 av) → gS s → gZ A s s.heap → (∀ x ∈ c.exceptionTable.toList, False) →
      Q = vx_MQ below (gTQv G w1 A o) (gXC G ww A o) args s (tc o) (6 * tc o) A →
      (∀ (x : ρ) (u : Nat) (H : Heap) (locs : List Loc) (pc : Nat) (ls : Array Slot), o = .inr x → gH G A s.heap H locs (w1 x u) → decode cc pc = .ok (.return_, 1) → W p l e rm s m args below meth c H locs 0 0 Q (F0 m pc ls [])) →
      W p l e rm s m args below meth c s.heap [] 0 0 Q (F0 m 0 ls [])) : gTv l G y cc n rm av sz ww o w1 :=
  g_startT (Qc := fun A => gTQv G w1 A o) (XC := fun A => gXC G ww A o) hy hn (fun p e s m below meth c ls A X hK hA hsz hH hl hS hZ hno => h p e s m av.toArray below meth c ls A _ X hK hA hsz hH hl hS hZ hno rfl (fun x u H locs pc ls ho hH hd => by
    refine W.widen (k := tc o) (n := 6 * tc o) (Nat.zero_le _) (Nat.zero_le _) ?_
    exact vx_ret (W.vret X.1 X.2.1 X.2.2.1 (fun t ht hW => ⟨⟨(x, u), rfl, ho, by rw [ht]; exact hH.1, hH.2.1⟩, hH.2.2.F ht⟩) hH.2.2.2.2 hd X.2.2.2.2.2.2)))
theorem at_g0 : ∀ w ∈ (vx_atS RX8 (xic 0) (xname 0) xNM).filter goodWord, w ∈ lw_all := by decide +kernel
theorem at_g1 : ∀ w ∈ (vx_atS RX8 (xic 1) (xname 1) xNM).filter goodWord, w ∈ lw_all := by decide +kernel
theorem at_g2 : ∀ w ∈ (vx_atS RX8 (xic 2) (xname 2) xNM).filter goodWord, w ∈ lw_all := by decide +kernel
theorem at_g3 : ∀ w ∈ (vx_atS RX8 (xic 3) (xname 3) xNM).filter goodWord, w ∈ lw_all := by decide +kernel
theorem at_n0 : ∀ w ∈ (vx_atS RX8 (xic 0) (xname 0) xNM).filter (fun w => !goodWord w), w ∈ lw_nest := by decide +kernel
theorem at_n1 : ∀ w ∈ (vx_atS RX8 (xic 1) (xname 1) xNM).filter (fun w => !goodWord w), w ∈ lw_nest := by decide +kernel
theorem at_n2 : ∀ w ∈ (vx_atS RX8 (xic 2) (xname 2) xNM).filter (fun w => !goodWord w), w ∈ lw_nest := by decide +kernel
theorem at_n3 : ∀ w ∈ (vx_atS RX8 (xic 3) (xname 3) xNM).filter (fun w => !goodWord w), w ∈ lw_nest := by decide +kernel
def atG (k : Nat) : Prop := (∀ w ∈ (vx_atS RX8 (xic k) (xname k) xNM).filter goodWord, w ∈ lw_all) ∧ (∀ w ∈ (vx_atS RX8 (xic k) (xname k) xNM).filter (fun w => !goodWord w), w ∈ lw_nest) ∧ (∀ w ∈ vx_atS RX8 (xic k) (xname k) xNM, vx_ot w = true) ∧ Bundle.fit (xname k) = true ∧ Cond.initialized (xname k) ∈ lw_all
theorem atG0 : atG 0 := ⟨at_g0, at_n0, by decide +kernel, by decide +kernel, by decide +kernel⟩
theorem atG1 : atG 1 := ⟨at_g1, at_n1, by decide +kernel, by decide +kernel, by decide +kernel⟩
theorem atG2 : atG 2 := ⟨at_g2, at_n2, by decide +kernel, by decide +kernel, by decide +kernel⟩
theorem atG3 : atG 3 := ⟨at_g3, at_n3, by decide +kernel, by decide +kernel, by decide +kernel⟩
theorem va_P_ext {D : va_G} {cl : List vw_C} {ws : va_W} {H H1 : Heap} (h : va_P D cl ws H) (he : ∀ q : Nat, q < H.size → H1[q]? = H[q]?) : va_P D cl ws H1 := fun k q hq => (h k q hq).kept (he q.1 (h k q hq).lt)
section GTHROW
variable {p : Program} {l : Launch} {e : Env} {R : Room} {s : State} {m : MethodId} {args : Array Value} {below : List Frame} {meth : Method} {c : Code} {H : Heap} {locs : List Loc} {cells slots : Nat} {Q : State → Prop}
variable {G : gG} {A : Nat → Prop} {ww : va_W} {cc : ByteArray} {nL : Nat} {ret : Option FieldType} {pc : Nat} {ls : Array Slot} {rest : List Value} {lv : List (Nat × Value)}
theorem g_xc (hH : gH G A s.heap H locs ww) {ρ : Type} (k : Nat) (t : State) (hz : H.size ≤ t.heap.size) (he : ∀ q : Nat, q < H.size → t.heap[q]? = H[q]?) : gXC G ww A (.inl k : Nat ⊕ ρ) (xname k) s t :=
  ⟨k, rfl, ⟨rfl, va_P_ext hH.1 he, hH.2.1⟩, Nat.le_trans hH.2.2.1 hz, fun q h1 h2 => by rw [he q (Nat.lt_of_lt_of_le h1 hH.2.2.1)]; exact hH.2.2.2.1 q h1 h2⟩
theorem g_throw {Qc : Array Value → State → Outcome → State → Prop} (X : gX p s m meth c cc nL ret RX8 args) (hst : l.stackTraces = false) (hK : gK G s) (hS : gS s) (hZ : gZ A s s.heap) (hH : gH G A s.heap H locs ww) (hls : lv_has ls nL lv) (hno : ∀ x ∈ c.exceptionTable.toList, False) {ρ : Type} (k : Nat) (hG : atG k) {text : String} {ik is : Nat} (hcl : Cond.classLink RX8 ik (xname k) ∈ lw_all) (hstr : (is, text) ∈ lw_strs)
    (d0 : decode cc pc = .ok (.new ik, 3)) (d3 : decode cc (pc + 3) = .ok (.dup, 1)) (d4 : decode cc (pc + 4) = .ok (.ldc is, 2)) (d6 : decode cc (pc + 6) = .ok (.invokespecial (xic k), 3)) (d9 : decode cc (pc + 9) = .ok (.athrow, 1))
    (hR : 5 < R.frames ∧ (rest.map fun v => v.category).sum + 82 ≤ R.locals) (hRc : 0 + 1 ≤ R.cells ∧ 0 + 6 ≤ R.slots) : W p l e R s m args below meth c H locs 0 0 (vx_MQ below Qc (gXC G ww A (.inl k : Nat ⊕ ρ)) args s 1 6 A) (F0 m pc ls rest) := by
  obtain ⟨sa, hsa⟩ := hS _ hstr
  have hat : ∀ w ∈ vx_atS RX8 (xic k) (xname k) xNM, w.before args s = true := vx_hat (B := lw_nest) (fun w hw => X.2.2.2.2.1 w (hG.1 w hw)) hG.2.1 (fun w hw => va_Nw.use (lw_nest_on hw) (hK.2 w hw))
  refine vx_throwS X.1 X.2.1 hst (names := xNM) X.2.2.2.2.2.1 hG.2.2.2.1 (by decide +kernel) (X.2.2.2.2.1 _ hcl) (X.2.2.2.2.1 _ hG.2.2.2.2) hsa hat ?_ hZ.1 hZ.2 hH.2.2 (hls.1.trans X.2.2.2.1.symm) d0 d3 d4 d6 d9 (fun x hx => (hno x hx).elim) hR.1 hR.2 hRc.1 hRc.2 X.2.2.2.2.2.2 (fun t _ hz he => g_xc hH k t hz he) hH.2.2.2.2 (Nat.le_refl _) (Nat.le_refl _)
  intro w hw
  rcases List.mem_cons.mp hw with rfl | hw
  · rfl
  rcases List.mem_cons.mp hw with rfl | hw
  · rfl
  · exact hG.2.2.1 w hw
theorem g_throwW {Qc : Array Value → State → Outcome → State → Prop} (X : gX p s m meth c cc nL ret RX8 args) (hst : l.stackTraces = false) (hK : gK G s) (hS : gS s) (hZ : gZ A s s.heap) (hH : gH G A s.heap H locs ww) (hls : lv_has ls nL lv) (hno : ∀ x ∈ c.exceptionTable.toList, False) {ρ : Type} (k : Nat) (hG : atG k) {text : String} {ik is : Nat} (hcl : Cond.classLink RX8 ik (xname k) ∈ lw_all) (hstr : (is, text) ∈ lw_strs)
    (d0 : decode cc pc = .ok (.new ik, 3)) (d3 : decode cc (pc + 3) = .ok (.dup, 1)) (d4 : decode cc (pc + 4) = .ok (.ldc_w is, 3)) (d7 : decode cc (pc + 7) = .ok (.invokespecial (xic k), 3)) (d10 : decode cc (pc + 10) = .ok (.athrow, 1))
    (hR : 5 < R.frames ∧ (rest.map fun v => v.category).sum + 82 ≤ R.locals) (hRc : 0 + 1 ≤ R.cells ∧ 0 + 6 ≤ R.slots) : W p l e R s m args below meth c H locs 0 0 (vx_MQ below Qc (gXC G ww A (.inl k : Nat ⊕ ρ)) args s 1 6 A) (F0 m pc ls rest) := by
  obtain ⟨sa, hsa⟩ := hS _ hstr
  have hat : ∀ w ∈ vx_atS RX8 (xic k) (xname k) xNM, w.before args s = true := vx_hat (B := lw_nest) (fun w hw => X.2.2.2.2.1 w (hG.1 w hw)) hG.2.1 (fun w hw => va_Nw.use (lw_nest_on hw) (hK.2 w hw))
  refine vx_throwSW X.1 X.2.1 hst (names := xNM) X.2.2.2.2.2.1 hG.2.2.2.1 (by decide +kernel) (X.2.2.2.2.1 _ hcl) (X.2.2.2.2.1 _ hG.2.2.2.2) hsa hat ?_ hZ.1 hZ.2 hH.2.2 (hls.1.trans X.2.2.2.1.symm) d0 d3 d4 d7 d10 (fun x hx => (hno x hx).elim) hR.1 hR.2 hRc.1 hRc.2 X.2.2.2.2.2.2 (fun t _ hz he => g_xc hH k t hz he) hH.2.2.2.2 (Nat.le_refl _) (Nat.le_refl _)
  intro w hw
  rcases List.mem_cons.mp hw with rfl | hw
  · rfl
  rcases List.mem_cons.mp hw with rfl | hw
  · rfl
  · exact hG.2.2.1 w hw
end GTHROW

/-! ===== calls of methods that return nothing or throw ===== -/
def gCT (rm : Room) (k : Nat) (R : Room) (y : MethodName) (yc : ByteArray) (yn : Nat) (n : Nat) : Prop :=
  Cond.initialized y.cls ∈ lw_all ∧ Cond.code y yc yn none ∈ lw_all ∧ (y.cls ≠ "java/lang/invoke/MethodHandle" ∧ y.cls ≠ "java/lang/invoke/VarHandle" ∧ (parseMethodDescriptor y.desc).map (fun d => d.parameters.length) = some n) ∧ rm.cells = k ∧ rm.slots = 6 * k ∧ (rm.frames + 1 ≤ R.frames ∧ 8 + (yn + 11) + rm.locals ≤ R.locals) ∧ (0 + k ≤ R.cells ∧ 0 + 6 * k ≤ R.slots)
section GTCALLS
variable {p : Program} {l : Launch} {e : Env} {R : Room} {s : State} {m : MethodId} {args : Array Value} {below : List Frame} {meth : Method} {c : Code} {H : Heap} {locs : List Loc} {Q : State → Prop}
variable {G : gG} {A : Nat → Prop} {ww wc wr : va_W} {cc : ByteArray} {nL : Nat} {ret : Option FieldType} {own : String} {pc : Nat} {ls : Array Slot} {rest st : List Value} {lv : List (Nat × Value)}
variable {rm : Room} {y : MethodName} {yc : ByteArray} {yn n index b k : Nat} {As : List Value} {isC isR isP : List Nat} {T : u_T} {N ci q0 : Nat} {fs : List Value}
theorem g_cbT (X : gX p s m meth c cc nL ret own args) (C : gCT rm k R y yc yn n) (hl : Cond.methodLink own index y ∈ lw_all) : CallB R s args own index y yc yn none (gw y yc yn none) rm k (6 * k) n :=
  callB_of n X.2.2.2.2.1 (gw_in C.2.1) rfl C.2.2.2.1 C.2.2.2.2.1 (X.2.2.2.2.1 _ C.1) (X.2.2.2.2.1 _ hl) C.2.2.1 C.2.2.2.2.2.1
theorem g_preT (hK : gK G s) (hS : gS s) (hZ : gZ A s s.heap) (hA : ∀ q : Nat, s.heap.size ≤ q → A q) (hH : gH G A s.heap H locs ww) {w1 w2 : va_W} (J : gJ ww wc w1 w2 isC isR isP wr) {av : List Value} : PreS s H (gPx G av H.size wc) av :=
  ⟨gPx_blind, fun U hU hW => ⟨rfl, by rw [hU], by rw [hU]; exact hH.1.sub isC (g_fm J.1), hK.warm hW, (hH.2.1.sub isC J.2.2.1 J.1).weaken (fun _ _ _ _ => trivial), hS.warm hW, by
    have hF := va_free hH.2.1 hH.2.2 hA isC J.1
    rw [hU]
    exact ⟨((hZ.1.kept hH.2.2.2.1).moved hW.alike).narrow hF, ((hZ.2.kept hH.2.2.2.1).moved hW.alike).narrow hF⟩⟩⟩
theorem g_tpost_r (hA : ∀ q : Nat, s.heap.size ≤ q → A q) (hH : gH G A s.heap H locs ww) {ρ : Type} {x : ρ} {w1 : ρ → Nat → va_W} {w2 : Nat → va_W} (J : ∀ u, gJ ww wc (w1 x u) (w2 u) isC isR isP wr) {av : Array Value}
    (hr : vx_Run p l e R s m args below meth c H locs 0 0 (tc (.inr x : Nat ⊕ ρ)) (6 * tc (.inr x : Nat ⊕ ρ)) (F0 m pc ls st) rest (gTQv G w1 (va_A wc H.size) (.inr x) av) (gXC G wc (va_A wc H.size) (.inr x : Nat ⊕ ρ)) (va_A wc H.size))
    (kk : ∀ (u : Nat) (H1 : Heap) (locs1 : List Loc), gH G A s.heap H1 locs1 (w2 u) → W p l e R s m args below meth c H1 locs1 0 0 Q (F0 m (pc + 3) ls rest)) : W p l e R s m args below meth c H locs 0 0 Q (F0 m pc ls st) := by
  have hF := va_free hH.2.1 hH.2.2 hA isC (J 0).1
  refine vx_callv hr hH.2.2 (fun q _ h => hF q h) hF (fun q _ h => hF q h) (fun E ce q9 u t H1 locs1 ht hvm hp hB hz1 hk1 hS hce hcv hcl => ?_) (fun u t H1 locs1 ht hvm hp hB hz1 hk1 hS => ?_)
  · cases hp
  · obtain ⟨x2, u2⟩ := u
    have hp : (.inr x : Nat ⊕ ρ) = .inr x2 := hp
    cases hp
    exact kk u2 H1 locs1 (g_join hA hH (J u2) ht hB hk1 hS)
theorem g_tpost_x (hA : ∀ q : Nat, s.heap.size ≤ q → A q) (hH : gH G A s.heap H locs ww) {ρ ρ' : Type} {k9 : Nat} {w1 : ρ → Nat → va_W} (J : gJ ww wc wc ww isC isR isP wr) {av : Array Value} {Qc : Array Value → State → Outcome → State → Prop} (hno : ∀ x ∈ c.exceptionTable.toList, False) (hlk : meth.locks = false)
    (hr : vx_Run p l e R s m args below meth c H locs 0 0 (tc (.inl k9 : Nat ⊕ ρ)) (6 * tc (.inl k9 : Nat ⊕ ρ)) (F0 m pc ls st) rest (gTQv G w1 (va_A wc H.size) (.inl k9) av) (gXC G wc (va_A wc H.size) (.inl k9 : Nat ⊕ ρ)) (va_A wc H.size)) :
    W p l e R s m args below meth c H locs 0 0 (vx_MQ below Qc (gXC G ww A (.inl k9 : Nat ⊕ ρ')) args s 1 6 A) (F0 m pc ls st) := by
  have hF := va_free hH.2.1 hH.2.2 hA isC J.1
  refine vx_callv hr hH.2.2 (fun q _ h => hF q h) hF (fun q _ h => hF q h) (fun E ce q9 u t H1 locs1 ht hvm hp hB hz1 hk1 hS hce hcv hcl => ?_) (fun u t H1 locs1 ht hvm hp hB hz1 hk1 hS => ?_)
  · have hp : (.inl k9 : Nat ⊕ ρ) = .inl u := hp
    cases hp
    obtain ⟨hE, hB⟩ := hB
    have hJ := g_join hA hH J ht hB hk1 hS
    exact vx_out (fun x hx => (hno x hx).elim) hlk hce hcv hcl (fun t2 ht2 _ => ⟨k9, rfl, ⟨hE, by rw [ht2]; exact hJ.1, hJ.2.1⟩, hJ.2.2.F ht2⟩) hJ.2.2.2.2 (Nat.le_refl _) (Nat.le_refl _)
  · cases hp
theorem g_tVr (X : gX p s m meth c cc nL ret own args) (hK : gK G s) (hS : gS s) (hZ : gZ A s s.heap) (hA : ∀ q : Nat, s.heap.size ≤ q → A q) (hH : gH G A s.heap H locs ww) (hls : lv_has ls nL lv) {ρ : Type} {x : ρ} {w1 : ρ → Nat → va_W} {w2 : Nat → va_W} (hM : gTv l G y yc yn rm (.ref b :: As) H.size wc (.inr x : Nat ⊕ ρ) w1) (C : gCT rm 0 R y yc yn n) (hl : Cond.methodLink own index y ∈ lw_all) (hi : Cond.instanceMethod y ∈ lw_all) {Cr : String} (hs : Cond.selects Cr y y ∈ lw_all)
    (he : ww[q0]? = some (b, .inr (ci, fs))) (hc : vwCl[ci]? = some (Cr, T, N)) (J : ∀ u, gJ ww wc (w1 x u) (w2 u) isC isR isP wr) (hn : As.length = n) (hst : st = As.reverse ++ .ref b :: rest) (hW : (rest.map fun v => v.category).sum ≤ 8) (hdg : decode cc pc = .ok (.invokevirtual index, 3))
    (kk : ∀ (u : Nat) (H1 : Heap) (locs1 : List Loc), gH G A s.heap H1 locs1 (w2 u) → W p l e R s m args below meth c H1 locs1 0 0 Q (F0 m (pc + 3) ls rest)) : W p l e R s m args below meth c H locs 0 0 Q (F0 m pc ls st) := by
  subst hst
  exact g_tpost_r hA hH J (vx_runV (g_fix X) hM ⟨g_cbT X C hl, X.2.2.2.2.1 _ hi, X.2.2.2.2.1 _ hs⟩ ⟨gPx_blind, va_recv hK.1 hH.1 hc he, (g_preT hK hS hZ hA hH (J 0)).2⟩ rfl hn hls.1 rfl (lv_room hW) hdg C.2.2.2.2.2.2) kk
theorem g_tSr (X : gX p s m meth c cc nL ret own args) (hK : gK G s) (hS : gS s) (hZ : gZ A s s.heap) (hA : ∀ q : Nat, s.heap.size ≤ q → A q) (hH : gH G A s.heap H locs ww) (hls : lv_has ls nL lv) {ρ : Type} {x : ρ} {w1 : ρ → Nat → va_W} {w2 : Nat → va_W} (hM : gTv l G y yc yn rm As H.size wc (.inr x : Nat ⊕ ρ) w1) (C : gCT rm 0 R y yc yn n) (hl : Cond.methodLink own index y ∈ lw_all) (hi : Cond.static y ∈ lw_all)
    (J : ∀ u, gJ ww wc (w1 x u) (w2 u) isC isR isP wr) (hn : As.length = n) (hst : st = As.reverse ++ rest) (hW : (rest.map fun v => v.category).sum ≤ 8) (hdg : decode cc pc = .ok (.invokestatic index, 3))
    (kk : ∀ (u : Nat) (H1 : Heap) (locs1 : List Loc), gH G A s.heap H1 locs1 (w2 u) → W p l e R s m args below meth c H1 locs1 0 0 Q (F0 m (pc + 3) ls rest)) : W p l e R s m args below meth c H locs 0 0 Q (F0 m pc ls st) := by
  subst hst
  exact g_tpost_r hA hH J (vx_runS (g_fix X) hM ⟨g_cbT X C hl, X.2.2.2.2.1 _ hi⟩ (g_preT hK hS hZ hA hH (J 0)) rfl hn hls.1 rfl (lv_room hW) hdg C.2.2.2.2.2.2) kk
theorem g_tVx (X : gX p s m meth c cc nL ret own args) (hK : gK G s) (hS : gS s) (hZ : gZ A s s.heap) (hno : ∀ x ∈ c.exceptionTable.toList, False) (hA : ∀ q : Nat, s.heap.size ≤ q → A q) (hH : gH G A s.heap H locs ww) (hls : lv_has ls nL lv) {ρ ρ' : Type} {k9 : Nat} {w1 : ρ → Nat → va_W} {Qc : Array Value → State → Outcome → State → Prop} (hM : gTv l G y yc yn rm (.ref b :: As) H.size wc (.inl k9 : Nat ⊕ ρ) w1) (C : gCT rm 1 R y yc yn n) (hl : Cond.methodLink own index y ∈ lw_all) (hi : Cond.instanceMethod y ∈ lw_all) {Cr : String} (hs : Cond.selects Cr y y ∈ lw_all)
    (he : ww[q0]? = some (b, .inr (ci, fs))) (hc : vwCl[ci]? = some (Cr, T, N)) (J : gJ ww wc wc ww isC isR isP wr) (hn : As.length = n) (hst : st = As.reverse ++ .ref b :: rest) (hW : (rest.map fun v => v.category).sum ≤ 8) (hdg : decode cc pc = .ok (.invokevirtual index, 3)) : W p l e R s m args below meth c H locs 0 0 (vx_MQ below Qc (gXC G ww A (.inl k9 : Nat ⊕ ρ')) args s 1 6 A) (F0 m pc ls st) := by
  subst hst
  exact g_tpost_x hA hH J hno X.2.2.2.2.2.2 (vx_runV (g_fix X) hM ⟨g_cbT X C hl, X.2.2.2.2.1 _ hi, X.2.2.2.2.1 _ hs⟩ ⟨gPx_blind, va_recv hK.1 hH.1 hc he, (g_preT hK hS hZ hA hH J).2⟩ rfl hn hls.1 rfl (lv_room hW) hdg C.2.2.2.2.2.2)
theorem g_tSx (X : gX p s m meth c cc nL ret own args) (hK : gK G s) (hS : gS s) (hZ : gZ A s s.heap) (hno : ∀ x ∈ c.exceptionTable.toList, False) (hA : ∀ q : Nat, s.heap.size ≤ q → A q) (hH : gH G A s.heap H locs ww) (hls : lv_has ls nL lv) {ρ ρ' : Type} {k9 : Nat} {w1 : ρ → Nat → va_W} {Qc : Array Value → State → Outcome → State → Prop} (hM : gTv l G y yc yn rm As H.size wc (.inl k9 : Nat ⊕ ρ) w1) (C : gCT rm 1 R y yc yn n) (hl : Cond.methodLink own index y ∈ lw_all) (hi : Cond.static y ∈ lw_all)
    (J : gJ ww wc wc ww isC isR isP wr) (hn : As.length = n) (hst : st = As.reverse ++ rest) (hW : (rest.map fun v => v.category).sum ≤ 8) (hdg : decode cc pc = .ok (.invokestatic index, 3)) : W p l e R s m args below meth c H locs 0 0 (vx_MQ below Qc (gXC G ww A (.inl k9 : Nat ⊕ ρ')) args s 1 6 A) (F0 m pc ls st) := by
  subst hst
  exact g_tpost_x hA hH J hno X.2.2.2.2.2.2 (vx_runS (g_fix X) hM ⟨g_cbT X C hl, X.2.2.2.2.1 _ hi⟩ (g_preT hK hS hZ hA hH J) rfl hn hls.1 rfl (lv_room hW) hdg C.2.2.2.2.2.2)
end GTCALLS
