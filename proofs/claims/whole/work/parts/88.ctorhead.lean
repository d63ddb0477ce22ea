/-! ===== constructors ===== -/
def gPo (G : gG) (av : List Value) (sz : Nat) (ww : va_W) : Array Value → State → Prop := va_Pc av (fun U => U.heap.size = sz ∧ va_P G.1 vwCl ww U.heap ∧ gK G U ∧ va_D (fun _ => True) ww ∧ va_AO RX4 U)
theorem gPo_blind {G : gG} {av : List Value} {sz : Nat} {ww : va_W} : FrameBlind (gPo G av sz ww) := fun a U g mk q => by
  obtain ⟨q0, q1, qP, qK, qD, qO⟩ := q
  exact ⟨q0, q1, qP, ⟨va_K.moved (u := U) (U := U.calling g mk a) (Vm.Alike.refl U.vm) qK.1, fun w hw => va_Nw.same (u := U) (U := U.calling g mk a) (lw_nest_on hw) rfl (qK.2 w hw)⟩, qD, va_AO.moved (u := U) (U := U.calling g mk a) (Vm.Alike.refl U.vm) qO⟩
def gN (l : Launch) (G : gG) (y : MethodName) (cc : ByteArray) (n : Nat) (rm : Room) (av : List Value) (sz : Nat) (ww : va_W) (w1 : (Nat → Nat → Nat) → va_W) (mc ms : Nat) : Prop :=
  Met l y (gw y cc n none) rm (gPo G av sz ww) (va_Qv (fun (_ : Nat → Nat → Nat) => True) (fun u => gB G (w1 u) (va_A ww sz)) (va_A ww sz)) mc ms (va_A ww sz)
theorem gN_of {l : Launch} {G : gG} {y : MethodName} {cc : ByteArray} {n : Nat} {rm : Room} {av : List Value} {sz : Nat} {ww : va_W} {w1 : (Nat → Nat → Nat) → va_W} {mc ms : Nat} (hy : plainName y.cls = true) (hyn : y.name = "<init>") (hn : (lg_sl av).length ≤ n)
    (h : ∀ (p : Program) (e : Env) (s : State) (m : MethodId) (args : Array Value) (below : List Frame) (meth : Method) (c : Code) (ls : Array Slot) (A : Nat → Prop) (Q : State → Prop), gX p s m meth c cc n none y.cls args → meth.name = "<init>" → va_AO RX4 s → gK G s → (∀ q : Nat, s.heap.size ≤ q → A q) → sz = s.heap.size → gH G A s.heap s.heap [] ww → lv_has ls n (lv_args 0 av) →
      (∀ (u : Nat → Nat → Nat) (cells slots : Nat) (H : Heap) (locs : List Loc) (pc : Nat) (ls : Array Slot), cells ≤ mc → slots ≤ ms → gH G A s.heap H locs (w1 u) → decode cc pc = .ok (.return_, 1) → W p l e rm s m args below meth c H locs cells slots Q (F0 m pc ls [])) →
      W p l e rm s m args below meth c s.heap [] 0 0 Q (F0 m 0 ls [])) : gN l G y cc n rm av sz ww w1 mc ms := by
  refine Met.ofW (cc := cc) (maxL := n) (ret := none) hy rfl ?_
  intro p e s m args below meth c s₁ B hml hv
  obtain ⟨rfl, hsz, hP, hK, hD0, hO⟩ := hv
  subst hsz
  have hx := B.exec
  have hb := B.bytes
  have hr := B.returns
  have hlk := B.notSynchronized
  have hD := hD0.self (sz := s.heap.size)
  have hl := lv_entry av hn
  rw [lg_entry_eq]
  refine h p e s m av.toArray below meth c _ _ _ ⟨hx, hb, hr, hml, fun w hw => (atoms_spec (ws := gw y cc n none) B.pre) w (List.mem_cons_of_mem _ hw), findClass_of_methodNamed B.named, hlk⟩ ((name_of_methodNamed B.named B.method).1.trans hyn) hO hK (fun q h => Or.inr h) rfl ⟨hP, hD, va_S.rf⟩ hl (fun u cells slots H locs pc ls h1 h2 hH hd => ?_)
  refine W.widen (k := mc) (n := ms) h1 h2 ?_
  exact W.vret hx hb hr (fun t ht hW => ⟨⟨u, rfl, trivial, by rw [ht]; exact hH.1, hH.2.1⟩, hH.2.2.F ht⟩) hH.2.2.2.2 hd hlk
theorem wrN {n k : Nat} {f : Nat → Int32} {x : Int32} (i : Int32) (hi : i.toNatClampNeg = k) (h : ¬ (i < 0 ∨ n ≤ i.toNatClampNeg)) : wrA n f i x = some (upd f k x) := by
  unfold wrA
  rw [if_neg h, hi]
def gCN (rm R : Room) (cells slots mc ms : Nat) (y : MethodName) (yc : ByteArray) (yn : Nat) : Prop :=
  Cond.initialized y.cls ∈ lw_all ∧ Cond.code y yc yn none ∈ lw_all ∧ (y.cls ≠ "java/lang/invoke/MethodHandle" ∧ y.cls ≠ "java/lang/invoke/VarHandle" ∧ (parseMethodDescriptor y.desc).map (fun d => d.parameters.length) = some 0) ∧ rm.cells = mc ∧ rm.slots = ms ∧ (rm.frames + 1 ≤ R.frames ∧ 8 + (yn + 11) + rm.locals ≤ R.locals) ∧ (cells + mc ≤ R.cells ∧ slots + ms ≤ R.slots)
section GNEW
variable {p : Program} {l : Launch} {e : Env} {R : Room} {s : State} {m : MethodId} {args : Array Value} {below : List Frame} {meth : Method} {c : Code} {H : Heap} {locs : List Loc} {cells slots mc ms : Nat} {Q : State → Prop}
variable {G : gG} {E : gE} {A : Nat → Prop} {H0 : Heap} {ww w1 : va_W} {cc : ByteArray} {nL : Nat} {ret : Option FieldType} {own : String} {pc : Nat} {ls : Array Slot} {rest st : List Value} {lv : List (Nat × Value)} {a : Nat}
variable {rm : Room} {y : MethodName} {yc : ByteArray} {yn index b : Nat} {host : String} {e0 : va_E}
theorem g_objI (X : gX p s m meth c cc nL ret own args) (hls : lv_has ls nL lv) (hl : Cond.methodLink own index Lib.objectInit ∈ lw_all) (hR : 1 ≤ R.frames ∧ (rest.map fun v => v.category).sum + 12 ≤ R.locals) (hdg : decode cc pc = .ok (.invokespecial index, 3))
    (kk : W p l e R s m args below meth c H locs cells slots Q (F0 m (pc + 3) ls rest)) : W p l e R s m args below meth c H locs cells slots Q (F0 m pc ls (.ref a :: rest)) := by
  refine W.objInit X.1 X.2.1 X.2.2.2.2.2.1 (X.2.2.2.2.1 _ hl) (X.2.2.2.2.1 _ q_27) (X.2.2.2.2.1 _ q_28) rfl (hls.1.trans X.2.2.2.1.symm) rfl hdg hR.1 ?_ ?_
  · show 2 * 0 + (rest.map fun v => v.category).sum + 12 ≤ R.locals
    omega
  · exact W.eq (g2 := F0 m (pc + 3) ls rest) rfl kk
theorem g_putF (X : gX p s m meth c cc nL ret own args) (hin2 : meth.name = "<init>") (hK : gK G s) (hH : gH G A H0 H locs ww) {ref C : String} {T : u_T} {N ci index : Nat} (hin : ∀ w ∈ u_ws C T N, w ∈ lw_all) (ty0 : Nat → FieldType) (hty : ∀ k, k < N → parseFieldDescriptor (T k).2.2.1 = some (ty0 k)) (hnm : ∀ a, a < N → ∀ b, b < N → a ≠ b → (T a).2.1 ≠ (T b).2.1) (q0 : Nat) {fs : List Value} (he : ww[q0]? = some (a, .inr (ci, fs))) (hc : vwCl[ci]? = some (C, T, N)) (k : Nat) (hk : k < N) (hlink : Cond.fieldLink own index ref (T k).2.1 (T k).2.2.1 ∈ lw_all) (hsame : ∀ x, s.fieldFound? (T k).1 (T k).2.1 (T k).2.2.1 = some x → s.fieldFound? ref (T k).2.1 (T k).2.2.1 = some x) (hfin : (T k).2.2.2 = true) (hdecl : (T k).1 = own) {ty : FieldType} {v : Value} (hd : parseFieldDescriptor (T k).2.2.1 = some ty) (hn : narrow ty v = v) (hfit : fits ty v = true) (hl : k < fs.length) (hdg : decode cc pc = .ok (.putfield index, 3)) {fs' : List Value} (hs : fs.set k v = fs') (hw : ww.set q0 (a, .inr (ci, fs')) = w1)
    (kk : ∀ (H1 : Heap) (locs1 : List Loc), gH G A H0 H1 locs1 w1 → W p l e R s m args below meth c H1 locs1 cells slots Q (F0 m (pc + 3) ls rest)) : W p l e R s m args below meth c H locs cells slots Q (F0 m pc ls (v :: .ref a :: rest)) :=
  va_putF X.1 X.2.1 X.2.2.2.2.1 hin ty0 hty hnm X.2.2.2.2.2.1 hK.1 hH.1 hH.2.1 hH.2.2 q0 he hc k hk (X.2.2.2.2.1 _ hlink) hsame hfin hin2 hdecl hd hn hfit hl hdg (fun H1 locs1 hP hD hS => kk H1 locs1 ⟨by rw [← hw, ← hs]; exact hP, by rw [← hw, ← hs]; exact hD, hS⟩)
theorem g_newX (X : gX p s m meth c cc nL ret own args) (hK : gK G s) (hA : ∀ q : Nat, H0.size ≤ q → A q) (hH : gH G A H0 H locs ww) {C : String} {T : u_T} {N ci index : Nat} (hin : ∀ w ∈ u_ws C T N, w ∈ lw_all) (ty : Nat → FieldType) (hty : ∀ k, k < N → parseFieldDescriptor (T k).2.2.1 = some (ty k)) (hcl : Cond.classLink own index C ∈ lw_all) (hinst : Cond.instantiable C N ∈ lw_all) (hini : Cond.initialized C ∈ lw_all) (hc : vwCl[ci]? = some (C, T, N)) {fs : List Value} (hfs : ∀ j, j < N → defaultValue (ty j) = vp_V fs j) (hcells : cells + 1 ≤ R.cells) (hslots : slots + N ≤ R.slots) (hdg : decode cc pc = .ok (.new index, 3))
    (kk : ∀ (q : Nat) (H1 : Heap), gH G A H0 H1 locs (ww ++ [(q, .inr (ci, fs))]) → W p l e R s m args below meth c H1 locs (cells + 1) (slots + N) Q (F0 m (pc + 3) ls (.ref q :: rest))) : W p l e R s m args below meth c H locs cells slots Q (F0 m pc ls rest) :=
  va_new X.1 X.2.1 X.2.2.2.2.1 hin ty hty X.2.2.2.2.2.1 (X.2.2.2.2.1 _ hcl) (X.2.2.2.2.1 _ hinst) (X.2.2.2.2.1 _ hini) hK.1 hH.1 hH.2.1 hH.2.2 hA hc hfs hcells hslots hdg (fun q H1 hP hD hS => kk q H1 ⟨hP, hD, hS⟩)
theorem g_clC {cA : ClassId} (hK : va_K G.1 vwCl (gT G ++ [(cA, .char)]) s) : cA = G.2.2.1 := by
  have h1 := (hK.2 1 (G.2.2.1, .char) rfl).2
  have h2 := (hK.2 3 (cA, .char) rfl).2
  exact Option.some.inj (h2.symm.trans h1)
theorem g_clO {cA : ClassId} (hK : va_K G.1 vwCl (gT G ++ [(cA, .object RX4)]) s) : cA = G.2.2.2 := by
  obtain ⟨k1, c1, -, -, -, h1⟩ := (hK.2 2 (G.2.2.2, .object "PixelPress$Layer") rfl).2
  obtain ⟨k2, c2, -, -, -, h2⟩ := (hK.2 3 (cA, .object RX4) rfl).2
  exact Option.some.inj (h2.symm.trans h1)
theorem g_newC (X : gX p s m meth c cc nL ret own args) (hK : gK G s) (hA : ∀ q : Nat, H0.size ≤ q → A q) (hH : gH G A H0 H locs ww) {v : Int32} {N : Nat} (hn : ¬ v < 0) (hN : v.toNatClampNeg = N) (hby : N * 2 ≤ 536870912) (hc : cells + 1 ≤ R.cells) (hs : slots + N ≤ R.slots) (hdg : decode cc pc = .ok (.newarray .char, 2))
    (kk : ∀ (q : Nat) (H1 : Heap), gH G A H0 H1 locs (ww ++ [(q, gC G N (fun _ => 0))]) → W p l e R s m args below meth c H1 locs (cells + 1) (slots + N) Q (F0 m (pc + 2) ls (.ref q :: rest))) : W p l e R s m args below meth c H locs cells slots Q (F0 m pc ls (.int v :: rest)) := by
  refine va_newa (atype := .char) (ty := .char) (a0 := (N, .inl (fun _ => 0))) X.1 X.2.1 (X.2.2.2.2.1 _ q_89) rfl hK.1 hH.1 hH.2.1 hH.2.2 hA (fun cA => rfl) hn hN hby hc hs hdg (fun q cA H1 hK' hP hD hS => ?_)
  have e := g_clC hK'
  subst e
  exact kk q H1 ⟨hP, hD, hS⟩
theorem g_newO (X : gX p s m meth c cc nL ret own args) (hO : va_AO RX4 s) (hK : gK G s) (hA : ∀ q : Nat, H0.size ≤ q → A q) (hH : gH G A H0 H locs ww) (hcl : Cond.classLink own index RX4 ∈ lw_all) {v : Int32} {N : Nat} (hn : ¬ v < 0) (hN : v.toNatClampNeg = N) (hby : N * 4 ≤ 536870912) (hc : cells + 1 ≤ R.cells) (hs : slots + N ≤ R.slots) (hdg : decode cc pc = .ok (.anewarray index, 3))
    (kk : ∀ (q : Nat) (H1 : Heap), gH G A H0 H1 locs (ww ++ [(q, gO G N (fun _ => none))]) → W p l e R s m args below meth c H1 locs (cells + 1) (slots + N) Q (F0 m (pc + 3) ls (.ref q :: rest))) : W p l e R s m args below meth c H locs cells slots Q (F0 m pc ls (.int v :: rest)) := by
  refine va_newq X.1 X.2.1 X.2.2.2.2.2.1 (X.2.2.2.2.1 _ hcl) hO hK.1 hH.1 hH.2.1 hH.2.2 hA hn hN hby hc hs hdg (fun q cA H1 hK' hP hD hS => ?_)
  have e := g_clO hK'
  subst e
  exact kk q H1 ⟨hP, hD, hS⟩
theorem g_astO (X : gX p s m meth c cc nL ret own args) (hK : gK G s) (hH : gH G A H0 H locs ww) (q0 qk : Nat) {n v k : Nat} {vs : List Value} {f : Nat → Option Nat} (ha : ww[q0]? = some (a, gO G n f)) (hv : ww[qk]? = some (v, .inr (3, vs))) {i : Int32} (hi : i.toNatClampNeg = k) (hin : vp_in i n) (hdg : decode cc pc = .ok (.aastore, 1)) (hw : ww.set q0 (a, gO G n (va_up f k (some v))) = w1)
    (kk : ∀ (H1 : Heap) (locs1 : List Loc), gH G A H0 H1 locs1 w1 → W p l e R s m args below meth c H1 locs1 cells slots Q (F0 m (pc + 1) ls rest)) : W p l e R s m args below meth c H locs cells slots Q (F0 m pc ls (.ref v :: .int i :: .ref a :: rest)) := by
  subst hi
  exact va_astq X.1 X.2.1 hK.1 hH.1 hH.2.1 hH.2.2 q0 2 qk 3 (r := (RX4, TX4, 10)) ha rfl hv rfl hin hdg (fun H1 locs1 hP hD hS => kk H1 locs1 ⟨hw ▸ hP, hw ▸ hD, hS⟩)
theorem gO_cong {cA : ClassId} {n : Nat} {f g : Nat → Option Nat} (h : ∀ k, k < n → f k = g k) : vp_cell cA (n, .inr (.inr (.inr (.inr f)))) = vp_cell cA (n, .inr (.inr (.inr (.inr g)))) := by
  show arrV cA n (fun j => va_rf (f j)) = arrV cA n (fun j => va_rf (g j))
  unfold arrV
  congr 1
  congr 1
  funext j
  show va_rf (f j.val) = va_rf (g j.val)
  rw [h j.val j.isLt]
theorem gH_O (hH : gH G A H0 H locs ww) (q0 : Nat) {n : Nat} {f g : Nat → Option Nat} (ha : ww[q0]? = some (a, gO G n f)) (h : ∀ k, k < n → f k = g k) (hw : ww.set q0 (a, gO G n g) = w1) : gH G A H0 H locs w1 := by
  subst hw
  refine ⟨fun k q hq => ?_, hH.2.1.set ha, hH.2.2⟩
  by_cases hk : k = q0
  · subst hk
    rw [List.getElem?_set] at hq
    simp only [if_true] at hq
    split at hq
    · cases hq
      have h1 := hH.1 k _ ha
      show H[a]? = some (vp_cell G.2.2.2 (n, .inr (.inr (.inr (.inr g)))))
      rw [← gO_cong h]
      exact h1
    · cases hq
  · rw [List.getElem?_set_ne (fun e => hk e.symm)] at hq
    exact hH.1 k q hq
/-- behind a constructor: the object was the world's last cell -/
theorem g_join9 (hA : ∀ q : Nat, H0.size ≤ q → A q) (hH : gH G A H0 H locs (ww ++ [(b, e0)])) {t : State} {H1 : Heap} {locs1 : List Loc} (ht : t.heap = H1) (hB : gB G w1 (va_A [(b, e0)] H.size) t) (hk : ∀ q : Nat, q < H.size → ¬ va_A [(b, e0)] H.size q → H1[q]? = H[q]?) (hS : va_S A H0 H1 locs1) : gH G A H0 H1 locs1 (ww ++ w1) := by
  obtain ⟨hP1, hD1⟩ := hB
  rw [ht] at hP1
  have hb : (ww ++ [(b, e0)])[ww.length]? = some (b, e0) := by rw [List.getElem?_append_right (Nat.le_refl _)]; simp
  have hold : ∀ (k : Nat) (q : Nat × va_E), ww[k]? = some q → (ww ++ [(b, e0)])[k]? = some q := fun k q h => by rw [List.getElem?_append_left (List.getElem?_eq_some_iff.mp h).1]; exact h
  have hF : ∀ q, va_A [(b, e0)] H.size q → A q := by
    intro q h
    rcases h with ⟨k, e, h⟩ | h
    · have hz : k < 1 := (List.getElem?_eq_some_iff.mp h).1
      rw [show k = 0 by omega] at h
      cases h
      exact hH.2.1.2 _ _ hb
    · exact hA q (Nat.le_trans hH.2.2.1 h)
  have hout : ∀ (k : Nat) (q : Nat × va_E), ww[k]? = some q → ¬ va_A [(b, e0)] H.size q.1 := by
    intro k q h1 h3
    rcases h3 with ⟨j, e, h3⟩ | h3
    · have hz : j < 1 := (List.getElem?_eq_some_iff.mp h3).1
      rw [show j = 0 by omega] at h3
      have h4 : (b, e0) = (q.1, e) := Option.some.inj h3
      have h5 : b = q.1 := congrArg Prod.fst h4
      have h6 := hH.2.1.1 k ww.length q (b, e0) (hold k q h1) hb h5.symm
      have h7 := (List.getElem?_eq_some_iff.mp h1).1
      omega
    · exact absurd (hH.1 k q (hold k q h1)).lt (Nat.not_lt.mpr h3)
  have hget : ∀ (k : Nat) (q : Nat × va_E), (ww ++ w1)[k]? = some q → ww[k]? = some q ∨ (ww.length ≤ k ∧ w1[k - ww.length]? = some q) := by
    intro k q h
    by_cases hk : k < ww.length
    · rw [List.getElem?_append_left hk] at h
      exact Or.inl h
    · rw [List.getElem?_append_right (by omega)] at h
      exact Or.inr ⟨by omega, h⟩
  refine ⟨fun k q hq => ?_, ⟨fun i j p q hp hq e => ?_, fun k q hq => ?_⟩, hS⟩
  · rcases hget k q hq with h | ⟨_, h⟩
    · exact (hH.1 k q (hold k q h)).kept (hk q.1 (hH.1 k q (hold k q h)).lt (hout k q h))
    · exact hP1 _ q h
  · rcases hget i p hp with h | ⟨h0, h⟩
    · rcases hget j q hq with h2 | ⟨_, h2⟩
      · exact hH.2.1.1 i j p q (hold i p h) (hold j q h2) e
      · exact absurd (by rw [e]; exact hD1.2 _ q h2) (hout i p h)
    · rcases hget j q hq with h2 | ⟨h3, h2⟩
      · exact absurd (by rw [← e]; exact hD1.2 _ p h) (hout j q h2)
      · have h5 := hD1.1 _ _ p q h h2 e
        omega
  · rcases hget k q hq with h | ⟨_, h⟩
    · exact hH.2.1.2 k q (hold k q h)
    · exact hF q.1 (hD1.2 _ q h)
theorem g_preN (hO : va_AO RX4 s) (hK : gK G s) (hH : gH G A H0 H locs (ww ++ [(b, e0)])) : PreS s H (gPo G [.ref b] H.size [(b, e0)]) [.ref b] :=
  ⟨gPo_blind, fun U hU hW => by
    have hb : (ww ++ [(b, e0)])[ww.length]? = some (b, e0) := by rw [List.getElem?_append_right (Nat.le_refl _)]; simp
    refine ⟨rfl, by rw [hU], ?_, hK.warm hW, ⟨fun i j p q hp hq e => ?_, fun _ _ _ => trivial⟩, va_AO.moved hW.alike hO⟩
    · rw [hU]
      intro k q hq
      have hz : k < 1 := (List.getElem?_eq_some_iff.mp hq).1
      rw [show k = 0 by omega] at hq
      cases hq
      exact hH.1 _ _ hb
    · have h1 : i < 1 := (List.getElem?_eq_some_iff.mp hp).1
      have h2 : j < 1 := (List.getElem?_eq_some_iff.mp hq).1
      omega⟩
theorem g_postN {v1 : (Nat → Nat → Nat) → va_W} {av : Array Value} (hA : ∀ q : Nat, H0.size ≤ q → A q) (hH : gH G A H0 H locs (ww ++ [(b, e0)])) (hr : va_Run p l e R s m args below meth c H locs cells slots mc ms (F0 m pc ls st) rest (va_Qv (fun (_ : Nat → Nat → Nat) => True) (fun u => gB G (v1 u) (va_A [(b, e0)] H.size)) (va_A [(b, e0)] H.size) av) (va_A [(b, e0)] H.size))
    (kk : ∀ (u : Nat → Nat → Nat) (H1 : Heap) (locs1 : List Loc), gH G A H0 H1 locs1 (ww ++ v1 u) → W p l e R s m args below meth c H1 locs1 (cells + mc) (slots + ms) Q (F0 m (pc + 3) ls rest)) : W p l e R s m args below meth c H locs cells slots Q (F0 m pc ls st) := by
  have hb : (ww ++ [(b, e0)])[ww.length]? = some (b, e0) := by rw [List.getElem?_append_right (Nat.le_refl _)]; simp
  have hF : ∀ q, va_A [(b, e0)] H.size q → A q := by
    intro q h
    rcases h with ⟨k, e, h⟩ | h
    · have hz : k < 1 := (List.getElem?_eq_some_iff.mp h).1
      rw [show k = 0 by omega] at h
      cases h
      exact hH.2.1.2 _ _ hb
    · exact hA q (Nat.le_trans hH.2.2.1 h)
  exact va_callv hr hH.2.2 (fun q _ h => hF q h) hF (fun u t H1 locs1 ht hvm hw hB hz1 hk1 hS => kk u H1 locs1 (g_join9 hA hH ht hB hk1 hS))
theorem g_cIN (X : gX p s m meth c cc nL ret own args) (hO : va_AO RX4 s) (hK : gK G s) (hA : ∀ q : Nat, H0.size ≤ q → A q) (hH : gH G A H0 H locs (ww ++ [(b, e0)])) (hls : lv_has ls nL lv) {v1 : (Nat → Nat → Nat) → va_W} (hM : gN l G y yc yn rm [.ref b] H.size [(b, e0)] v1 mc ms) (C : gCN rm R cells slots mc ms y yc yn) (hl : Cond.methodLinkNest own index y host ∈ lw_nest) (hi : Cond.instanceMethod y ∈ lw_all) (hyn : y.name = "<init>") (hst : st = .ref b :: rest) (hW : (rest.map fun v => v.category).sum ≤ 8) (hdg : decode cc pc = .ok (.invokespecial index, 3))
    (kk : ∀ (u : Nat → Nat → Nat) (H1 : Heap) (locs1 : List Loc), gH G A H0 H1 locs1 (ww ++ v1 u) → W p l e R s m args below meth c H1 locs1 (cells + mc) (slots + ms) Q (F0 m (pc + 3) ls rest)) : W p l e R s m args below meth c H locs cells slots Q (F0 m pc ls st) := by
  subst hst
  exact g_postN hA hH (va_runIN (As := []) (g_fix X) hM ⟨va_cnB 0 X.2.2.2.2.1 (gw_in C.2.1) rfl C.2.2.2.1 C.2.2.2.2.1 (hK.2 _ hl) (X.2.2.2.2.1 _ C.1) C.2.2.1 C.2.2.2.2.2.1, hyn, X.2.2.2.2.1 _ hi⟩ (g_preN hO hK hH) rfl rfl hls.1 rfl (lv_room hW) hdg C.2.2.2.2.2.2) kk
theorem g_cI (X : gX p s m meth c cc nL ret own args) (hO : va_AO RX4 s) (hK : gK G s) (hA : ∀ q : Nat, H0.size ≤ q → A q) (hH : gH G A H0 H locs (ww ++ [(b, e0)])) (hls : lv_has ls nL lv) {v1 : (Nat → Nat → Nat) → va_W} (hM : gN l G y yc yn rm [.ref b] H.size [(b, e0)] v1 mc ms) (C : gCN rm R cells slots mc ms y yc yn) (hl : Cond.methodLink own index y ∈ lw_all) (hi : Cond.instanceMethod y ∈ lw_all) (hyn : y.name = "<init>") (hst : st = .ref b :: rest) (hW : (rest.map fun v => v.category).sum ≤ 8) (hdg : decode cc pc = .ok (.invokespecial index, 3))
    (kk : ∀ (u : Nat → Nat → Nat) (H1 : Heap) (locs1 : List Loc), gH G A H0 H1 locs1 (ww ++ v1 u) → W p l e R s m args below meth c H1 locs1 (cells + mc) (slots + ms) Q (F0 m (pc + 3) ls rest)) : W p l e R s m args below meth c H locs cells slots Q (F0 m pc ls st) := by
  subst hst
  exact g_postN hA hH (va_runI (As := []) (g_fix X) hM ⟨callB_of 0 X.2.2.2.2.1 (gw_in C.2.1) rfl C.2.2.2.1 C.2.2.2.2.1 (X.2.2.2.2.1 _ C.1) (X.2.2.2.2.1 _ hl) C.2.2.1 C.2.2.2.2.2.1, hyn, X.2.2.2.2.1 _ hi⟩ (g_preN hO hK hH) rfl rfl hls.1 rfl (lv_room hW) hdg C.2.2.2.2.2.2) kk
end GNEW
theorem g_arr {args : Array Value} {s : State} {ty : FieldType} (h : (Cond.arrayClass ty).before args s = true) : ∃ c : ClassId, ArrOfT s c ty ∧ s.vm.findClass ("[" ++ ty.toString) = some c := by
  obtain ⟨c, k, comp, h1, h2, h3⟩ := Cond.arrayClass_spec h
  exact ⟨c, fun n z => ⟨fun k h => (by cases h), k, h2, comp, h3⟩, h1⟩
theorem g_arrO {args : Array Value} {s : State} {C : String} (h : (Cond.arrayOver (.object C)).before args s = true) : ∃ c : ClassId, ArrOfT s c (.object C) ∧ va_RA s c (.object C) := by
  obtain ⟨comp, c, k, h1, h2, h3, h4, h5⟩ := Cond.arrayOver_spec h
  exact ⟨c, fun n z => ⟨fun k h => (by cases h), k, h3, comp, h4⟩, k, comp, h3, h4, h1, h5⟩
