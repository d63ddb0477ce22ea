/-! ===== methods that answer a float ===== -/
abbrev gQf (G : gG) (r0 : UInt32) (w1 : va_W) (A : Nat → Prop) : Array Value → State → Outcome → State → Prop := va_Qf (fun (r : UInt32) (_ : Unit) => r = r0) (fun _ => gB G w1 A) A
def gF (l : Launch) (G : gG) (y : MethodName) (cc : ByteArray) (n : Nat) (rm : Room) (av : List Value) (sz : Nat) (ww : va_W) (r0 : UInt32) (w1 : va_W) : Prop :=
  Met l y (gw y cc n (some .float)) rm (gP G av sz ww) (gQf G r0 w1 (va_A ww sz)) 0 0 (va_A ww sz)
theorem gF_of {l : Launch} {G : gG} {y : MethodName} {cc : ByteArray} {n : Nat} {rm : Room} {av : List Value} {sz : Nat} {ww : va_W} {r0 : UInt32} {w1 : va_W} (hy : plainFor y = true) (hn : (lg_sl av).length ≤ n)
    (h : ∀ (p : Program) (e : Env) (s : State) (m : MethodId) (args : Array Value) (below : List Frame) (meth : Method) (c : Code) (ls : Array Slot) (A : Nat → Prop) (Q : State → Prop), gX p s m meth c cc n (some .float) y.cls args → gK G s → (∀ q : Nat, s.heap.size ≤ q → A q) → sz = s.heap.size → gH G A s.heap s.heap [] ww → lv_has ls n (lv_args 0 av) →
      (∀ (H : Heap) (locs : List Loc) (pc : Nat) (ls : Array Slot), gH G A s.heap H locs w1 → decode cc pc = .ok (.freturn, 1) → W p l e rm s m args below meth c H locs 0 0 Q (F0 m pc ls [.float r0])) →
      W p l e rm s m args below meth c s.heap [] 0 0 Q (F0 m 0 ls [])) : gF l G y cc n rm av sz ww r0 w1 :=
  g_start (Qc := fun A => gQf G r0 w1 A) hy hn (fun p e s m below meth c ls A X hK hA hsz hH hl => h p e s m av.toArray below meth c ls A _ X hK hA hsz hH hl (fun H locs pc ls hH hd => W.fret (v := r0) X.1 X.2.1 X.2.2.1 (fun t ht hW => ⟨⟨r0, (), rfl, rfl, by rw [ht]; exact hH.1, hH.2.1⟩, hH.2.2.F ht⟩) hH.2.2.2.2 hd X.2.2.2.2.2.2))
def gTf (l : Launch) (G : gG) (y : MethodName) (cc : ByteArray) (n : Nat) (rm : Room) (av : List Value) (sz : Nat) (ww : va_W) {ρ : Type} (o : Nat ⊕ ρ) (rf : ρ → UInt32) (w1 : ρ → Nat → va_W) : Prop :=
  vx_Met l y (gw y cc n (some .float)) rm (gPx G av sz ww) (gTQf G rf w1 (va_A ww sz) o) (gXC G ww (va_A ww sz) o) (tc o) (6 * tc o) (va_A ww sz)
theorem gTf_of {l : Launch} {G : gG} {y : MethodName} {cc : ByteArray} {n : Nat} {rm : Room} {av : List Value} {sz : Nat} {ww : va_W} {ρ : Type} {o : Nat ⊕ ρ} {rf : ρ → UInt32} {w1 : ρ → Nat → va_W} (hy : plainName y.cls = true) (hn : (lg_sl av).length ≤ n)
    (h : ∀ (p : Program) (e : Env) (s : State) (m : MethodId) (args : Array Value) (below : List Frame) (meth : Method) (c : Code) (ls : Array Slot) (A : Nat → Prop) (Q : State → Prop), gX p s m meth c cc n (some .float) y.cls args → gK G s → (∀ q : Nat, s.heap.size ≤ q → A q) → sz = s.heap.size → gH G A s.heap s.heap [] ww → lv_has ls n (lv_args 0 av) → gS s → gZ A s s.heap → (∀ x ∈ c.exceptionTable.toList, False) →
      Q = vx_MQ below (gTQf G rf w1 A o) (gXC G ww A o) args s (tc o) (6 * tc o) A →
      (∀ (x : ρ) (u : Nat) (H : Heap) (locs : List Loc) (pc : Nat) (ls : Array Slot), o = .inr x → gH G A s.heap H locs (w1 x u) → decode cc pc = .ok (.freturn, 1) → W p l e rm s m args below meth c H locs 0 0 Q (F0 m pc ls [.float (rf x)])) →
      W p l e rm s m args below meth c s.heap [] 0 0 Q (F0 m 0 ls [])) : gTf l G y cc n rm av sz ww o rf w1 :=
  g_startT (Qc := fun A => gTQf G rf w1 A o) (XC := fun A => gXC G ww A o) hy hn (fun p e s m below meth c ls A X hK hA hsz hH hl hS hZ hno => h p e s m av.toArray below meth c ls A _ X hK hA hsz hH hl hS hZ hno rfl (fun x u H locs pc ls ho hH hd => by
    refine W.widen (k := tc o) (n := 6 * tc o) (Nat.zero_le _) (Nat.zero_le _) ?_
    exact vx_ret (W.fret (v := rf x) X.1 X.2.1 X.2.2.1 (fun t ht hW => ⟨⟨_, (x, u), rfl, ⟨ho, rfl⟩, by rw [ht]; exact hH.1, hH.2.1⟩, hH.2.2.F ht⟩) hH.2.2.2.2 hd X.2.2.2.2.2.2)))
def lf_X8_ratio (i_this_replacedPlainSize : Int32) (i_this_replacedSize : Int32) : Option (Nat ⊕ (UInt32)) :=
(if i_this_replacedPlainSize = (0 : Int32) then some (Sum.inl 3) else (if (FP.fdiv (FP.i2f i_this_replacedSize) (FP.i2f i_this_replacedPlainSize)).toNat % 2147483648 ≤ 2139095040 then some (Sum.inr (FP.fdiv (FP.i2f i_this_replacedSize) (FP.i2f i_this_replacedPlainSize))) else none))
abbrev rm_X8_ratio (k : Nat) : Room := { frames := 6, cells := k, slots := 6 * k, locals := 98 }
theorem hd_X8_ratio : yX8_ratio.cls ≠ "java/lang/invoke/MethodHandle" ∧ yX8_ratio.cls ≠ "java/lang/invoke/VarHandle" ∧ (parseMethodDescriptor yX8_ratio.desc).map (fun d => d.parameters.length) = some 0 := by decide +kernel
set_option maxHeartbeats 4000000 in
set_option maxRecDepth 100000 in
theorem ct_X8_ratio (l : Launch) (G : gG) (h_this : Nat) (r_this : Nat → Nat) (i_this_layerCount i_this_hasDecoded i_this_codedCount i_this_codedWidth i_this_codedHeight i_this_replacedSize i_this_replacedPlainSize : Int32) (sz : Nat) (out : Nat ⊕ (UInt32)) (hf : lf_X8_ratio i_this_replacedPlainSize i_this_replacedSize = some out) (hst : l.stackTraces = false) : gTf l G yX8_ratio cX8_ratio 1 (rm_X8_ratio (tc out)) [.ref h_this] sz [(h_this, .inr (7, FX8 r_this i_this_layerCount i_this_hasDecoded i_this_codedCount i_this_codedWidth i_this_codedHeight i_this_replacedSize i_this_replacedPlainSize))] out (fun x => x) (fun x u => [(h_this, .inr (7, FX8 r_this i_this_layerCount i_this_hasDecoded i_this_codedCount i_this_codedWidth i_this_codedHeight i_this_replacedSize i_this_replacedPlainSize))]) := by
  refine gTf_of (by decide +kernel) (Nat.le_of_ble_eq_true rfl) ?_
  intro p e s m args below meth c ls A Q X hK hA hsz hH hl hS hZ hno hQ hE
  subst hsz
  have hx := X.1
  have hb := X.2.1
  unfold lf_X8_ratio at hf
  have hl : lv_has ls 1 [(0, .ref h_this)] := hl
  have hH : gH G A s.heap s.heap [] [(h_this, .inr (7, FX8 r_this i_this_layerCount i_this_hasDecoded i_this_codedCount i_this_codedWidth i_this_codedHeight i_this_replacedSize i_this_replacedPlainSize))] := hH
  refine lv_aload_n hx hb dX8_ratio_0 rfl (lv_at hl 0 rfl) ?_
  refine g_get (T := TX8) (N := 18) (ci := 7) (C := RX8) (v := .int i_this_replacedPlainSize) X hK hH in_RX8 0 rfl rfl 13 (by decide) q_225 (fun _ h9 => h9) rfl dX8_ratio_1 ?_
  refine lv_if_ne (tgt := 17) hx hb dX8_ratio_4 (by decide) (fun c1 => ?_) (fun c1 => ?_)
  · have hf := sneg hf c1
    refine lv_aload_n hx hb dX8_ratio_17 rfl (lv_at hl 0 rfl) ?_
    refine g_get (T := TX8) (N := 18) (ci := 7) (C := RX8) (v := .int i_this_replacedSize) X hK hH in_RX8 0 rfl rfl 12 (by decide) q_224 (fun _ h9 => h9) rfl dX8_ratio_18 ?_
    refine lv_i2f hx hb dX8_ratio_21 ?_
    refine lv_aload_n hx hb dX8_ratio_22 rfl (lv_at hl 0 rfl) ?_
    refine g_get (T := TX8) (N := 18) (ci := 7) (C := RX8) (v := .int i_this_replacedPlainSize) X hK hH in_RX8 0 rfl rfl 13 (by decide) q_225 (fun _ h9 => h9) rfl dX8_ratio_23 ?_
    refine lv_i2f hx hb dX8_ratio_26 ?_
    obtain ⟨gd, hf⟩ := sgrd hf
    refine lv_fdiv hx hb dX8_ratio_27 (vf32_of gd) ?_
    obtain rfl := Option.some.inj hf
    exact hE (FP.fdiv (FP.i2f i_this_replacedSize) (FP.i2f i_this_replacedPlainSize)) 0 _ _ _ _ rfl hH dX8_ratio_28
  · have hf := spos hf c1
    obtain rfl := Option.some.inj hf
    rw [hQ]
    exact g_throw X hst hK hS hZ hH hl hno 3 atG3 q_672 (List.mem_of_getElem? (i := 15) rfl) dX8_ratio_7 dX8_ratio_10 dX8_ratio_11 dX8_ratio_13 dX8_ratio_16 ⟨Nat.le_of_ble_eq_true rfl, Nat.le_of_ble_eq_true rfl⟩ ⟨Nat.le_of_ble_eq_true rfl, Nat.le_of_ble_eq_true rfl⟩
