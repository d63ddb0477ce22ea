theorem g_fm {ww w2 : va_W} {is : List Nat} (h : is.map (fun i => ww[i]?) = w2.map some) : is.filterMap (fun i => ww[i]?) = w2 := by
  have e : is.filterMap (fun i => ww[i]?) = (is.map (fun i => ww[i]?)).filterMap id := by rw [List.filterMap_map]; rfl
  rw [e, h, List.filterMap_map]
  simp
theorem gH.sub {G : gG} {A : Nat → Prop} {H0 H : Heap} {locs : List Loc} {ww : va_W} (h : gH G A H0 H locs ww) {w2 : va_W} (is : List Nat) (hn : va_nd is = true) (hs : is.map (fun i => ww[i]?) = w2.map some) : gH G A H0 H locs w2 :=
  ⟨h.1.sub is (g_fm hs), h.2.1.sub is hn hs, h.2.2⟩
/-- how a callee's world lies in the caller's, and how the caller's is put together behind it -/
def gJ (ww wc w1 w2 : va_W) (isC isR isP : List Nat) (wr : va_W) : Prop := isC.map (fun i => ww[i]?) = wc.map some ∧ isR.map (fun i => ww[i]?) = wr.map some ∧ va_nd isC = true ∧ va_nd isR = true ∧ (∀ i ∈ isR, i ∉ isC) ∧ isP.map (fun i => (wr ++ w1)[i]?) = w2.map some ∧ va_nd isP = true
section GCALLS
variable {p : Program} {l : Launch} {e : Env} {R : Room} {s : State} {m : MethodId} {args : Array Value} {below : List Frame} {meth : Method} {c : Code} {H : Heap} {locs : List Loc} {cells slots : Nat} {Q : State → Prop}
variable {G : gG} {A : Nat → Prop} {H0 : Heap} {ww wc wr w1 w2 : va_W} {cc : ByteArray} {nL : Nat} {ret : Option FieldType} {own : String} {pc : Nat} {ls : Array Slot} {rest st : List Value} {lv : List (Nat × Value)}
theorem g_join (hA : ∀ q : Nat, H0.size ≤ q → A q) (hH : gH G A H0 H locs ww) {isC isR isP : List Nat} (J : gJ ww wc w1 w2 isC isR isP wr) {t : State} {H1 : Heap} {locs1 : List Loc} (ht : t.heap = H1) (hB : gB G w1 (va_A wc H.size) t) (hk : ∀ q : Nat, q < H.size → ¬ va_A wc H.size q → H1[q]? = H[q]?) (hS : va_S A H0 H1 locs1) : gH G A H0 H1 locs1 w2 := by
  obtain ⟨hC, hR, -, hn, hdis, hP2, hn2⟩ := J
  obtain ⟨hP1, hD1⟩ := hB
  rw [ht] at hP1
  obtain ⟨hP, hD⟩ := va_join hH.1 hH.2.1 isC isR hC hR hn hdis hk (va_free hH.2.1 hH.2.2 hA isC hC) hP1 hD1
  exact gH.sub (ww := wr ++ w1) ⟨hP, hD, hS⟩ isP hn2 hP2
theorem g_post_i {av : Array Value} {r0 : Int32} (hA : ∀ q : Nat, H0.size ≤ q → A q) (hH : gH G A H0 H locs ww) {isC isR isP : List Nat} (J : gJ ww wc w1 w2 isC isR isP wr)
    (hr : va_Run p l e R s m args below meth c H locs cells slots 0 0 (F0 m pc ls st) rest (gQi G r0 w1 (va_A wc H.size) av) (va_A wc H.size))
    (kk : ∀ (H1 : Heap) (locs1 : List Loc), gH G A H0 H1 locs1 w2 → W p l e R s m args below meth c H1 locs1 cells slots Q (F0 m (pc + 3) ls (.int r0 :: rest))) : W p l e R s m args below meth c H locs cells slots Q (F0 m pc ls st) := by
  have hF := va_free hH.2.1 hH.2.2 hA isC J.1
  refine va_calli hr hH.2.2 (fun q _ h => hF q h) hF (fun r u t H1 locs1 ht hvm hw hB hz1 hk1 hS => ?_)
  have hw : r = r0 := hw
  subst hw
  exact kk H1 locs1 (g_join hA hH J ht hB hk1 hS)
theorem g_post_v {av : Array Value} (hA : ∀ q : Nat, H0.size ≤ q → A q) (hH : gH G A H0 H locs ww) {isC isR isP : List Nat} (J : gJ ww wc w1 w2 isC isR isP wr)
    (hr : va_Run p l e R s m args below meth c H locs cells slots 0 0 (F0 m pc ls st) rest (gQv G w1 (va_A wc H.size) av) (va_A wc H.size))
    (kk : ∀ (H1 : Heap) (locs1 : List Loc), gH G A H0 H1 locs1 w2 → W p l e R s m args below meth c H1 locs1 cells slots Q (F0 m (pc + 3) ls rest)) : W p l e R s m args below meth c H locs cells slots Q (F0 m pc ls st) := by
  have hF := va_free hH.2.1 hH.2.2 hA isC J.1
  exact va_callv hr hH.2.2 (fun q _ h => hF q h) hF (fun u t H1 locs1 ht hvm hw hB hz1 hk1 hS => kk H1 locs1 (g_join hA hH J ht hB hk1 hS))
theorem g_pre (hK : gK G s) (hA : ∀ q : Nat, H0.size ≤ q → A q) (hH : gH G A H0 H locs ww) {isC isR isP : List Nat} (J : gJ ww wc w1 w2 isC isR isP wr) {av : List Value} : PreS s H (gP G av H.size wc) av :=
  ⟨gP_blind, fun U hU hW => ⟨rfl, by rw [hU], by rw [hU]; exact hH.1.sub isC (g_fm J.1), hK.warm hW, (hH.2.1.sub isC J.2.2.1 J.1).weaken (fun _ _ _ _ => trivial)⟩⟩
/-- what a call asks of the tables: in the lists of words -/
def gCl (rm : Room) (R : Room) (cells slots : Nat) (y : MethodName) (yc : ByteArray) (yn : Nat) (r : Option FieldType) (n : Nat) : Prop :=
  Cond.initialized y.cls ∈ lw_all ∧ Cond.code y yc yn r ∈ lw_all ∧ (y.cls ≠ "java/lang/invoke/MethodHandle" ∧ y.cls ≠ "java/lang/invoke/VarHandle" ∧ (parseMethodDescriptor y.desc).map (fun d => d.parameters.length) = some n) ∧ rm.cells = 0 ∧ rm.slots = 0 ∧ (rm.frames + 1 ≤ R.frames ∧ 8 + (yn + 11) + rm.locals ≤ R.locals) ∧ (cells + 0 ≤ R.cells ∧ slots + 0 ≤ R.slots)
theorem g_fix (X : gX p s m meth c cc nL ret own args) : CallFix p m c cc nL s args lw_all own := ⟨X.1, X.2.1, X.2.2.2.1, X.2.2.2.2.2.1, X.2.2.2.2.1⟩
theorem g_cb {rm : Room} {y : MethodName} {yc : ByteArray} {yn n index : Nat} {r : Option FieldType} (X : gX p s m meth c cc nL ret own args) (C : gCl rm R cells slots y yc yn r n) (hl : Cond.methodLink own index y ∈ lw_all) : CallB R s args own index y yc yn r (gw y yc yn r) rm 0 0 n :=
  callB_of n X.2.2.2.2.1 (gw_in C.2.1) rfl C.2.2.2.1 C.2.2.2.2.1 (X.2.2.2.2.1 _ C.1) (X.2.2.2.2.1 _ hl) C.2.2.1 C.2.2.2.2.2.1
theorem g_cn {rm : Room} {y : MethodName} {yc : ByteArray} {yn n index : Nat} {r : Option FieldType} {host : String} (X : gX p s m meth c cc nL ret own args) (hK : gK G s) (C : gCl rm R cells slots y yc yn r n) (hl : Cond.methodLinkNest own index y host ∈ lw_nest) : va_CN R s args own index y host yc yn r (gw y yc yn r) rm 0 0 n :=
  va_cnB n X.2.2.2.2.1 (gw_in C.2.1) rfl C.2.2.2.1 C.2.2.2.2.1 (hK.2 _ hl) (X.2.2.2.2.1 _ C.1) C.2.2.1 C.2.2.2.2.2.1
variable {rm : Room} {y : MethodName} {yc : ByteArray} {yn n index b : Nat} {ty : FieldType} {As : List Value} {r0 : Int32} {isC isR isP : List Nat} {host : String} {T : u_T} {N ci q0 : Nat} {fs : List Value}
theorem g_cVi (X : gX p s m meth c cc nL ret own args) (hK : gK G s) (hA : ∀ q : Nat, H0.size ≤ q → A q) (hH : gH G A H0 H locs ww) (hls : lv_has ls nL lv) (hM : gI l G y yc yn ty rm (.ref b :: As) H.size wc r0 w1) (C : gCl rm R cells slots y yc yn (some ty) n) (hl : Cond.methodLink own index y ∈ lw_all) (hi : Cond.instanceMethod y ∈ lw_all) {Cr : String} (hs : Cond.selects Cr y y ∈ lw_all)
    (he : ww[q0]? = some (b, .inr (ci, fs))) (hc : vwCl[ci]? = some (Cr, T, N)) (J : gJ ww wc w1 w2 isC isR isP wr) (hn : As.length = n) (hst : st = As.reverse ++ .ref b :: rest) (hW : (rest.map fun v => v.category).sum ≤ 8) (hdg : decode cc pc = .ok (.invokevirtual index, 3))
    (kk : ∀ (H1 : Heap) (locs1 : List Loc), gH G A H0 H1 locs1 w2 → W p l e R s m args below meth c H1 locs1 cells slots Q (F0 m (pc + 3) ls (.int r0 :: rest))) : W p l e R s m args below meth c H locs cells slots Q (F0 m pc ls st) := by
  subst hst
  exact g_post_i hA hH J (va_runV (g_fix X) hM ⟨g_cb X C hl, X.2.2.2.2.1 _ hi, X.2.2.2.2.1 _ hs⟩ ⟨gP_blind, va_recv hK.1 hH.1 hc he, (g_pre hK hA hH J).2⟩ rfl hn hls.1 rfl (lv_room hW) hdg C.2.2.2.2.2.2) kk
theorem g_cVv (X : gX p s m meth c cc nL ret own args) (hK : gK G s) (hA : ∀ q : Nat, H0.size ≤ q → A q) (hH : gH G A H0 H locs ww) (hls : lv_has ls nL lv) (hM : gV l G y yc yn rm (.ref b :: As) H.size wc w1) (C : gCl rm R cells slots y yc yn none n) (hl : Cond.methodLink own index y ∈ lw_all) (hi : Cond.instanceMethod y ∈ lw_all) {Cr : String} (hs : Cond.selects Cr y y ∈ lw_all)
    (he : ww[q0]? = some (b, .inr (ci, fs))) (hc : vwCl[ci]? = some (Cr, T, N)) (J : gJ ww wc w1 w2 isC isR isP wr) (hn : As.length = n) (hst : st = As.reverse ++ .ref b :: rest) (hW : (rest.map fun v => v.category).sum ≤ 8) (hdg : decode cc pc = .ok (.invokevirtual index, 3))
    (kk : ∀ (H1 : Heap) (locs1 : List Loc), gH G A H0 H1 locs1 w2 → W p l e R s m args below meth c H1 locs1 cells slots Q (F0 m (pc + 3) ls rest)) : W p l e R s m args below meth c H locs cells slots Q (F0 m pc ls st) := by
  subst hst
  exact g_post_v hA hH J (va_runV (g_fix X) hM ⟨g_cb X C hl, X.2.2.2.2.1 _ hi, X.2.2.2.2.1 _ hs⟩ ⟨gP_blind, va_recv hK.1 hH.1 hc he, (g_pre hK hA hH J).2⟩ rfl hn hls.1 rfl (lv_room hW) hdg C.2.2.2.2.2.2) kk
theorem g_cSi (X : gX p s m meth c cc nL ret own args) (hK : gK G s) (hA : ∀ q : Nat, H0.size ≤ q → A q) (hH : gH G A H0 H locs ww) (hls : lv_has ls nL lv) (hM : gI l G y yc yn ty rm As H.size wc r0 w1) (C : gCl rm R cells slots y yc yn (some ty) n) (hl : Cond.methodLink own index y ∈ lw_all) (hi : Cond.static y ∈ lw_all)
    (J : gJ ww wc w1 w2 isC isR isP wr) (hn : As.length = n) (hst : st = As.reverse ++ rest) (hW : (rest.map fun v => v.category).sum ≤ 8) (hdg : decode cc pc = .ok (.invokestatic index, 3))
    (kk : ∀ (H1 : Heap) (locs1 : List Loc), gH G A H0 H1 locs1 w2 → W p l e R s m args below meth c H1 locs1 cells slots Q (F0 m (pc + 3) ls (.int r0 :: rest))) : W p l e R s m args below meth c H locs cells slots Q (F0 m pc ls st) := by
  subst hst
  exact g_post_i hA hH J (va_runS (g_fix X) hM ⟨g_cb X C hl, X.2.2.2.2.1 _ hi⟩ (g_pre hK hA hH J) rfl hn hls.1 rfl (lv_room hW) hdg C.2.2.2.2.2.2) kk
theorem g_cSv (X : gX p s m meth c cc nL ret own args) (hK : gK G s) (hA : ∀ q : Nat, H0.size ≤ q → A q) (hH : gH G A H0 H locs ww) (hls : lv_has ls nL lv) (hM : gV l G y yc yn rm As H.size wc w1) (C : gCl rm R cells slots y yc yn none n) (hl : Cond.methodLink own index y ∈ lw_all) (hi : Cond.static y ∈ lw_all)
    (J : gJ ww wc w1 w2 isC isR isP wr) (hn : As.length = n) (hst : st = As.reverse ++ rest) (hW : (rest.map fun v => v.category).sum ≤ 8) (hdg : decode cc pc = .ok (.invokestatic index, 3))
    (kk : ∀ (H1 : Heap) (locs1 : List Loc), gH G A H0 H1 locs1 w2 → W p l e R s m args below meth c H1 locs1 cells slots Q (F0 m (pc + 3) ls rest)) : W p l e R s m args below meth c H locs cells slots Q (F0 m pc ls st) := by
  subst hst
  exact g_post_v hA hH J (va_runS (g_fix X) hM ⟨g_cb X C hl, X.2.2.2.2.1 _ hi⟩ (g_pre hK hA hH J) rfl hn hls.1 rfl (lv_room hW) hdg C.2.2.2.2.2.2) kk
theorem g_cSNi (X : gX p s m meth c cc nL ret own args) (hK : gK G s) (hA : ∀ q : Nat, H0.size ≤ q → A q) (hH : gH G A H0 H locs ww) (hls : lv_has ls nL lv) (hM : gI l G y yc yn ty rm As H.size wc r0 w1) (C : gCl rm R cells slots y yc yn (some ty) n) (hl : Cond.methodLinkNest own index y host ∈ lw_nest) (hi : Cond.static y ∈ lw_all)
    (J : gJ ww wc w1 w2 isC isR isP wr) (hn : As.length = n) (hst : st = As.reverse ++ rest) (hW : (rest.map fun v => v.category).sum ≤ 8) (hdg : decode cc pc = .ok (.invokestatic index, 3))
    (kk : ∀ (H1 : Heap) (locs1 : List Loc), gH G A H0 H1 locs1 w2 → W p l e R s m args below meth c H1 locs1 cells slots Q (F0 m (pc + 3) ls (.int r0 :: rest))) : W p l e R s m args below meth c H locs cells slots Q (F0 m pc ls st) := by
  subst hst
  exact g_post_i hA hH J (va_runSN (g_fix X) hM ⟨g_cn X hK C hl, X.2.2.2.2.1 _ hi, trivial⟩ (g_pre hK hA hH J) rfl hn hls.1 rfl (lv_room hW) hdg C.2.2.2.2.2.2) kk
theorem g_cu {Cr owner : String} {x : MethodName} (X : gX p s m meth c cc nL ret own args) (hK : gK G s) {r : Option FieldType} (C : gCl rm R cells slots y yc yn r n) (hl : Cond.methodLink own index x ∈ lw_all) (hsm : Cond.sameMethod x.cls owner x.name x.desc ∈ lw_all) (hs : Cond.selects Cr x y ∈ lw_all) (hi : Cond.instanceMethod y ∈ lw_all)
    (hz : y = ⟨owner, x.name, x.desc⟩ ∨ Cond.declares ⟨owner, x.name, x.desc⟩ ∈ lw_nest) (hd : owner ≠ "java/lang/invoke/MethodHandle" ∧ owner ≠ "java/lang/invoke/VarHandle" ∧ (parseMethodDescriptor x.desc).map (fun d => d.parameters.length) = some n) : va_CU R s args own Cr owner index x y yc yn r (gw y yc yn r) rm 0 0 n := by
  have hT : GoodIn lw_all (va_wsU own index Cr owner x y (gw y yc yn r)) := by
    intro w hw
    rcases List.mem_append.mp hw with h | h
    · simp only [List.mem_cons, List.not_mem_nil, or_false] at h
      rcases h with rfl | rfl | rfl | rfl | rfl
      · exact lw_gd hl
      · exact lw_gd hsm
      · exact lw_gd hs
      · exact lw_gd hi
      · exact lw_gd C.1
    · exact gw_in C.2.1 w h
  rcases hz with hz | hz
  · exact va_cwU n X.2.2.2.2.1 hT rfl C.2.2.2.1 C.2.2.2.2.1 hz hd C.2.2.2.2.2.1
  · exact va_cwA n X.2.2.2.2.1 hT rfl C.2.2.2.1 C.2.2.2.2.1 (hK.2 _ hz) hd C.2.2.2.2.2.1
theorem g_cUi {Cr owner : String} {x : MethodName} (X : gX p s m meth c cc nL ret own args) (hK : gK G s) (hA : ∀ q : Nat, H0.size ≤ q → A q) (hH : gH G A H0 H locs ww) (hls : lv_has ls nL lv) (hM : gI l G y yc yn ty rm (.ref b :: As) H.size wc r0 w1) (C : gCl rm R cells slots y yc yn (some ty) n) (hl : Cond.methodLink own index x ∈ lw_all) (hsm : Cond.sameMethod x.cls owner x.name x.desc ∈ lw_all) (hs : Cond.selects Cr x y ∈ lw_all) (hi : Cond.instanceMethod y ∈ lw_all)
    (hz : y = ⟨owner, x.name, x.desc⟩ ∨ Cond.declares ⟨owner, x.name, x.desc⟩ ∈ lw_nest) (hd : owner ≠ "java/lang/invoke/MethodHandle" ∧ owner ≠ "java/lang/invoke/VarHandle" ∧ (parseMethodDescriptor x.desc).map (fun d => d.parameters.length) = some n)
    (he : ww[q0]? = some (b, .inr (ci, fs))) (hc : vwCl[ci]? = some (Cr, T, N)) (J : gJ ww wc w1 w2 isC isR isP wr) (hn : As.length = n) (hst : st = As.reverse ++ .ref b :: rest) (hW : (rest.map fun v => v.category).sum ≤ 8) (hdg : decode cc pc = .ok (.invokevirtual index, 3))
    (kk : ∀ (H1 : Heap) (locs1 : List Loc), gH G A H0 H1 locs1 w2 → W p l e R s m args below meth c H1 locs1 cells slots Q (F0 m (pc + 3) ls (.int r0 :: rest))) : W p l e R s m args below meth c H locs cells slots Q (F0 m pc ls st) := by
  subst hst
  exact g_post_i hA hH J (va_runU (g_fix X) hM (g_cu X hK C hl hsm hs hi hz hd) ⟨gP_blind, va_recv hK.1 hH.1 hc he, (g_pre hK hA hH J).2⟩ rfl hn hls.1 rfl (lv_room hW) hdg C.2.2.2.2.2.2) kk
theorem g_cUv {Cr owner : String} {x : MethodName} (X : gX p s m meth c cc nL ret own args) (hK : gK G s) (hA : ∀ q : Nat, H0.size ≤ q → A q) (hH : gH G A H0 H locs ww) (hls : lv_has ls nL lv) (hM : gV l G y yc yn rm (.ref b :: As) H.size wc w1) (C : gCl rm R cells slots y yc yn none n) (hl : Cond.methodLink own index x ∈ lw_all) (hsm : Cond.sameMethod x.cls owner x.name x.desc ∈ lw_all) (hs : Cond.selects Cr x y ∈ lw_all) (hi : Cond.instanceMethod y ∈ lw_all)
    (hz : y = ⟨owner, x.name, x.desc⟩ ∨ Cond.declares ⟨owner, x.name, x.desc⟩ ∈ lw_nest) (hd : owner ≠ "java/lang/invoke/MethodHandle" ∧ owner ≠ "java/lang/invoke/VarHandle" ∧ (parseMethodDescriptor x.desc).map (fun d => d.parameters.length) = some n)
    (he : ww[q0]? = some (b, .inr (ci, fs))) (hc : vwCl[ci]? = some (Cr, T, N)) (J : gJ ww wc w1 w2 isC isR isP wr) (hn : As.length = n) (hst : st = As.reverse ++ .ref b :: rest) (hW : (rest.map fun v => v.category).sum ≤ 8) (hdg : decode cc pc = .ok (.invokevirtual index, 3))
    (kk : ∀ (H1 : Heap) (locs1 : List Loc), gH G A H0 H1 locs1 w2 → W p l e R s m args below meth c H1 locs1 cells slots Q (F0 m (pc + 3) ls rest)) : W p l e R s m args below meth c H locs cells slots Q (F0 m pc ls st) := by
  subst hst
  exact g_post_v hA hH J (va_runU (g_fix X) hM (g_cu X hK C hl hsm hs hi hz hd) ⟨gP_blind, va_recv hK.1 hH.1 hc he, (g_pre hK hA hH J).2⟩ rfl hn hls.1 rfl (lv_room hW) hdg C.2.2.2.2.2.2) kk
end GCALLS
