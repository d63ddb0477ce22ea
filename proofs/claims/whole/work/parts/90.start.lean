/-! THE CLAIM OUT OF ONE WALK OF THE LAW'S BODY. Your part is whole_start (and what it stands on); all else here is the same for every law, but numbers. -/
def R_law : String := "PixelPressLaw"
def lw_P (b : Addr) (xs : List Int32) (args : Array Value) (s : State) : Prop := args = #[.ref b] ∧ s.IntsAt b xs ∧ xs.length ≤ 3072 ∧ (Jvm.Cond.and given_1 narrow_1).before args s = true
/-- what a walk over the start with the record d0 says of its end, said of the start itself -/
theorem lw_closed {s t : State} {o : Outcome} {d0 : Drawn} {L : List Loc} {k n : Nat} (hd0 : s.drawn.sameBut d0 lw_cs) (hv : ∃ v, o = .returned v) (hW : (s.setDrawn d0).WarmedH t.vm) (hs : (s.setDrawn d0).sameButNew ({ t with vm := s.vm } : State) L k n) : State.butDraws s t lw_cs (fun t1 => Framed s o t1 L k n) := by
  have h2 : t.drawn = d0 := congrArg State.drawn hs.1
  refine ⟨⟨hv, hW, State.sameButNew.setDrawn hs s.drawn⟩, ?_, by decide⟩
  rw [h2]
  exact hd0
def lw_Q (_ : Array Value) (s : State) (o : Outcome) (t : State) : Prop := o = .returned (some (.int 1)) ∧ State.butDraws s t lw_cs (fun t1 => Framed s o t1 [] 601024 7293034)
def lw_Z (below : List Frame) (a : Array Value) (s : State) : State → Prop := fun t => ∃ o, t.status = .running ∧ Ended t below o ∧ lw_Q a s o t
/-- the law's own end, with 1 on the stack, nothing written that was there before, its room as the claim has it; d0: the record of draws at this point (at the entry s.drawn: begin with 'refine W.base ?_' and 'have hd0 := Drawn.sameBut.refl s.drawn lw_cs') -/
theorem lw_ret {p : Program} {l : Launch} {e : Env} {s : State} {m : MethodId} {below : List Frame} {meth : Method} {c : Code} {b : Nat} {d0 : Drawn} (hd0 : s.drawn.sameBut d0 lw_cs) (hx : p.tables.exec = Jvm.exec) (hb : c.code = code) (hr : meth.sig.returnType = ret) (hlocks : meth.locks = false) {pc : Nat} {H : Heap} {ls : Array Slot} (hdg : decode code pc = .ok (.ireturn, 1)) : W p l e room_1 (s.setDrawn d0) m #[Value.ref b] below meth c H [] 601024 7293034 (lw_Z below #[Value.ref b] s) (F0 m pc ls [.int 1]) := by
  intro T hT X
  obtain ⟨fs, hret, hrun, hended, hW, hframe⟩ := X.leave (v := some (.int 1)) (hlocks := hlocks) (fun h => by rw [hr] at h; cases h)
  have hmeth' : T.vm.method? m = some meth := X.method'
  refine ⟨T.setFrames fs, ?_, .returned (some (.int 1)), hrun, hended, rfl, lw_closed hd0 ⟨_, rfl⟩ hW hframe⟩
  jvm_step X.here [X.here.top, hx, hb, hdg, hmeth', hr, ret, narrow_b1]
  (try refine ⟨rfl, ?_⟩); (try refine ⟨rfl, ?_⟩)
  first | (intro acts; rw [hret _ acts rfl rfl rfl]) | rw [hret _ _ rfl rfl rfl]
  exact Steps.refl _
/-- what holds at the law's entry: the machine, the code, the tables' words (any of lw_tbl by 'hts w (by decide +kernel)'), the script of L ints xs at the cell b, what the Statement gives of the start (any of its parts by flat_of_before) -/
def lw_At (p : Program) (s : State) (m : MethodId) (meth : Method) (c : Code) (b L : Nat) (xs : Nat → Int32) : Prop :=
  p.tables.exec = Jvm.exec ∧ c.code = code ∧ meth.sig.returnType = ret ∧ c.maxLocals = 8 ∧ s.vm.findClass R_law = some m.cls ∧ (∀ w ∈ lw_tbl, w.before #[Value.ref b] s = true) ∧ va_X b L xs s s.heap ∧ b < s.heap.size ∧ meth.locks = false ∧ (Jvm.Cond.and given_1 narrow_1).before #[Value.ref b] s = true
/-! ===== the start ===== -/
theorem lw_strs_x : ∀ q ∈ lw_strs, Cond.stringRef RX8 q.1 q.2 ∈ lw_tbl := by decide +kernel
theorem g_clJ {G : gG} {E : gE} {s : State} {cA : ClassId} (hL : gKL G E s) (hK : va_K G.1 vwCl (gT G ++ [(cA, .long)]) s) : cA = E.1 := by
  have h1 := (hL.2 0 (E.1, .long) rfl).2
  have h2 := (hK.2 3 (cA, .long) rfl).2
  exact Option.some.inj (h2.symm.trans h1)
theorem g_clD {G : gG} {E : gE} {s : State} {cA : ClassId} (hL : gKL G E s) (hK : va_K G.1 vwCl (gT G ++ [(cA, .double)]) s) : cA = E.2 := by
  have h1 := (hL.2 1 (E.2, .double) rfl).2
  have h2 := (hK.2 3 (cA, .double) rfl).2
  exact Option.some.inj (h2.symm.trans h1)
section GNEWJ
variable {p : Program} {l : Launch} {e : Env} {R : Room} {s : State} {m : MethodId} {args : Array Value} {below : List Frame} {meth : Method} {c : Code} {H : Heap} {locs : List Loc} {cells slots : Nat} {Q : State → Prop}
variable {G : gG} {E : gE} {A : Nat → Prop} {H0 : Heap} {ww : va_W} {cc : ByteArray} {nL : Nat} {ret : Option FieldType} {own : String} {pc : Nat} {ls : Array Slot} {rest : List Value}
theorem g_newJ (X : gX p s m meth c cc nL ret own args) (hK : gK G s) (hL : gKL G E s) (hA : ∀ q : Nat, H0.size ≤ q → A q) (hH : gH G A H0 H locs ww) {v : Int32} {N : Nat} (hn : ¬ v < 0) (hN : v.toNatClampNeg = N) (hby : N * 8 ≤ 536870912) (hc : cells + 1 ≤ R.cells) (hs : slots + N ≤ R.slots) (hdg : decode cc pc = .ok (.newarray .long, 2))
    (kk : ∀ (q : Nat) (H1 : Heap), gH G A H0 H1 locs (ww ++ [(q, gJl E N (fun _ => 0))]) → W p l e R s m args below meth c H1 locs (cells + 1) (slots + N) Q (F0 m (pc + 2) ls (.ref q :: rest))) : W p l e R s m args below meth c H locs cells slots Q (F0 m pc ls (.int v :: rest)) := by
  refine va_newa (atype := .long) (ty := .long) (a0 := (N, .inr (.inl (fun _ => 0)))) X.1 X.2.1 (X.2.2.2.2.1 _ q_1351) rfl hK.1 hH.1 hH.2.1 hH.2.2 hA (fun cA => rfl) hn hN hby hc hs hdg (fun q cA H1 hK' hP hD hS => ?_)
  have e := g_clJ hL hK'
  subst e
  exact kk q H1 ⟨hP, hD, hS⟩
theorem g_newD (X : gX p s m meth c cc nL ret own args) (hK : gK G s) (hL : gKL G E s) (hA : ∀ q : Nat, H0.size ≤ q → A q) (hH : gH G A H0 H locs ww) {v : Int32} {N : Nat} (hn : ¬ v < 0) (hN : v.toNatClampNeg = N) (hby : N * 8 ≤ 536870912) (hc : cells + 1 ≤ R.cells) (hs : slots + N ≤ R.slots) (hdg : decode cc pc = .ok (.newarray .double, 2))
    (kk : ∀ (q : Nat) (H1 : Heap), gH G A H0 H1 locs (ww ++ [(q, gJd E N (fun _ => 0))]) → W p l e R s m args below meth c H1 locs (cells + 1) (slots + N) Q (F0 m (pc + 2) ls (.ref q :: rest))) : W p l e R s m args below meth c H locs cells slots Q (F0 m pc ls (.int v :: rest)) := by
  refine va_newa (atype := .double) (ty := .double) (a0 := (N, .inr (.inr (.inr (.inl (fun _ => 0)))))) X.1 X.2.1 (X.2.2.2.2.1 _ q_1352) rfl hK.1 hH.1 hH.2.1 hH.2.2 hA (fun cA => rfl) hn hN hby hc hs hdg (fun q cA H1 hK' hP hD hS => ?_)
  have e := g_clD hL hK'
  subst e
  exact kk q H1 ⟨hP, hD, hS⟩
end GNEWJ
/-- what the tables and the start give: the classes -/
theorem st_K {args : Array Value} {s : State} (hts : ∀ w ∈ lw_tbl, w.before args s = true) : ∃ (G : gG) (E : gE), gK G s ∧ gKL G E s := by
  have hall := lw_all_ok hts
  obtain ⟨c1, i1, hk1⟩ := u_known (C := RX1) (T := TX1) (N := 8) (n := 8) hall in_RX1 (hall _ q_178)
  obtain ⟨c2, i2, hk2⟩ := u_known (C := RX2) (T := TX2) (N := 7) (n := 7) hall in_RX2 (hall _ q_143)
  obtain ⟨c3, i3, hk3⟩ := u_known (C := RX3) (T := TX3) (N := 2) (n := 2) hall in_RX3 (hall _ q_49)
  obtain ⟨c4, i4, hk4⟩ := u_known (C := RX4) (T := TX4) (N := 10) (n := 10) hall in_RX4 (hall _ q_65)
  obtain ⟨c5, i5, hk5⟩ := u_known (C := RX5) (T := TX5) (N := 3) (n := 3) hall in_RX5 (hall _ q_30)
  obtain ⟨c6, i6, hk6⟩ := u_known (C := RX6) (T := TX6) (N := 4) (n := 4) hall in_RX6 (hall _ q_71)
  obtain ⟨c7, i7, hk7⟩ := u_known (C := RX7) (T := TX7) (N := 2) (n := 2) hall in_RX7 (hall _ q_91)
  obtain ⟨c8, i8, hk8⟩ := u_known (C := RX8) (T := TX8) (N := 18) (n := 18) hall in_RX8 (hall _ q_22)
  obtain ⟨c9, i9, hk9⟩ := u_known (C := RX9) (T := TX9) (N := 42) (n := 42) hall in_RX9 (hall _ q_926)
  obtain ⟨cI, aI, rI⟩ := g_arr (hall _ q_47)
  obtain ⟨cC, aC, rC⟩ := g_arr (hall _ q_89)
  obtain ⟨cJ, aJ, rJ⟩ := g_arr (hall _ q_1351)
  obtain ⟨cD, aD, rD⟩ := g_arr (hall _ q_1352)
  obtain ⟨cO, aO, rO⟩ := g_arrO (C := RX4) (hts (.arrayOver (.object RX4)) (List.mem_of_getElem? (i := 129) (by decide +kernel)))
  have hKc : ∀ (k : Nat) (q : vw_C), vwCl[k]? = some q → u_Kn s q.1 q.2.1 q.2.2 ((fun k => [c1, c2, c3, c4, c5, c6, c7, c8, c9].getD k c1) k) ((fun k => [i1, i2, i3, i4, i5, i6, i7, i8, i9].getD k i1) k) := by
    intro k q hq
    match k, hq with
    | 0, hq => cases hq; exact hk1
    | 1, hq => cases hq; exact hk2
    | 2, hq => cases hq; exact hk3
    | 3, hq => cases hq; exact hk4
    | 4, hq => cases hq; exact hk5
    | 5, hq => cases hq; exact hk6
    | 6, hq => cases hq; exact hk7
    | 7, hq => cases hq; exact hk8
    | 8, hq => cases hq; exact hk9
    | k + 9, hq => simp [vwCl] at hq
  refine ⟨((fun k => [c1, c2, c3, c4, c5, c6, c7, c8, c9].getD k c1, fun k => [i1, i2, i3, i4, i5, i6, i7, i8, i9].getD k i1), cI, cC, cO), (cJ, cD), ⟨⟨hKc, fun k q hq => ?_⟩, fun w hw => va_tabs (lw_nest_on hw) rfl (hts w (List.mem_filter.mp hw).1)⟩, hKc, fun k q hq => ?_⟩
  · match k, hq with
    | 0, hq => cases hq; exact ⟨aI, rI⟩
    | 1, hq => cases hq; exact ⟨aC, rC⟩
    | 2, hq => cases hq; exact ⟨aO, rO⟩
    | k + 3, hq => simp at hq
  · match k, hq with
    | 0, hq => cases hq; exact ⟨aJ, rJ⟩
    | 1, hq => cases hq; exact ⟨aD, rD⟩
    | k + 2, hq => simp at hq
/-- and the rest of it -/
theorem st_R {b : Nat} {s : State} {A : Nat → Prop} (hts : ∀ w ∈ lw_tbl, w.before #[Value.ref b] s = true) (hgv : (Jvm.Cond.and given_1 narrow_1).before #[Value.ref b] s = true) (hA : ∀ a : Nat, a < s.heap.size → ¬ A a) : gNc s ∧ gS s ∧ gZ A s s.heap ∧ gM A s s.heap ∧ va_AO RX4 s := by
  have hall := lw_all_ok hts
  have hs := flat_of_before _ hgv
  refine ⟨⟨va_Nc.of (hs (.not (.castable (xname 0) (xname 1))) (by decide +kernel)), va_Nc.of (hs (.not (.castable (xname 2) (xname 0))) (by decide +kernel)), va_Nc.of (hs (.not (.castable (xname 1) (xname 3))) (by decide +kernel)), va_Nc.of (hs (.not (.castable (xname 2) (xname 3))) (by decide +kernel))⟩, ?_, ⟨?_, ?_⟩, ?_, va_AO.of (hts (.arrayOver (.object RX4)) (List.mem_of_getElem? (i := 129) (by decide +kernel)))⟩
  · intro q hq
    have hex : ∀ q ∈ lw_strs, (Cond.exactly (.string RX8 q.1) "java/lang/String").before #[Value.ref b] s = true := fun q hq => hs _ (by revert q hq; decide +kernel)
    obtain ⟨a, c, cA, kA, q1, -⟩ := Cond.exactly_spec (args := #[Value.ref b]) (first := s) (o := none) (s := s) (idx := []) (t := .string RX8 q.1) (cls := "java/lang/String") (hex q hq)
    exact ⟨a, vk_R.of (hts _ (lw_strs_x q hq)) q1⟩
  · exact vx_Zqof (hts (.laysStatic Bundle.tN "UNASSIGNED_STACK" Bundle.steD) (by decide +kernel)) (hall _ q_11) (hs (.isRef (.static Bundle.tN "UNASSIGNED_STACK" Bundle.steD)) (by decide +kernel)) hA
  · exact vx_Zqof (hts (.laysStatic Bundle.tN "SUPPRESSED_SENTINEL" Bundle.listD) (by decide +kernel)) (hall _ q_11) (hs (.isRef (.static Bundle.tN "SUPPRESSED_SENTINEL" Bundle.listD)) (by decide +kernel)) hA
  · have hl4 : (Term.length (.static RX8 "MODE_LETTERS" "[C")).eval #[Value.ref b] s none [] s = some (.int (Int32.ofNat 4)) := va_eqt (hs (.eq (.length (.static RX8 "MODE_LETTERS" "[C")) (.int 4)) (by decide +kernel))
    have hel : ∀ j : Nat, j < 4 → (Term.elem (.static RX8 "MODE_LETTERS" "[C") (.int (Int32.ofNat j))).eval #[Value.ref b] s none [] s = some (.int (tML j)) := by
      intro j hj
      rcases (show j = 0 ∨ j = 1 ∨ j = 2 ∨ j = 3 by omega) with rfl | rfl | rfl | rfl
      · exact va_eqt (hs (.eq (.elem (.static RX8 "MODE_LETTERS" "[C") (.int 0)) (.int 100)) (by decide +kernel))
      · exact va_eqt (hs (.eq (.elem (.static RX8 "MODE_LETTERS" "[C") (.int 1)) (.int 104)) (by decide +kernel))
      · exact va_eqt (hs (.eq (.elem (.static RX8 "MODE_LETTERS" "[C") (.int 2)) (.int 118)) (by decide +kernel))
      · exact va_eqt (hs (.eq (.elem (.static RX8 "MODE_LETTERS" "[C") (.int 3)) (.int 97)) (by decide +kernel))
    obtain ⟨t, ht, hT⟩ := va_Tof (tm := .static RX8 "MODE_LETTERS" "[C") (ty := .char) (N := 4) (f := fun j => .int (tML j)) (by decide) (hs (.arrayOf (.static RX8 "MODE_LETTERS" "[C") .char) (by decide +kernel)) hl4 hel hA
    exact ⟨t, va_Zof (hts (.laysStatic RX8 "MODE_LETTERS" "[C") (by decide +kernel)) (hall _ q_1) ht hA, hT⟩
/-! from the entry, for every script of at most 3072 ints, the law comes to its end with true -/
set_option maxHeartbeats 4000000 in
set_option maxRecDepth 100000 in
theorem whole_start {p : Program} {e : Env} {s : State} {m : MethodId} {below : List Frame} {meth : Method} {c : Code} (l : Launch) (hflags : l.flags = flags0) {b L : Nat} {xs : Nat → Int32} (hL : L ≤ 3072) (C0 : lw_At p s m meth c b L xs) : W p l e room_1 s m #[Value.ref b] below meth c s.heap [] 0 0 (lw_Z below #[Value.ref b] s) (entryFrame m ([Value.ref b] : List Value).toArray 8) := by
  obtain ⟨hx0, hb, hr, hml, hown, hts, hX, hbl, hlocks, hgv⟩ := id C0
  have hA : ∀ q : Nat, s.heap.size ≤ q → (fun q : Nat => s.heap.size ≤ q) q := fun _ h => h
  have hA2 : ∀ a : Nat, a < s.heap.size → ¬ (fun q : Nat => s.heap.size ≤ q) a := fun a h => Nat.not_le.mpr h
  obtain ⟨G, E, hK, hLK⟩ := st_K hts
  obtain ⟨hN, hS, hZ, hMM, hO⟩ := st_R hts hgv hA2
  have hst : l.stackTraces = false := by
    unfold Launch.stackTraces
    rw [hflags]
    decide
  have X : gX p s m meth c cL_law 8 ret RL #[Value.ref b] := ⟨hx0, hb, hr, hml, lw_all_ok hts, hown, hlocks⟩
  have hH : gH G (fun q : Nat => s.heap.size ≤ q) s.heap s.heap [] [] := ⟨fun k q h => by simp at h, ⟨fun i j p q h => by simp at h, fun k q h => by simp at h⟩, va_S.rf⟩
  have hl := lv_entry ([.ref b]) (n := 8) (Nat.le_of_ble_eq_true rfl)
  rw [lg_entry_eq]
  generalize (lg_sl ([.ref b]) ++ List.replicate (8 - (lg_sl ([.ref b])).length) Slot.unset).toArray = ls at hl ⊢
  have hl : lv_has ls 8 [(0, .ref b)] := hl
  refine g_newX (T := TX8) (N := 18) (ci := 7) (fs := [.null, .null, .int 0, .null, .null, .int 0, .null, .null, .null, .int 0, .int 0, .int 0, .int 0, .int 0, .null, .null, .null, .null]) X hK hA hH in_RX8 tyX8 tyX8_ok q_21 q_22 q_1 rfl dvX8 (Nat.le_of_ble_eq_true rfl) (Nat.le_of_ble_eq_true rfl) dL_law_0 (fun hx H hH => ?_)
  refine lv_dup hx0 hb dL_law_3 rfl ?_
  refine g_cI (ww := ([] : va_W)) X hO hK hA hH hl (ctn_X8 l G hx _) ⟨q_1, q_25, hdn_X8, rfl, rfl, ⟨Nat.le_of_ble_eq_true rfl, Nat.le_of_ble_eq_true rfl⟩, ⟨Nat.le_of_ble_eq_true rfl, Nat.le_of_ble_eq_true rfl⟩⟩ q_23 q_24 rfl rfl (Nat.le_of_ble_eq_true rfl) dL_law_4 (fun u8 H locs hH => ?_)
  refine lv_astore_n (lv' := [(1, .ref hx), (0, .ref b)]) hx0 hb dL_law_7 rfl hl (by decide) rfl (fun ls hl => ?_)
  have hH : gH G (fun q : Nat => s.heap.size ≤ q) s.heap H locs [(hx, .inr (7, FX8 (u8 0) (1 : Int32) (0 : Int32) (0 : Int32) (0 : Int32) (0 : Int32) (0 : Int32) (0 : Int32))), ((u8 0 0), .inr (4, FX5 (u8 2) (8 : Int32) (8 : Int32))), ((u8 2 2), gA G 384 (fun _ => 0)), ((u8 0 1), gA G 3 (upd (upd (upd (fun _ => 0) 0 (1 : Int32)) 1 (0 : Int32)) 2 (0 : Int32))), ((u8 0 3), .inr (2, FX3 (u8 3) (u8 3 0) (0 : Int32))), ((u8 3 0), gA G 512 (fun _ => 0)), ((u8 0 4), .inr (4, FX5 (u8 4) (8 : Int32) (8 : Int32))), ((u8 4 2), gA G 384 (fun _ => 0)), ((u8 0 6), gC G 3 (fun _ => 0)), ((u8 0 7), gA G 3 (fun _ => 0)), ((u8 0 8), gO G 3 (fun k => some (u8 1 k))), ((u8 1 0), .inr (3, FX4 (u8 5) (1 : Int32) (0 : Int32))), ((u8 5 2), gA G 3 (fun _ => 0)), ((u8 5 3), gA G 6 (fun _ => 0)), ((u8 5 4), gA G 24 (fun _ => 0)), ((u8 5 5), gA G 24 (fun _ => 0)), ((u8 5 6), gA G 384 (fun _ => 0)), ((u8 5 7), gA G 384 (fun _ => 0)), ((u8 5 8), .inr (5, FX6 (u8 6) (8 : Int32) (0 : Int32))), ((u8 6 2), gA G 8 (fun _ => 0)), ((u8 6 3), gA G 8 (fun _ => 0)), ((u8 5 9), .inr (6, FX7 (u8 7))), ((u8 7 0), gA G 64 (fun _ => 0)), ((u8 7 1), gA G 8 (fun _ => 0)), ((u8 1 1), .inr (3, FX4 (u8 8) (1 : Int32) (0 : Int32))), ((u8 8 2), gA G 3 (fun _ => 0)), ((u8 8 3), gA G 6 (fun _ => 0)), ((u8 8 4), gA G 24 (fun _ => 0)), ((u8 8 5), gA G 24 (fun _ => 0)), ((u8 8 6), gA G 384 (fun _ => 0)), ((u8 8 7), gA G 384 (fun _ => 0)), ((u8 8 8), .inr (5, FX6 (u8 9) (8 : Int32) (0 : Int32))), ((u8 9 2), gA G 8 (fun _ => 0)), ((u8 9 3), gA G 8 (fun _ => 0)), ((u8 8 9), .inr (6, FX7 (u8 10))), ((u8 10 0), gA G 64 (fun _ => 0)), ((u8 10 1), gA G 8 (fun _ => 0)), ((u8 1 2), .inr (3, FX4 (u8 11) (1 : Int32) (0 : Int32))), ((u8 11 2), gA G 3 (fun _ => 0)), ((u8 11 3), gA G 6 (fun _ => 0)), ((u8 11 4), gA G 24 (fun _ => 0)), ((u8 11 5), gA G 24 (fun _ => 0)), ((u8 11 6), gA G 384 (fun _ => 0)), ((u8 11 7), gA G 384 (fun _ => 0)), ((u8 11 8), .inr (5, FX6 (u8 12) (8 : Int32) (0 : Int32))), ((u8 12 2), gA G 8 (fun _ => 0)), ((u8 12 3), gA G 8 (fun _ => 0)), ((u8 11 9), .inr (6, FX7 (u8 13))), ((u8 13 0), gA G 64 (fun _ => 0)), ((u8 13 1), gA G 8 (fun _ => 0)), ((u8 0 14), gA G 384 (fun _ => 0)), ((u8 0 15), .inr (3, FX4 (u8 14) (1 : Int32) (0 : Int32))), ((u8 14 2), gA G 3 (fun _ => 0)), ((u8 14 3), gA G 6 (fun _ => 0)), ((u8 14 4), gA G 24 (fun _ => 0)), ((u8 14 5), gA G 24 (fun _ => 0)), ((u8 14 6), gA G 384 (fun _ => 0)), ((u8 14 7), gA G 384 (fun _ => 0)), ((u8 14 8), .inr (5, FX6 (u8 15) (8 : Int32) (0 : Int32))), ((u8 15 2), gA G 8 (fun _ => 0)), ((u8 15 3), gA G 8 (fun _ => 0)), ((u8 14 9), .inr (6, FX7 (u8 16))), ((u8 16 0), gA G 64 (fun _ => 0)), ((u8 16 1), gA G 8 (fun _ => 0)), ((u8 0 16), .inr (1, FX2 (u8 17) (0 : Int32) (65535 : Int32) (0 : Int32) (0 : Int32))), ((u8 17 2), gA G 20 (fun _ => 0)), ((u8 17 3), gA G 20 (fun _ => 0)), ((u8 17 4), gA G 2048 (fun _ => 0)), ((u8 0 17), .inr (0, FX1 (u8 18) (u8 18 4) (0 : Int32) (65535 : Int32) (0 : Int32) (0 : Int32) (0 : Int32))), ((u8 18 2), gA G 20 (fun _ => 0)), ((u8 18 3), gA G 20 (fun _ => 0)), ((u8 18 4), gA G 0 (fun _ => 0))] := hH
  refine g_newX (T := TX9) (N := 42) (ci := 8) (fs := [.int 0, .int 0, .int 0, .int 0, .int 0, .int 0, .int 0, .int 0, .int 0, .int 0, .int 0, .int 0, .int 0, .null, .null, .null, .null, .null, .null, .null, .null, .null, .null, .null, .null, .null, .null, .null, .null, .null, .null, .null, .int 0, .int 0, .int 0, .int 0, .int 0, .int 0, .int 0, .int 0, .int 0, .null]) X hK hA hH in_RX9 tyX9 tyX9_ok q_925 q_926 q_10 rfl dvX9 (Nat.le_of_ble_eq_true rfl) (Nat.le_of_ble_eq_true rfl) dL_law_8 (fun hm H hH => ?_)
  refine lv_dup hx0 hb dL_law_11 rfl ?_
  refine g_cI (ww := [(hx, .inr (7, FX8 (u8 0) (1 : Int32) (0 : Int32) (0 : Int32) (0 : Int32) (0 : Int32) (0 : Int32) (0 : Int32))), ((u8 0 0), .inr (4, FX5 (u8 2) (8 : Int32) (8 : Int32))), ((u8 2 2), gA G 384 (fun _ => 0)), ((u8 0 1), gA G 3 (upd (upd (upd (fun _ => 0) 0 (1 : Int32)) 1 (0 : Int32)) 2 (0 : Int32))), ((u8 0 3), .inr (2, FX3 (u8 3) (u8 3 0) (0 : Int32))), ((u8 3 0), gA G 512 (fun _ => 0)), ((u8 0 4), .inr (4, FX5 (u8 4) (8 : Int32) (8 : Int32))), ((u8 4 2), gA G 384 (fun _ => 0)), ((u8 0 6), gC G 3 (fun _ => 0)), ((u8 0 7), gA G 3 (fun _ => 0)), ((u8 0 8), gO G 3 (fun k => some (u8 1 k))), ((u8 1 0), .inr (3, FX4 (u8 5) (1 : Int32) (0 : Int32))), ((u8 5 2), gA G 3 (fun _ => 0)), ((u8 5 3), gA G 6 (fun _ => 0)), ((u8 5 4), gA G 24 (fun _ => 0)), ((u8 5 5), gA G 24 (fun _ => 0)), ((u8 5 6), gA G 384 (fun _ => 0)), ((u8 5 7), gA G 384 (fun _ => 0)), ((u8 5 8), .inr (5, FX6 (u8 6) (8 : Int32) (0 : Int32))), ((u8 6 2), gA G 8 (fun _ => 0)), ((u8 6 3), gA G 8 (fun _ => 0)), ((u8 5 9), .inr (6, FX7 (u8 7))), ((u8 7 0), gA G 64 (fun _ => 0)), ((u8 7 1), gA G 8 (fun _ => 0)), ((u8 1 1), .inr (3, FX4 (u8 8) (1 : Int32) (0 : Int32))), ((u8 8 2), gA G 3 (fun _ => 0)), ((u8 8 3), gA G 6 (fun _ => 0)), ((u8 8 4), gA G 24 (fun _ => 0)), ((u8 8 5), gA G 24 (fun _ => 0)), ((u8 8 6), gA G 384 (fun _ => 0)), ((u8 8 7), gA G 384 (fun _ => 0)), ((u8 8 8), .inr (5, FX6 (u8 9) (8 : Int32) (0 : Int32))), ((u8 9 2), gA G 8 (fun _ => 0)), ((u8 9 3), gA G 8 (fun _ => 0)), ((u8 8 9), .inr (6, FX7 (u8 10))), ((u8 10 0), gA G 64 (fun _ => 0)), ((u8 10 1), gA G 8 (fun _ => 0)), ((u8 1 2), .inr (3, FX4 (u8 11) (1 : Int32) (0 : Int32))), ((u8 11 2), gA G 3 (fun _ => 0)), ((u8 11 3), gA G 6 (fun _ => 0)), ((u8 11 4), gA G 24 (fun _ => 0)), ((u8 11 5), gA G 24 (fun _ => 0)), ((u8 11 6), gA G 384 (fun _ => 0)), ((u8 11 7), gA G 384 (fun _ => 0)), ((u8 11 8), .inr (5, FX6 (u8 12) (8 : Int32) (0 : Int32))), ((u8 12 2), gA G 8 (fun _ => 0)), ((u8 12 3), gA G 8 (fun _ => 0)), ((u8 11 9), .inr (6, FX7 (u8 13))), ((u8 13 0), gA G 64 (fun _ => 0)), ((u8 13 1), gA G 8 (fun _ => 0)), ((u8 0 14), gA G 384 (fun _ => 0)), ((u8 0 15), .inr (3, FX4 (u8 14) (1 : Int32) (0 : Int32))), ((u8 14 2), gA G 3 (fun _ => 0)), ((u8 14 3), gA G 6 (fun _ => 0)), ((u8 14 4), gA G 24 (fun _ => 0)), ((u8 14 5), gA G 24 (fun _ => 0)), ((u8 14 6), gA G 384 (fun _ => 0)), ((u8 14 7), gA G 384 (fun _ => 0)), ((u8 14 8), .inr (5, FX6 (u8 15) (8 : Int32) (0 : Int32))), ((u8 15 2), gA G 8 (fun _ => 0)), ((u8 15 3), gA G 8 (fun _ => 0)), ((u8 14 9), .inr (6, FX7 (u8 16))), ((u8 16 0), gA G 64 (fun _ => 0)), ((u8 16 1), gA G 8 (fun _ => 0)), ((u8 0 16), .inr (1, FX2 (u8 17) (0 : Int32) (65535 : Int32) (0 : Int32) (0 : Int32))), ((u8 17 2), gA G 20 (fun _ => 0)), ((u8 17 3), gA G 20 (fun _ => 0)), ((u8 17 4), gA G 2048 (fun _ => 0)), ((u8 0 17), .inr (0, FX1 (u8 18) (u8 18 4) (0 : Int32) (65535 : Int32) (0 : Int32) (0 : Int32) (0 : Int32))), ((u8 18 2), gA G 20 (fun _ => 0)), ((u8 18 3), gA G 20 (fun _ => 0)), ((u8 18 4), gA G 0 (fun _ => 0))]) X hO hK hA hH hl (ctn_X9 l G hm _) ⟨q_10, q_929, hdn_X9, rfl, rfl, ⟨Nat.le_of_ble_eq_true rfl, Nat.le_of_ble_eq_true rfl⟩, ⟨Nat.le_of_ble_eq_true rfl, Nat.le_of_ble_eq_true rfl⟩⟩ q_927 q_928 rfl rfl (Nat.le_of_ble_eq_true rfl) dL_law_12 (fun u9 H locs hH => ?_)
  refine lv_astore_n (lv' := [(2, .ref hm), (1, .ref hx), (0, .ref b)]) hx0 hb dL_law_15 rfl hl (by decide) rfl (fun ls hl => ?_)
  have hH : gH G (fun q : Nat => s.heap.size ≤ q) s.heap H locs [(hx, .inr (7, FX8 (u8 0) (1 : Int32) (0 : Int32) (0 : Int32) (0 : Int32) (0 : Int32) (0 : Int32) (0 : Int32))), ((u8 0 0), .inr (4, FX5 (u8 2) (8 : Int32) (8 : Int32))), ((u8 2 2), gA G 384 (fun _ => 0)), ((u8 0 1), gA G 3 (upd (upd (upd (fun _ => 0) 0 (1 : Int32)) 1 (0 : Int32)) 2 (0 : Int32))), ((u8 0 3), .inr (2, FX3 (u8 3) (u8 3 0) (0 : Int32))), ((u8 3 0), gA G 512 (fun _ => 0)), ((u8 0 4), .inr (4, FX5 (u8 4) (8 : Int32) (8 : Int32))), ((u8 4 2), gA G 384 (fun _ => 0)), ((u8 0 6), gC G 3 (fun _ => 0)), ((u8 0 7), gA G 3 (fun _ => 0)), ((u8 0 8), gO G 3 (fun k => some (u8 1 k))), ((u8 1 0), .inr (3, FX4 (u8 5) (1 : Int32) (0 : Int32))), ((u8 5 2), gA G 3 (fun _ => 0)), ((u8 5 3), gA G 6 (fun _ => 0)), ((u8 5 4), gA G 24 (fun _ => 0)), ((u8 5 5), gA G 24 (fun _ => 0)), ((u8 5 6), gA G 384 (fun _ => 0)), ((u8 5 7), gA G 384 (fun _ => 0)), ((u8 5 8), .inr (5, FX6 (u8 6) (8 : Int32) (0 : Int32))), ((u8 6 2), gA G 8 (fun _ => 0)), ((u8 6 3), gA G 8 (fun _ => 0)), ((u8 5 9), .inr (6, FX7 (u8 7))), ((u8 7 0), gA G 64 (fun _ => 0)), ((u8 7 1), gA G 8 (fun _ => 0)), ((u8 1 1), .inr (3, FX4 (u8 8) (1 : Int32) (0 : Int32))), ((u8 8 2), gA G 3 (fun _ => 0)), ((u8 8 3), gA G 6 (fun _ => 0)), ((u8 8 4), gA G 24 (fun _ => 0)), ((u8 8 5), gA G 24 (fun _ => 0)), ((u8 8 6), gA G 384 (fun _ => 0)), ((u8 8 7), gA G 384 (fun _ => 0)), ((u8 8 8), .inr (5, FX6 (u8 9) (8 : Int32) (0 : Int32))), ((u8 9 2), gA G 8 (fun _ => 0)), ((u8 9 3), gA G 8 (fun _ => 0)), ((u8 8 9), .inr (6, FX7 (u8 10))), ((u8 10 0), gA G 64 (fun _ => 0)), ((u8 10 1), gA G 8 (fun _ => 0)), ((u8 1 2), .inr (3, FX4 (u8 11) (1 : Int32) (0 : Int32))), ((u8 11 2), gA G 3 (fun _ => 0)), ((u8 11 3), gA G 6 (fun _ => 0)), ((u8 11 4), gA G 24 (fun _ => 0)), ((u8 11 5), gA G 24 (fun _ => 0)), ((u8 11 6), gA G 384 (fun _ => 0)), ((u8 11 7), gA G 384 (fun _ => 0)), ((u8 11 8), .inr (5, FX6 (u8 12) (8 : Int32) (0 : Int32))), ((u8 12 2), gA G 8 (fun _ => 0)), ((u8 12 3), gA G 8 (fun _ => 0)), ((u8 11 9), .inr (6, FX7 (u8 13))), ((u8 13 0), gA G 64 (fun _ => 0)), ((u8 13 1), gA G 8 (fun _ => 0)), ((u8 0 14), gA G 384 (fun _ => 0)), ((u8 0 15), .inr (3, FX4 (u8 14) (1 : Int32) (0 : Int32))), ((u8 14 2), gA G 3 (fun _ => 0)), ((u8 14 3), gA G 6 (fun _ => 0)), ((u8 14 4), gA G 24 (fun _ => 0)), ((u8 14 5), gA G 24 (fun _ => 0)), ((u8 14 6), gA G 384 (fun _ => 0)), ((u8 14 7), gA G 384 (fun _ => 0)), ((u8 14 8), .inr (5, FX6 (u8 15) (8 : Int32) (0 : Int32))), ((u8 15 2), gA G 8 (fun _ => 0)), ((u8 15 3), gA G 8 (fun _ => 0)), ((u8 14 9), .inr (6, FX7 (u8 16))), ((u8 16 0), gA G 64 (fun _ => 0)), ((u8 16 1), gA G 8 (fun _ => 0)), ((u8 0 16), .inr (1, FX2 (u8 17) (0 : Int32) (65535 : Int32) (0 : Int32) (0 : Int32))), ((u8 17 2), gA G 20 (fun _ => 0)), ((u8 17 3), gA G 20 (fun _ => 0)), ((u8 17 4), gA G 2048 (fun _ => 0)), ((u8 0 17), .inr (0, FX1 (u8 18) (u8 18 4) (0 : Int32) (65535 : Int32) (0 : Int32) (0 : Int32) (0 : Int32))), ((u8 18 2), gA G 20 (fun _ => 0)), ((u8 18 3), gA G 20 (fun _ => 0)), ((u8 18 4), gA G 0 (fun _ => 0)), (hm, .inr (8, FX9 (u9 0) 0 (8 : Int32) (8 : Int32) (1 : Int32) 0 0 0 0 0 0 0 0 0 0 0 0 0 0 0 0 0 0)), ((u9 0 13), gA G 384 (fun _ => 0)), ((u9 0 14), gA G 3 (upd (upd (upd (fun _ => 0) 0 (1 : Int32)) 1 (0 : Int32)) 2 (0 : Int32))), ((u9 0 15), gA G 20000 (fun _ => 0)), ((u9 0 16), gA G 384 (fun _ => 0)), ((u9 0 17), gA G 384 (fun _ => 0)), ((u9 0 18), gA G 384 (fun _ => 0)), ((u9 0 19), gA G 384 (fun _ => 0)), ((u9 0 20), gA G 3 (fun _ => 0)), ((u9 0 21), gA G 3 (fun _ => 0)), ((u9 0 22), gA G 1152 (fun _ => 0)), ((u9 0 23), gA G 1152 (fun _ => 0)), ((u9 0 24), gA G 1152 (fun _ => 0)), ((u9 0 25), gA G 1152 (fun _ => 0)), ((u9 0 26), gA G 3 (fun _ => 0)), ((u9 0 27), gA G 9 (fun _ => 0)), ((u9 0 28), gA G 64 (fun _ => 0)), ((u9 0 29), gA G 8 (fun _ => 0)), ((u9 0 30), gA G 64 (fun _ => 0)), ((u9 0 31), gA G 64 (fun _ => 0)), ((u9 0 41), gA G 40 (fun _ => 0))] := hH
  refine lv_iconst (v := (1 : Int32)) hx0 hb dL_law_16 (by decide) ?_
  refine g_newJ X hK hLK hA hH (N := 1) (by decide) (by decide) (Nat.le_of_ble_eq_true rfl) (Nat.le_of_ble_eq_true rfl) (Nat.le_of_ble_eq_true rfl) dL_law_17 (fun ho H hH => ?_)
  have hH : gH G (fun q : Nat => s.heap.size ≤ q) s.heap H locs [(hx, .inr (7, FX8 (u8 0) (1 : Int32) (0 : Int32) (0 : Int32) (0 : Int32) (0 : Int32) (0 : Int32) (0 : Int32))), ((u8 0 0), .inr (4, FX5 (u8 2) (8 : Int32) (8 : Int32))), ((u8 2 2), gA G 384 (fun _ => 0)), ((u8 0 1), gA G 3 (upd (upd (upd (fun _ => 0) 0 (1 : Int32)) 1 (0 : Int32)) 2 (0 : Int32))), ((u8 0 3), .inr (2, FX3 (u8 3) (u8 3 0) (0 : Int32))), ((u8 3 0), gA G 512 (fun _ => 0)), ((u8 0 4), .inr (4, FX5 (u8 4) (8 : Int32) (8 : Int32))), ((u8 4 2), gA G 384 (fun _ => 0)), ((u8 0 6), gC G 3 (fun _ => 0)), ((u8 0 7), gA G 3 (fun _ => 0)), ((u8 0 8), gO G 3 (fun k => some (u8 1 k))), ((u8 1 0), .inr (3, FX4 (u8 5) (1 : Int32) (0 : Int32))), ((u8 5 2), gA G 3 (fun _ => 0)), ((u8 5 3), gA G 6 (fun _ => 0)), ((u8 5 4), gA G 24 (fun _ => 0)), ((u8 5 5), gA G 24 (fun _ => 0)), ((u8 5 6), gA G 384 (fun _ => 0)), ((u8 5 7), gA G 384 (fun _ => 0)), ((u8 5 8), .inr (5, FX6 (u8 6) (8 : Int32) (0 : Int32))), ((u8 6 2), gA G 8 (fun _ => 0)), ((u8 6 3), gA G 8 (fun _ => 0)), ((u8 5 9), .inr (6, FX7 (u8 7))), ((u8 7 0), gA G 64 (fun _ => 0)), ((u8 7 1), gA G 8 (fun _ => 0)), ((u8 1 1), .inr (3, FX4 (u8 8) (1 : Int32) (0 : Int32))), ((u8 8 2), gA G 3 (fun _ => 0)), ((u8 8 3), gA G 6 (fun _ => 0)), ((u8 8 4), gA G 24 (fun _ => 0)), ((u8 8 5), gA G 24 (fun _ => 0)), ((u8 8 6), gA G 384 (fun _ => 0)), ((u8 8 7), gA G 384 (fun _ => 0)), ((u8 8 8), .inr (5, FX6 (u8 9) (8 : Int32) (0 : Int32))), ((u8 9 2), gA G 8 (fun _ => 0)), ((u8 9 3), gA G 8 (fun _ => 0)), ((u8 8 9), .inr (6, FX7 (u8 10))), ((u8 10 0), gA G 64 (fun _ => 0)), ((u8 10 1), gA G 8 (fun _ => 0)), ((u8 1 2), .inr (3, FX4 (u8 11) (1 : Int32) (0 : Int32))), ((u8 11 2), gA G 3 (fun _ => 0)), ((u8 11 3), gA G 6 (fun _ => 0)), ((u8 11 4), gA G 24 (fun _ => 0)), ((u8 11 5), gA G 24 (fun _ => 0)), ((u8 11 6), gA G 384 (fun _ => 0)), ((u8 11 7), gA G 384 (fun _ => 0)), ((u8 11 8), .inr (5, FX6 (u8 12) (8 : Int32) (0 : Int32))), ((u8 12 2), gA G 8 (fun _ => 0)), ((u8 12 3), gA G 8 (fun _ => 0)), ((u8 11 9), .inr (6, FX7 (u8 13))), ((u8 13 0), gA G 64 (fun _ => 0)), ((u8 13 1), gA G 8 (fun _ => 0)), ((u8 0 14), gA G 384 (fun _ => 0)), ((u8 0 15), .inr (3, FX4 (u8 14) (1 : Int32) (0 : Int32))), ((u8 14 2), gA G 3 (fun _ => 0)), ((u8 14 3), gA G 6 (fun _ => 0)), ((u8 14 4), gA G 24 (fun _ => 0)), ((u8 14 5), gA G 24 (fun _ => 0)), ((u8 14 6), gA G 384 (fun _ => 0)), ((u8 14 7), gA G 384 (fun _ => 0)), ((u8 14 8), .inr (5, FX6 (u8 15) (8 : Int32) (0 : Int32))), ((u8 15 2), gA G 8 (fun _ => 0)), ((u8 15 3), gA G 8 (fun _ => 0)), ((u8 14 9), .inr (6, FX7 (u8 16))), ((u8 16 0), gA G 64 (fun _ => 0)), ((u8 16 1), gA G 8 (fun _ => 0)), ((u8 0 16), .inr (1, FX2 (u8 17) (0 : Int32) (65535 : Int32) (0 : Int32) (0 : Int32))), ((u8 17 2), gA G 20 (fun _ => 0)), ((u8 17 3), gA G 20 (fun _ => 0)), ((u8 17 4), gA G 2048 (fun _ => 0)), ((u8 0 17), .inr (0, FX1 (u8 18) (u8 18 4) (0 : Int32) (65535 : Int32) (0 : Int32) (0 : Int32) (0 : Int32))), ((u8 18 2), gA G 20 (fun _ => 0)), ((u8 18 3), gA G 20 (fun _ => 0)), ((u8 18 4), gA G 0 (fun _ => 0)), (hm, .inr (8, FX9 (u9 0) 0 (8 : Int32) (8 : Int32) (1 : Int32) 0 0 0 0 0 0 0 0 0 0 0 0 0 0 0 0 0 0)), ((u9 0 13), gA G 384 (fun _ => 0)), ((u9 0 14), gA G 3 (upd (upd (upd (fun _ => 0) 0 (1 : Int32)) 1 (0 : Int32)) 2 (0 : Int32))), ((u9 0 15), gA G 20000 (fun _ => 0)), ((u9 0 16), gA G 384 (fun _ => 0)), ((u9 0 17), gA G 384 (fun _ => 0)), ((u9 0 18), gA G 384 (fun _ => 0)), ((u9 0 19), gA G 384 (fun _ => 0)), ((u9 0 20), gA G 3 (fun _ => 0)), ((u9 0 21), gA G 3 (fun _ => 0)), ((u9 0 22), gA G 1152 (fun _ => 0)), ((u9 0 23), gA G 1152 (fun _ => 0)), ((u9 0 24), gA G 1152 (fun _ => 0)), ((u9 0 25), gA G 1152 (fun _ => 0)), ((u9 0 26), gA G 3 (fun _ => 0)), ((u9 0 27), gA G 9 (fun _ => 0)), ((u9 0 28), gA G 64 (fun _ => 0)), ((u9 0 29), gA G 8 (fun _ => 0)), ((u9 0 30), gA G 64 (fun _ => 0)), ((u9 0 31), gA G 64 (fun _ => 0)), ((u9 0 41), gA G 40 (fun _ => 0)), (ho, gJl E 1 (fun _ => 0))] := hH
  refine lv_astore_n (lv' := [(3, .ref ho), (2, .ref hm), (1, .ref hx), (0, .ref b)]) hx0 hb dL_law_19 rfl hl (by decide) rfl (fun ls hl => ?_)
  refine lv_iconst (v := (1 : Int32)) hx0 hb dL_law_20 (by decide) ?_
  refine g_newD X hK hLK hA hH (N := 1) (by decide) (by decide) (Nat.le_of_ble_eq_true rfl) (Nat.le_of_ble_eq_true rfl) (Nat.le_of_ble_eq_true rfl) dL_law_21 (fun hd H hH => ?_)
  have hH : gH G (fun q : Nat => s.heap.size ≤ q) s.heap H locs [(hx, .inr (7, FX8 (u8 0) (1 : Int32) (0 : Int32) (0 : Int32) (0 : Int32) (0 : Int32) (0 : Int32) (0 : Int32))), ((u8 0 0), .inr (4, FX5 (u8 2) (8 : Int32) (8 : Int32))), ((u8 2 2), gA G 384 (fun _ => 0)), ((u8 0 1), gA G 3 (upd (upd (upd (fun _ => 0) 0 (1 : Int32)) 1 (0 : Int32)) 2 (0 : Int32))), ((u8 0 3), .inr (2, FX3 (u8 3) (u8 3 0) (0 : Int32))), ((u8 3 0), gA G 512 (fun _ => 0)), ((u8 0 4), .inr (4, FX5 (u8 4) (8 : Int32) (8 : Int32))), ((u8 4 2), gA G 384 (fun _ => 0)), ((u8 0 6), gC G 3 (fun _ => 0)), ((u8 0 7), gA G 3 (fun _ => 0)), ((u8 0 8), gO G 3 (fun k => some (u8 1 k))), ((u8 1 0), .inr (3, FX4 (u8 5) (1 : Int32) (0 : Int32))), ((u8 5 2), gA G 3 (fun _ => 0)), ((u8 5 3), gA G 6 (fun _ => 0)), ((u8 5 4), gA G 24 (fun _ => 0)), ((u8 5 5), gA G 24 (fun _ => 0)), ((u8 5 6), gA G 384 (fun _ => 0)), ((u8 5 7), gA G 384 (fun _ => 0)), ((u8 5 8), .inr (5, FX6 (u8 6) (8 : Int32) (0 : Int32))), ((u8 6 2), gA G 8 (fun _ => 0)), ((u8 6 3), gA G 8 (fun _ => 0)), ((u8 5 9), .inr (6, FX7 (u8 7))), ((u8 7 0), gA G 64 (fun _ => 0)), ((u8 7 1), gA G 8 (fun _ => 0)), ((u8 1 1), .inr (3, FX4 (u8 8) (1 : Int32) (0 : Int32))), ((u8 8 2), gA G 3 (fun _ => 0)), ((u8 8 3), gA G 6 (fun _ => 0)), ((u8 8 4), gA G 24 (fun _ => 0)), ((u8 8 5), gA G 24 (fun _ => 0)), ((u8 8 6), gA G 384 (fun _ => 0)), ((u8 8 7), gA G 384 (fun _ => 0)), ((u8 8 8), .inr (5, FX6 (u8 9) (8 : Int32) (0 : Int32))), ((u8 9 2), gA G 8 (fun _ => 0)), ((u8 9 3), gA G 8 (fun _ => 0)), ((u8 8 9), .inr (6, FX7 (u8 10))), ((u8 10 0), gA G 64 (fun _ => 0)), ((u8 10 1), gA G 8 (fun _ => 0)), ((u8 1 2), .inr (3, FX4 (u8 11) (1 : Int32) (0 : Int32))), ((u8 11 2), gA G 3 (fun _ => 0)), ((u8 11 3), gA G 6 (fun _ => 0)), ((u8 11 4), gA G 24 (fun _ => 0)), ((u8 11 5), gA G 24 (fun _ => 0)), ((u8 11 6), gA G 384 (fun _ => 0)), ((u8 11 7), gA G 384 (fun _ => 0)), ((u8 11 8), .inr (5, FX6 (u8 12) (8 : Int32) (0 : Int32))), ((u8 12 2), gA G 8 (fun _ => 0)), ((u8 12 3), gA G 8 (fun _ => 0)), ((u8 11 9), .inr (6, FX7 (u8 13))), ((u8 13 0), gA G 64 (fun _ => 0)), ((u8 13 1), gA G 8 (fun _ => 0)), ((u8 0 14), gA G 384 (fun _ => 0)), ((u8 0 15), .inr (3, FX4 (u8 14) (1 : Int32) (0 : Int32))), ((u8 14 2), gA G 3 (fun _ => 0)), ((u8 14 3), gA G 6 (fun _ => 0)), ((u8 14 4), gA G 24 (fun _ => 0)), ((u8 14 5), gA G 24 (fun _ => 0)), ((u8 14 6), gA G 384 (fun _ => 0)), ((u8 14 7), gA G 384 (fun _ => 0)), ((u8 14 8), .inr (5, FX6 (u8 15) (8 : Int32) (0 : Int32))), ((u8 15 2), gA G 8 (fun _ => 0)), ((u8 15 3), gA G 8 (fun _ => 0)), ((u8 14 9), .inr (6, FX7 (u8 16))), ((u8 16 0), gA G 64 (fun _ => 0)), ((u8 16 1), gA G 8 (fun _ => 0)), ((u8 0 16), .inr (1, FX2 (u8 17) (0 : Int32) (65535 : Int32) (0 : Int32) (0 : Int32))), ((u8 17 2), gA G 20 (fun _ => 0)), ((u8 17 3), gA G 20 (fun _ => 0)), ((u8 17 4), gA G 2048 (fun _ => 0)), ((u8 0 17), .inr (0, FX1 (u8 18) (u8 18 4) (0 : Int32) (65535 : Int32) (0 : Int32) (0 : Int32) (0 : Int32))), ((u8 18 2), gA G 20 (fun _ => 0)), ((u8 18 3), gA G 20 (fun _ => 0)), ((u8 18 4), gA G 0 (fun _ => 0)), (hm, .inr (8, FX9 (u9 0) 0 (8 : Int32) (8 : Int32) (1 : Int32) 0 0 0 0 0 0 0 0 0 0 0 0 0 0 0 0 0 0)), ((u9 0 13), gA G 384 (fun _ => 0)), ((u9 0 14), gA G 3 (upd (upd (upd (fun _ => 0) 0 (1 : Int32)) 1 (0 : Int32)) 2 (0 : Int32))), ((u9 0 15), gA G 20000 (fun _ => 0)), ((u9 0 16), gA G 384 (fun _ => 0)), ((u9 0 17), gA G 384 (fun _ => 0)), ((u9 0 18), gA G 384 (fun _ => 0)), ((u9 0 19), gA G 384 (fun _ => 0)), ((u9 0 20), gA G 3 (fun _ => 0)), ((u9 0 21), gA G 3 (fun _ => 0)), ((u9 0 22), gA G 1152 (fun _ => 0)), ((u9 0 23), gA G 1152 (fun _ => 0)), ((u9 0 24), gA G 1152 (fun _ => 0)), ((u9 0 25), gA G 1152 (fun _ => 0)), ((u9 0 26), gA G 3 (fun _ => 0)), ((u9 0 27), gA G 9 (fun _ => 0)), ((u9 0 28), gA G 64 (fun _ => 0)), ((u9 0 29), gA G 8 (fun _ => 0)), ((u9 0 30), gA G 64 (fun _ => 0)), ((u9 0 31), gA G 64 (fun _ => 0)), ((u9 0 41), gA G 40 (fun _ => 0)), (ho, gJl E 1 (fun _ => 0)), (hd, gJd E 1 (fun _ => 0))] := hH
  refine lv_astore (lv' := [(4, .ref hd), (3, .ref ho), (2, .ref hm), (1, .ref hx), (0, .ref b)]) hx0 hb dL_law_23 hl (by decide) rfl (fun ls hl => ?_)
  refine lv_iconst (v := (0 : Int32)) hx0 hb dL_law_25 (by decide) ?_
  refine lv_istore (lv' := [(5, .int 0), (4, .ref hd), (3, .ref ho), (2, .ref hm), (1, .ref hx), (0, .ref b)]) hx0 hb dL_law_26 hl (by decide) rfl (fun ls hl => ?_)
  have hl : lv_has ls 8 (lvL b hx hm ho hd (nI (6 * 0))) := lv_sub hl [0, 5, 4, 3, 2, 1] rfl
  have hH : gH G (fun q : Nat => s.heap.size ≤ q) s.heap H locs (LW G E hx hm ho hd (u8 0) (u8 2) (u8 5) (u8 6) (u8 7) (u8 8) (u8 9) (u8 10) (u8 11) (u8 12) (u8 13) (u8 3) (u8 17) (u8 1) (u8 4) (u8 14) (u8 15) (u8 16) (u8 18) (u9 0) (1) (0) (0) (0) (0) (0) (0) (1) (0) (8) (0) (1) (0) (8) (0) (1) (0) (8) (0) (8) (8) (1) (0) (8) (0) (8) (8) (0) (65535) (0) (0) (0) (0) (0) (65535) (0) (0) (u8 18 4) (u8 3 0) (512) (fun _ => 0) (fun _ => 0) (fun _ => 0) (fun _ => 0) (fun _ => 0) (fun _ => 0) (fun _ => 0) (fun _ => 0) (fun _ => 0) (fun _ => 0) (fun _ => 0) (fun _ => 0) (fun _ => 0) (fun _ => 0) (fun _ => 0) (fun _ => 0) (fun _ => 0) (fun _ => 0) (fun _ => 0) (fun _ => 0) (fun _ => 0) (fun _ => 0) (fun _ => 0) (fun _ => 0) (fun _ => 0) (fun _ => 0) (fun _ => 0) (fun _ => 0) (fun _ => 0) (fun _ => 0) (fun _ => 0) (fun _ => 0) (fun _ => 0) (fun _ => 0) (fun _ => 0) (fun _ => 0) (fun _ => 0) (fun _ => 0) (fun _ => 0) (fun _ => 0) (fun _ => 0) (fun _ => 0) (fun _ => 0) (upd (upd (upd (fun _ => 0) 0 1) 1 0) 2 0) (fun _ => 0) (fun _ => 0) (fun _ => 0) (fun _ => 0) (fun _ => 0) (fun _ => 0) (0) (8) (8) (1) (0) (0) (0) (0) (0) (0) (0) (0) (0) (0) (0) (0) (0) (0) (0) (0) (0) (0) (fun _ => 0) (fun _ => 0) (fun _ => 0) (fun _ => 0) (fun _ => 0) (fun _ => 0) (fun _ => 0) (fun _ => 0) (fun _ => 0) (fun _ => 0) (fun _ => 0) (fun _ => 0) (fun _ => 0) (fun _ => 0) (upd (upd (upd (fun _ => 0) 0 1) 1 0) 2 0) (fun _ => 0) (fun _ => 0) (fun _ => 0) (fun _ => 0) (fun _ => 0) (fun _ => 0) (fun _ => 0)) := gH.sub hH [0, 1, 2, 3, 50, 10, 11, 12, 13, 14, 15, 16, 17, 18, 19, 20, 21, 22, 23, 24, 25, 26, 27, 28, 29, 30, 31, 32, 33, 34, 35, 36, 37, 38, 39, 40, 41, 42, 43, 44, 45, 46, 47, 48, 49, 4, 5, 64, 65, 66, 67, 8, 9, 6, 7, 51, 53, 54, 56, 57, 58, 59, 60, 61, 62, 63, 68, 69, 70, 72, 73, 74, 75, 76, 77, 82, 83, 84, 85, 86, 87, 88, 89, 90, 91, 92, 78, 79, 80, 81, 93, 94] (by decide +kernel) rfl
  have hI : LI (fun q : Nat => s.heap.size ≤ q) s.heap G E hx hm ho hd (u8 0) (u8 2) (u8 5) (u8 6) (u8 7) (u8 8) (u8 9) (u8 10) (u8 11) (u8 12) (u8 13) (u8 3) (u8 17) (u8 1) (u8 4) (u8 14) (u8 15) (u8 16) (u8 18) (u9 0) 512 H locs := by
    refine LI_mk ?_ hH
    exact iv_0 rfl rfl rfl rfl (fun _ _ => rfl) (fun _ _ => rfl) rfl rfl rfl rfl rfl rfl rfl rfl rfl rfl rfl rfl
  have K : LC p l s m #[Value.ref b] meth c (fun q : Nat => s.heap.size ≤ q) G E b L xs := ⟨X, hK, hLK, hN, hS, hZ, hMM, hA, ⟨hX, hbl, hA2 b hbl⟩, hst, hL⟩
  refine law_loop K ?_ 512 0 512 H locs ls _ _ (by omega) (by omega) (Nat.le_of_ble_eq_true rfl) (Nat.le_of_ble_eq_true rfl) (Nat.le_of_ble_eq_true rfl) hI hl
  intro H locs ls k1 k2 hS1 h1 h2
  refine va_forget (fun q hq => hS1.2.2 q hq) ?_
  refine W.widen (k := 601024) (n := 7293034) (by omega) (by omega) ?_
  refine lv_iconst (v := (1 : Int32)) hx0 hb dL_law_1901 (by decide) ?_
  exact lw_ret (d0 := s.drawn) (Drawn.sameBut.refl s.drawn lw_cs) hx0 hb hr hlocks dL_law_1902
-- ===== YOUR PART ENDS =====
set_option maxHeartbeats 4000000 in
theorem lw_walk (l : Launch) (hflags : l.flags = flags0) (b : Addr) (xs : List Int32) : MetFree l x (headSpec (Jvm.Cond.code x code maxLocals ret :: tables_1) room_1) (lw_P b xs) (fun _ _ _ _ _ => True) lw_Q := by
  refine MetFree.of_bodyS (code := code) (maxLocals := maxLocals) (ret := ret) (by decide) ?_ ?_
  · intro args s m h hn
    obtain ⟨meth, c, h1, h2, h3, h4, h5, h6, -, -⟩ := Cond.code_spec hn (atoms_spec (ws := Jvm.Cond.code x code maxLocals ret :: tables_1) h _ List.mem_cons_self)
    exact ⟨meth, c, h1, h2, h3, h4, h5, h6⟩
  · intro p e s m args below meth c s₁ B hml0 hP _
    obtain ⟨rfl, hx, hbd, hgv⟩ := hP
    obtain ⟨scr, harrAt, hlist, hof, hsmall⟩ := hx
    obtain ⟨hcb, hkn, -, -⟩ := State.arrayAt?_spec harrAt
    have hown : s.vm.findClass R_law = some m.cls := findClass_of_methodNamed B.named
    have hts0 : ∀ c ∈ (Jvm.Cond.code x code maxLocals ret :: tables_1), c.before #[Value.ref b] s = true := atoms_spec (ws := Jvm.Cond.code x code maxLocals ret :: tables_1) B.pre
    have hts : ∀ w ∈ lw_tbl, w.before #[Value.ref b] s = true := k2_hts_sels lw_privs (fun w hw => hts0 w (List.mem_cons_of_mem _ hw)) lw_privs_ok
    have hml : c.maxLocals = 8 := B.maxLocals_eq (hts0 _ List.mem_cons_self)
    have X₀ : Stand p l e room_1 s m #[Value.ref b] below meth c s₁ [] 0 0 := Stand.of_body B
    have hh0 : s₁.heap = s.heap := by rw [B.state]; rfl
    have hsz : scr.slots.size = xs.length := by rw [← Array.length_toList, hlist, List.length_map]
    have hval : ∀ j : Nat, j < xs.length → scr.slots[j]? = some (.int (xs.getD j 0)) := fun j hj => by
      rw [← Array.getElem?_toList, hlist]
      simp [hj]
    have hbl : b < s.heap.size := (Array.getElem?_eq_some_iff.mp hcb).1
    have hX : va_X b xs.length (fun j => xs.getD j 0) s s.heap := ⟨scr, hcb, hof, hkn, hsz, hval⟩
    have K : W p l e room_1 s m #[Value.ref b] below meth c s₁.heap [] 0 0 (lw_Z below #[Value.ref b] s) (entryFrame m ([Value.ref b] : List Value).toArray 8) := by
      rw [hh0]
      exact whole_start l hflags hbd ⟨B.exec, B.bytes, B.returns, hml, hown, hts, hX, hbl, B.notSynchronized, hgv⟩
    obtain ⟨t, a1, o, b1, b2, b3⟩ := K s₁ rfl X₀
    exact ⟨t, o, a1, b1, b2, b3⟩
theorem lw_pre_spec {args : Array Value} {s : State} (h : (Jvm.Cond.and given_1 narrow_1).before args s = true) (hr : rest_1_c.before args s = true) : ∃ (b : Addr) (xs : List Int32), lw_P b xs args s := by
  have hs := flat_of_before _ h
  have hq := flat_of_before _ hr
  have hc : (Cond.count 1).before args s = true := hs _ (by decide +kernel)
  have harr : (Cond.arrayOf (.arg 0) .int).before args s = true := hs _ (by decide +kernel)
  have hle : (Cond.le (.length (.arg 0)) (.int 3072)).before args s = true := hs _ (by decide +kernel)
  have hlen : (Cond.isInt (.length (.arg 0))).before args s = true := hq _ (by decide +kernel)
  have hall : (Cond.all (.arg 0) (.isInt (.elem (.arg 0) (.index 0)))).before args s = true := hq _ (by decide +kernel)
  obtain ⟨b, xs, hb, hx⟩ := State.ints_of_pre rfl harr hlen hall
  have hsm : xs.length < 2 ^ 31 := hx.choose_spec.2.2.2
  have hev : (Term.length (.arg 0)).eval args s none [] s = some (.int xs.length.toInt32) := hx.length_eval hb
  have hv := Cond.le_ints hev (show (Term.int 3072).eval args s none [] s = some (.int 3072) from rfl)
  have hd : xs.length.toInt32 ≤ 3072 := by
    simpa [Cond.before, Cond.holds, hv] using hle
  have hN : xs.length ≤ 3072 := (Int32.ofNat_le_ofNat hsm (by decide)).mp (show Int32.ofNat xs.length ≤ Int32.ofNat 3072 from hd)
  exact ⟨b, xs, Cond.one_arg hc (show args[0]? = some (.ref b) from hb), hx, hN, h⟩
theorem lw_comes (l : Launch) (hflags : l.flags = flags0) : Comes l x (Jvm.Cond.code x code maxLocals ret :: tables_1) room_1 (fun tb e args s => Calls_1 tb e args s ∧ rest_1 tb e args s ∧ Pre_1 tb e args s)
    (fun _ _ args s o t => lw_Q args s o t) := by
  intro p e ha hc hk s m args below hf hfit hheap happ hpre
  obtain ⟨b, xs, hP⟩ := lw_pre_spec hpre.2.2 hpre.2.1
  obtain ⟨k, o, h1, h2, h3, hQ⟩ := lw_walk l hflags b xs p e ha hc hk s m args below hf ((Spec.applies_iff_loose hf).mp happ).1 hP trivial
  exact ⟨k, o, h1, h2, h3, hQ⟩
theorem lw_frame {s t : State} {o : Outcome} {args : Array Value} (h : State.butDraws s t lw_cs (fun t1 => Framed s o t1 [] 601024 7293034)) :
    State.butDraws s t [Jvm.Choice.named "NaN.bits"] (fun t1 => Framed s o t1 (fieldLocs frame_1_writes args s ++ arrayLocs frame_1_arrays args s ++ staticLocs frame_1_statics s) 601024 7293034) := h
theorem lw_limb (L : Cond) (hL : ∀ (args : Array Value) (s t : State), L.after args s (.returned (some (.int 1))) t = true) :
    ArmFor flags0 classFile x code maxLocals ret World_1 tables_1 room_1 Calls_1 rest_1 Pre_1
      (fun tb e a s o t => postC L tb e a s o t ∧ State.butDraws s t [Jvm.Choice.named "NaN.bits"] (fun t1 => Framed s o t1 (fieldLocs frame_1_writes a s ++ arrayLocs frame_1_arrays a s ++ staticLocs frame_1_statics s) 601024 7293034)) := by
  intro l hflags _ _ p e ha hc hk s m args below hf hfit hheap happ hpre
  obtain ⟨k, o, h1, h2, h3, rfl, hF⟩ := lw_comes l hflags p e ha hc hk s m args below hf hfit hheap happ hpre
  exact ⟨k, _, h1, h2, h3, hL args s _, lw_frame hF⟩
theorem i_vc : Claimed_1_1 ∧ Claimed_1_2 := ⟨lw_limb limb_1_1 (fun args s t => by simp [limb_1_1, Cond.after, Cond.holds, Cond.value]), lw_limb limb_1_2 (fun args s t => Cond.after_iff.mpr (by
  first | (rw [show limb_1_2 = Cond.eq .result (.int 1) from rfl, Cond.eq_ints (x := 1) (y := 1) rfl rfl]; simp; done) | (simp [limb_1_2, Cond.value, Term.eval]; done)))⟩
