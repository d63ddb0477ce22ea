def lf_X4_sizeAt (t_this_sizes : Nat → Int32) (p0 : Int32) (p1 : Int32) : Option (Int32) :=
(rdA 6 t_this_sizes (((p1 / (8 : Int32)) * (2 : Int32)) + (p0 / (8 : Int32)))).bind fun x1 => (if x1 = (4 : Int32) then some (4 : Int32) else some (8 : Int32))
abbrev rm_X4_sizeAt : Room := { frames := 0, cells := 0, slots := 0, locals := 0 }
theorem hd_X4_sizeAt : yX4_sizeAt.cls ≠ "java/lang/invoke/MethodHandle" ∧ yX4_sizeAt.cls ≠ "java/lang/invoke/VarHandle" ∧ (parseMethodDescriptor yX4_sizeAt.desc).map (fun d => d.parameters.length) = some 2 := by decide +kernel
set_option maxHeartbeats 4000000 in
set_option maxRecDepth 100000 in
theorem ct_X4_sizeAt (l : Launch) (G : gG) (h_this : Nat) (r_this : Nat → Nat) (i_this_step i_this_blockCount : Int32) (t_this_sizes : Nat → Int32) (p0 p1 : Int32) (sz : Nat) (out : Int32) (hf : lf_X4_sizeAt t_this_sizes p0 p1 = some out) : gI l G yX4_sizeAt cX4_sizeAt 3 .int rm_X4_sizeAt [.ref h_this, .int p0, .int p1] sz [(h_this, .inr (3, FX4 r_this i_this_step i_this_blockCount)), ((r_this 3), gA G 6 t_this_sizes)] out [(h_this, .inr (3, FX4 r_this i_this_step i_this_blockCount)), ((r_this 3), gA G 6 t_this_sizes)] := by
  refine gI_of (by decide +kernel) (Nat.le_of_ble_eq_true rfl) ?_
  intro p e s m args below meth c ls A Q X hK hA hsz hH hl hE
  subst hsz
  have hx := X.1
  have hb := X.2.1
  unfold lf_X4_sizeAt at hf
  have hl : lv_has ls 3 [(0, .ref h_this), (1, .int p0), (2, .int p1)] := hl
  have hH : gH G A s.heap s.heap [] [(h_this, .inr (3, FX4 r_this i_this_step i_this_blockCount)), ((r_this 3), gA G 6 t_this_sizes)] := hH
  refine lv_aload_n hx hb dX4_sizeAt_0 rfl (lv_at hl 0 rfl) ?_
  refine g_get (T := TX4) (N := 10) (ci := 3) (C := RX4) (v := .ref (r_this 3)) X hK hH in_RX4 0 rfl rfl 3 (by decide) q_122 (fun _ h9 => h9) rfl dX4_sizeAt_1 ?_
  refine lv_iload_n hx hb dX4_sizeAt_4 rfl (lv_at hl 2 rfl) ?_
  refine lv_bipush (v := (8 : Int32)) hx hb dX4_sizeAt_5 (by decide) ?_
  refine lv_idiv hx hb dX4_sizeAt_7 (by decide) ?_
  refine lv_iconst (v := (2 : Int32)) hx hb dX4_sizeAt_8 (by decide) ?_
  refine lv_imul hx hb dX4_sizeAt_9 ?_
  refine lv_iload_n hx hb dX4_sizeAt_10 rfl (lv_at hl 1 rfl) ?_
  refine lv_bipush (v := (8 : Int32)) hx hb dX4_sizeAt_11 (by decide) ?_
  refine lv_idiv hx hb dX4_sizeAt_13 (by decide) ?_
  refine lv_iadd hx hb dX4_sizeAt_14 ?_
  obtain ⟨x1, hx1, hf⟩ := sbind hf
  refine g_ald X hK hH 1 rfl hx1 dX4_sizeAt_15 ?_
  refine lv_iconst (v := (4 : Int32)) hx hb dX4_sizeAt_16 (by decide) ?_
  refine lv_icmp_ne (tgt := 24) hx hb dX4_sizeAt_17 (by decide) (fun c2 => ?_) (fun c2 => ?_)
  · have hf := sneg hf c2
    refine lv_bipush (v := (8 : Int32)) hx hb dX4_sizeAt_24 (by decide) ?_
    obtain rfl := Option.some.inj hf
    exact hE _ _ _ _ rfl hH dX4_sizeAt_26
  · have hf := spos hf c2
    refine lv_iconst (v := (4 : Int32)) hx hb dX4_sizeAt_20 (by decide) ?_
    refine lv_goto (tgt := 26) hx hb dX4_sizeAt_21 (by decide) ?_
    obtain rfl := Option.some.inj hf
    exact hE _ _ _ _ rfl hH dX4_sizeAt_26

def lf_X4_setSizeAt (t_this_sizes : Nat → Int32) (p0 : Int32) (p1 : Int32) (p2 : Int32) : Option ((Nat → Int32)) :=
(wrA 6 t_this_sizes (((p1 / (8 : Int32)) * (2 : Int32)) + (p0 / (8 : Int32))) p2).bind fun g1 => some g1
abbrev rm_X4_setSizeAt : Room := { frames := 0, cells := 0, slots := 0, locals := 0 }
theorem hd_X4_setSizeAt : yX4_setSizeAt.cls ≠ "java/lang/invoke/MethodHandle" ∧ yX4_setSizeAt.cls ≠ "java/lang/invoke/VarHandle" ∧ (parseMethodDescriptor yX4_setSizeAt.desc).map (fun d => d.parameters.length) = some 3 := by decide +kernel
set_option maxHeartbeats 4000000 in
set_option maxRecDepth 100000 in
theorem ct_X4_setSizeAt (l : Launch) (G : gG) (h_this : Nat) (r_this : Nat → Nat) (i_this_step i_this_blockCount : Int32) (t_this_sizes : Nat → Int32) (p0 p1 p2 : Int32) (sz : Nat) (out : (Nat → Int32)) (hf : lf_X4_setSizeAt t_this_sizes p0 p1 p2 = some out) : gV l G yX4_setSizeAt cX4_setSizeAt 4 rm_X4_setSizeAt [.ref h_this, .int p0, .int p1, .int p2] sz [(h_this, .inr (3, FX4 r_this i_this_step i_this_blockCount)), ((r_this 3), gA G 6 t_this_sizes)] [(h_this, .inr (3, FX4 r_this i_this_step i_this_blockCount)), ((r_this 3), gA G 6 out)] := by
  refine gV_of (by decide +kernel) (Nat.le_of_ble_eq_true rfl) ?_
  intro p e s m args below meth c ls A Q X hK hA hsz hH hl hE
  subst hsz
  have hx := X.1
  have hb := X.2.1
  unfold lf_X4_setSizeAt at hf
  have hl : lv_has ls 4 [(0, .ref h_this), (1, .int p0), (2, .int p1), (3, .int p2)] := hl
  have hH : gH G A s.heap s.heap [] [(h_this, .inr (3, FX4 r_this i_this_step i_this_blockCount)), ((r_this 3), gA G 6 t_this_sizes)] := hH
  refine lv_aload_n hx hb dX4_setSizeAt_0 rfl (lv_at hl 0 rfl) ?_
  refine g_get (T := TX4) (N := 10) (ci := 3) (C := RX4) (v := .ref (r_this 3)) X hK hH in_RX4 0 rfl rfl 3 (by decide) q_122 (fun _ h9 => h9) rfl dX4_setSizeAt_1 ?_
  refine lv_iload_n hx hb dX4_setSizeAt_4 rfl (lv_at hl 2 rfl) ?_
  refine lv_bipush (v := (8 : Int32)) hx hb dX4_setSizeAt_5 (by decide) ?_
  refine lv_idiv hx hb dX4_setSizeAt_7 (by decide) ?_
  refine lv_iconst (v := (2 : Int32)) hx hb dX4_setSizeAt_8 (by decide) ?_
  refine lv_imul hx hb dX4_setSizeAt_9 ?_
  refine lv_iload_n hx hb dX4_setSizeAt_10 rfl (lv_at hl 1 rfl) ?_
  refine lv_bipush (v := (8 : Int32)) hx hb dX4_setSizeAt_11 (by decide) ?_
  refine lv_idiv hx hb dX4_setSizeAt_13 (by decide) ?_
  refine lv_iadd hx hb dX4_setSizeAt_14 ?_
  refine lv_iload_n hx hb dX4_setSizeAt_15 rfl (lv_at hl 3 rfl) ?_
  obtain ⟨g1, hg1, hf⟩ := sbind hf
  refine g_ast (w1 := [(h_this, .inr (3, FX4 r_this i_this_step i_this_blockCount)), ((r_this 3), gA G 6 g1)]) X hK hH 1 rfl hg1 dX4_setSizeAt_16 rfl (fun H locs hH => ?_)
  obtain rfl := Option.some.inj hf
  exact hE _ _ _ _ hH dX4_setSizeAt_17

def lf_X4_firstCell (t_this_sizes : Nat → Int32) (p0 : Int32) (p1 : Int32) : Option (Int32) :=
(lf_X4_sizeAt t_this_sizes p0 p1).bind fun o1 => bnd (o1 / (4 : Int32)) fun x2 => bnd (p1 / (4 : Int32)) fun x3 => bnd (p0 / (4 : Int32)) fun x4 => (rmO x3 x2).bind fun x5 => (rmO x4 x2).bind fun x6 => some ((((x3 - x5) * (4 : Int32)) + x4) - x6)
abbrev rm_X4_firstCell : Room := { frames := 1, cells := 0, slots := 0, locals := 22 }
theorem hd_X4_firstCell : yX4_firstCell.cls ≠ "java/lang/invoke/MethodHandle" ∧ yX4_firstCell.cls ≠ "java/lang/invoke/VarHandle" ∧ (parseMethodDescriptor yX4_firstCell.desc).map (fun d => d.parameters.length) = some 2 := by decide +kernel
set_option maxHeartbeats 4000000 in
set_option maxRecDepth 100000 in
theorem ct_X4_firstCell (l : Launch) (G : gG) (h_this : Nat) (r_this : Nat → Nat) (i_this_step i_this_blockCount : Int32) (t_this_sizes : Nat → Int32) (p0 p1 : Int32) (sz : Nat) (out : Int32) (hf : lf_X4_firstCell t_this_sizes p0 p1 = some out) : gI l G yX4_firstCell cX4_firstCell 6 .int rm_X4_firstCell [.ref h_this, .int p0, .int p1] sz [(h_this, .inr (3, FX4 r_this i_this_step i_this_blockCount)), ((r_this 3), gA G 6 t_this_sizes)] out [(h_this, .inr (3, FX4 r_this i_this_step i_this_blockCount)), ((r_this 3), gA G 6 t_this_sizes)] := by
  refine gI_of (by decide +kernel) (Nat.le_of_ble_eq_true rfl) ?_
  intro p e s m args below meth c ls A Q X hK hA hsz hH hl hE
  subst hsz
  have hx := X.1
  have hb := X.2.1
  unfold lf_X4_firstCell at hf
  have hl : lv_has ls 6 [(0, .ref h_this), (1, .int p0), (2, .int p1)] := hl
  have hH : gH G A s.heap s.heap [] [(h_this, .inr (3, FX4 r_this i_this_step i_this_blockCount)), ((r_this 3), gA G 6 t_this_sizes)] := hH
  refine lv_aload_n hx hb dX4_firstCell_0 rfl (lv_at hl 0 rfl) ?_
  refine lv_iload_n hx hb dX4_firstCell_1 rfl (lv_at hl 1 rfl) ?_
  refine lv_iload_n hx hb dX4_firstCell_2 rfl (lv_at hl 2 rfl) ?_
  obtain ⟨o1, ho1, hf⟩ := sbind hf
  refine g_cVi (isC := [0, 1]) (isR := []) (isP := [0, 1]) (wr := []) (w2 := [(h_this, .inr (3, FX4 r_this i_this_step i_this_blockCount)), ((r_this 3), gA G 6 t_this_sizes)]) (q0 := 0) X hK hA hH hl (ct_X4_sizeAt l G h_this r_this i_this_step i_this_blockCount t_this_sizes p0 p1 s.heap.size o1 ho1) ⟨q_4, q_557, hd_X4_sizeAt, rfl, rfl, ⟨Nat.le_of_ble_eq_true rfl, Nat.le_of_ble_eq_true rfl⟩, ⟨Nat.zero_le _, Nat.zero_le _⟩⟩ q_606 q_555 q_556 rfl rfl ⟨rfl, rfl, rfl, rfl, by decide, rfl, rfl⟩ rfl rfl (Nat.le_of_ble_eq_true rfl) dX4_firstCell_3 (fun H locs hH => ?_)
  refine lv_iconst (v := (4 : Int32)) hx hb dX4_firstCell_6 (by decide) ?_
  refine lv_idiv hx hb dX4_firstCell_7 (by decide) ?_
  refine lv_topi (fun x2 ex2 => ?_)
  have hf := sbnd hf x2 ex2
  refine lv_istore_n (lv' := [(3, .int x2), (0, .ref h_this), (1, .int p0), (2, .int p1)]) hx hb dX4_firstCell_8 rfl hl (by decide) rfl (fun ls hl => ?_)
  refine lv_iload_n hx hb dX4_firstCell_9 rfl (lv_at hl 3 rfl) ?_
  refine lv_iconst (v := (4 : Int32)) hx hb dX4_firstCell_10 (by decide) ?_
  refine lv_idiv hx hb dX4_firstCell_11 (by decide) ?_
  refine lv_topi (fun x3 ex3 => ?_)
  have hf := sbnd hf x3 ex3
  refine lv_istore (lv' := [(4, .int x3), (3, .int x2), (0, .ref h_this), (1, .int p0), (2, .int p1)]) hx hb dX4_firstCell_12 hl (by decide) rfl (fun ls hl => ?_)
  refine lv_iload_n hx hb dX4_firstCell_14 rfl (lv_at hl 3 rfl) ?_
  refine lv_iconst (v := (4 : Int32)) hx hb dX4_firstCell_15 (by decide) ?_
  refine lv_idiv hx hb dX4_firstCell_16 (by decide) ?_
  refine lv_topi (fun x4 ex4 => ?_)
  have hf := sbnd hf x4 ex4
  refine lv_istore (lv' := [(5, .int x4), (4, .int x3), (3, .int x2), (0, .ref h_this), (1, .int p0), (2, .int p1)]) hx hb dX4_firstCell_17 hl (by decide) rfl (fun ls hl => ?_)
  refine lv_iload hx hb dX4_firstCell_19 (lv_at hl 1 rfl) ?_
  refine lv_iload hx hb dX4_firstCell_21 (lv_at hl 1 rfl) ?_
  refine lv_iload_n hx hb dX4_firstCell_23 rfl (lv_at hl 2 rfl) ?_
  obtain ⟨x5, hx5, hf⟩ := sbind hf
  refine g_rem X hx5 dX4_firstCell_24 ?_
  refine lv_isub hx hb dX4_firstCell_25 ?_
  refine lv_iconst (v := (4 : Int32)) hx hb dX4_firstCell_26 (by decide) ?_
  refine lv_imul hx hb dX4_firstCell_27 ?_
  refine lv_iload hx hb dX4_firstCell_28 (lv_at hl 0 rfl) ?_
  refine lv_iadd hx hb dX4_firstCell_30 ?_
  refine lv_iload hx hb dX4_firstCell_31 (lv_at hl 0 rfl) ?_
  refine lv_iload_n hx hb dX4_firstCell_33 rfl (lv_at hl 2 rfl) ?_
  obtain ⟨x6, hx6, hf⟩ := sbind hf
  refine g_rem X hx6 dX4_firstCell_34 ?_
  refine lv_isub hx hb dX4_firstCell_35 ?_
  obtain rfl := Option.some.inj hf
  exact hE _ _ _ _ rfl hH dX4_firstCell_36

def lf_J9_floorDiv_7cf53 (p0 : Int32) (p1 : Int32) : Option (Int32) :=
(dvO p0 p1).bind fun x1 => (if (0 : Int32) ≤ (p0 ^^^ p1) then some x1 else (if (x1 * p1) = p0 then some x1 else some (x1 - (1 : Int32))))
abbrev rm_J9_floorDiv_7cf53 : Room := { frames := 0, cells := 0, slots := 0, locals := 0 }
theorem hd_J9_floorDiv_7cf53 : yJ9_floorDiv_7cf53.cls ≠ "java/lang/invoke/MethodHandle" ∧ yJ9_floorDiv_7cf53.cls ≠ "java/lang/invoke/VarHandle" ∧ (parseMethodDescriptor yJ9_floorDiv_7cf53.desc).map (fun d => d.parameters.length) = some 2 := by decide +kernel
set_option maxHeartbeats 4000000 in
set_option maxRecDepth 100000 in
theorem ct_J9_floorDiv_7cf53 (l : Launch) (G : gG) (p0 p1 : Int32) (sz : Nat) (out : Int32) (hf : lf_J9_floorDiv_7cf53 p0 p1 = some out) : gI l G yJ9_floorDiv_7cf53 cJ9_floorDiv_7cf53 3 .int rm_J9_floorDiv_7cf53 [.int p0, .int p1] sz [] out [] := by
  refine gI_of (by decide +kernel) (Nat.le_of_ble_eq_true rfl) ?_
  intro p e s m args below meth c ls A Q X hK hA hsz hH hl hE
  subst hsz
  have hx := X.1
  have hb := X.2.1
  unfold lf_J9_floorDiv_7cf53 at hf
  have hl : lv_has ls 3 [(0, .int p0), (1, .int p1)] := hl
  have hH : gH G A s.heap s.heap [] [] := hH
  refine lv_iload_n hx hb dJ9_floorDiv_7cf53_0 rfl (lv_at hl 0 rfl) ?_
  refine lv_iload_n hx hb dJ9_floorDiv_7cf53_1 rfl (lv_at hl 1 rfl) ?_
  obtain ⟨x1, hx1, hf⟩ := sbind hf
  refine g_div X hx1 dJ9_floorDiv_7cf53_2 ?_
  refine lv_istore_n (lv' := [(2, .int x1), (0, .int p0), (1, .int p1)]) hx hb dJ9_floorDiv_7cf53_3 rfl hl (by decide) rfl (fun ls hl => ?_)
  refine lv_iload_n hx hb dJ9_floorDiv_7cf53_4 rfl (lv_at hl 1 rfl) ?_
  refine lv_iload_n hx hb dJ9_floorDiv_7cf53_5 rfl (lv_at hl 2 rfl) ?_
  refine lv_ixor hx hb dJ9_floorDiv_7cf53_6 ?_
  refine lv_if_ge (tgt := 21) hx hb dJ9_floorDiv_7cf53_7 (by decide) (fun c2 => ?_) (fun c2 => ?_)
  · have hf := spos hf c2
    refine lv_iload_n hx hb dJ9_floorDiv_7cf53_21 rfl (lv_at hl 0 rfl) ?_
    obtain rfl := Option.some.inj hf
    exact hE _ _ _ _ rfl hH dJ9_floorDiv_7cf53_22
  · have hf := sneg hf c2
    refine lv_iload_n hx hb dJ9_floorDiv_7cf53_10 rfl (lv_at hl 0 rfl) ?_
    refine lv_iload_n hx hb dJ9_floorDiv_7cf53_11 rfl (lv_at hl 2 rfl) ?_
    refine lv_imul hx hb dJ9_floorDiv_7cf53_12 ?_
    refine lv_iload_n hx hb dJ9_floorDiv_7cf53_13 rfl (lv_at hl 1 rfl) ?_
    refine lv_icmp_eq (tgt := 21) hx hb dJ9_floorDiv_7cf53_14 (by decide) (fun c3 => ?_) (fun c3 => ?_)
    · have hf := spos hf c3
      refine lv_iload_n hx hb dJ9_floorDiv_7cf53_21 rfl (lv_at hl 0 rfl) ?_
      obtain rfl := Option.some.inj hf
      exact hE _ _ _ _ rfl hH dJ9_floorDiv_7cf53_22
    · have hf := sneg hf c3
      refine lv_iload_n hx hb dJ9_floorDiv_7cf53_17 rfl (lv_at hl 0 rfl) ?_
      refine lv_iconst (v := (1 : Int32)) hx hb dJ9_floorDiv_7cf53_18 (by decide) ?_
      refine lv_isub hx hb dJ9_floorDiv_7cf53_19 ?_
      obtain rfl := Option.some.inj hf
      exact hE _ _ _ _ rfl hH dJ9_floorDiv_7cf53_20

def lf_X6_look (i_this_average : Int32) (i_this_size : Int32) (t_this_above : Nat → Int32) (t_this_left : Nat → Int32) (n_p0 : Nat) (t_p0 : Nat → Int32) (p1 : Int32) (p2 : Int32) (p3 : Int32) : Option (Int32 × Int32 × (Nat → Int32) × (Nat → Int32)) :=
(fixN FUEL (fun (self5 : (Int32 × Int32 × (Nat → Int32) × (Nat → Int32)) → Option (Int32 × (Nat → Int32) × (Nat → Int32))) (z5 : Int32 × Int32 × (Nat → Int32) × (Nat → Int32)) => (fun (x1 : Int32) (x2 : Int32) (g3 : (Nat → Int32)) (g4 : (Nat → Int32)) => (if p3 ≤ x2 then some (x1, g3, g4) else jn (fun (z9 : Int32) => (fun (s8 : Int32) => (wrA 8 g4 x2 s8).bind fun g10 => jn (fun (z13 : Int32) => (fun (s12 : Int32) => (wrA 8 g3 x2 s12).bind fun g14 => (rdA 8 g10 x2).bind fun x15 => (rdA 8 g14 x2).bind fun x16 => bnd (x1 + (x15 + x16)) fun x17 => bnd (x2 + (1 : Int32)) fun x18 => self5 (x17, x18, g14, g10)) z13) (fun k13 => (if (p2 - p2 / (8 : Int32) * (8 : Int32)) ≤ (0 : Int32) then k13 (0 : Int32) else (rdA n_p0 t_p0 ((((p2 - (1 : Int32)) * (16 : Int32)) + p1) + x2)).bind fun x19 => k13 x19))) z9) (fun k9 => (if p1 ≤ (0 : Int32) then k9 (0 : Int32) else (rdA n_p0 t_p0 ((((p2 + x2) * (16 : Int32)) + p1) - (1 : Int32))).bind fun x20 => k9 x20)))) z5.1 z5.2.1 z5.2.2.1 z5.2.2.2) ((0 : Int32), (0 : Int32), t_this_above, t_this_left)).bind fun o5 => jn (fun (z23 : Int32) => (fun (s22 : Int32) => (lf_J9_floorDiv_7cf53 o5.1 s22).bind fun o24 => some (o24, p3, o5.2.1, o5.2.2)) z23) (fun k23 => (if p3 = (4 : Int32) then k23 (8 : Int32) else k23 (16 : Int32)))
abbrev rm_X6_look : Room := { frames := 1, cells := 0, slots := 0, locals := 22 }
theorem hd_X6_look : yX6_look.cls ≠ "java/lang/invoke/MethodHandle" ∧ yX6_look.cls ≠ "java/lang/invoke/VarHandle" ∧ (parseMethodDescriptor yX6_look.desc).map (fun d => d.parameters.length) = some 4 := by decide +kernel
set_option maxHeartbeats 4000000 in
set_option maxRecDepth 100000 in
theorem ct_X6_look (l : Launch) (G : gG) (h_this : Nat) (r_this : Nat → Nat) (i_this_size i_this_average : Int32) (a_p0 n_p0 : Nat) (t_this_above t_this_left t_p0 : Nat → Int32) (p1 p2 p3 : Int32) (sz : Nat) (out : Int32 × Int32 × (Nat → Int32) × (Nat → Int32)) (hf : lf_X6_look i_this_average i_this_size t_this_above t_this_left n_p0 t_p0 p1 p2 p3 = some out) : gV l G yX6_look cX6_look 7 rm_X6_look [.ref h_this, .ref a_p0, .int p1, .int p2, .int p3] sz [(h_this, .inr (5, FX6 r_this i_this_size i_this_average)), ((r_this 2), gA G 8 t_this_left), ((r_this 3), gA G 8 t_this_above), (a_p0, gA G n_p0 t_p0)] [(h_this, .inr (5, FX6 r_this out.2.1 out.1)), ((r_this 2), gA G 8 out.2.2.2), ((r_this 3), gA G 8 out.2.2.1), (a_p0, gA G n_p0 t_p0)] := by
  refine gV_of (by decide +kernel) (Nat.le_of_ble_eq_true rfl) ?_
  intro p e s m args below meth c ls A Q X hK hA hsz hH hl hE
  subst hsz
  have hx := X.1
  have hb := X.2.1
  unfold lf_X6_look at hf
  have hl : lv_has ls 7 [(0, .ref h_this), (1, .ref a_p0), (2, .int p1), (3, .int p2), (4, .int p3)] := hl
  have hH : gH G A s.heap s.heap [] [(h_this, .inr (5, FX6 r_this i_this_size i_this_average)), ((r_this 2), gA G 8 t_this_left), ((r_this 3), gA G 8 t_this_above), (a_p0, gA G n_p0 t_p0)] := hH
  refine lv_aload_n hx hb dX6_look_0 rfl (lv_at hl 0 rfl) ?_
  refine lv_iload hx hb dX6_look_1 (lv_at hl 4 rfl) ?_
  refine g_put (w1 := [(h_this, .inr (5, FX6 r_this p3 i_this_average)), ((r_this 2), gA G 8 t_this_left), ((r_this 3), gA G 8 t_this_above), (a_p0, gA G n_p0 t_p0)]) (T := TX6) (N := 4) (ci := 5) (C := RX6) (ty := .int) (v := .int p3) X hK hH in_RX6 tyX6 tyX6_ok nmX6 0 rfl rfl 0 (by decide) q_88 (fun _ h9 => h9) rfl (by decide +kernel) rfl rfl (Nat.le_of_ble_eq_true rfl) dX6_look_3 FX6_size rfl (fun H locs hH => ?_)
  refine lv_iconst (v := (0 : Int32)) hx hb dX6_look_6 (by decide) ?_
  refine lv_istore (lv' := [(5, .int (0 : Int32)), (0, .ref h_this), (1, .ref a_p0), (2, .int p1), (3, .int p2), (4, .int p3)]) hx hb dX6_look_7 hl (by decide) rfl (fun ls hl => ?_)
  refine lv_iconst (v := (0 : Int32)) hx hb dX6_look_9 (by decide) ?_
  refine lv_istore (lv' := [(6, .int (0 : Int32)), (5, .int (0 : Int32)), (0, .ref h_this), (1, .ref a_p0), (2, .int p1), (3, .int p2), (4, .int p3)]) hx hb dX6_look_10 hl (by decide) rfl (fun ls hl => ?_)
  obtain ⟨o5, ho5, hf⟩ := sbind hf
  obtain ⟨FF5, hFF5, ho5⟩ := sfix ho5
  have L5 : ∀ (n : Nat) (x1 : Int32) (x2 : Int32) (g3 : (Nat → Int32)) (g4 : (Nat → Int32)) (b5 : Int32 × (Nat → Int32) × (Nat → Int32)) (H : Heap) (locs : List Loc) (ls : Array Slot), fixN n FF5 (x1, x2, g3, g4) = some b5 → gH G A s.heap H locs [(h_this, .inr (5, FX6 r_this p3 i_this_average)), ((r_this 2), gA G 8 g4), ((r_this 3), gA G 8 g3), (a_p0, gA G n_p0 t_p0)] → lv_has ls 7 [(0, .ref h_this), (1, .ref a_p0), (2, .int p1), (3, .int p2), (5, .int x1), (6, .int x2)] → (∀ (H : Heap) (locs : List Loc) (ls : Array Slot), gH G A s.heap H locs [(h_this, .inr (5, FX6 r_this p3 i_this_average)), ((r_this 2), gA G 8 b5.2.2), ((r_this 3), gA G 8 b5.2.1), (a_p0, gA G n_p0 t_p0)] → lv_has ls 7 [(0, .ref h_this), (5, .int b5.1)] → W p l e rm_X6_look s m args below meth c H locs 0 0 Q (F0 m 106 ls [])) → W p l e rm_X6_look s m args below meth c H locs 0 0 Q (F0 m 12 ls []) := by
    intro n
    induction n with
    | zero => intro x1 x2 g3 g4 b5 H locs ls hf; exact sfix0 hf
    | succ n ih =>
      intro x1 x2 g3 g4 b5 H locs ls hf hH hl KK
      obtain ⟨self5, hself5, hf⟩ := sstep hFF5 hf
      refine lv_iload hx hb dX6_look_12 (lv_at hl 5 rfl) ?_
      refine lv_aload_n hx hb dX6_look_14 rfl (lv_at hl 0 rfl) ?_
      refine g_get (T := TX6) (N := 4) (ci := 5) (C := RX6) (v := .int p3) X hK hH in_RX6 0 rfl rfl 0 (by decide) q_88 (fun _ h9 => h9) rfl dX6_look_15 ?_
      refine lv_icmp_ge (tgt := 106) hx hb dX6_look_18 (by decide) (fun c6 => ?_) (fun c6 => ?_)
      · have hf := spos hf c6
        obtain rfl := Option.some.inj hf
        exact KK _ _ _ hH (lv_sub hl [0, 4] rfl)
      · have hf := sneg hf c6
        refine lv_aload_n hx hb dX6_look_21 rfl (lv_at hl 0 rfl) ?_
        refine g_get (T := TX6) (N := 4) (ci := 5) (C := RX6) (v := .ref (r_this 2)) X hK hH in_RX6 0 rfl rfl 2 (by decide) q_90 (fun _ h9 => h9) rfl dX6_look_22 ?_
        refine lv_iload hx hb dX6_look_25 (lv_at hl 5 rfl) ?_
        refine lv_iload_n hx hb dX6_look_27 rfl (lv_at hl 2 rfl) ?_
        obtain ⟨k9, hk9, hf⟩ := sjn hf
        have J9 : ∀ (s8 : Int32) (H : Heap) (locs : List Loc) (ls : Array Slot), k9 s8 = some b5 → gH G A s.heap H locs [(h_this, .inr (5, FX6 r_this p3 i_this_average)), ((r_this 2), gA G 8 g4), ((r_this 3), gA G 8 g3), (a_p0, gA G n_p0 t_p0)] → lv_has ls 7 [(0, .ref h_this), (1, .ref a_p0), (2, .int p1), (3, .int p2), (5, .int x1), (6, .int x2)] → W p l e rm_X6_look s m args below meth c H locs 0 0 Q (F0 m 48 ls [.int s8, .int x2, .ref (r_this 2)]) := by
          intro s8 H locs ls hf hH hl
          have hf := hk9 _ _ hf
          obtain ⟨g10, hg10, hf⟩ := sbind hf
          refine g_ast (w1 := [(h_this, .inr (5, FX6 r_this p3 i_this_average)), ((r_this 2), gA G 8 g10), ((r_this 3), gA G 8 g3), (a_p0, gA G n_p0 t_p0)]) X hK hH 1 rfl hg10 dX6_look_48 rfl (fun H locs hH => ?_)
          refine lv_aload_n hx hb dX6_look_49 rfl (lv_at hl 0 rfl) ?_
          refine g_get (T := TX6) (N := 4) (ci := 5) (C := RX6) (v := .ref (r_this 3)) X hK hH in_RX6 0 rfl rfl 3 (by decide) q_91 (fun _ h9 => h9) rfl dX6_look_50 ?_
          refine lv_iload hx hb dX6_look_53 (lv_at hl 5 rfl) ?_
          refine lv_iload_n hx hb dX6_look_55 rfl (lv_at hl 3 rfl) ?_
          refine lv_bipush (v := (8 : Int32)) hx hb dX6_look_56 (by decide) ?_
          refine lv_irem hx hb dX6_look_58 (by decide) ?_
          obtain ⟨k13, hk13, hf⟩ := sjn hf
          have J13 : ∀ (s12 : Int32) (H : Heap) (locs : List Loc) (ls : Array Slot), k13 s12 = some b5 → gH G A s.heap H locs [(h_this, .inr (5, FX6 r_this p3 i_this_average)), ((r_this 2), gA G 8 g10), ((r_this 3), gA G 8 g3), (a_p0, gA G n_p0 t_p0)] → lv_has ls 7 [(0, .ref h_this), (1, .ref a_p0), (2, .int p1), (3, .int p2), (5, .int x1), (6, .int x2)] → W p l e rm_X6_look s m args below meth c H locs 0 0 Q (F0 m 79 ls [.int s12, .int x2, .ref (r_this 3)]) := by
            intro s12 H locs ls hf hH hl
            have hf := hk13 _ _ hf
            obtain ⟨g14, hg14, hf⟩ := sbind hf
            refine g_ast (w1 := [(h_this, .inr (5, FX6 r_this p3 i_this_average)), ((r_this 2), gA G 8 g10), ((r_this 3), gA G 8 g14), (a_p0, gA G n_p0 t_p0)]) X hK hH 2 rfl hg14 dX6_look_79 rfl (fun H locs hH => ?_)
            refine lv_iload hx hb dX6_look_80 (lv_at hl 4 rfl) ?_
            refine lv_aload_n hx hb dX6_look_82 rfl (lv_at hl 0 rfl) ?_
            refine g_get (T := TX6) (N := 4) (ci := 5) (C := RX6) (v := .ref (r_this 2)) X hK hH in_RX6 0 rfl rfl 2 (by decide) q_90 (fun _ h9 => h9) rfl dX6_look_83 ?_
            refine lv_iload hx hb dX6_look_86 (lv_at hl 5 rfl) ?_
            obtain ⟨x15, hx15, hf⟩ := sbind hf
            refine g_ald X hK hH 1 rfl hx15 dX6_look_88 ?_
            refine lv_aload_n hx hb dX6_look_89 rfl (lv_at hl 0 rfl) ?_
            refine g_get (T := TX6) (N := 4) (ci := 5) (C := RX6) (v := .ref (r_this 3)) X hK hH in_RX6 0 rfl rfl 3 (by decide) q_91 (fun _ h9 => h9) rfl dX6_look_90 ?_
            refine lv_iload hx hb dX6_look_93 (lv_at hl 5 rfl) ?_
            obtain ⟨x16, hx16, hf⟩ := sbind hf
            refine g_ald X hK hH 2 rfl hx16 dX6_look_95 ?_
            refine lv_iadd hx hb dX6_look_96 ?_
            refine lv_iadd hx hb dX6_look_97 ?_
            refine lv_topi (fun x17 ex17 => ?_)
            have hf := sbnd hf x17 ex17
            refine lv_istore (lv' := [(5, .int x17), (0, .ref h_this), (1, .ref a_p0), (2, .int p1), (3, .int p2), (6, .int x2)]) hx hb dX6_look_98 hl (by decide) rfl (fun ls hl => ?_)
            obtain ⟨x18, ex18⟩ : ∃ y : Int32, y = (x2 + (1 : Int32)) := ⟨_, rfl⟩
            have hf := sbnd hf x18 ex18
            refine lv_iinc (v := x18) (lv' := [(6, .int x18), (5, .int x17), (0, .ref h_this), (1, .ref a_p0), (2, .int p1), (3, .int p2)]) hx hb dX6_look_100 hl (k := 5) rfl (by rw [ex18]; rfl) (by decide) rfl (fun ls hl => ?_)
            refine lv_goto (tgt := 12) hx hb dX6_look_103 (by decide) ?_
            exact ih x17 x18 g14 g10 _ _ _ _ (hself5 _ _ hf) hH (lv_sub hl [2, 3, 4, 5, 1, 0] rfl) KK
          refine lv_if_le (tgt := 78) hx hb dX6_look_59 (by decide) (fun c11 => ?_) (fun c11 => ?_)
          · have hf := spos hf c11
            refine lv_iconst (v := (0 : Int32)) hx hb dX6_look_78 (by decide) ?_
            exact J13 (0 : Int32) _ _ _ hf hH (lv_sub hl [0, 1, 2, 3, 4, 5] rfl)
          · have hf := sneg hf c11
            refine lv_aload_n hx hb dX6_look_62 rfl (lv_at hl 1 rfl) ?_
            refine lv_iload_n hx hb dX6_look_63 rfl (lv_at hl 3 rfl) ?_
            refine lv_iconst (v := (1 : Int32)) hx hb dX6_look_64 (by decide) ?_
            refine lv_isub hx hb dX6_look_65 ?_
            refine lv_bipush (v := (16 : Int32)) hx hb dX6_look_66 (by decide) ?_
            refine lv_imul hx hb dX6_look_68 ?_
            refine lv_iload_n hx hb dX6_look_69 rfl (lv_at hl 2 rfl) ?_
            refine lv_iadd hx hb dX6_look_70 ?_
            refine lv_iload hx hb dX6_look_71 (lv_at hl 5 rfl) ?_
            refine lv_iadd hx hb dX6_look_73 ?_
            obtain ⟨x19, hx19, hf⟩ := sbind hf
            refine g_ald X hK hH 3 rfl hx19 dX6_look_74 ?_
            refine lv_goto (tgt := 79) hx hb dX6_look_75 (by decide) ?_
            exact J13 x19 _ _ _ hf hH (lv_sub hl [0, 1, 2, 3, 4, 5] rfl)
        refine lv_if_le (tgt := 47) hx hb dX6_look_28 (by decide) (fun c7 => ?_) (fun c7 => ?_)
        · have hf := spos hf c7
          refine lv_iconst (v := (0 : Int32)) hx hb dX6_look_47 (by decide) ?_
          exact J9 (0 : Int32) _ _ _ hf hH (lv_sub hl [0, 1, 2, 3, 4, 5] rfl)
        · have hf := sneg hf c7
          refine lv_aload_n hx hb dX6_look_31 rfl (lv_at hl 1 rfl) ?_
          refine lv_iload_n hx hb dX6_look_32 rfl (lv_at hl 3 rfl) ?_
          refine lv_iload hx hb dX6_look_33 (lv_at hl 5 rfl) ?_
          refine lv_iadd hx hb dX6_look_35 ?_
          refine lv_bipush (v := (16 : Int32)) hx hb dX6_look_36 (by decide) ?_
          refine lv_imul hx hb dX6_look_38 ?_
          refine lv_iload_n hx hb dX6_look_39 rfl (lv_at hl 2 rfl) ?_
          refine lv_iadd hx hb dX6_look_40 ?_
          refine lv_iconst (v := (1 : Int32)) hx hb dX6_look_41 (by decide) ?_
          refine lv_isub hx hb dX6_look_42 ?_
          obtain ⟨x20, hx20, hf⟩ := sbind hf
          refine g_ald X hK hH 3 rfl hx20 dX6_look_43 ?_
          refine lv_goto (tgt := 48) hx hb dX6_look_44 (by decide) ?_
          exact J9 x20 _ _ _ hf hH (lv_sub hl [0, 1, 2, 3, 4, 5] rfl)
  refine L5 FUEL (0 : Int32) (0 : Int32) t_this_above t_this_left o5 _ _ _ ho5 hH (lv_sub hl [2, 3, 4, 5, 1, 0] rfl) (fun H locs ls hH hl => ?_)
  refine lv_aload_n hx hb dX6_look_106 rfl (lv_at hl 0 rfl) ?_
  refine lv_iload hx hb dX6_look_107 (lv_at hl 1 rfl) ?_
  refine lv_aload_n hx hb dX6_look_109 rfl (lv_at hl 0 rfl) ?_
  refine g_get (T := TX6) (N := 4) (ci := 5) (C := RX6) (v := .int p3) X hK hH in_RX6 0 rfl rfl 0 (by decide) q_88 (fun _ h9 => h9) rfl dX6_look_110 ?_
  refine lv_iconst (v := (4 : Int32)) hx hb dX6_look_113 (by decide) ?_
  obtain ⟨k23, hk23, hf⟩ := sjn hf
  have J23 : ∀ (s22 : Int32) (H : Heap) (locs : List Loc) (ls : Array Slot), k23 s22 = some out → gH G A s.heap H locs [(h_this, .inr (5, FX6 r_this p3 i_this_average)), ((r_this 2), gA G 8 o5.2.2), ((r_this 3), gA G 8 o5.2.1), (a_p0, gA G n_p0 t_p0)] → lv_has ls 7 [] → W p l e rm_X6_look s m args below meth c H locs 0 0 Q (F0 m 124 ls [.int s22, .int o5.1, .ref h_this]) := by
    intro s22 H locs ls hf hH hl
    have hf := hk23 _ _ hf
    obtain ⟨o24, ho24, hf⟩ := sbind hf
    refine g_cSi (isC := []) (isR := [0, 1, 2, 3]) (isP := [0, 1, 2, 3]) (wr := [(h_this, .inr (5, FX6 r_this p3 i_this_average)), ((r_this 2), gA G 8 o5.2.2), ((r_this 3), gA G 8 o5.2.1), (a_p0, gA G n_p0 t_p0)]) (w2 := [(h_this, .inr (5, FX6 r_this p3 i_this_average)), ((r_this 2), gA G 8 o5.2.2), ((r_this 3), gA G 8 o5.2.1), (a_p0, gA G n_p0 t_p0)]) X hK hA hH hl (ct_J9_floorDiv_7cf53 l G o5.1 s22 H.size o24 ho24) ⟨q_16, q_631, hd_J9_floorDiv_7cf53, rfl, rfl, ⟨Nat.le_of_ble_eq_true rfl, Nat.le_of_ble_eq_true rfl⟩, ⟨Nat.zero_le _, Nat.zero_le _⟩⟩ q_629 q_630 ⟨rfl, rfl, rfl, rfl, by decide, rfl, rfl⟩ rfl rfl (Nat.le_of_ble_eq_true rfl) dX6_look_124 (fun H locs hH => ?_)
    refine g_put (w1 := [(h_this, .inr (5, FX6 r_this p3 o24)), ((r_this 2), gA G 8 o5.2.2), ((r_this 3), gA G 8 o5.2.1), (a_p0, gA G n_p0 t_p0)]) (T := TX6) (N := 4) (ci := 5) (C := RX6) (ty := .int) (v := .int o24) X hK hH in_RX6 tyX6 tyX6_ok nmX6 0 rfl rfl 1 (by decide) q_89 (fun _ h9 => h9) rfl (by decide +kernel) rfl rfl (Nat.le_of_ble_eq_true rfl) dX6_look_127 FX6_average rfl (fun H locs hH => ?_)
    obtain rfl := Option.some.inj hf
    exact hE _ _ _ _ hH dX6_look_130
  refine lv_icmp_ne (tgt := 122) hx hb dX6_look_114 (by decide) (fun c21 => ?_) (fun c21 => ?_)
  · have hf := sneg hf c21
    refine lv_bipush (v := (16 : Int32)) hx hb dX6_look_122 (by decide) ?_
    exact J23 (16 : Int32) _ _ _ hf hH (lv_sub hl [] rfl)
  · have hf := spos hf c21
    refine lv_bipush (v := (8 : Int32)) hx hb dX6_look_117 (by decide) ?_
    refine lv_goto (tgt := 124) hx hb dX6_look_119 (by decide) ?_
    exact J23 (8 : Int32) _ _ _ hf hH (lv_sub hl [] rfl)

def lf_X6_of (i_this_average : Int32) (t_this_above : Nat → Int32) (t_this_left : Nat → Int32) (p0 : Int32) (p1 : Int32) (p2 : Int32) : Option (Int32) :=
(if p0 = (0 : Int32) then some i_this_average else (if p0 = (1 : Int32) then (rdA 8 t_this_left p1).bind fun x8 => some x8 else (if p0 = (2 : Int32) then (rdA 8 t_this_above p2).bind fun x7 => some x7 else (rdA 8 t_this_left p1).bind fun x4 => (rdA 8 t_this_above p2).bind fun x5 => (lf_J9_floorDiv_7cf53 (x4 + x5) (2 : Int32)).bind fun o6 => some o6)))
abbrev rm_X6_of : Room := { frames := 1, cells := 0, slots := 0, locals := 22 }
theorem hd_X6_of : yX6_of.cls ≠ "java/lang/invoke/MethodHandle" ∧ yX6_of.cls ≠ "java/lang/invoke/VarHandle" ∧ (parseMethodDescriptor yX6_of.desc).map (fun d => d.parameters.length) = some 3 := by decide +kernel
set_option maxHeartbeats 4000000 in
set_option maxRecDepth 100000 in
theorem ct_X6_of (l : Launch) (G : gG) (h_this : Nat) (r_this : Nat → Nat) (i_this_size i_this_average : Int32) (t_this_above t_this_left : Nat → Int32) (p0 p1 p2 : Int32) (sz : Nat) (out : Int32) (hf : lf_X6_of i_this_average t_this_above t_this_left p0 p1 p2 = some out) : gI l G yX6_of cX6_of 4 .int rm_X6_of [.ref h_this, .int p0, .int p1, .int p2] sz [(h_this, .inr (5, FX6 r_this i_this_size i_this_average)), ((r_this 2), gA G 8 t_this_left), ((r_this 3), gA G 8 t_this_above)] out [(h_this, .inr (5, FX6 r_this i_this_size i_this_average)), ((r_this 2), gA G 8 t_this_left), ((r_this 3), gA G 8 t_this_above)] := by
  refine gI_of (by decide +kernel) (Nat.le_of_ble_eq_true rfl) ?_
  intro p e s m args below meth c ls A Q X hK hA hsz hH hl hE
  subst hsz
  have hx := X.1
  have hb := X.2.1
  unfold lf_X6_of at hf
  have hl : lv_has ls 4 [(0, .ref h_this), (1, .int p0), (2, .int p1), (3, .int p2)] := hl
  have hH : gH G A s.heap s.heap [] [(h_this, .inr (5, FX6 r_this i_this_size i_this_average)), ((r_this 2), gA G 8 t_this_left), ((r_this 3), gA G 8 t_this_above)] := hH
  refine lv_iload_n hx hb dX6_of_0 rfl (lv_at hl 1 rfl) ?_
  refine lv_if_ne (tgt := 9) hx hb dX6_of_1 (by decide) (fun c1 => ?_) (fun c1 => ?_)
  · have hf := sneg hf c1
    refine lv_iload_n hx hb dX6_of_9 rfl (lv_at hl 1 rfl) ?_
    refine lv_iconst (v := (1 : Int32)) hx hb dX6_of_10 (by decide) ?_
    refine lv_icmp_ne (tgt := 21) hx hb dX6_of_11 (by decide) (fun c2 => ?_) (fun c2 => ?_)
    · have hf := sneg hf c2
      refine lv_iload_n hx hb dX6_of_21 rfl (lv_at hl 1 rfl) ?_
      refine lv_iconst (v := (2 : Int32)) hx hb dX6_of_22 (by decide) ?_
      refine lv_icmp_ne (tgt := 33) hx hb dX6_of_23 (by decide) (fun c3 => ?_) (fun c3 => ?_)
      · have hf := sneg hf c3
        refine lv_aload_n hx hb dX6_of_33 rfl (lv_at hl 0 rfl) ?_
        refine g_get (T := TX6) (N := 4) (ci := 5) (C := RX6) (v := .ref (r_this 2)) X hK hH in_RX6 0 rfl rfl 2 (by decide) q_90 (fun _ h9 => h9) rfl dX6_of_34 ?_
        refine lv_iload_n hx hb dX6_of_37 rfl (lv_at hl 2 rfl) ?_
        obtain ⟨x4, hx4, hf⟩ := sbind hf
        refine g_ald X hK hH 1 rfl hx4 dX6_of_38 ?_
        refine lv_aload_n hx hb dX6_of_39 rfl (lv_at hl 0 rfl) ?_
        refine g_get (T := TX6) (N := 4) (ci := 5) (C := RX6) (v := .ref (r_this 3)) X hK hH in_RX6 0 rfl rfl 3 (by decide) q_91 (fun _ h9 => h9) rfl dX6_of_40 ?_
        refine lv_iload_n hx hb dX6_of_43 rfl (lv_at hl 3 rfl) ?_
        obtain ⟨x5, hx5, hf⟩ := sbind hf
        refine g_ald X hK hH 2 rfl hx5 dX6_of_44 ?_
        refine lv_iadd hx hb dX6_of_45 ?_
        refine lv_iconst (v := (2 : Int32)) hx hb dX6_of_46 (by decide) ?_
        obtain ⟨o6, ho6, hf⟩ := sbind hf
        refine g_cSi (isC := []) (isR := [0, 1, 2]) (isP := [0, 1, 2]) (wr := [(h_this, .inr (5, FX6 r_this i_this_size i_this_average)), ((r_this 2), gA G 8 t_this_left), ((r_this 3), gA G 8 t_this_above)]) (w2 := [(h_this, .inr (5, FX6 r_this i_this_size i_this_average)), ((r_this 2), gA G 8 t_this_left), ((r_this 3), gA G 8 t_this_above)]) X hK hA hH hl (ct_J9_floorDiv_7cf53 l G (x4 + x5) (2 : Int32) s.heap.size o6 ho6) ⟨q_16, q_631, hd_J9_floorDiv_7cf53, rfl, rfl, ⟨Nat.le_of_ble_eq_true rfl, Nat.le_of_ble_eq_true rfl⟩, ⟨Nat.zero_le _, Nat.zero_le _⟩⟩ q_629 q_630 ⟨rfl, rfl, rfl, rfl, by decide, rfl, rfl⟩ rfl rfl (Nat.le_of_ble_eq_true rfl) dX6_of_47 (fun H locs hH => ?_)
        obtain rfl := Option.some.inj hf
        exact hE _ _ _ _ rfl hH dX6_of_50
      · have hf := spos hf c3
        refine lv_aload_n hx hb dX6_of_26 rfl (lv_at hl 0 rfl) ?_
        refine g_get (T := TX6) (N := 4) (ci := 5) (C := RX6) (v := .ref (r_this 3)) X hK hH in_RX6 0 rfl rfl 3 (by decide) q_91 (fun _ h9 => h9) rfl dX6_of_27 ?_
        refine lv_iload_n hx hb dX6_of_30 rfl (lv_at hl 3 rfl) ?_
        obtain ⟨x7, hx7, hf⟩ := sbind hf
        refine g_ald X hK hH 2 rfl hx7 dX6_of_31 ?_
        obtain rfl := Option.some.inj hf
        exact hE _ _ _ _ rfl hH dX6_of_32
    · have hf := spos hf c2
      refine lv_aload_n hx hb dX6_of_14 rfl (lv_at hl 0 rfl) ?_
      refine g_get (T := TX6) (N := 4) (ci := 5) (C := RX6) (v := .ref (r_this 2)) X hK hH in_RX6 0 rfl rfl 2 (by decide) q_90 (fun _ h9 => h9) rfl dX6_of_15 ?_
      refine lv_iload_n hx hb dX6_of_18 rfl (lv_at hl 2 rfl) ?_
      obtain ⟨x8, hx8, hf⟩ := sbind hf
      refine g_ald X hK hH 1 rfl hx8 dX6_of_19 ?_
      obtain rfl := Option.some.inj hf
      exact hE _ _ _ _ rfl hH dX6_of_20
  · have hf := spos hf c1
    refine lv_aload_n hx hb dX6_of_4 rfl (lv_at hl 0 rfl) ?_
    refine g_get (T := TX6) (N := 4) (ci := 5) (C := RX6) (v := .int i_this_average) X hK hH in_RX6 0 rfl rfl 1 (by decide) q_89 (fun _ h9 => h9) rfl dX6_of_5 ?_
    obtain rfl := Option.some.inj hf
    exact hE _ _ _ _ rfl hH dX6_of_8

def lf_X6_bestMode (i_this_average : Int32) (i_this_size : Int32) (t_this_above : Nat → Int32) (t_this_left : Nat → Int32) (n_p0 : Nat) (t_p0 : Nat → Int32) (p1 : Int32) (p2 : Int32) : Option (Int32) :=
(fixN FUEL (fun (self4 : (Int32 × Int32 × Int32) → Option (Int32)) (z4 : Int32 × Int32 × Int32) => (fun (x1 : Int32) (x2 : Int32) (x3 : Int32) => (if (4 : Int32) ≤ x3 then some x1 else (fixN FUEL (fun (self8 : (Int32 × Int32) → Option (Int32)) (z8 : Int32 × Int32) => (fun (x6 : Int32) (x7 : Int32) => (if i_this_size ≤ x7 then some x6 else (fixN FUEL (fun (self12 : (Int32 × Int32) → Option (Int32)) (z12 : Int32 × Int32) => (fun (x10 : Int32) (x11 : Int32) => (if i_this_size ≤ x11 then some x10 else (rdA n_p0 t_p0 ((((p2 + x7) * (16 : Int32)) + p1) + x11)).bind fun x14 => (lf_X6_of i_this_average t_this_above t_this_left x3 x7 x11).bind fun o15 => bnd (x10 + (jabs (x14 - o15))) fun x16 => bnd (x11 + (1 : Int32)) fun x17 => self12 (x16, x17))) z12.1 z12.2) (x6, (0 : Int32))).bind fun o12 => bnd (x7 + (1 : Int32)) fun x18 => self8 (o12, x18))) z8.1 z8.2) ((0 : Int32), (0 : Int32))).bind fun o8 => jn (fun (z22 : Int32 × Int32) => (fun (x20 : Int32) (x21 : Int32) => bnd (x3 + (1 : Int32)) fun x23 => self4 (x20, x21, x23)) z22.1 z22.2) (fun k22 => jn (fun (z24 : Unit) => k22 (x3, o8)) (fun k24 => (if x3 = (0 : Int32) then k24 () else (if x2 ≤ o8 then k22 (x1, x2) else k24 ())))))) z4.1 z4.2.1 z4.2.2) ((0 : Int32), (0 : Int32), (0 : Int32))).bind fun o4 => some o4
abbrev rm_X6_bestMode : Room := { frames := 2, cells := 0, slots := 0, locals := 45 }
theorem hd_X6_bestMode : yX6_bestMode.cls ≠ "java/lang/invoke/MethodHandle" ∧ yX6_bestMode.cls ≠ "java/lang/invoke/VarHandle" ∧ (parseMethodDescriptor yX6_bestMode.desc).map (fun d => d.parameters.length) = some 3 := by decide +kernel
set_option maxHeartbeats 4000000 in
set_option maxRecDepth 100000 in
theorem ct_X6_bestMode (l : Launch) (G : gG) (h_this : Nat) (r_this : Nat → Nat) (i_this_size i_this_average : Int32) (a_p0 n_p0 : Nat) (t_this_above t_this_left t_p0 : Nat → Int32) (p1 p2 : Int32) (sz : Nat) (out : Int32) (hf : lf_X6_bestMode i_this_average i_this_size t_this_above t_this_left n_p0 t_p0 p1 p2 = some out) : gI l G yX6_bestMode cX6_bestMode 10 .int rm_X6_bestMode [.ref h_this, .ref a_p0, .int p1, .int p2] sz [(h_this, .inr (5, FX6 r_this i_this_size i_this_average)), ((r_this 2), gA G 8 t_this_left), ((r_this 3), gA G 8 t_this_above), (a_p0, gA G n_p0 t_p0)] out [(h_this, .inr (5, FX6 r_this i_this_size i_this_average)), ((r_this 2), gA G 8 t_this_left), ((r_this 3), gA G 8 t_this_above), (a_p0, gA G n_p0 t_p0)] := by
  refine gI_of (by decide +kernel) (Nat.le_of_ble_eq_true rfl) ?_
  intro p e s m args below meth c ls A Q X hK hA hsz hH hl hE
  subst hsz
  have hx := X.1
  have hb := X.2.1
  unfold lf_X6_bestMode at hf
  have hl : lv_has ls 10 [(0, .ref h_this), (1, .ref a_p0), (2, .int p1), (3, .int p2)] := hl
  have hH : gH G A s.heap s.heap [] [(h_this, .inr (5, FX6 r_this i_this_size i_this_average)), ((r_this 2), gA G 8 t_this_left), ((r_this 3), gA G 8 t_this_above), (a_p0, gA G n_p0 t_p0)] := hH
  refine lv_iconst (v := (0 : Int32)) hx hb dX6_bestMode_0 (by decide) ?_
  refine lv_istore (lv' := [(4, .int (0 : Int32)), (0, .ref h_this), (1, .ref a_p0), (2, .int p1), (3, .int p2)]) hx hb dX6_bestMode_1 hl (by decide) rfl (fun ls hl => ?_)
  refine lv_iconst (v := (0 : Int32)) hx hb dX6_bestMode_3 (by decide) ?_
  refine lv_istore (lv' := [(5, .int (0 : Int32)), (4, .int (0 : Int32)), (0, .ref h_this), (1, .ref a_p0), (2, .int p1), (3, .int p2)]) hx hb dX6_bestMode_4 hl (by decide) rfl (fun ls hl => ?_)
  refine lv_iconst (v := (0 : Int32)) hx hb dX6_bestMode_6 (by decide) ?_
  refine lv_istore (lv' := [(6, .int (0 : Int32)), (5, .int (0 : Int32)), (4, .int (0 : Int32)), (0, .ref h_this), (1, .ref a_p0), (2, .int p1), (3, .int p2)]) hx hb dX6_bestMode_7 hl (by decide) rfl (fun ls hl => ?_)
  obtain ⟨o4, ho4, hf⟩ := sbind hf
  obtain ⟨FF4, hFF4, ho4⟩ := sfix ho4
  have L4 : ∀ (n : Nat) (x1 : Int32) (x2 : Int32) (x3 : Int32) (b4 : Int32) (H : Heap) (locs : List Loc) (ls : Array Slot), fixN n FF4 (x1, x2, x3) = some b4 → gH G A s.heap H locs [(h_this, .inr (5, FX6 r_this i_this_size i_this_average)), ((r_this 2), gA G 8 t_this_left), ((r_this 3), gA G 8 t_this_above), (a_p0, gA G n_p0 t_p0)] → lv_has ls 10 [(0, .ref h_this), (1, .ref a_p0), (2, .int p1), (3, .int p2), (4, .int x1), (5, .int x2), (6, .int x3)] → (∀ (H : Heap) (locs : List Loc) (ls : Array Slot), gH G A s.heap H locs [(h_this, .inr (5, FX6 r_this i_this_size i_this_average)), ((r_this 2), gA G 8 t_this_left), ((r_this 3), gA G 8 t_this_above), (a_p0, gA G n_p0 t_p0)] → lv_has ls 10 [(4, .int b4)] → W p l e rm_X6_bestMode s m args below meth c H locs 0 0 Q (F0 m 113 ls [])) → W p l e rm_X6_bestMode s m args below meth c H locs 0 0 Q (F0 m 9 ls []) := by
    intro n
    induction n with
    | zero => intro x1 x2 x3 b4 H locs ls hf; exact sfix0 hf
    | succ n ih =>
      intro x1 x2 x3 b4 H locs ls hf hH hl KK
      obtain ⟨self4, hself4, hf⟩ := sstep hFF4 hf
      refine lv_iload hx hb dX6_bestMode_9 (lv_at hl 6 rfl) ?_
      refine lv_iconst (v := (4 : Int32)) hx hb dX6_bestMode_11 (by decide) ?_
      refine lv_icmp_ge (tgt := 113) hx hb dX6_bestMode_12 (by decide) (fun c5 => ?_) (fun c5 => ?_)
      · have hf := spos hf c5
        obtain rfl := Option.some.inj hf
        exact KK _ _ _ hH (lv_sub hl [4] rfl)
      · have hf := sneg hf c5
        refine lv_iconst (v := (0 : Int32)) hx hb dX6_bestMode_15 (by decide) ?_
        refine lv_istore (lv' := [(7, .int (0 : Int32)), (0, .ref h_this), (1, .ref a_p0), (2, .int p1), (3, .int p2), (4, .int x1), (5, .int x2), (6, .int x3)]) hx hb dX6_bestMode_16 hl (by decide) rfl (fun ls hl => ?_)
        refine lv_iconst (v := (0 : Int32)) hx hb dX6_bestMode_18 (by decide) ?_
        refine lv_istore (lv' := [(8, .int (0 : Int32)), (7, .int (0 : Int32)), (0, .ref h_this), (1, .ref a_p0), (2, .int p1), (3, .int p2), (4, .int x1), (5, .int x2), (6, .int x3)]) hx hb dX6_bestMode_19 hl (by decide) rfl (fun ls hl => ?_)
        obtain ⟨o8, ho8, hf⟩ := sbind hf
        obtain ⟨FF8, hFF8, ho8⟩ := sfix ho8
        have L8 : ∀ (n : Nat) (x6 : Int32) (x7 : Int32) (b8 : Int32) (H : Heap) (locs : List Loc) (ls : Array Slot), fixN n FF8 (x6, x7) = some b8 → gH G A s.heap H locs [(h_this, .inr (5, FX6 r_this i_this_size i_this_average)), ((r_this 2), gA G 8 t_this_left), ((r_this 3), gA G 8 t_this_above), (a_p0, gA G n_p0 t_p0)] → lv_has ls 10 [(0, .ref h_this), (1, .ref a_p0), (2, .int p1), (3, .int p2), (4, .int x1), (5, .int x2), (6, .int x3), (7, .int x6), (8, .int x7)] → (∀ (H : Heap) (locs : List Loc) (ls : Array Slot), gH G A s.heap H locs [(h_this, .inr (5, FX6 r_this i_this_size i_this_average)), ((r_this 2), gA G 8 t_this_left), ((r_this 3), gA G 8 t_this_above), (a_p0, gA G n_p0 t_p0)] → lv_has ls 10 [(0, .ref h_this), (1, .ref a_p0), (2, .int p1), (3, .int p2), (4, .int x1), (5, .int x2), (6, .int x3), (7, .int b8)] → W p l e rm_X6_bestMode s m args below meth c H locs 0 0 Q (F0 m 87 ls [])) → W p l e rm_X6_bestMode s m args below meth c H locs 0 0 Q (F0 m 21 ls []) := by
          intro n
          induction n with
          | zero => intro x6 x7 b8 H locs ls hf; exact sfix0 hf
          | succ n ih =>
            intro x6 x7 b8 H locs ls hf hH hl KK
            obtain ⟨self8, hself8, hf⟩ := sstep hFF8 hf
            refine lv_iload hx hb dX6_bestMode_21 (lv_at hl 8 rfl) ?_
            refine lv_aload_n hx hb dX6_bestMode_23 rfl (lv_at hl 0 rfl) ?_
            refine g_get (T := TX6) (N := 4) (ci := 5) (C := RX6) (v := .int i_this_size) X hK hH in_RX6 0 rfl rfl 0 (by decide) q_88 (fun _ h9 => h9) rfl dX6_bestMode_24 ?_
            refine lv_icmp_ge (tgt := 87) hx hb dX6_bestMode_27 (by decide) (fun c9 => ?_) (fun c9 => ?_)
            · have hf := spos hf c9
              obtain rfl := Option.some.inj hf
              exact KK _ _ _ hH (lv_sub hl [0, 1, 2, 3, 4, 5, 6, 7] rfl)
            · have hf := sneg hf c9
              refine lv_iconst (v := (0 : Int32)) hx hb dX6_bestMode_30 (by decide) ?_
              refine lv_istore (lv' := [(9, .int (0 : Int32)), (0, .ref h_this), (1, .ref a_p0), (2, .int p1), (3, .int p2), (4, .int x1), (5, .int x2), (6, .int x3), (7, .int x6), (8, .int x7)]) hx hb dX6_bestMode_31 hl (by decide) rfl (fun ls hl => ?_)
              obtain ⟨o12, ho12, hf⟩ := sbind hf
              obtain ⟨FF12, hFF12, ho12⟩ := sfix ho12
              have L12 : ∀ (n : Nat) (x10 : Int32) (x11 : Int32) (b12 : Int32) (H : Heap) (locs : List Loc) (ls : Array Slot), fixN n FF12 (x10, x11) = some b12 → gH G A s.heap H locs [(h_this, .inr (5, FX6 r_this i_this_size i_this_average)), ((r_this 2), gA G 8 t_this_left), ((r_this 3), gA G 8 t_this_above), (a_p0, gA G n_p0 t_p0)] → lv_has ls 10 [(0, .ref h_this), (1, .ref a_p0), (2, .int p1), (3, .int p2), (4, .int x1), (5, .int x2), (6, .int x3), (7, .int x10), (8, .int x7), (9, .int x11)] → (∀ (H : Heap) (locs : List Loc) (ls : Array Slot), gH G A s.heap H locs [(h_this, .inr (5, FX6 r_this i_this_size i_this_average)), ((r_this 2), gA G 8 t_this_left), ((r_this 3), gA G 8 t_this_above), (a_p0, gA G n_p0 t_p0)] → lv_has ls 10 [(0, .ref h_this), (1, .ref a_p0), (2, .int p1), (3, .int p2), (4, .int x1), (5, .int x2), (6, .int x3), (7, .int b12), (8, .int x7)] → W p l e rm_X6_bestMode s m args below meth c H locs 0 0 Q (F0 m 81 ls [])) → W p l e rm_X6_bestMode s m args below meth c H locs 0 0 Q (F0 m 33 ls []) := by
                intro n
                induction n with
                | zero => intro x10 x11 b12 H locs ls hf; exact sfix0 hf
                | succ n ih =>
                  intro x10 x11 b12 H locs ls hf hH hl KK
                  obtain ⟨self12, hself12, hf⟩ := sstep hFF12 hf
                  refine lv_iload hx hb dX6_bestMode_33 (lv_at hl 9 rfl) ?_
                  refine lv_aload_n hx hb dX6_bestMode_35 rfl (lv_at hl 0 rfl) ?_
                  refine g_get (T := TX6) (N := 4) (ci := 5) (C := RX6) (v := .int i_this_size) X hK hH in_RX6 0 rfl rfl 0 (by decide) q_88 (fun _ h9 => h9) rfl dX6_bestMode_36 ?_
                  refine lv_icmp_ge (tgt := 81) hx hb dX6_bestMode_39 (by decide) (fun c13 => ?_) (fun c13 => ?_)
                  · have hf := spos hf c13
                    obtain rfl := Option.some.inj hf
                    exact KK _ _ _ hH (lv_sub hl [0, 1, 2, 3, 4, 5, 6, 7, 8] rfl)
                  · have hf := sneg hf c13
                    refine lv_iload hx hb dX6_bestMode_42 (lv_at hl 7 rfl) ?_
                    refine lv_aload_n hx hb dX6_bestMode_44 rfl (lv_at hl 1 rfl) ?_
                    refine lv_iload_n hx hb dX6_bestMode_45 rfl (lv_at hl 3 rfl) ?_
                    refine lv_iload hx hb dX6_bestMode_46 (lv_at hl 8 rfl) ?_
                    refine lv_iadd hx hb dX6_bestMode_48 ?_
                    refine lv_bipush (v := (16 : Int32)) hx hb dX6_bestMode_49 (by decide) ?_
                    refine lv_imul hx hb dX6_bestMode_51 ?_
                    refine lv_iload_n hx hb dX6_bestMode_52 rfl (lv_at hl 2 rfl) ?_
                    refine lv_iadd hx hb dX6_bestMode_53 ?_
                    refine lv_iload hx hb dX6_bestMode_54 (lv_at hl 9 rfl) ?_
                    refine lv_iadd hx hb dX6_bestMode_56 ?_
                    obtain ⟨x14, hx14, hf⟩ := sbind hf
                    refine g_ald X hK hH 3 rfl hx14 dX6_bestMode_57 ?_
                    refine lv_aload_n hx hb dX6_bestMode_58 rfl (lv_at hl 0 rfl) ?_
                    refine lv_iload hx hb dX6_bestMode_59 (lv_at hl 6 rfl) ?_
                    refine lv_iload hx hb dX6_bestMode_61 (lv_at hl 8 rfl) ?_
                    refine lv_iload hx hb dX6_bestMode_63 (lv_at hl 9 rfl) ?_
                    obtain ⟨o15, ho15, hf⟩ := sbind hf
                    refine g_cVi (isC := [0, 1, 2]) (isR := [3]) (isP := [1, 2, 3, 0]) (wr := [(a_p0, gA G n_p0 t_p0)]) (w2 := [(h_this, .inr (5, FX6 r_this i_this_size i_this_average)), ((r_this 2), gA G 8 t_this_left), ((r_this 3), gA G 8 t_this_above), (a_p0, gA G n_p0 t_p0)]) (q0 := 0) X hK hA hH hl (ct_X6_of l G h_this r_this i_this_size i_this_average t_this_above t_this_left x3 x7 x11 H.size o15 ho15) ⟨q_5, q_643, hd_X6_of, rfl, rfl, ⟨Nat.le_of_ble_eq_true rfl, Nat.le_of_ble_eq_true rfl⟩, ⟨Nat.zero_le _, Nat.zero_le _⟩⟩ q_824 q_641 q_642 rfl rfl ⟨rfl, rfl, rfl, rfl, by decide, rfl, rfl⟩ rfl rfl (Nat.le_of_ble_eq_true rfl) dX6_bestMode_65 (fun H locs hH => ?_)
                    refine lv_isub hx hb dX6_bestMode_68 ?_
                    refine g_abs X hl q_825 q_708 q_16 q_709 ⟨Nat.le_of_ble_eq_true rfl, Nat.le_of_ble_eq_true rfl⟩ ⟨Nat.zero_le _, Nat.zero_le _⟩ dX6_bestMode_69 ?_
                    refine lv_iadd hx hb dX6_bestMode_72 ?_
                    refine lv_topi (fun x16 ex16 => ?_)
                    have hf := sbnd hf x16 ex16
                    refine lv_istore (lv' := [(7, .int x16), (0, .ref h_this), (1, .ref a_p0), (2, .int p1), (3, .int p2), (4, .int x1), (5, .int x2), (6, .int x3), (8, .int x7), (9, .int x11)]) hx hb dX6_bestMode_73 hl (by decide) rfl (fun ls hl => ?_)
                    obtain ⟨x17, ex17⟩ : ∃ y : Int32, y = (x11 + (1 : Int32)) := ⟨_, rfl⟩
                    have hf := sbnd hf x17 ex17
                    refine lv_iinc (v := x17) (lv' := [(9, .int x17), (7, .int x16), (0, .ref h_this), (1, .ref a_p0), (2, .int p1), (3, .int p2), (4, .int x1), (5, .int x2), (6, .int x3), (8, .int x7)]) hx hb dX6_bestMode_75 hl (k := 9) rfl (by rw [ex17]; rfl) (by decide) rfl (fun ls hl => ?_)
                    refine lv_goto (tgt := 33) hx hb dX6_bestMode_78 (by decide) ?_
                    exact ih x16 x17 _ _ _ _ (hself12 _ _ hf) hH (lv_sub hl [2, 3, 4, 5, 6, 7, 8, 1, 9, 0] rfl) KK
              refine L12 FUEL x6 (0 : Int32) o12 _ _ _ ho12 hH (lv_sub hl [1, 2, 3, 4, 5, 6, 7, 8, 9, 0] rfl) (fun H locs ls hH hl => ?_)
              obtain ⟨x18, ex18⟩ : ∃ y : Int32, y = (x7 + (1 : Int32)) := ⟨_, rfl⟩
              have hf := sbnd hf x18 ex18
              refine lv_iinc (v := x18) (lv' := [(8, .int x18), (0, .ref h_this), (1, .ref a_p0), (2, .int p1), (3, .int p2), (4, .int x1), (5, .int x2), (6, .int x3), (7, .int o12)]) hx hb dX6_bestMode_81 hl (k := 8) rfl (by rw [ex18]; rfl) (by decide) rfl (fun ls hl => ?_)
              refine lv_goto (tgt := 21) hx hb dX6_bestMode_84 (by decide) ?_
              exact ih o12 x18 _ _ _ _ (hself8 _ _ hf) hH (lv_sub hl [1, 2, 3, 4, 5, 6, 7, 8, 0] rfl) KK
        refine L8 FUEL (0 : Int32) (0 : Int32) o8 _ _ _ ho8 hH (lv_sub hl [2, 3, 4, 5, 6, 7, 8, 1, 0] rfl) (fun H locs ls hH hl => ?_)
        refine lv_iload hx hb dX6_bestMode_87 (lv_at hl 6 rfl) ?_
        obtain ⟨k22, hk22, hf⟩ := sjn hf
        have J22 : ∀ (x20 : Int32) (x21 : Int32) (H : Heap) (locs : List Loc) (ls : Array Slot), k22 (x20, x21) = some b4 → gH G A s.heap H locs [(h_this, .inr (5, FX6 r_this i_this_size i_this_average)), ((r_this 2), gA G 8 t_this_left), ((r_this 3), gA G 8 t_this_above), (a_p0, gA G n_p0 t_p0)] → lv_has ls 10 [(0, .ref h_this), (1, .ref a_p0), (2, .int p1), (3, .int p2), (4, .int x20), (5, .int x21), (6, .int x3)] → W p l e rm_X6_bestMode s m args below meth c H locs 0 0 Q (F0 m 107 ls []) := by
          intro x20 x21 H locs ls hf hH hl
          have hf := hk22 _ _ hf
          obtain ⟨x23, ex23⟩ : ∃ y : Int32, y = (x3 + (1 : Int32)) := ⟨_, rfl⟩
          have hf := sbnd hf x23 ex23
          refine lv_iinc (v := x23) (lv' := [(6, .int x23), (0, .ref h_this), (1, .ref a_p0), (2, .int p1), (3, .int p2), (4, .int x20), (5, .int x21)]) hx hb dX6_bestMode_107 hl (k := 6) rfl (by rw [ex23]; rfl) (by decide) rfl (fun ls hl => ?_)
          refine lv_goto (tgt := 9) hx hb dX6_bestMode_110 (by decide) ?_
          exact ih x20 x21 x23 _ _ _ _ (hself4 _ _ hf) hH (lv_sub hl [1, 2, 3, 4, 5, 6, 0] rfl) KK
        obtain ⟨k24, hk24, hf⟩ := sjn hf
        have J24 : ∀  (H : Heap) (locs : List Loc) (ls : Array Slot), k24 () = some b4 → gH G A s.heap H locs [(h_this, .inr (5, FX6 r_this i_this_size i_this_average)), ((r_this 2), gA G 8 t_this_left), ((r_this 3), gA G 8 t_this_above), (a_p0, gA G n_p0 t_p0)] → lv_has ls 10 [(0, .ref h_this), (1, .ref a_p0), (2, .int p1), (3, .int p2), (6, .int x3), (7, .int o8)] → W p l e rm_X6_bestMode s m args below meth c H locs 0 0 Q (F0 m 99 ls []) := by
          intro  H locs ls hf hH hl
          have hf := hk24 _ _ hf
          refine lv_iload hx hb dX6_bestMode_99 (lv_at hl 4 rfl) ?_
          refine lv_istore (lv' := [(4, .int x3), (0, .ref h_this), (1, .ref a_p0), (2, .int p1), (3, .int p2), (6, .int x3), (7, .int o8)]) hx hb dX6_bestMode_101 hl (by decide) rfl (fun ls hl => ?_)
          refine lv_iload hx hb dX6_bestMode_103 (lv_at hl 6 rfl) ?_
          refine lv_istore (lv' := [(5, .int o8), (4, .int x3), (0, .ref h_this), (1, .ref a_p0), (2, .int p1), (3, .int p2), (6, .int x3), (7, .int o8)]) hx hb dX6_bestMode_105 hl (by decide) rfl (fun ls hl => ?_)
          exact J22 x3 o8 _ _ _ hf hH (lv_sub hl [2, 3, 4, 5, 1, 0, 6] rfl)
        refine lv_if_eq (tgt := 99) hx hb dX6_bestMode_89 (by decide) (fun c19 => ?_) (fun c19 => ?_)
        · have hf := spos hf c19
          exact J24  _ _ _ hf hH (lv_sub hl [0, 1, 2, 3, 6, 7] rfl)
        · have hf := sneg hf c19
          refine lv_iload hx hb dX6_bestMode_92 (lv_at hl 7 rfl) ?_
          refine lv_iload hx hb dX6_bestMode_94 (lv_at hl 5 rfl) ?_
          refine lv_icmp_ge (tgt := 107) hx hb dX6_bestMode_96 (by decide) (fun c25 => ?_) (fun c25 => ?_)
          · have hf := spos hf c25
            exact J22 x1 x2 _ _ _ hf hH (lv_sub hl [0, 1, 2, 3, 4, 5, 6] rfl)
          · have hf := sneg hf c25
            exact J24  _ _ _ hf hH (lv_sub hl [0, 1, 2, 3, 6, 7] rfl)
  refine L4 FUEL (0 : Int32) (0 : Int32) (0 : Int32) o4 _ _ _ ho4 hH (lv_sub hl [3, 4, 5, 6, 2, 1, 0] rfl) (fun H locs ls hH hl => ?_)
  refine lv_iload hx hb dX6_bestMode_113 (lv_at hl 0 rfl) ?_
  obtain rfl := Option.some.inj hf
  exact hE _ _ _ _ rfl hH dX6_bestMode_115

def lf_X7_splitLine (t_this_line : Nat → Int32) (t_this_places : Nat → Int32) (p0 : Int32) (p1 : Int32) (p2 : Int32) : Option ((Nat → Int32) × (Nat → Int32)) :=
bnd (p2 / (2 : Int32)) fun x1 => (fixN FUEL (fun (self4 : (Int32 × (Nat → Int32)) → Option ((Nat → Int32))) (z4 : Int32 × (Nat → Int32)) => (fun (x2 : Int32) (g3 : (Nat → Int32)) => (if x1 ≤ x2 then some g3 else (rdA 64 t_this_places (p0 + (((2 : Int32) * x2) * p1))).bind fun x6 => (rdA 64 t_this_places (p0 + ((((2 : Int32) * x2) + (1 : Int32)) * p1))).bind fun x7 => (wrA 8 g3 x2 ((x6 + x7) >>> ((1 : Int32) &&& 31))).bind fun g8 => (wrA 8 g8 (x1 + x2) (x6 - x7)).bind fun g9 => bnd (x2 + (1 : Int32)) fun x10 => self4 (x10, g9))) z4.1 z4.2) ((0 : Int32), t_this_line)).bind fun o4 => (fixN FUEL (fun (self13 : (Int32 × (Nat → Int32)) → Option ((Nat → Int32))) (z13 : Int32 × (Nat → Int32)) => (fun (x11 : Int32) (g12 : (Nat → Int32)) => (if p2 ≤ x11 then some g12 else (rdA 8 o4 x11).bind fun x15 => (wrA 64 g12 (p0 + (x11 * p1)) x15).bind fun g16 => bnd (x11 + (1 : Int32)) fun x17 => self13 (x17, g16))) z13.1 z13.2) ((0 : Int32), t_this_places)).bind fun o13 => some (o4, o13)
abbrev rm_X7_splitLine : Room := { frames := 0, cells := 0, slots := 0, locals := 0 }
theorem hd_X7_splitLine : yX7_splitLine.cls ≠ "java/lang/invoke/MethodHandle" ∧ yX7_splitLine.cls ≠ "java/lang/invoke/VarHandle" ∧ (parseMethodDescriptor yX7_splitLine.desc).map (fun d => d.parameters.length) = some 3 := by decide +kernel
set_option maxHeartbeats 4000000 in
set_option maxRecDepth 100000 in
theorem ct_X7_splitLine (l : Launch) (G : gG) (h_this : Nat) (r_this : Nat → Nat) (t_this_line t_this_places : Nat → Int32) (p0 p1 p2 : Int32) (sz : Nat) (out : (Nat → Int32) × (Nat → Int32)) (hf : lf_X7_splitLine t_this_line t_this_places p0 p1 p2 = some out) : gV l G yX7_splitLine cX7_splitLine 8 rm_X7_splitLine [.ref h_this, .int p0, .int p1, .int p2] sz [(h_this, .inr (6, FX7 r_this)), ((r_this 0), gA G 64 t_this_places), ((r_this 1), gA G 8 t_this_line)] [(h_this, .inr (6, FX7 r_this)), ((r_this 0), gA G 64 out.2), ((r_this 1), gA G 8 out.1)] := by
  refine gV_of (by decide +kernel) (Nat.le_of_ble_eq_true rfl) ?_
  intro p e s m args below meth c ls A Q X hK hA hsz hH hl hE
  subst hsz
  have hx := X.1
  have hb := X.2.1
  unfold lf_X7_splitLine at hf
  have hl : lv_has ls 8 [(0, .ref h_this), (1, .int p0), (2, .int p1), (3, .int p2)] := hl
  have hH : gH G A s.heap s.heap [] [(h_this, .inr (6, FX7 r_this)), ((r_this 0), gA G 64 t_this_places), ((r_this 1), gA G 8 t_this_line)] := hH
  refine lv_iload_n hx hb dX7_splitLine_0 rfl (lv_at hl 3 rfl) ?_
  refine lv_iconst (v := (2 : Int32)) hx hb dX7_splitLine_1 (by decide) ?_
  refine lv_idiv hx hb dX7_splitLine_2 (by decide) ?_
  refine lv_topi (fun x1 ex1 => ?_)
  have hf := sbnd hf x1 ex1
  refine lv_istore (lv' := [(4, .int x1), (0, .ref h_this), (1, .int p0), (2, .int p1), (3, .int p2)]) hx hb dX7_splitLine_3 hl (by decide) rfl (fun ls hl => ?_)
  refine lv_iconst (v := (0 : Int32)) hx hb dX7_splitLine_5 (by decide) ?_
  refine lv_istore (lv' := [(5, .int (0 : Int32)), (4, .int x1), (0, .ref h_this), (1, .int p0), (2, .int p1), (3, .int p2)]) hx hb dX7_splitLine_6 hl (by decide) rfl (fun ls hl => ?_)
  obtain ⟨o4, ho4, hf⟩ := sbind hf
  obtain ⟨FF4, hFF4, ho4⟩ := sfix ho4
  have L4 : ∀ (n : Nat) (x2 : Int32) (g3 : (Nat → Int32)) (b4 : (Nat → Int32)) (H : Heap) (locs : List Loc) (ls : Array Slot), fixN n FF4 (x2, g3) = some b4 → gH G A s.heap H locs [(h_this, .inr (6, FX7 r_this)), ((r_this 0), gA G 64 t_this_places), ((r_this 1), gA G 8 g3)] → lv_has ls 8 [(0, .ref h_this), (1, .int p0), (2, .int p1), (3, .int p2), (4, .int x1), (5, .int x2)] → (∀ (H : Heap) (locs : List Loc) (ls : Array Slot), gH G A s.heap H locs [(h_this, .inr (6, FX7 r_this)), ((r_this 0), gA G 64 t_this_places), ((r_this 1), gA G 8 b4)] → lv_has ls 8 [(0, .ref h_this), (1, .int p0), (2, .int p1), (3, .int p2)] → W p l e rm_X7_splitLine s m args below meth c H locs 0 0 Q (F0 m 82 ls [])) → W p l e rm_X7_splitLine s m args below meth c H locs 0 0 Q (F0 m 8 ls []) := by
    intro n
    induction n with
    | zero => intro x2 g3 b4 H locs ls hf; exact sfix0 hf
    | succ n ih =>
      intro x2 g3 b4 H locs ls hf hH hl KK
      obtain ⟨self4, hself4, hf⟩ := sstep hFF4 hf
      refine lv_iload hx hb dX7_splitLine_8 (lv_at hl 5 rfl) ?_
      refine lv_iload hx hb dX7_splitLine_10 (lv_at hl 4 rfl) ?_
      refine lv_icmp_ge (tgt := 82) hx hb dX7_splitLine_12 (by decide) (fun c5 => ?_) (fun c5 => ?_)
      · have hf := spos hf c5
        obtain rfl := Option.some.inj hf
        exact KK _ _ _ hH (lv_sub hl [0, 1, 2, 3] rfl)
      · have hf := sneg hf c5
        refine lv_aload_n hx hb dX7_splitLine_15 rfl (lv_at hl 0 rfl) ?_
        refine g_get (T := TX7) (N := 2) (ci := 6) (C := RX7) (v := .ref (r_this 0)) X hK hH in_RX7 0 rfl rfl 0 (by decide) q_108 (fun _ h9 => h9) rfl dX7_splitLine_16 ?_
        refine lv_iload_n hx hb dX7_splitLine_19 rfl (lv_at hl 1 rfl) ?_
        refine lv_iconst (v := (2 : Int32)) hx hb dX7_splitLine_20 (by decide) ?_
        refine lv_iload hx hb dX7_splitLine_21 (lv_at hl 5 rfl) ?_
        refine lv_imul hx hb dX7_splitLine_23 ?_
        refine lv_iload_n hx hb dX7_splitLine_24 rfl (lv_at hl 2 rfl) ?_
        refine lv_imul hx hb dX7_splitLine_25 ?_
        refine lv_iadd hx hb dX7_splitLine_26 ?_
        obtain ⟨x6, hx6, hf⟩ := sbind hf
        refine g_ald X hK hH 1 rfl hx6 dX7_splitLine_27 ?_
        refine lv_istore (lv' := [(6, .int x6), (0, .ref h_this), (1, .int p0), (2, .int p1), (3, .int p2), (4, .int x1), (5, .int x2)]) hx hb dX7_splitLine_28 hl (by decide) rfl (fun ls hl => ?_)
        refine lv_aload_n hx hb dX7_splitLine_30 rfl (lv_at hl 1 rfl) ?_
        refine g_get (T := TX7) (N := 2) (ci := 6) (C := RX7) (v := .ref (r_this 0)) X hK hH in_RX7 0 rfl rfl 0 (by decide) q_108 (fun _ h9 => h9) rfl dX7_splitLine_31 ?_
        refine lv_iload_n hx hb dX7_splitLine_34 rfl (lv_at hl 2 rfl) ?_
        refine lv_iconst (v := (2 : Int32)) hx hb dX7_splitLine_35 (by decide) ?_
        refine lv_iload hx hb dX7_splitLine_36 (lv_at hl 6 rfl) ?_
        refine lv_imul hx hb dX7_splitLine_38 ?_
        refine lv_iconst (v := (1 : Int32)) hx hb dX7_splitLine_39 (by decide) ?_
        refine lv_iadd hx hb dX7_splitLine_40 ?_
        refine lv_iload_n hx hb dX7_splitLine_41 rfl (lv_at hl 3 rfl) ?_
        refine lv_imul hx hb dX7_splitLine_42 ?_
        refine lv_iadd hx hb dX7_splitLine_43 ?_
        obtain ⟨x7, hx7, hf⟩ := sbind hf
        refine g_ald X hK hH 1 rfl hx7 dX7_splitLine_44 ?_
        refine lv_istore (lv' := [(7, .int x7), (6, .int x6), (0, .ref h_this), (1, .int p0), (2, .int p1), (3, .int p2), (4, .int x1), (5, .int x2)]) hx hb dX7_splitLine_45 hl (by decide) rfl (fun ls hl => ?_)
        refine lv_aload_n hx hb dX7_splitLine_47 rfl (lv_at hl 2 rfl) ?_
        refine g_get (T := TX7) (N := 2) (ci := 6) (C := RX7) (v := .ref (r_this 1)) X hK hH in_RX7 0 rfl rfl 1 (by decide) q_110 (fun _ h9 => h9) rfl dX7_splitLine_48 ?_
        refine lv_iload hx hb dX7_splitLine_51 (lv_at hl 7 rfl) ?_
        refine lv_iload hx hb dX7_splitLine_53 (lv_at hl 1 rfl) ?_
        refine lv_iload hx hb dX7_splitLine_55 (lv_at hl 0 rfl) ?_
        refine lv_iadd hx hb dX7_splitLine_57 ?_
        refine lv_iconst (v := (1 : Int32)) hx hb dX7_splitLine_58 (by decide) ?_
        refine lv_ishr hx hb dX7_splitLine_59 ?_
        obtain ⟨g8, hg8, hf⟩ := sbind hf
        refine g_ast (w1 := [(h_this, .inr (6, FX7 r_this)), ((r_this 0), gA G 64 t_this_places), ((r_this 1), gA G 8 g8)]) X hK hH 2 rfl hg8 dX7_splitLine_60 rfl (fun H locs hH => ?_)
        refine lv_aload_n hx hb dX7_splitLine_61 rfl (lv_at hl 2 rfl) ?_
        refine g_get (T := TX7) (N := 2) (ci := 6) (C := RX7) (v := .ref (r_this 1)) X hK hH in_RX7 0 rfl rfl 1 (by decide) q_110 (fun _ h9 => h9) rfl dX7_splitLine_62 ?_
        refine lv_iload hx hb dX7_splitLine_65 (lv_at hl 6 rfl) ?_
        refine lv_iload hx hb dX7_splitLine_67 (lv_at hl 7 rfl) ?_
        refine lv_iadd hx hb dX7_splitLine_69 ?_
        refine lv_iload hx hb dX7_splitLine_70 (lv_at hl 1 rfl) ?_
        refine lv_iload hx hb dX7_splitLine_72 (lv_at hl 0 rfl) ?_
        refine lv_isub hx hb dX7_splitLine_74 ?_
        obtain ⟨g9, hg9, hf⟩ := sbind hf
        refine g_ast (w1 := [(h_this, .inr (6, FX7 r_this)), ((r_this 0), gA G 64 t_this_places), ((r_this 1), gA G 8 g9)]) X hK hH 2 rfl hg9 dX7_splitLine_75 rfl (fun H locs hH => ?_)
        obtain ⟨x10, ex10⟩ : ∃ y : Int32, y = (x2 + (1 : Int32)) := ⟨_, rfl⟩
        have hf := sbnd hf x10 ex10
        refine lv_iinc (v := x10) (lv' := [(5, .int x10), (7, .int x7), (6, .int x6), (0, .ref h_this), (1, .int p0), (2, .int p1), (3, .int p2), (4, .int x1)]) hx hb dX7_splitLine_76 hl (k := 7) rfl (by rw [ex10]; rfl) (by decide) rfl (fun ls hl => ?_)
        refine lv_goto (tgt := 8) hx hb dX7_splitLine_79 (by decide) ?_
        exact ih x10 g9 _ _ _ _ (hself4 _ _ hf) hH (lv_sub hl [3, 4, 5, 6, 7, 0] rfl) KK
  refine L4 FUEL (0 : Int32) t_this_line o4 _ _ _ ho4 hH (lv_sub hl [2, 3, 4, 5, 1, 0] rfl) (fun H locs ls hH hl => ?_)
  refine lv_iconst (v := (0 : Int32)) hx hb dX7_splitLine_82 (by decide) ?_
  refine lv_istore (lv' := [(5, .int (0 : Int32)), (0, .ref h_this), (1, .int p0), (2, .int p1), (3, .int p2)]) hx hb dX7_splitLine_83 hl (by decide) rfl (fun ls hl => ?_)
  obtain ⟨o13, ho13, hf⟩ := sbind hf
  obtain ⟨FF13, hFF13, ho13⟩ := sfix ho13
  have L13 : ∀ (n : Nat) (x11 : Int32) (g12 : (Nat → Int32)) (b13 : (Nat → Int32)) (H : Heap) (locs : List Loc) (ls : Array Slot), fixN n FF13 (x11, g12) = some b13 → gH G A s.heap H locs [(h_this, .inr (6, FX7 r_this)), ((r_this 0), gA G 64 g12), ((r_this 1), gA G 8 o4)] → lv_has ls 8 [(0, .ref h_this), (1, .int p0), (2, .int p1), (3, .int p2), (5, .int x11)] → (∀ (H : Heap) (locs : List Loc) (ls : Array Slot), gH G A s.heap H locs [(h_this, .inr (6, FX7 r_this)), ((r_this 0), gA G 64 b13), ((r_this 1), gA G 8 o4)] → lv_has ls 8 [] → W p l e rm_X7_splitLine s m args below meth c H locs 0 0 Q (F0 m 115 ls [])) → W p l e rm_X7_splitLine s m args below meth c H locs 0 0 Q (F0 m 85 ls []) := by
    intro n
    induction n with
    | zero => intro x11 g12 b13 H locs ls hf; exact sfix0 hf
    | succ n ih =>
      intro x11 g12 b13 H locs ls hf hH hl KK
      obtain ⟨self13, hself13, hf⟩ := sstep hFF13 hf
      refine lv_iload hx hb dX7_splitLine_85 (lv_at hl 4 rfl) ?_
      refine lv_iload_n hx hb dX7_splitLine_87 rfl (lv_at hl 3 rfl) ?_
      refine lv_icmp_ge (tgt := 115) hx hb dX7_splitLine_88 (by decide) (fun c14 => ?_) (fun c14 => ?_)
      · have hf := spos hf c14
        obtain rfl := Option.some.inj hf
        exact KK _ _ _ hH (lv_sub hl [] rfl)
      · have hf := sneg hf c14
        refine lv_aload_n hx hb dX7_splitLine_91 rfl (lv_at hl 0 rfl) ?_
        refine g_get (T := TX7) (N := 2) (ci := 6) (C := RX7) (v := .ref (r_this 0)) X hK hH in_RX7 0 rfl rfl 0 (by decide) q_108 (fun _ h9 => h9) rfl dX7_splitLine_92 ?_
        refine lv_iload_n hx hb dX7_splitLine_95 rfl (lv_at hl 1 rfl) ?_
        refine lv_iload hx hb dX7_splitLine_96 (lv_at hl 4 rfl) ?_
        refine lv_iload_n hx hb dX7_splitLine_98 rfl (lv_at hl 2 rfl) ?_
        refine lv_imul hx hb dX7_splitLine_99 ?_
        refine lv_iadd hx hb dX7_splitLine_100 ?_
        refine lv_aload_n hx hb dX7_splitLine_101 rfl (lv_at hl 0 rfl) ?_
        refine g_get (T := TX7) (N := 2) (ci := 6) (C := RX7) (v := .ref (r_this 1)) X hK hH in_RX7 0 rfl rfl 1 (by decide) q_110 (fun _ h9 => h9) rfl dX7_splitLine_102 ?_
        refine lv_iload hx hb dX7_splitLine_105 (lv_at hl 4 rfl) ?_
        obtain ⟨x15, hx15, hf⟩ := sbind hf
        refine g_ald X hK hH 2 rfl hx15 dX7_splitLine_107 ?_
        obtain ⟨g16, hg16, hf⟩ := sbind hf
        refine g_ast (w1 := [(h_this, .inr (6, FX7 r_this)), ((r_this 0), gA G 64 g16), ((r_this 1), gA G 8 o4)]) X hK hH 1 rfl hg16 dX7_splitLine_108 rfl (fun H locs hH => ?_)
        obtain ⟨x17, ex17⟩ : ∃ y : Int32, y = (x11 + (1 : Int32)) := ⟨_, rfl⟩
        have hf := sbnd hf x17 ex17
        refine lv_iinc (v := x17) (lv' := [(5, .int x17), (0, .ref h_this), (1, .int p0), (2, .int p1), (3, .int p2)]) hx hb dX7_splitLine_109 hl (k := 4) rfl (by rw [ex17]; rfl) (by decide) rfl (fun ls hl => ?_)
        refine lv_goto (tgt := 85) hx hb dX7_splitLine_112 (by decide) ?_
        exact ih x17 g16 _ _ _ _ (hself13 _ _ hf) hH (lv_sub hl [1, 2, 3, 4, 0] rfl) KK
  refine L13 FUEL (0 : Int32) t_this_places o13 _ _ _ ho13 hH (lv_sub hl [1, 2, 3, 4, 0] rfl) (fun H locs ls hH hl => ?_)
  obtain rfl := Option.some.inj hf
  exact hE _ _ _ _ hH dX7_splitLine_115

def lf_X7_split (t_this_line : Nat → Int32) (t_this_places : Nat → Int32) (p0 : Int32) : Option ((Nat → Int32) × (Nat → Int32)) :=
(fixN FUEL (fun (self4 : (Int32 × (Nat → Int32) × (Nat → Int32)) → Option ((Nat → Int32) × (Nat → Int32))) (z4 : Int32 × (Nat → Int32) × (Nat → Int32)) => (fun (x1 : Int32) (g2 : (Nat → Int32)) (g3 : (Nat → Int32)) => (if x1 < (2 : Int32) then some (g2, g3) else (fixN FUEL (fun (self9 : (Int32 × (Nat → Int32) × (Nat → Int32)) → Option ((Nat → Int32) × (Nat → Int32))) (z9 : Int32 × (Nat → Int32) × (Nat → Int32)) => (fun (x6 : Int32) (g7 : (Nat → Int32)) (g8 : (Nat → Int32)) => (if x1 ≤ x6 then some (g7, g8) else (lf_X7_splitLine g7 g8 (x6 * (8 : Int32)) (1 : Int32) x1).bind fun o11 => bnd (x6 + (1 : Int32)) fun x12 => self9 (x12, o11.1, o11.2))) z9.1 z9.2.1 z9.2.2) ((0 : Int32), g2, g3)).bind fun o9 => (fixN FUEL (fun (self16 : (Int32 × (Nat → Int32) × (Nat → Int32)) → Option ((Nat → Int32) × (Nat → Int32))) (z16 : Int32 × (Nat → Int32) × (Nat → Int32)) => (fun (x13 : Int32) (g14 : (Nat → Int32)) (g15 : (Nat → Int32)) => (if x1 ≤ x13 then some (g14, g15) else (lf_X7_splitLine g14 g15 x13 (8 : Int32) x1).bind fun o18 => bnd (x13 + (1 : Int32)) fun x19 => self16 (x19, o18.1, o18.2))) z16.1 z16.2.1 z16.2.2) ((0 : Int32), o9.1, o9.2)).bind fun o16 => bnd (x1 / (2 : Int32)) fun x20 => self4 (x20, o16.1, o16.2))) z4.1 z4.2.1 z4.2.2) (p0, t_this_line, t_this_places)).bind fun o4 => some (o4.1, o4.2)
abbrev rm_X7_split : Room := { frames := 1, cells := 0, slots := 0, locals := 27 }
theorem hd_X7_split : yX7_split.cls ≠ "java/lang/invoke/MethodHandle" ∧ yX7_split.cls ≠ "java/lang/invoke/VarHandle" ∧ (parseMethodDescriptor yX7_split.desc).map (fun d => d.parameters.length) = some 1 := by decide +kernel
set_option maxHeartbeats 4000000 in
set_option maxRecDepth 100000 in
theorem ct_X7_split (l : Launch) (G : gG) (h_this : Nat) (r_this : Nat → Nat) (t_this_line t_this_places : Nat → Int32) (p0 : Int32) (sz : Nat) (out : (Nat → Int32) × (Nat → Int32)) (hf : lf_X7_split t_this_line t_this_places p0 = some out) : gV l G yX7_split cX7_split 4 rm_X7_split [.ref h_this, .int p0] sz [(h_this, .inr (6, FX7 r_this)), ((r_this 0), gA G 64 t_this_places), ((r_this 1), gA G 8 t_this_line)] [(h_this, .inr (6, FX7 r_this)), ((r_this 0), gA G 64 out.2), ((r_this 1), gA G 8 out.1)] := by
  refine gV_of (by decide +kernel) (Nat.le_of_ble_eq_true rfl) ?_
  intro p e s m args below meth c ls A Q X hK hA hsz hH hl hE
  subst hsz
  have hx := X.1
  have hb := X.2.1
  unfold lf_X7_split at hf
  have hl : lv_has ls 4 [(0, .ref h_this), (1, .int p0)] := hl
  have hH : gH G A s.heap s.heap [] [(h_this, .inr (6, FX7 r_this)), ((r_this 0), gA G 64 t_this_places), ((r_this 1), gA G 8 t_this_line)] := hH
  refine lv_iload_n hx hb dX7_split_0 rfl (lv_at hl 1 rfl) ?_
  refine lv_istore_n (lv' := [(2, .int p0), (0, .ref h_this), (1, .int p0)]) hx hb dX7_split_1 rfl hl (by decide) rfl (fun ls hl => ?_)
  obtain ⟨o4, ho4, hf⟩ := sbind hf
  obtain ⟨FF4, hFF4, ho4⟩ := sfix ho4
  have L4 : ∀ (n : Nat) (x1 : Int32) (g2 : (Nat → Int32)) (g3 : (Nat → Int32)) (b4 : (Nat → Int32) × (Nat → Int32)) (H : Heap) (locs : List Loc) (ls : Array Slot), fixN n FF4 (x1, g2, g3) = some b4 → gH G A s.heap H locs [(h_this, .inr (6, FX7 r_this)), ((r_this 0), gA G 64 g3), ((r_this 1), gA G 8 g2)] → lv_has ls 4 [(0, .ref h_this), (2, .int x1)] → (∀ (H : Heap) (locs : List Loc) (ls : Array Slot), gH G A s.heap H locs [(h_this, .inr (6, FX7 r_this)), ((r_this 0), gA G 64 b4.2), ((r_this 1), gA G 8 b4.1)] → lv_has ls 4 [] → W p l e rm_X7_split s m args below meth c H locs 0 0 Q (F0 m 58 ls [])) → W p l e rm_X7_split s m args below meth c H locs 0 0 Q (F0 m 2 ls []) := by
    intro n
    induction n with
    | zero => intro x1 g2 g3 b4 H locs ls hf; exact sfix0 hf
    | succ n ih =>
      intro x1 g2 g3 b4 H locs ls hf hH hl KK
      obtain ⟨self4, hself4, hf⟩ := sstep hFF4 hf
      refine lv_iload_n hx hb dX7_split_2 rfl (lv_at hl 1 rfl) ?_
      refine lv_iconst (v := (2 : Int32)) hx hb dX7_split_3 (by decide) ?_
      refine lv_icmp_lt (tgt := 58) hx hb dX7_split_4 (by decide) (fun c5 => ?_) (fun c5 => ?_)
      · have hf := spos hf c5
        obtain rfl := Option.some.inj hf
        exact KK _ _ _ hH (lv_sub hl [] rfl)
      · have hf := sneg hf c5
        refine lv_iconst (v := (0 : Int32)) hx hb dX7_split_7 (by decide) ?_
        refine lv_istore_n (lv' := [(3, .int (0 : Int32)), (0, .ref h_this), (2, .int x1)]) hx hb dX7_split_8 rfl hl (by decide) rfl (fun ls hl => ?_)
        obtain ⟨o9, ho9, hf⟩ := sbind hf
        obtain ⟨FF9, hFF9, ho9⟩ := sfix ho9
        have L9 : ∀ (n : Nat) (x6 : Int32) (g7 : (Nat → Int32)) (g8 : (Nat → Int32)) (b9 : (Nat → Int32) × (Nat → Int32)) (H : Heap) (locs : List Loc) (ls : Array Slot), fixN n FF9 (x6, g7, g8) = some b9 → gH G A s.heap H locs [(h_this, .inr (6, FX7 r_this)), ((r_this 0), gA G 64 g8), ((r_this 1), gA G 8 g7)] → lv_has ls 4 [(0, .ref h_this), (2, .int x1), (3, .int x6)] → (∀ (H : Heap) (locs : List Loc) (ls : Array Slot), gH G A s.heap H locs [(h_this, .inr (6, FX7 r_this)), ((r_this 0), gA G 64 b9.2), ((r_this 1), gA G 8 b9.1)] → lv_has ls 4 [(0, .ref h_this), (2, .int x1)] → W p l e rm_X7_split s m args below meth c H locs 0 0 Q (F0 m 30 ls [])) → W p l e rm_X7_split s m args below meth c H locs 0 0 Q (F0 m 9 ls []) := by
          intro n
          induction n with
          | zero => intro x6 g7 g8 b9 H locs ls hf; exact sfix0 hf
          | succ n ih =>
            intro x6 g7 g8 b9 H locs ls hf hH hl KK
            obtain ⟨self9, hself9, hf⟩ := sstep hFF9 hf
            refine lv_iload_n hx hb dX7_split_9 rfl (lv_at hl 2 rfl) ?_
            refine lv_iload_n hx hb dX7_split_10 rfl (lv_at hl 1 rfl) ?_
            refine lv_icmp_ge (tgt := 30) hx hb dX7_split_11 (by decide) (fun c10 => ?_) (fun c10 => ?_)
            · have hf := spos hf c10
              obtain rfl := Option.some.inj hf
              exact KK _ _ _ hH (lv_sub hl [0, 1] rfl)
            · have hf := sneg hf c10
              refine lv_aload_n hx hb dX7_split_14 rfl (lv_at hl 0 rfl) ?_
              refine lv_iload_n hx hb dX7_split_15 rfl (lv_at hl 2 rfl) ?_
              refine lv_bipush (v := (8 : Int32)) hx hb dX7_split_16 (by decide) ?_
              refine lv_imul hx hb dX7_split_18 ?_
              refine lv_iconst (v := (1 : Int32)) hx hb dX7_split_19 (by decide) ?_
              refine lv_iload_n hx hb dX7_split_20 rfl (lv_at hl 1 rfl) ?_
              obtain ⟨o11, ho11, hf⟩ := sbind hf
              refine g_cVv (isC := [0, 1, 2]) (isR := []) (isP := [0, 1, 2]) (wr := []) (w2 := [(h_this, .inr (6, FX7 r_this)), ((r_this 0), gA G 64 o11.2), ((r_this 1), gA G 8 o11.1)]) (q0 := 0) X hK hA hH hl (ct_X7_splitLine l G h_this r_this g7 g8 (x6 * (8 : Int32)) (1 : Int32) x1 H.size o11 ho11) ⟨q_6, q_833, hd_X7_splitLine, rfl, rfl, ⟨Nat.le_of_ble_eq_true rfl, Nat.le_of_ble_eq_true rfl⟩, ⟨Nat.zero_le _, Nat.zero_le _⟩⟩ q_830 q_832 qs_22 rfl rfl ⟨rfl, rfl, rfl, rfl, by decide, rfl, rfl⟩ rfl rfl (Nat.le_of_ble_eq_true rfl) dX7_split_21 (fun H locs hH => ?_)
              obtain ⟨x12, ex12⟩ : ∃ y : Int32, y = (x6 + (1 : Int32)) := ⟨_, rfl⟩
              have hf := sbnd hf x12 ex12
              refine lv_iinc (v := x12) (lv' := [(3, .int x12), (0, .ref h_this), (2, .int x1)]) hx hb dX7_split_24 hl (k := 2) rfl (by rw [ex12]; rfl) (by decide) rfl (fun ls hl => ?_)
              refine lv_goto (tgt := 9) hx hb dX7_split_27 (by decide) ?_
              exact ih x12 o11.1 o11.2 _ _ _ _ (hself9 _ _ hf) hH (lv_sub hl [1, 2, 0] rfl) KK
        refine L9 FUEL (0 : Int32) g2 g3 o9 _ _ _ ho9 hH (lv_sub hl [1, 2, 0] rfl) (fun H locs ls hH hl => ?_)
        refine lv_iconst (v := (0 : Int32)) hx hb dX7_split_30 (by decide) ?_
        refine lv_istore_n (lv' := [(3, .int (0 : Int32)), (0, .ref h_this), (2, .int x1)]) hx hb dX7_split_31 rfl hl (by decide) rfl (fun ls hl => ?_)
        obtain ⟨o16, ho16, hf⟩ := sbind hf
        obtain ⟨FF16, hFF16, ho16⟩ := sfix ho16
        have L16 : ∀ (n : Nat) (x13 : Int32) (g14 : (Nat → Int32)) (g15 : (Nat → Int32)) (b16 : (Nat → Int32) × (Nat → Int32)) (H : Heap) (locs : List Loc) (ls : Array Slot), fixN n FF16 (x13, g14, g15) = some b16 → gH G A s.heap H locs [(h_this, .inr (6, FX7 r_this)), ((r_this 0), gA G 64 g15), ((r_this 1), gA G 8 g14)] → lv_has ls 4 [(0, .ref h_this), (2, .int x1), (3, .int x13)] → (∀ (H : Heap) (locs : List Loc) (ls : Array Slot), gH G A s.heap H locs [(h_this, .inr (6, FX7 r_this)), ((r_this 0), gA G 64 b16.2), ((r_this 1), gA G 8 b16.1)] → lv_has ls 4 [(0, .ref h_this), (2, .int x1)] → W p l e rm_X7_split s m args below meth c H locs 0 0 Q (F0 m 51 ls [])) → W p l e rm_X7_split s m args below meth c H locs 0 0 Q (F0 m 32 ls []) := by
          intro n
          induction n with
          | zero => intro x13 g14 g15 b16 H locs ls hf; exact sfix0 hf
          | succ n ih =>
            intro x13 g14 g15 b16 H locs ls hf hH hl KK
            obtain ⟨self16, hself16, hf⟩ := sstep hFF16 hf
            refine lv_iload_n hx hb dX7_split_32 rfl (lv_at hl 2 rfl) ?_
            refine lv_iload_n hx hb dX7_split_33 rfl (lv_at hl 1 rfl) ?_
            refine lv_icmp_ge (tgt := 51) hx hb dX7_split_34 (by decide) (fun c17 => ?_) (fun c17 => ?_)
            · have hf := spos hf c17
              obtain rfl := Option.some.inj hf
              exact KK _ _ _ hH (lv_sub hl [0, 1] rfl)
            · have hf := sneg hf c17
              refine lv_aload_n hx hb dX7_split_37 rfl (lv_at hl 0 rfl) ?_
              refine lv_iload_n hx hb dX7_split_38 rfl (lv_at hl 2 rfl) ?_
              refine lv_bipush (v := (8 : Int32)) hx hb dX7_split_39 (by decide) ?_
              refine lv_iload_n hx hb dX7_split_41 rfl (lv_at hl 1 rfl) ?_
              obtain ⟨o18, ho18, hf⟩ := sbind hf
              refine g_cVv (isC := [0, 1, 2]) (isR := []) (isP := [0, 1, 2]) (wr := []) (w2 := [(h_this, .inr (6, FX7 r_this)), ((r_this 0), gA G 64 o18.2), ((r_this 1), gA G 8 o18.1)]) (q0 := 0) X hK hA hH hl (ct_X7_splitLine l G h_this r_this g14 g15 x13 (8 : Int32) x1 H.size o18 ho18) ⟨q_6, q_833, hd_X7_splitLine, rfl, rfl, ⟨Nat.le_of_ble_eq_true rfl, Nat.le_of_ble_eq_true rfl⟩, ⟨Nat.zero_le _, Nat.zero_le _⟩⟩ q_830 q_832 qs_22 rfl rfl ⟨rfl, rfl, rfl, rfl, by decide, rfl, rfl⟩ rfl rfl (Nat.le_of_ble_eq_true rfl) dX7_split_42 (fun H locs hH => ?_)
              obtain ⟨x19, ex19⟩ : ∃ y : Int32, y = (x13 + (1 : Int32)) := ⟨_, rfl⟩
              have hf := sbnd hf x19 ex19
              refine lv_iinc (v := x19) (lv' := [(3, .int x19), (0, .ref h_this), (2, .int x1)]) hx hb dX7_split_45 hl (k := 2) rfl (by rw [ex19]; rfl) (by decide) rfl (fun ls hl => ?_)
              refine lv_goto (tgt := 32) hx hb dX7_split_48 (by decide) ?_
              exact ih x19 o18.1 o18.2 _ _ _ _ (hself16 _ _ hf) hH (lv_sub hl [1, 2, 0] rfl) KK
        refine L16 FUEL (0 : Int32) o9.1 o9.2 o16 _ _ _ ho16 hH (lv_sub hl [1, 2, 0] rfl) (fun H locs ls hH hl => ?_)
        refine lv_iload_n hx hb dX7_split_51 rfl (lv_at hl 1 rfl) ?_
        refine lv_iconst (v := (2 : Int32)) hx hb dX7_split_52 (by decide) ?_
        refine lv_idiv hx hb dX7_split_53 (by decide) ?_
        refine lv_topi (fun x20 ex20 => ?_)
        have hf := sbnd hf x20 ex20
        refine lv_istore_n (lv' := [(2, .int x20), (0, .ref h_this)]) hx hb dX7_split_54 rfl hl (by decide) rfl (fun ls hl => ?_)
        refine lv_goto (tgt := 2) hx hb dX7_split_55 (by decide) ?_
        exact ih x20 o16.1 o16.2 _ _ _ _ (hself4 _ _ hf) hH (lv_sub hl [1, 0] rfl) KK
  refine L4 FUEL p0 t_this_line t_this_places o4 _ _ _ ho4 hH (lv_sub hl [1, 0] rfl) (fun H locs ls hH hl => ?_)
  obtain rfl := Option.some.inj hf
  exact hE _ _ _ _ hH dX7_split_58

def lf_X8_digitsOf (p0 : Int32) : Option (Int32) :=
(fixN FUEL (fun (self3 : (Int32 × Int32) → Option (Int32)) (z3 : Int32 × Int32) => (fun (x1 : Int32) (x2 : Int32) => (if x2 ≤ (0 : Int32) then some x1 else bnd (x1 + (1 : Int32)) fun x5 => bnd (x2 / (2 : Int32)) fun x6 => self3 (x5, x6))) z3.1 z3.2) ((0 : Int32), p0)).bind fun o3 => some o3
abbrev rm_X8_digitsOf : Room := { frames := 0, cells := 0, slots := 0, locals := 0 }
theorem hd_X8_digitsOf : yX8_digitsOf.cls ≠ "java/lang/invoke/MethodHandle" ∧ yX8_digitsOf.cls ≠ "java/lang/invoke/VarHandle" ∧ (parseMethodDescriptor yX8_digitsOf.desc).map (fun d => d.parameters.length) = some 1 := by decide +kernel
set_option maxHeartbeats 4000000 in
set_option maxRecDepth 100000 in
theorem ct_X8_digitsOf (l : Launch) (G : gG) (p0 : Int32) (sz : Nat) (out : Int32) (hf : lf_X8_digitsOf p0 = some out) : gI l G yX8_digitsOf cX8_digitsOf 3 .int rm_X8_digitsOf [.int p0] sz [] out [] := by
  refine gI_of (by decide +kernel) (Nat.le_of_ble_eq_true rfl) ?_
  intro p e s m args below meth c ls A Q X hK hA hsz hH hl hE
  subst hsz
  have hx := X.1
  have hb := X.2.1
  unfold lf_X8_digitsOf at hf
  have hl : lv_has ls 3 [(0, .int p0)] := hl
  have hH : gH G A s.heap s.heap [] [] := hH
  refine lv_iconst (v := (0 : Int32)) hx hb dX8_digitsOf_0 (by decide) ?_
  refine lv_istore_n (lv' := [(1, .int (0 : Int32)), (0, .int p0)]) hx hb dX8_digitsOf_1 rfl hl (by decide) rfl (fun ls hl => ?_)
  refine lv_iload_n hx hb dX8_digitsOf_2 rfl (lv_at hl 1 rfl) ?_
  refine lv_istore_n (lv' := [(2, .int p0), (1, .int (0 : Int32)), (0, .int p0)]) hx hb dX8_digitsOf_3 rfl hl (by decide) rfl (fun ls hl => ?_)
  obtain ⟨o3, ho3, hf⟩ := sbind hf
  obtain ⟨FF3, hFF3, ho3⟩ := sfix ho3
  have L3 : ∀ (n : Nat) (x1 : Int32) (x2 : Int32) (b3 : Int32) (H : Heap) (locs : List Loc) (ls : Array Slot), fixN n FF3 (x1, x2) = some b3 → gH G A s.heap H locs [] → lv_has ls 3 [(1, .int x1), (2, .int x2)] → (∀ (H : Heap) (locs : List Loc) (ls : Array Slot), gH G A s.heap H locs [] → lv_has ls 3 [(1, .int b3)] → W p l e rm_X8_digitsOf s m args below meth c H locs 0 0 Q (F0 m 18 ls [])) → W p l e rm_X8_digitsOf s m args below meth c H locs 0 0 Q (F0 m 4 ls []) := by
    intro n
    induction n with
    | zero => intro x1 x2 b3 H locs ls hf; exact sfix0 hf
    | succ n ih =>
      intro x1 x2 b3 H locs ls hf hH hl KK
      obtain ⟨self3, hself3, hf⟩ := sstep hFF3 hf
      refine lv_iload_n hx hb dX8_digitsOf_4 rfl (lv_at hl 1 rfl) ?_
      refine lv_if_le (tgt := 18) hx hb dX8_digitsOf_5 (by decide) (fun c4 => ?_) (fun c4 => ?_)
      · have hf := spos hf c4
        obtain rfl := Option.some.inj hf
        exact KK _ _ _ hH (lv_sub hl [0] rfl)
      · have hf := sneg hf c4
        obtain ⟨x5, ex5⟩ : ∃ y : Int32, y = (x1 + (1 : Int32)) := ⟨_, rfl⟩
        have hf := sbnd hf x5 ex5
        refine lv_iinc (v := x5) (lv' := [(1, .int x5), (2, .int x2)]) hx hb dX8_digitsOf_8 hl (k := 0) rfl (by rw [ex5]; rfl) (by decide) rfl (fun ls hl => ?_)
        refine lv_iload_n hx hb dX8_digitsOf_11 rfl (lv_at hl 1 rfl) ?_
        refine lv_iconst (v := (2 : Int32)) hx hb dX8_digitsOf_12 (by decide) ?_
        refine lv_idiv hx hb dX8_digitsOf_13 (by decide) ?_
        refine lv_topi (fun x6 ex6 => ?_)
        have hf := sbnd hf x6 ex6
        refine lv_istore_n (lv' := [(2, .int x6), (1, .int x5)]) hx hb dX8_digitsOf_14 rfl hl (by decide) rfl (fun ls hl => ?_)
        refine lv_goto (tgt := 4) hx hb dX8_digitsOf_15 (by decide) ?_
        exact ih x5 x6 _ _ _ _ (hself3 _ _ hf) hH (lv_sub hl [1, 0] rfl) KK
  refine L3 FUEL (0 : Int32) p0 o3 _ _ _ ho3 hH (lv_sub hl [1, 0] rfl) (fun H locs ls hH hl => ?_)
  refine lv_iload_n hx hb dX8_digitsOf_18 rfl (lv_at hl 0 rfl) ?_
  obtain rfl := Option.some.inj hf
  exact hE _ _ _ _ rfl hH dX8_digitsOf_19

def lf_X4_fitBlock (i_this_prediction_average : Int32) (i_this_prediction_size : Int32) (i_this_step : Int32) (t_this_costs : Nat → Int32) (t_this_levels : Nat → Int32) (t_this_modes : Nat → Int32) (t_this_prediction_above : Nat → Int32) (t_this_prediction_left : Nat → Int32) (t_this_result : Nat → Int32) (t_this_sizes : Nat → Int32) (t_this_transform_line : Nat → Int32) (t_this_transform_places : Nat → Int32) (n_p0 : Nat) (t_p0 : Nat → Int32) (p1 : Int32) (p2 : Int32) (p3 : Int32) : Option (Int32 × Int32 × Int32 × (Nat → Int32) × (Nat → Int32) × (Nat → Int32) × (Nat → Int32) × (Nat → Int32) × (Nat → Int32) × (Nat → Int32)) :=
(lf_X6_look i_this_prediction_average i_this_prediction_size t_this_prediction_above t_this_prediction_left 384 t_this_result p1 p2 p3).bind fun o1 => (lf_X6_bestMode o1.1 o1.2.1 o1.2.2.1 o1.2.2.2 n_p0 t_p0 p1 p2).bind fun o2 => (fixN FUEL (fun (self5 : (Int32 × (Nat → Int32)) → Option ((Nat → Int32))) (z5 : Int32 × (Nat → Int32)) => (fun (x3 : Int32) (g4 : (Nat → Int32)) => (if p3 ≤ x3 then some g4 else (fixN FUEL (fun (self9 : (Int32 × (Nat → Int32)) → Option ((Nat → Int32))) (z9 : Int32 × (Nat → Int32)) => (fun (x7 : Int32) (g8 : (Nat → Int32)) => (if p3 ≤ x7 then some g8 else (rdA n_p0 t_p0 ((((p2 + x3) * (16 : Int32)) + p1) + x7)).bind fun x11 => (lf_X6_of o1.1 o1.2.2.1 o1.2.2.2 o2 x3 x7).bind fun o12 => (wrA 64 g8 ((x3 * (8 : Int32)) + x7) (x11 - o12)).bind fun g13 => bnd (x7 + (1 : Int32)) fun x14 => self9 (x14, g13))) z9.1 z9.2) ((0 : Int32), g4)).bind fun o9 => bnd (x3 + (1 : Int32)) fun x15 => self5 (x15, o9))) z5.1 z5.2) ((0 : Int32), t_this_transform_places)).bind fun o5 => (lf_X7_split t_this_transform_line o5 p3).bind fun o16 => bnd (jmax (1 : Int32) i_this_step) fun x17 => (fixN FUEL (fun (self21 : (Int32 × Int32 × (Nat → Int32)) → Option (Int32 × (Nat → Int32))) (z21 : Int32 × Int32 × (Nat → Int32)) => (fun (x18 : Int32) (x19 : Int32) (g20 : (Nat → Int32)) => (if p3 ≤ x19 then some (x18, g20) else (fixN FUEL (fun (self26 : (Int32 × Int32 × (Nat → Int32)) → Option (Int32 × (Nat → Int32))) (z26 : Int32 × Int32 × (Nat → Int32)) => (fun (x23 : Int32) (x24 : Int32) (g25 : (Nat → Int32)) => (if p3 ≤ x24 then some (x23, g25) else (rdA 64 o16.2 ((x19 * (8 : Int32)) + x24)).bind fun x28 => (dvO x28 x17).bind fun x29 => (wrA 384 g25 ((((p2 + x19) * (16 : Int32)) + p1) + x24) x29).bind fun g30 => jn (fun (z33 : Int32) => (fun (s32 : Int32) => (lf_X8_digitsOf s32).bind fun o34 => bnd (x23 + ((2 : Int32) * o34)) fun x35 => bnd (x24 + (1 : Int32)) fun x36 => self26 (x35, x36, g30)) z33) (fun k33 => (if (0 : Int32) ≤ x29 then k33 x29 else k33 (-x29))))) z26.1 z26.2.1 z26.2.2) (x18, (0 : Int32), g20)).bind fun o26 => bnd (x19 + (1 : Int32)) fun x37 => self21 (o26.1, x37, o26.2))) z21.1 z21.2.1 z21.2.2) ((4 : Int32), (0 : Int32), t_this_levels)).bind fun o21 => (lf_X4_firstCell t_this_sizes p1 p2).bind fun o38 => (wrA 24 t_this_modes o38 o2).bind fun g39 => (lf_X4_firstCell t_this_sizes p1 p2).bind fun o40 => (wrA 24 t_this_costs o40 o21.1).bind fun g41 => some (o21.1, o1.1, o1.2.1, g41, o21.2, g39, o1.2.2.1, o1.2.2.2, o16.1, o16.2)
abbrev rm_X4_fitBlock : Room := { frames := 3, cells := 0, slots := 0, locals := 74 }
theorem hd_X4_fitBlock : yX4_fitBlock.cls ≠ "java/lang/invoke/MethodHandle" ∧ yX4_fitBlock.cls ≠ "java/lang/invoke/VarHandle" ∧ (parseMethodDescriptor yX4_fitBlock.desc).map (fun d => d.parameters.length) = some 4 := by decide +kernel
set_option maxHeartbeats 4000000 in
set_option maxRecDepth 100000 in
theorem ct_X4_fitBlock (l : Launch) (G : gG) (h_this : Nat) (r_this r_this_prediction r_this_transform : Nat → Nat) (i_this_step i_this_blockCount i_this_prediction_size i_this_prediction_average : Int32) (a_p0 n_p0 : Nat) (t_this_costs t_this_levels t_this_modes t_this_prediction_above t_this_prediction_left t_this_result t_this_sizes t_this_transform_line t_this_transform_places t_p0 : Nat → Int32) (p1 p2 p3 : Int32) (sz : Nat) (out : Int32 × Int32 × Int32 × (Nat → Int32) × (Nat → Int32) × (Nat → Int32) × (Nat → Int32) × (Nat → Int32) × (Nat → Int32) × (Nat → Int32)) (hf : lf_X4_fitBlock i_this_prediction_average i_this_prediction_size i_this_step t_this_costs t_this_levels t_this_modes t_this_prediction_above t_this_prediction_left t_this_result t_this_sizes t_this_transform_line t_this_transform_places n_p0 t_p0 p1 p2 p3 = some out) : gI l G yX4_fitBlock cX4_fitBlock 11 .int rm_X4_fitBlock [.ref h_this, .ref a_p0, .int p1, .int p2, .int p3] sz [(h_this, .inr (3, FX4 r_this i_this_step i_this_blockCount)), ((r_this 3), gA G 6 t_this_sizes), ((r_this 4), gA G 24 t_this_modes), ((r_this 5), gA G 24 t_this_costs), ((r_this 6), gA G 384 t_this_levels), ((r_this 7), gA G 384 t_this_result), ((r_this 8), .inr (5, FX6 r_this_prediction i_this_prediction_size i_this_prediction_average)), ((r_this_prediction 2), gA G 8 t_this_prediction_left), ((r_this_prediction 3), gA G 8 t_this_prediction_above), ((r_this 9), .inr (6, FX7 r_this_transform)), ((r_this_transform 0), gA G 64 t_this_transform_places), ((r_this_transform 1), gA G 8 t_this_transform_line), (a_p0, gA G n_p0 t_p0)] out.1 [(h_this, .inr (3, FX4 r_this i_this_step i_this_blockCount)), ((r_this 3), gA G 6 t_this_sizes), ((r_this 4), gA G 24 out.2.2.2.2.2.1), ((r_this 5), gA G 24 out.2.2.2.1), ((r_this 6), gA G 384 out.2.2.2.2.1), ((r_this 7), gA G 384 t_this_result), ((r_this 8), .inr (5, FX6 r_this_prediction out.2.2.1 out.2.1)), ((r_this_prediction 2), gA G 8 out.2.2.2.2.2.2.2.1), ((r_this_prediction 3), gA G 8 out.2.2.2.2.2.2.1), ((r_this 9), .inr (6, FX7 r_this_transform)), ((r_this_transform 0), gA G 64 out.2.2.2.2.2.2.2.2.2), ((r_this_transform 1), gA G 8 out.2.2.2.2.2.2.2.2.1), (a_p0, gA G n_p0 t_p0)] := by
  refine gI_of (by decide +kernel) (Nat.le_of_ble_eq_true rfl) ?_
  intro p e s m args below meth c ls A Q X hK hA hsz hH hl hE
  subst hsz
  have hx := X.1
  have hb := X.2.1
  unfold lf_X4_fitBlock at hf
  have hl : lv_has ls 11 [(0, .ref h_this), (1, .ref a_p0), (2, .int p1), (3, .int p2), (4, .int p3)] := hl
  have hH : gH G A s.heap s.heap [] [(h_this, .inr (3, FX4 r_this i_this_step i_this_blockCount)), ((r_this 3), gA G 6 t_this_sizes), ((r_this 4), gA G 24 t_this_modes), ((r_this 5), gA G 24 t_this_costs), ((r_this 6), gA G 384 t_this_levels), ((r_this 7), gA G 384 t_this_result), ((r_this 8), .inr (5, FX6 r_this_prediction i_this_prediction_size i_this_prediction_average)), ((r_this_prediction 2), gA G 8 t_this_prediction_left), ((r_this_prediction 3), gA G 8 t_this_prediction_above), ((r_this 9), .inr (6, FX7 r_this_transform)), ((r_this_transform 0), gA G 64 t_this_transform_places), ((r_this_transform 1), gA G 8 t_this_transform_line), (a_p0, gA G n_p0 t_p0)] := hH
  refine lv_aload_n hx hb dX4_fitBlock_0 rfl (lv_at hl 0 rfl) ?_
  refine g_get (T := TX4) (N := 10) (ci := 3) (C := RX4) (v := .ref (r_this 8)) X hK hH in_RX4 0 rfl rfl 8 (by decide) q_131 (fun _ h9 => h9) rfl dX4_fitBlock_1 ?_
  refine lv_aload_n hx hb dX4_fitBlock_4 rfl (lv_at hl 0 rfl) ?_
  refine g_get (T := TX4) (N := 10) (ci := 3) (C := RX4) (v := .ref (r_this 7)) X hK hH in_RX4 0 rfl rfl 7 (by decide) q_129 (fun _ h9 => h9) rfl dX4_fitBlock_5 ?_
  refine lv_iload_n hx hb dX4_fitBlock_8 rfl (lv_at hl 2 rfl) ?_
  refine lv_iload_n hx hb dX4_fitBlock_9 rfl (lv_at hl 3 rfl) ?_
  refine lv_iload hx hb dX4_fitBlock_10 (lv_at hl 4 rfl) ?_
  obtain ⟨o1, ho1, hf⟩ := sbind hf
  refine g_cVv (isC := [6, 7, 8, 5]) (isR := [0, 1, 2, 3, 4, 9, 10, 11, 12]) (isP := [0, 1, 2, 3, 4, 12, 9, 10, 11, 5, 6, 7, 8]) (wr := [(h_this, .inr (3, FX4 r_this i_this_step i_this_blockCount)), ((r_this 3), gA G 6 t_this_sizes), ((r_this 4), gA G 24 t_this_modes), ((r_this 5), gA G 24 t_this_costs), ((r_this 6), gA G 384 t_this_levels), ((r_this 9), .inr (6, FX7 r_this_transform)), ((r_this_transform 0), gA G 64 t_this_transform_places), ((r_this_transform 1), gA G 8 t_this_transform_line), (a_p0, gA G n_p0 t_p0)]) (w2 := [(h_this, .inr (3, FX4 r_this i_this_step i_this_blockCount)), ((r_this 3), gA G 6 t_this_sizes), ((r_this 4), gA G 24 t_this_modes), ((r_this 5), gA G 24 t_this_costs), ((r_this 6), gA G 384 t_this_levels), ((r_this 7), gA G 384 t_this_result), ((r_this 8), .inr (5, FX6 r_this_prediction o1.2.1 o1.1)), ((r_this_prediction 2), gA G 8 o1.2.2.2), ((r_this_prediction 3), gA G 8 o1.2.2.1), ((r_this 9), .inr (6, FX7 r_this_transform)), ((r_this_transform 0), gA G 64 t_this_transform_places), ((r_this_transform 1), gA G 8 t_this_transform_line), (a_p0, gA G n_p0 t_p0)]) (q0 := 6) X hK hA hH hl (ct_X6_look l G (r_this 8) r_this_prediction i_this_prediction_size i_this_prediction_average (r_this 7) 384 t_this_prediction_above t_this_prediction_left t_this_result p1 p2 p3 s.heap.size o1 ho1) ⟨q_5, q_628, hd_X6_look, rfl, rfl, ⟨Nat.le_of_ble_eq_true rfl, Nat.le_of_ble_eq_true rfl⟩, ⟨Nat.zero_le _, Nat.zero_le _⟩⟩ q_625 q_626 q_627 rfl rfl ⟨rfl, rfl, rfl, rfl, by decide, rfl, rfl⟩ rfl rfl (Nat.le_of_ble_eq_true rfl) dX4_fitBlock_12 (fun H locs hH => ?_)
  refine lv_aload_n hx hb dX4_fitBlock_15 rfl (lv_at hl 0 rfl) ?_
  refine g_get (T := TX4) (N := 10) (ci := 3) (C := RX4) (v := .ref (r_this 8)) X hK hH in_RX4 0 rfl rfl 8 (by decide) q_131 (fun _ h9 => h9) rfl dX4_fitBlock_16 ?_
  refine lv_aload_n hx hb dX4_fitBlock_19 rfl (lv_at hl 1 rfl) ?_
  refine lv_iload_n hx hb dX4_fitBlock_20 rfl (lv_at hl 2 rfl) ?_
  refine lv_iload_n hx hb dX4_fitBlock_21 rfl (lv_at hl 3 rfl) ?_
  obtain ⟨o2, ho2, hf⟩ := sbind hf
  refine g_cVi (isC := [6, 7, 8, 12]) (isR := [0, 1, 2, 3, 4, 5, 9, 10, 11]) (isP := [0, 1, 2, 3, 4, 5, 9, 10, 11, 6, 7, 8, 12]) (wr := [(h_this, .inr (3, FX4 r_this i_this_step i_this_blockCount)), ((r_this 3), gA G 6 t_this_sizes), ((r_this 4), gA G 24 t_this_modes), ((r_this 5), gA G 24 t_this_costs), ((r_this 6), gA G 384 t_this_levels), ((r_this 7), gA G 384 t_this_result), ((r_this 9), .inr (6, FX7 r_this_transform)), ((r_this_transform 0), gA G 64 t_this_transform_places), ((r_this_transform 1), gA G 8 t_this_transform_line)]) (w2 := [(h_this, .inr (3, FX4 r_this i_this_step i_this_blockCount)), ((r_this 3), gA G 6 t_this_sizes), ((r_this 4), gA G 24 t_this_modes), ((r_this 5), gA G 24 t_this_costs), ((r_this 6), gA G 384 t_this_levels), ((r_this 7), gA G 384 t_this_result), ((r_this 8), .inr (5, FX6 r_this_prediction o1.2.1 o1.1)), ((r_this_prediction 2), gA G 8 o1.2.2.2), ((r_this_prediction 3), gA G 8 o1.2.2.1), ((r_this 9), .inr (6, FX7 r_this_transform)), ((r_this_transform 0), gA G 64 t_this_transform_places), ((r_this_transform 1), gA G 8 t_this_transform_line), (a_p0, gA G n_p0 t_p0)]) (q0 := 6) X hK hA hH hl (ct_X6_bestMode l G (r_this 8) r_this_prediction o1.2.1 o1.1 a_p0 n_p0 o1.2.2.1 o1.2.2.2 t_p0 p1 p2 H.size o2 ho2) ⟨q_5, q_823, hd_X6_bestMode, rfl, rfl, ⟨Nat.le_of_ble_eq_true rfl, Nat.le_of_ble_eq_true rfl⟩, ⟨Nat.zero_le _, Nat.zero_le _⟩⟩ q_820 q_821 q_822 rfl rfl ⟨rfl, rfl, rfl, rfl, by decide, rfl, rfl⟩ rfl rfl (Nat.le_of_ble_eq_true rfl) dX4_fitBlock_22 (fun H locs hH => ?_)
  refine lv_istore (lv' := [(5, .int o2), (0, .ref h_this), (1, .ref a_p0), (2, .int p1), (3, .int p2), (4, .int p3)]) hx hb dX4_fitBlock_25 hl (by decide) rfl (fun ls hl => ?_)
  refine lv_iconst (v := (0 : Int32)) hx hb dX4_fitBlock_27 (by decide) ?_
  refine lv_istore (lv' := [(6, .int (0 : Int32)), (5, .int o2), (0, .ref h_this), (1, .ref a_p0), (2, .int p1), (3, .int p2), (4, .int p3)]) hx hb dX4_fitBlock_28 hl (by decide) rfl (fun ls hl => ?_)
  obtain ⟨o5, ho5, hf⟩ := sbind hf
  obtain ⟨FF5, hFF5, ho5⟩ := sfix ho5
  have L5 : ∀ (n : Nat) (x3 : Int32) (g4 : (Nat → Int32)) (b5 : (Nat → Int32)) (H : Heap) (locs : List Loc) (ls : Array Slot), fixN n FF5 (x3, g4) = some b5 → gH G A s.heap H locs [(h_this, .inr (3, FX4 r_this i_this_step i_this_blockCount)), ((r_this 3), gA G 6 t_this_sizes), ((r_this 4), gA G 24 t_this_modes), ((r_this 5), gA G 24 t_this_costs), ((r_this 6), gA G 384 t_this_levels), ((r_this 7), gA G 384 t_this_result), ((r_this 8), .inr (5, FX6 r_this_prediction o1.2.1 o1.1)), ((r_this_prediction 2), gA G 8 o1.2.2.2), ((r_this_prediction 3), gA G 8 o1.2.2.1), ((r_this 9), .inr (6, FX7 r_this_transform)), ((r_this_transform 0), gA G 64 g4), ((r_this_transform 1), gA G 8 t_this_transform_line), (a_p0, gA G n_p0 t_p0)] → lv_has ls 11 [(0, .ref h_this), (1, .ref a_p0), (2, .int p1), (3, .int p2), (4, .int p3), (5, .int o2), (6, .int x3)] → (∀ (H : Heap) (locs : List Loc) (ls : Array Slot), gH G A s.heap H locs [(h_this, .inr (3, FX4 r_this i_this_step i_this_blockCount)), ((r_this 3), gA G 6 t_this_sizes), ((r_this 4), gA G 24 t_this_modes), ((r_this 5), gA G 24 t_this_costs), ((r_this 6), gA G 384 t_this_levels), ((r_this 7), gA G 384 t_this_result), ((r_this 8), .inr (5, FX6 r_this_prediction o1.2.1 o1.1)), ((r_this_prediction 2), gA G 8 o1.2.2.2), ((r_this_prediction 3), gA G 8 o1.2.2.1), ((r_this 9), .inr (6, FX7 r_this_transform)), ((r_this_transform 0), gA G 64 b5), ((r_this_transform 1), gA G 8 t_this_transform_line), (a_p0, gA G n_p0 t_p0)] → lv_has ls 11 [(0, .ref h_this), (2, .int p1), (3, .int p2), (4, .int p3), (5, .int o2)] → W p l e rm_X4_fitBlock s m args below meth c H locs 0 0 Q (F0 m 107 ls [])) → W p l e rm_X4_fitBlock s m args below meth c H locs 0 0 Q (F0 m 30 ls []) := by
    intro n
    induction n with
    | zero => intro x3 g4 b5 H locs ls hf; exact sfix0 hf
    | succ n ih =>
      intro x3 g4 b5 H locs ls hf hH hl KK
      obtain ⟨self5, hself5, hf⟩ := sstep hFF5 hf
      refine lv_iload hx hb dX4_fitBlock_30 (lv_at hl 6 rfl) ?_
      refine lv_iload hx hb dX4_fitBlock_32 (lv_at hl 4 rfl) ?_
      refine lv_icmp_ge (tgt := 107) hx hb dX4_fitBlock_34 (by decide) (fun c6 => ?_) (fun c6 => ?_)
      · have hf := spos hf c6
        obtain rfl := Option.some.inj hf
        exact KK _ _ _ hH (lv_sub hl [0, 2, 3, 4, 5] rfl)
      · have hf := sneg hf c6
        refine lv_iconst (v := (0 : Int32)) hx hb dX4_fitBlock_37 (by decide) ?_
        refine lv_istore (lv' := [(7, .int (0 : Int32)), (0, .ref h_this), (1, .ref a_p0), (2, .int p1), (3, .int p2), (4, .int p3), (5, .int o2), (6, .int x3)]) hx hb dX4_fitBlock_38 hl (by decide) rfl (fun ls hl => ?_)
        obtain ⟨o9, ho9, hf⟩ := sbind hf
        obtain ⟨FF9, hFF9, ho9⟩ := sfix ho9
        have L9 : ∀ (n : Nat) (x7 : Int32) (g8 : (Nat → Int32)) (b9 : (Nat → Int32)) (H : Heap) (locs : List Loc) (ls : Array Slot), fixN n FF9 (x7, g8) = some b9 → gH G A s.heap H locs [(h_this, .inr (3, FX4 r_this i_this_step i_this_blockCount)), ((r_this 3), gA G 6 t_this_sizes), ((r_this 4), gA G 24 t_this_modes), ((r_this 5), gA G 24 t_this_costs), ((r_this 6), gA G 384 t_this_levels), ((r_this 7), gA G 384 t_this_result), ((r_this 8), .inr (5, FX6 r_this_prediction o1.2.1 o1.1)), ((r_this_prediction 2), gA G 8 o1.2.2.2), ((r_this_prediction 3), gA G 8 o1.2.2.1), ((r_this 9), .inr (6, FX7 r_this_transform)), ((r_this_transform 0), gA G 64 g8), ((r_this_transform 1), gA G 8 t_this_transform_line), (a_p0, gA G n_p0 t_p0)] → lv_has ls 11 [(0, .ref h_this), (1, .ref a_p0), (2, .int p1), (3, .int p2), (4, .int p3), (5, .int o2), (6, .int x3), (7, .int x7)] → (∀ (H : Heap) (locs : List Loc) (ls : Array Slot), gH G A s.heap H locs [(h_this, .inr (3, FX4 r_this i_this_step i_this_blockCount)), ((r_this 3), gA G 6 t_this_sizes), ((r_this 4), gA G 24 t_this_modes), ((r_this 5), gA G 24 t_this_costs), ((r_this 6), gA G 384 t_this_levels), ((r_this 7), gA G 384 t_this_result), ((r_this 8), .inr (5, FX6 r_this_prediction o1.2.1 o1.1)), ((r_this_prediction 2), gA G 8 o1.2.2.2), ((r_this_prediction 3), gA G 8 o1.2.2.1), ((r_this 9), .inr (6, FX7 r_this_transform)), ((r_this_transform 0), gA G 64 b9), ((r_this_transform 1), gA G 8 t_this_transform_line), (a_p0, gA G n_p0 t_p0)] → lv_has ls 11 [(0, .ref h_this), (1, .ref a_p0), (2, .int p1), (3, .int p2), (4, .int p3), (5, .int o2), (6, .int x3)] → W p l e rm_X4_fitBlock s m args below meth c H locs 0 0 Q (F0 m 101 ls [])) → W p l e rm_X4_fitBlock s m args below meth c H locs 0 0 Q (F0 m 40 ls []) := by
          intro n
          induction n with
          | zero => intro x7 g8 b9 H locs ls hf; exact sfix0 hf
          | succ n ih =>
            intro x7 g8 b9 H locs ls hf hH hl KK
            obtain ⟨self9, hself9, hf⟩ := sstep hFF9 hf
            refine lv_iload hx hb dX4_fitBlock_40 (lv_at hl 7 rfl) ?_
            refine lv_iload hx hb dX4_fitBlock_42 (lv_at hl 4 rfl) ?_
            refine lv_icmp_ge (tgt := 101) hx hb dX4_fitBlock_44 (by decide) (fun c10 => ?_) (fun c10 => ?_)
            · have hf := spos hf c10
              obtain rfl := Option.some.inj hf
              exact KK _ _ _ hH (lv_sub hl [0, 1, 2, 3, 4, 5, 6] rfl)
            · have hf := sneg hf c10
              refine lv_aload_n hx hb dX4_fitBlock_47 rfl (lv_at hl 1 rfl) ?_
              refine lv_iload_n hx hb dX4_fitBlock_48 rfl (lv_at hl 3 rfl) ?_
              refine lv_iload hx hb dX4_fitBlock_49 (lv_at hl 6 rfl) ?_
              refine lv_iadd hx hb dX4_fitBlock_51 ?_
              refine lv_bipush (v := (16 : Int32)) hx hb dX4_fitBlock_52 (by decide) ?_
              refine lv_imul hx hb dX4_fitBlock_54 ?_
              refine lv_iload_n hx hb dX4_fitBlock_55 rfl (lv_at hl 2 rfl) ?_
              refine lv_iadd hx hb dX4_fitBlock_56 ?_
              refine lv_iload hx hb dX4_fitBlock_57 (lv_at hl 7 rfl) ?_
              refine lv_iadd hx hb dX4_fitBlock_59 ?_
              obtain ⟨x11, hx11, hf⟩ := sbind hf
              refine g_ald X hK hH 12 rfl hx11 dX4_fitBlock_60 ?_
              refine lv_istore (lv' := [(8, .int x11), (0, .ref h_this), (1, .ref a_p0), (2, .int p1), (3, .int p2), (4, .int p3), (5, .int o2), (6, .int x3), (7, .int x7)]) hx hb dX4_fitBlock_61 hl (by decide) rfl (fun ls hl => ?_)
              refine lv_aload_n hx hb dX4_fitBlock_63 rfl (lv_at hl 1 rfl) ?_
              refine g_get (T := TX4) (N := 10) (ci := 3) (C := RX4) (v := .ref (r_this 9)) X hK hH in_RX4 0 rfl rfl 9 (by decide) q_132 (fun _ h9 => h9) rfl dX4_fitBlock_64 ?_
              refine g_getN (T := TX7) (N := 2) (ci := 6) (C := RX7) (v := .ref (r_this_transform 0)) X hK hH in_RX7 9 rfl rfl 0 (by decide) qn_109 (fun _ h9 => h9) rfl dX4_fitBlock_67 ?_
              refine lv_iload hx hb dX4_fitBlock_70 (lv_at hl 7 rfl) ?_
              refine lv_bipush (v := (8 : Int32)) hx hb dX4_fitBlock_72 (by decide) ?_
              refine lv_imul hx hb dX4_fitBlock_74 ?_
              refine lv_iload hx hb dX4_fitBlock_75 (lv_at hl 8 rfl) ?_
              refine lv_iadd hx hb dX4_fitBlock_77 ?_
              refine lv_iload hx hb dX4_fitBlock_78 (lv_at hl 0 rfl) ?_
              refine lv_aload_n hx hb dX4_fitBlock_80 rfl (lv_at hl 1 rfl) ?_
              refine g_get (T := TX4) (N := 10) (ci := 3) (C := RX4) (v := .ref (r_this 8)) X hK hH in_RX4 0 rfl rfl 8 (by decide) q_131 (fun _ h9 => h9) rfl dX4_fitBlock_81 ?_
              refine lv_iload hx hb dX4_fitBlock_84 (lv_at hl 6 rfl) ?_
              refine lv_iload hx hb dX4_fitBlock_86 (lv_at hl 7 rfl) ?_
              refine lv_iload hx hb dX4_fitBlock_88 (lv_at hl 8 rfl) ?_
              obtain ⟨o12, ho12, hf⟩ := sbind hf
              refine g_cVi (isC := [6, 7, 8]) (isR := [0, 1, 2, 3, 4, 5, 9, 10, 11, 12]) (isP := [0, 1, 2, 3, 4, 5, 10, 11, 12, 6, 7, 8, 9]) (wr := [(h_this, .inr (3, FX4 r_this i_this_step i_this_blockCount)), ((r_this 3), gA G 6 t_this_sizes), ((r_this 4), gA G 24 t_this_modes), ((r_this 5), gA G 24 t_this_costs), ((r_this 6), gA G 384 t_this_levels), ((r_this 7), gA G 384 t_this_result), ((r_this 9), .inr (6, FX7 r_this_transform)), ((r_this_transform 0), gA G 64 g8), ((r_this_transform 1), gA G 8 t_this_transform_line), (a_p0, gA G n_p0 t_p0)]) (w2 := [(h_this, .inr (3, FX4 r_this i_this_step i_this_blockCount)), ((r_this 3), gA G 6 t_this_sizes), ((r_this 4), gA G 24 t_this_modes), ((r_this 5), gA G 24 t_this_costs), ((r_this 6), gA G 384 t_this_levels), ((r_this 7), gA G 384 t_this_result), ((r_this 8), .inr (5, FX6 r_this_prediction o1.2.1 o1.1)), ((r_this_prediction 2), gA G 8 o1.2.2.2), ((r_this_prediction 3), gA G 8 o1.2.2.1), ((r_this 9), .inr (6, FX7 r_this_transform)), ((r_this_transform 0), gA G 64 g8), ((r_this_transform 1), gA G 8 t_this_transform_line), (a_p0, gA G n_p0 t_p0)]) (q0 := 6) X hK hA hH hl (ct_X6_of l G (r_this 8) r_this_prediction o1.2.1 o1.1 o1.2.2.1 o1.2.2.2 o2 x3 x7 H.size o12 ho12) ⟨q_5, q_643, hd_X6_of, rfl, rfl, ⟨Nat.le_of_ble_eq_true rfl, Nat.le_of_ble_eq_true rfl⟩, ⟨Nat.zero_le _, Nat.zero_le _⟩⟩ q_640 q_641 q_642 rfl rfl ⟨rfl, rfl, rfl, rfl, by decide, rfl, rfl⟩ rfl rfl (Nat.le_of_ble_eq_true rfl) dX4_fitBlock_90 (fun H locs hH => ?_)
              refine lv_isub hx hb dX4_fitBlock_93 ?_
              obtain ⟨g13, hg13, hf⟩ := sbind hf
              refine g_ast (w1 := [(h_this, .inr (3, FX4 r_this i_this_step i_this_blockCount)), ((r_this 3), gA G 6 t_this_sizes), ((r_this 4), gA G 24 t_this_modes), ((r_this 5), gA G 24 t_this_costs), ((r_this 6), gA G 384 t_this_levels), ((r_this 7), gA G 384 t_this_result), ((r_this 8), .inr (5, FX6 r_this_prediction o1.2.1 o1.1)), ((r_this_prediction 2), gA G 8 o1.2.2.2), ((r_this_prediction 3), gA G 8 o1.2.2.1), ((r_this 9), .inr (6, FX7 r_this_transform)), ((r_this_transform 0), gA G 64 g13), ((r_this_transform 1), gA G 8 t_this_transform_line), (a_p0, gA G n_p0 t_p0)]) X hK hH 10 rfl hg13 dX4_fitBlock_94 rfl (fun H locs hH => ?_)
              obtain ⟨x14, ex14⟩ : ∃ y : Int32, y = (x7 + (1 : Int32)) := ⟨_, rfl⟩
              have hf := sbnd hf x14 ex14
              refine lv_iinc (v := x14) (lv' := [(7, .int x14), (8, .int x11), (0, .ref h_this), (1, .ref a_p0), (2, .int p1), (3, .int p2), (4, .int p3), (5, .int o2), (6, .int x3)]) hx hb dX4_fitBlock_95 hl (k := 8) rfl (by rw [ex14]; rfl) (by decide) rfl (fun ls hl => ?_)
              refine lv_goto (tgt := 40) hx hb dX4_fitBlock_98 (by decide) ?_
              exact ih x14 g13 _ _ _ _ (hself9 _ _ hf) hH (lv_sub hl [2, 3, 4, 5, 6, 7, 8, 0] rfl) KK
        refine L9 FUEL (0 : Int32) g4 o9 _ _ _ ho9 hH (lv_sub hl [1, 2, 3, 4, 5, 6, 7, 0] rfl) (fun H locs ls hH hl => ?_)
        obtain ⟨x15, ex15⟩ : ∃ y : Int32, y = (x3 + (1 : Int32)) := ⟨_, rfl⟩
        have hf := sbnd hf x15 ex15
        refine lv_iinc (v := x15) (lv' := [(6, .int x15), (0, .ref h_this), (1, .ref a_p0), (2, .int p1), (3, .int p2), (4, .int p3), (5, .int o2)]) hx hb dX4_fitBlock_101 hl (k := 6) rfl (by rw [ex15]; rfl) (by decide) rfl (fun ls hl => ?_)
        refine lv_goto (tgt := 30) hx hb dX4_fitBlock_104 (by decide) ?_
        exact ih x15 o9 _ _ _ _ (hself5 _ _ hf) hH (lv_sub hl [1, 2, 3, 4, 5, 6, 0] rfl) KK
  refine L5 FUEL (0 : Int32) t_this_transform_places o5 _ _ _ ho5 hH (lv_sub hl [2, 3, 4, 5, 6, 1, 0] rfl) (fun H locs ls hH hl => ?_)
  refine lv_aload_n hx hb dX4_fitBlock_107 rfl (lv_at hl 0 rfl) ?_
  refine g_get (T := TX4) (N := 10) (ci := 3) (C := RX4) (v := .ref (r_this 9)) X hK hH in_RX4 0 rfl rfl 9 (by decide) q_132 (fun _ h9 => h9) rfl dX4_fitBlock_108 ?_
  refine lv_iload hx hb dX4_fitBlock_111 (lv_at hl 3 rfl) ?_
  obtain ⟨o16, ho16, hf⟩ := sbind hf
  refine g_cVv (isC := [9, 10, 11]) (isR := [0, 1, 2, 3, 4, 5, 6, 7, 8, 12]) (isP := [0, 1, 2, 3, 4, 5, 6, 7, 8, 10, 11, 12, 9]) (wr := [(h_this, .inr (3, FX4 r_this i_this_step i_this_blockCount)), ((r_this 3), gA G 6 t_this_sizes), ((r_this 4), gA G 24 t_this_modes), ((r_this 5), gA G 24 t_this_costs), ((r_this 6), gA G 384 t_this_levels), ((r_this 7), gA G 384 t_this_result), ((r_this 8), .inr (5, FX6 r_this_prediction o1.2.1 o1.1)), ((r_this_prediction 2), gA G 8 o1.2.2.2), ((r_this_prediction 3), gA G 8 o1.2.2.1), (a_p0, gA G n_p0 t_p0)]) (w2 := [(h_this, .inr (3, FX4 r_this i_this_step i_this_blockCount)), ((r_this 3), gA G 6 t_this_sizes), ((r_this 4), gA G 24 t_this_modes), ((r_this 5), gA G 24 t_this_costs), ((r_this 6), gA G 384 t_this_levels), ((r_this 7), gA G 384 t_this_result), ((r_this 8), .inr (5, FX6 r_this_prediction o1.2.1 o1.1)), ((r_this_prediction 2), gA G 8 o1.2.2.2), ((r_this_prediction 3), gA G 8 o1.2.2.1), ((r_this 9), .inr (6, FX7 r_this_transform)), ((r_this_transform 0), gA G 64 o16.2), ((r_this_transform 1), gA G 8 o16.1), (a_p0, gA G n_p0 t_p0)]) (q0 := 9) X hK hA hH hl (ct_X7_split l G (r_this 9) r_this_transform t_this_transform_line o5 p3 H.size o16 ho16) ⟨q_6, q_829, hd_X7_split, rfl, rfl, ⟨Nat.le_of_ble_eq_true rfl, Nat.le_of_ble_eq_true rfl⟩, ⟨Nat.zero_le _, Nat.zero_le _⟩⟩ q_826 q_827 q_828 rfl rfl ⟨rfl, rfl, rfl, rfl, by decide, rfl, rfl⟩ rfl rfl (Nat.le_of_ble_eq_true rfl) dX4_fitBlock_113 (fun H locs hH => ?_)
  refine lv_iconst (v := (1 : Int32)) hx hb dX4_fitBlock_116 (by decide) ?_
  refine lv_aload_n hx hb dX4_fitBlock_117 rfl (lv_at hl 0 rfl) ?_
  refine g_get (T := TX4) (N := 10) (ci := 3) (C := RX4) (v := .int i_this_step) X hK hH in_RX4 0 rfl rfl 0 (by decide) q_116 (fun _ h9 => h9) rfl dX4_fitBlock_118 ?_
  refine g_max X hl q_834 q_654 q_16 q_655 ⟨Nat.le_of_ble_eq_true rfl, Nat.le_of_ble_eq_true rfl⟩ ⟨Nat.zero_le _, Nat.zero_le _⟩ dX4_fitBlock_121 ?_
  refine lv_topi (fun x17 ex17 => ?_)
  have hf := sbnd hf x17 ex17
  refine lv_istore (lv' := [(6, .int x17), (0, .ref h_this), (2, .int p1), (3, .int p2), (4, .int p3), (5, .int o2)]) hx hb dX4_fitBlock_124 hl (by decide) rfl (fun ls hl => ?_)
  refine lv_iconst (v := (4 : Int32)) hx hb dX4_fitBlock_126 (by decide) ?_
  refine lv_istore (lv' := [(7, .int (4 : Int32)), (6, .int x17), (0, .ref h_this), (2, .int p1), (3, .int p2), (4, .int p3), (5, .int o2)]) hx hb dX4_fitBlock_127 hl (by decide) rfl (fun ls hl => ?_)
  refine lv_iconst (v := (0 : Int32)) hx hb dX4_fitBlock_129 (by decide) ?_
  refine lv_istore (lv' := [(8, .int (0 : Int32)), (7, .int (4 : Int32)), (6, .int x17), (0, .ref h_this), (2, .int p1), (3, .int p2), (4, .int p3), (5, .int o2)]) hx hb dX4_fitBlock_130 hl (by decide) rfl (fun ls hl => ?_)
  obtain ⟨o21, ho21, hf⟩ := sbind hf
  obtain ⟨FF21, hFF21, ho21⟩ := sfix ho21
  have L21 : ∀ (n : Nat) (x18 : Int32) (x19 : Int32) (g20 : (Nat → Int32)) (b21 : Int32 × (Nat → Int32)) (H : Heap) (locs : List Loc) (ls : Array Slot), fixN n FF21 (x18, x19, g20) = some b21 → gH G A s.heap H locs [(h_this, .inr (3, FX4 r_this i_this_step i_this_blockCount)), ((r_this 3), gA G 6 t_this_sizes), ((r_this 4), gA G 24 t_this_modes), ((r_this 5), gA G 24 t_this_costs), ((r_this 6), gA G 384 g20), ((r_this 7), gA G 384 t_this_result), ((r_this 8), .inr (5, FX6 r_this_prediction o1.2.1 o1.1)), ((r_this_prediction 2), gA G 8 o1.2.2.2), ((r_this_prediction 3), gA G 8 o1.2.2.1), ((r_this 9), .inr (6, FX7 r_this_transform)), ((r_this_transform 0), gA G 64 o16.2), ((r_this_transform 1), gA G 8 o16.1), (a_p0, gA G n_p0 t_p0)] → lv_has ls 11 [(0, .ref h_this), (2, .int p1), (3, .int p2), (4, .int p3), (5, .int o2), (6, .int x17), (7, .int x18), (8, .int x19)] → (∀ (H : Heap) (locs : List Loc) (ls : Array Slot), gH G A s.heap H locs [(h_this, .inr (3, FX4 r_this i_this_step i_this_blockCount)), ((r_this 3), gA G 6 t_this_sizes), ((r_this 4), gA G 24 t_this_modes), ((r_this 5), gA G 24 t_this_costs), ((r_this 6), gA G 384 b21.2), ((r_this 7), gA G 384 t_this_result), ((r_this 8), .inr (5, FX6 r_this_prediction o1.2.1 o1.1)), ((r_this_prediction 2), gA G 8 o1.2.2.2), ((r_this_prediction 3), gA G 8 o1.2.2.1), ((r_this 9), .inr (6, FX7 r_this_transform)), ((r_this_transform 0), gA G 64 o16.2), ((r_this_transform 1), gA G 8 o16.1), (a_p0, gA G n_p0 t_p0)] → lv_has ls 11 [(0, .ref h_this), (2, .int p1), (3, .int p2), (5, .int o2), (7, .int b21.1)] → W p l e rm_X4_fitBlock s m args below meth c H locs 0 0 Q (F0 m 224 ls [])) → W p l e rm_X4_fitBlock s m args below meth c H locs 0 0 Q (F0 m 132 ls []) := by
    intro n
    induction n with
    | zero => intro x18 x19 g20 b21 H locs ls hf; exact sfix0 hf
    | succ n ih =>
      intro x18 x19 g20 b21 H locs ls hf hH hl KK
      obtain ⟨self21, hself21, hf⟩ := sstep hFF21 hf
      refine lv_iload hx hb dX4_fitBlock_132 (lv_at hl 7 rfl) ?_
      refine lv_iload hx hb dX4_fitBlock_134 (lv_at hl 3 rfl) ?_
      refine lv_icmp_ge (tgt := 224) hx hb dX4_fitBlock_136 (by decide) (fun c22 => ?_) (fun c22 => ?_)
      · have hf := spos hf c22
        obtain rfl := Option.some.inj hf
        exact KK _ _ _ hH (lv_sub hl [0, 1, 2, 4, 6] rfl)
      · have hf := sneg hf c22
        refine lv_iconst (v := (0 : Int32)) hx hb dX4_fitBlock_139 (by decide) ?_
        refine lv_istore (lv' := [(9, .int (0 : Int32)), (0, .ref h_this), (2, .int p1), (3, .int p2), (4, .int p3), (5, .int o2), (6, .int x17), (7, .int x18), (8, .int x19)]) hx hb dX4_fitBlock_140 hl (by decide) rfl (fun ls hl => ?_)
        obtain ⟨o26, ho26, hf⟩ := sbind hf
        obtain ⟨FF26, hFF26, ho26⟩ := sfix ho26
        have L26 : ∀ (n : Nat) (x23 : Int32) (x24 : Int32) (g25 : (Nat → Int32)) (b26 : Int32 × (Nat → Int32)) (H : Heap) (locs : List Loc) (ls : Array Slot), fixN n FF26 (x23, x24, g25) = some b26 → gH G A s.heap H locs [(h_this, .inr (3, FX4 r_this i_this_step i_this_blockCount)), ((r_this 3), gA G 6 t_this_sizes), ((r_this 4), gA G 24 t_this_modes), ((r_this 5), gA G 24 t_this_costs), ((r_this 6), gA G 384 g25), ((r_this 7), gA G 384 t_this_result), ((r_this 8), .inr (5, FX6 r_this_prediction o1.2.1 o1.1)), ((r_this_prediction 2), gA G 8 o1.2.2.2), ((r_this_prediction 3), gA G 8 o1.2.2.1), ((r_this 9), .inr (6, FX7 r_this_transform)), ((r_this_transform 0), gA G 64 o16.2), ((r_this_transform 1), gA G 8 o16.1), (a_p0, gA G n_p0 t_p0)] → lv_has ls 11 [(0, .ref h_this), (2, .int p1), (3, .int p2), (4, .int p3), (5, .int o2), (6, .int x17), (7, .int x23), (8, .int x19), (9, .int x24)] → (∀ (H : Heap) (locs : List Loc) (ls : Array Slot), gH G A s.heap H locs [(h_this, .inr (3, FX4 r_this i_this_step i_this_blockCount)), ((r_this 3), gA G 6 t_this_sizes), ((r_this 4), gA G 24 t_this_modes), ((r_this 5), gA G 24 t_this_costs), ((r_this 6), gA G 384 b26.2), ((r_this 7), gA G 384 t_this_result), ((r_this 8), .inr (5, FX6 r_this_prediction o1.2.1 o1.1)), ((r_this_prediction 2), gA G 8 o1.2.2.2), ((r_this_prediction 3), gA G 8 o1.2.2.1), ((r_this 9), .inr (6, FX7 r_this_transform)), ((r_this_transform 0), gA G 64 o16.2), ((r_this_transform 1), gA G 8 o16.1), (a_p0, gA G n_p0 t_p0)] → lv_has ls 11 [(0, .ref h_this), (2, .int p1), (3, .int p2), (4, .int p3), (5, .int o2), (6, .int x17), (7, .int b26.1), (8, .int x19)] → W p l e rm_X4_fitBlock s m args below meth c H locs 0 0 Q (F0 m 218 ls [])) → W p l e rm_X4_fitBlock s m args below meth c H locs 0 0 Q (F0 m 142 ls []) := by
          intro n
          induction n with
          | zero => intro x23 x24 g25 b26 H locs ls hf; exact sfix0 hf
          | succ n ih =>
            intro x23 x24 g25 b26 H locs ls hf hH hl KK
            obtain ⟨self26, hself26, hf⟩ := sstep hFF26 hf
            refine lv_iload hx hb dX4_fitBlock_142 (lv_at hl 8 rfl) ?_
            refine lv_iload hx hb dX4_fitBlock_144 (lv_at hl 3 rfl) ?_
            refine lv_icmp_ge (tgt := 218) hx hb dX4_fitBlock_146 (by decide) (fun c27 => ?_) (fun c27 => ?_)
            · have hf := spos hf c27
              obtain rfl := Option.some.inj hf
              exact KK _ _ _ hH (lv_sub hl [0, 1, 2, 3, 4, 5, 6, 7] rfl)
            · have hf := sneg hf c27
              refine lv_aload_n hx hb dX4_fitBlock_149 rfl (lv_at hl 0 rfl) ?_
              refine g_get (T := TX4) (N := 10) (ci := 3) (C := RX4) (v := .ref (r_this 9)) X hK hH in_RX4 0 rfl rfl 9 (by decide) q_132 (fun _ h9 => h9) rfl dX4_fitBlock_150 ?_
              refine g_getN (T := TX7) (N := 2) (ci := 6) (C := RX7) (v := .ref (r_this_transform 0)) X hK hH in_RX7 9 rfl rfl 0 (by decide) qn_109 (fun _ h9 => h9) rfl dX4_fitBlock_153 ?_
              refine lv_iload hx hb dX4_fitBlock_156 (lv_at hl 7 rfl) ?_
              refine lv_bipush (v := (8 : Int32)) hx hb dX4_fitBlock_158 (by decide) ?_
              refine lv_imul hx hb dX4_fitBlock_160 ?_
              refine lv_iload hx hb dX4_fitBlock_161 (lv_at hl 8 rfl) ?_
              refine lv_iadd hx hb dX4_fitBlock_163 ?_
              obtain ⟨x28, hx28, hf⟩ := sbind hf
              refine g_ald X hK hH 10 rfl hx28 dX4_fitBlock_164 ?_
              refine lv_iload hx hb dX4_fitBlock_165 (lv_at hl 5 rfl) ?_
              obtain ⟨x29, hx29, hf⟩ := sbind hf
              refine g_div X hx29 dX4_fitBlock_167 ?_
              refine lv_istore (lv' := [(10, .int x29), (0, .ref h_this), (2, .int p1), (3, .int p2), (4, .int p3), (5, .int o2), (6, .int x17), (7, .int x23), (8, .int x19), (9, .int x24)]) hx hb dX4_fitBlock_168 hl (by decide) rfl (fun ls hl => ?_)
              refine lv_aload_n hx hb dX4_fitBlock_170 rfl (lv_at hl 1 rfl) ?_
              refine g_get (T := TX4) (N := 10) (ci := 3) (C := RX4) (v := .ref (r_this 6)) X hK hH in_RX4 0 rfl rfl 6 (by decide) q_127 (fun _ h9 => h9) rfl dX4_fitBlock_171 ?_
              refine lv_iload_n hx hb dX4_fitBlock_174 rfl (lv_at hl 3 rfl) ?_
              refine lv_iload hx hb dX4_fitBlock_175 (lv_at hl 8 rfl) ?_
              refine lv_iadd hx hb dX4_fitBlock_177 ?_
              refine lv_bipush (v := (16 : Int32)) hx hb dX4_fitBlock_178 (by decide) ?_
              refine lv_imul hx hb dX4_fitBlock_180 ?_
              refine lv_iload_n hx hb dX4_fitBlock_181 rfl (lv_at hl 2 rfl) ?_
              refine lv_iadd hx hb dX4_fitBlock_182 ?_
              refine lv_iload hx hb dX4_fitBlock_183 (lv_at hl 9 rfl) ?_
              refine lv_iadd hx hb dX4_fitBlock_185 ?_
              refine lv_iload hx hb dX4_fitBlock_186 (lv_at hl 0 rfl) ?_
              obtain ⟨g30, hg30, hf⟩ := sbind hf
              refine g_ast (w1 := [(h_this, .inr (3, FX4 r_this i_this_step i_this_blockCount)), ((r_this 3), gA G 6 t_this_sizes), ((r_this 4), gA G 24 t_this_modes), ((r_this 5), gA G 24 t_this_costs), ((r_this 6), gA G 384 g30), ((r_this 7), gA G 384 t_this_result), ((r_this 8), .inr (5, FX6 r_this_prediction o1.2.1 o1.1)), ((r_this_prediction 2), gA G 8 o1.2.2.2), ((r_this_prediction 3), gA G 8 o1.2.2.1), ((r_this 9), .inr (6, FX7 r_this_transform)), ((r_this_transform 0), gA G 64 o16.2), ((r_this_transform 1), gA G 8 o16.1), (a_p0, gA G n_p0 t_p0)]) X hK hH 4 rfl hg30 dX4_fitBlock_188 rfl (fun H locs hH => ?_)
              refine lv_iload hx hb dX4_fitBlock_189 (lv_at hl 7 rfl) ?_
              refine lv_iconst (v := (2 : Int32)) hx hb dX4_fitBlock_191 (by decide) ?_
              refine lv_iload hx hb dX4_fitBlock_192 (lv_at hl 0 rfl) ?_
              obtain ⟨k33, hk33, hf⟩ := sjn hf
              have J33 : ∀ (s32 : Int32) (H : Heap) (locs : List Loc) (ls : Array Slot), k33 s32 = some b26 → gH G A s.heap H locs [(h_this, .inr (3, FX4 r_this i_this_step i_this_blockCount)), ((r_this 3), gA G 6 t_this_sizes), ((r_this 4), gA G 24 t_this_modes), ((r_this 5), gA G 24 t_this_costs), ((r_this 6), gA G 384 g30), ((r_this 7), gA G 384 t_this_result), ((r_this 8), .inr (5, FX6 r_this_prediction o1.2.1 o1.1)), ((r_this_prediction 2), gA G 8 o1.2.2.2), ((r_this_prediction 3), gA G 8 o1.2.2.1), ((r_this 9), .inr (6, FX7 r_this_transform)), ((r_this_transform 0), gA G 64 o16.2), ((r_this_transform 1), gA G 8 o16.1), (a_p0, gA G n_p0 t_p0)] → lv_has ls 11 [(0, .ref h_this), (2, .int p1), (3, .int p2), (4, .int p3), (5, .int o2), (6, .int x17), (8, .int x19), (9, .int x24)] → W p l e rm_X4_fitBlock s m args below meth c H locs 0 0 Q (F0 m 205 ls [.int s32, .int (2 : Int32), .int x23]) := by
                intro s32 H locs ls hf hH hl
                have hf := hk33 _ _ hf
                obtain ⟨o34, ho34, hf⟩ := sbind hf
                refine g_cSNi (isC := []) (isR := [0, 1, 2, 3, 4, 5, 6, 7, 8, 9, 10, 11, 12]) (isP := [0, 1, 2, 3, 4, 5, 6, 7, 8, 9, 10, 11, 12]) (wr := [(h_this, .inr (3, FX4 r_this i_this_step i_this_blockCount)), ((r_this 3), gA G 6 t_this_sizes), ((r_this 4), gA G 24 t_this_modes), ((r_this 5), gA G 24 t_this_costs), ((r_this 6), gA G 384 g30), ((r_this 7), gA G 384 t_this_result), ((r_this 8), .inr (5, FX6 r_this_prediction o1.2.1 o1.1)), ((r_this_prediction 2), gA G 8 o1.2.2.2), ((r_this_prediction 3), gA G 8 o1.2.2.1), ((r_this 9), .inr (6, FX7 r_this_transform)), ((r_this_transform 0), gA G 64 o16.2), ((r_this_transform 1), gA G 8 o16.1), (a_p0, gA G n_p0 t_p0)]) (w2 := [(h_this, .inr (3, FX4 r_this i_this_step i_this_blockCount)), ((r_this 3), gA G 6 t_this_sizes), ((r_this 4), gA G 24 t_this_modes), ((r_this 5), gA G 24 t_this_costs), ((r_this 6), gA G 384 g30), ((r_this 7), gA G 384 t_this_result), ((r_this 8), .inr (5, FX6 r_this_prediction o1.2.1 o1.1)), ((r_this_prediction 2), gA G 8 o1.2.2.2), ((r_this_prediction 3), gA G 8 o1.2.2.1), ((r_this 9), .inr (6, FX7 r_this_transform)), ((r_this_transform 0), gA G 64 o16.2), ((r_this_transform 1), gA G 8 o16.1), (a_p0, gA G n_p0 t_p0)]) X hK hA hH hl (ct_X8_digitsOf l G s32 H.size o34 ho34) ⟨q_1, q_615, hd_X8_digitsOf, rfl, rfl, ⟨Nat.le_of_ble_eq_true rfl, Nat.le_of_ble_eq_true rfl⟩, ⟨Nat.zero_le _, Nat.zero_le _⟩⟩ qn_835 q_614 ⟨rfl, rfl, rfl, rfl, by decide, rfl, rfl⟩ rfl rfl (Nat.le_of_ble_eq_true rfl) dX4_fitBlock_205 (fun H locs hH => ?_)
                refine lv_imul hx hb dX4_fitBlock_208 ?_
                refine lv_iadd hx hb dX4_fitBlock_209 ?_
                refine lv_topi (fun x35 ex35 => ?_)
                have hf := sbnd hf x35 ex35
                refine lv_istore (lv' := [(7, .int x35), (0, .ref h_this), (2, .int p1), (3, .int p2), (4, .int p3), (5, .int o2), (6, .int x17), (8, .int x19), (9, .int x24)]) hx hb dX4_fitBlock_210 hl (by decide) rfl (fun ls hl => ?_)
                obtain ⟨x36, ex36⟩ : ∃ y : Int32, y = (x24 + (1 : Int32)) := ⟨_, rfl⟩
                have hf := sbnd hf x36 ex36
                refine lv_iinc (v := x36) (lv' := [(9, .int x36), (7, .int x35), (0, .ref h_this), (2, .int p1), (3, .int p2), (4, .int p3), (5, .int o2), (6, .int x17), (8, .int x19)]) hx hb dX4_fitBlock_212 hl (k := 8) rfl (by rw [ex36]; rfl) (by decide) rfl (fun ls hl => ?_)
                refine lv_goto (tgt := 142) hx hb dX4_fitBlock_215 (by decide) ?_
                exact ih x35 x36 g30 _ _ _ _ (hself26 _ _ hf) hH (lv_sub hl [2, 3, 4, 5, 6, 7, 1, 8, 0] rfl) KK
              refine lv_if_ge (tgt := 203) hx hb dX4_fitBlock_194 (by decide) (fun c31 => ?_) (fun c31 => ?_)
              · have hf := spos hf c31
                refine lv_iload hx hb dX4_fitBlock_203 (lv_at hl 0 rfl) ?_
                exact J33 x29 _ _ _ hf hH (lv_sub hl [1, 2, 3, 4, 5, 6, 8, 9] rfl)
              · have hf := sneg hf c31
                refine lv_iload hx hb dX4_fitBlock_197 (lv_at hl 0 rfl) ?_
                refine lv_ineg hx hb dX4_fitBlock_199 ?_
                refine lv_goto (tgt := 205) hx hb dX4_fitBlock_200 (by decide) ?_
                exact J33 (-x29) _ _ _ hf hH (lv_sub hl [1, 2, 3, 4, 5, 6, 8, 9] rfl)
        refine L26 FUEL x18 (0 : Int32) g20 o26 _ _ _ ho26 hH (lv_sub hl [1, 2, 3, 4, 5, 6, 7, 8, 0] rfl) (fun H locs ls hH hl => ?_)
        obtain ⟨x37, ex37⟩ : ∃ y : Int32, y = (x19 + (1 : Int32)) := ⟨_, rfl⟩
        have hf := sbnd hf x37 ex37
        refine lv_iinc (v := x37) (lv' := [(8, .int x37), (0, .ref h_this), (2, .int p1), (3, .int p2), (4, .int p3), (5, .int o2), (6, .int x17), (7, .int o26.1)]) hx hb dX4_fitBlock_218 hl (k := 7) rfl (by rw [ex37]; rfl) (by decide) rfl (fun ls hl => ?_)
        refine lv_goto (tgt := 132) hx hb dX4_fitBlock_221 (by decide) ?_
        exact ih o26.1 x37 o26.2 _ _ _ _ (hself21 _ _ hf) hH (lv_sub hl [1, 2, 3, 4, 5, 6, 7, 0] rfl) KK
  refine L21 FUEL (4 : Int32) (0 : Int32) t_this_levels o21 _ _ _ ho21 hH (lv_sub hl [3, 4, 5, 6, 7, 2, 1, 0] rfl) (fun H locs ls hH hl => ?_)
  refine lv_aload_n hx hb dX4_fitBlock_224 rfl (lv_at hl 0 rfl) ?_
  refine g_get (T := TX4) (N := 10) (ci := 3) (C := RX4) (v := .ref (r_this 4)) X hK hH in_RX4 0 rfl rfl 4 (by decide) q_123 (fun _ h9 => h9) rfl dX4_fitBlock_225 ?_
  refine lv_aload_n hx hb dX4_fitBlock_228 rfl (lv_at hl 0 rfl) ?_
  refine lv_iload_n hx hb dX4_fitBlock_229 rfl (lv_at hl 1 rfl) ?_
  refine lv_iload_n hx hb dX4_fitBlock_230 rfl (lv_at hl 2 rfl) ?_
  obtain ⟨o38, ho38, hf⟩ := sbind hf
  refine g_cVi (isC := [0, 1]) (isR := [2, 3, 4, 5, 6, 7, 8, 9, 10, 11, 12]) (isP := [11, 12, 0, 1, 2, 3, 4, 5, 6, 7, 8, 9, 10]) (wr := [((r_this 4), gA G 24 t_this_modes), ((r_this 5), gA G 24 t_this_costs), ((r_this 6), gA G 384 o21.2), ((r_this 7), gA G 384 t_this_result), ((r_this 8), .inr (5, FX6 r_this_prediction o1.2.1 o1.1)), ((r_this_prediction 2), gA G 8 o1.2.2.2), ((r_this_prediction 3), gA G 8 o1.2.2.1), ((r_this 9), .inr (6, FX7 r_this_transform)), ((r_this_transform 0), gA G 64 o16.2), ((r_this_transform 1), gA G 8 o16.1), (a_p0, gA G n_p0 t_p0)]) (w2 := [(h_this, .inr (3, FX4 r_this i_this_step i_this_blockCount)), ((r_this 3), gA G 6 t_this_sizes), ((r_this 4), gA G 24 t_this_modes), ((r_this 5), gA G 24 t_this_costs), ((r_this 6), gA G 384 o21.2), ((r_this 7), gA G 384 t_this_result), ((r_this 8), .inr (5, FX6 r_this_prediction o1.2.1 o1.1)), ((r_this_prediction 2), gA G 8 o1.2.2.2), ((r_this_prediction 3), gA G 8 o1.2.2.1), ((r_this 9), .inr (6, FX7 r_this_transform)), ((r_this_transform 0), gA G 64 o16.2), ((r_this_transform 1), gA G 8 o16.1), (a_p0, gA G n_p0 t_p0)]) (q0 := 0) X hK hA hH hl (ct_X4_firstCell l G h_this r_this i_this_step i_this_blockCount t_this_sizes p1 p2 H.size o38 ho38) ⟨q_4, q_605, hd_X4_firstCell, rfl, rfl, ⟨Nat.le_of_ble_eq_true rfl, Nat.le_of_ble_eq_true rfl⟩, ⟨Nat.zero_le _, Nat.zero_le _⟩⟩ q_624 q_603 q_604 rfl rfl ⟨rfl, rfl, rfl, rfl, by decide, rfl, rfl⟩ rfl rfl (Nat.le_of_ble_eq_true rfl) dX4_fitBlock_231 (fun H locs hH => ?_)
  refine lv_iload hx hb dX4_fitBlock_234 (lv_at hl 3 rfl) ?_
  obtain ⟨g39, hg39, hf⟩ := sbind hf
  refine g_ast (w1 := [(h_this, .inr (3, FX4 r_this i_this_step i_this_blockCount)), ((r_this 3), gA G 6 t_this_sizes), ((r_this 4), gA G 24 g39), ((r_this 5), gA G 24 t_this_costs), ((r_this 6), gA G 384 o21.2), ((r_this 7), gA G 384 t_this_result), ((r_this 8), .inr (5, FX6 r_this_prediction o1.2.1 o1.1)), ((r_this_prediction 2), gA G 8 o1.2.2.2), ((r_this_prediction 3), gA G 8 o1.2.2.1), ((r_this 9), .inr (6, FX7 r_this_transform)), ((r_this_transform 0), gA G 64 o16.2), ((r_this_transform 1), gA G 8 o16.1), (a_p0, gA G n_p0 t_p0)]) X hK hH 2 rfl hg39 dX4_fitBlock_236 rfl (fun H locs hH => ?_)
  refine lv_aload_n hx hb dX4_fitBlock_237 rfl (lv_at hl 0 rfl) ?_
  refine g_get (T := TX4) (N := 10) (ci := 3) (C := RX4) (v := .ref (r_this 5)) X hK hH in_RX4 0 rfl rfl 5 (by decide) q_125 (fun _ h9 => h9) rfl dX4_fitBlock_238 ?_
  refine lv_aload_n hx hb dX4_fitBlock_241 rfl (lv_at hl 0 rfl) ?_
  refine lv_iload_n hx hb dX4_fitBlock_242 rfl (lv_at hl 1 rfl) ?_
  refine lv_iload_n hx hb dX4_fitBlock_243 rfl (lv_at hl 2 rfl) ?_
  obtain ⟨o40, ho40, hf⟩ := sbind hf
  refine g_cVi (isC := [0, 1]) (isR := [2, 3, 4, 5, 6, 7, 8, 9, 10, 11, 12]) (isP := [11, 12, 0, 1, 2, 3, 4, 5, 6, 7, 8, 9, 10]) (wr := [((r_this 4), gA G 24 g39), ((r_this 5), gA G 24 t_this_costs), ((r_this 6), gA G 384 o21.2), ((r_this 7), gA G 384 t_this_result), ((r_this 8), .inr (5, FX6 r_this_prediction o1.2.1 o1.1)), ((r_this_prediction 2), gA G 8 o1.2.2.2), ((r_this_prediction 3), gA G 8 o1.2.2.1), ((r_this 9), .inr (6, FX7 r_this_transform)), ((r_this_transform 0), gA G 64 o16.2), ((r_this_transform 1), gA G 8 o16.1), (a_p0, gA G n_p0 t_p0)]) (w2 := [(h_this, .inr (3, FX4 r_this i_this_step i_this_blockCount)), ((r_this 3), gA G 6 t_this_sizes), ((r_this 4), gA G 24 g39), ((r_this 5), gA G 24 t_this_costs), ((r_this 6), gA G 384 o21.2), ((r_this 7), gA G 384 t_this_result), ((r_this 8), .inr (5, FX6 r_this_prediction o1.2.1 o1.1)), ((r_this_prediction 2), gA G 8 o1.2.2.2), ((r_this_prediction 3), gA G 8 o1.2.2.1), ((r_this 9), .inr (6, FX7 r_this_transform)), ((r_this_transform 0), gA G 64 o16.2), ((r_this_transform 1), gA G 8 o16.1), (a_p0, gA G n_p0 t_p0)]) (q0 := 0) X hK hA hH hl (ct_X4_firstCell l G h_this r_this i_this_step i_this_blockCount t_this_sizes p1 p2 H.size o40 ho40) ⟨q_4, q_605, hd_X4_firstCell, rfl, rfl, ⟨Nat.le_of_ble_eq_true rfl, Nat.le_of_ble_eq_true rfl⟩, ⟨Nat.zero_le _, Nat.zero_le _⟩⟩ q_624 q_603 q_604 rfl rfl ⟨rfl, rfl, rfl, rfl, by decide, rfl, rfl⟩ rfl rfl (Nat.le_of_ble_eq_true rfl) dX4_fitBlock_244 (fun H locs hH => ?_)
  refine lv_iload hx hb dX4_fitBlock_247 (lv_at hl 4 rfl) ?_
  obtain ⟨g41, hg41, hf⟩ := sbind hf
  refine g_ast (w1 := [(h_this, .inr (3, FX4 r_this i_this_step i_this_blockCount)), ((r_this 3), gA G 6 t_this_sizes), ((r_this 4), gA G 24 g39), ((r_this 5), gA G 24 g41), ((r_this 6), gA G 384 o21.2), ((r_this 7), gA G 384 t_this_result), ((r_this 8), .inr (5, FX6 r_this_prediction o1.2.1 o1.1)), ((r_this_prediction 2), gA G 8 o1.2.2.2), ((r_this_prediction 3), gA G 8 o1.2.2.1), ((r_this 9), .inr (6, FX7 r_this_transform)), ((r_this_transform 0), gA G 64 o16.2), ((r_this_transform 1), gA G 8 o16.1), (a_p0, gA G n_p0 t_p0)]) X hK hH 3 rfl hg41 dX4_fitBlock_249 rfl (fun H locs hH => ?_)
  refine lv_iload hx hb dX4_fitBlock_250 (lv_at hl 4 rfl) ?_
  obtain rfl := Option.some.inj hf
  exact hE _ _ _ _ rfl hH dX4_fitBlock_252

def lf_X7_joinLine (t_this_line : Nat → Int32) (t_this_places : Nat → Int32) (p0 : Int32) (p1 : Int32) (p2 : Int32) : Option ((Nat → Int32) × (Nat → Int32)) :=
bnd (p2 / (2 : Int32)) fun x1 => (fixN FUEL (fun (self4 : (Int32 × (Nat → Int32)) → Option ((Nat → Int32))) (z4 : Int32 × (Nat → Int32)) => (fun (x2 : Int32) (g3 : (Nat → Int32)) => (if x1 ≤ x2 then some g3 else (rdA 64 t_this_places (p0 + (x2 * p1))).bind fun x6 => (rdA 64 t_this_places (p0 + ((x1 + x2) * p1))).bind fun x7 => bnd (x6 + ((x7 + (1 : Int32)) >>> ((1 : Int32) &&& 31))) fun x8 => (wrA 8 g3 ((2 : Int32) * x2) x8).bind fun g9 => (wrA 8 g9 (((2 : Int32) * x2) + (1 : Int32)) (x8 - x7)).bind fun g10 => bnd (x2 + (1 : Int32)) fun x11 => self4 (x11, g10))) z4.1 z4.2) ((0 : Int32), t_this_line)).bind fun o4 => (fixN FUEL (fun (self14 : (Int32 × (Nat → Int32)) → Option ((Nat → Int32))) (z14 : Int32 × (Nat → Int32)) => (fun (x12 : Int32) (g13 : (Nat → Int32)) => (if p2 ≤ x12 then some g13 else (rdA 8 o4 x12).bind fun x16 => (wrA 64 g13 (p0 + (x12 * p1)) x16).bind fun g17 => bnd (x12 + (1 : Int32)) fun x18 => self14 (x18, g17))) z14.1 z14.2) ((0 : Int32), t_this_places)).bind fun o14 => some (o4, o14)
abbrev rm_X7_joinLine : Room := { frames := 0, cells := 0, slots := 0, locals := 0 }
theorem hd_X7_joinLine : yX7_joinLine.cls ≠ "java/lang/invoke/MethodHandle" ∧ yX7_joinLine.cls ≠ "java/lang/invoke/VarHandle" ∧ (parseMethodDescriptor yX7_joinLine.desc).map (fun d => d.parameters.length) = some 3 := by decide +kernel
set_option maxHeartbeats 4000000 in
set_option maxRecDepth 100000 in
theorem ct_X7_joinLine (l : Launch) (G : gG) (h_this : Nat) (r_this : Nat → Nat) (t_this_line t_this_places : Nat → Int32) (p0 p1 p2 : Int32) (sz : Nat) (out : (Nat → Int32) × (Nat → Int32)) (hf : lf_X7_joinLine t_this_line t_this_places p0 p1 p2 = some out) : gV l G yX7_joinLine cX7_joinLine 9 rm_X7_joinLine [.ref h_this, .int p0, .int p1, .int p2] sz [(h_this, .inr (6, FX7 r_this)), ((r_this 0), gA G 64 t_this_places), ((r_this 1), gA G 8 t_this_line)] [(h_this, .inr (6, FX7 r_this)), ((r_this 0), gA G 64 out.2), ((r_this 1), gA G 8 out.1)] := by
  refine gV_of (by decide +kernel) (Nat.le_of_ble_eq_true rfl) ?_
  intro p e s m args below meth c ls A Q X hK hA hsz hH hl hE
  subst hsz
  have hx := X.1
  have hb := X.2.1
  unfold lf_X7_joinLine at hf
  have hl : lv_has ls 9 [(0, .ref h_this), (1, .int p0), (2, .int p1), (3, .int p2)] := hl
  have hH : gH G A s.heap s.heap [] [(h_this, .inr (6, FX7 r_this)), ((r_this 0), gA G 64 t_this_places), ((r_this 1), gA G 8 t_this_line)] := hH
  refine lv_iload_n hx hb dX7_joinLine_0 rfl (lv_at hl 3 rfl) ?_
  refine lv_iconst (v := (2 : Int32)) hx hb dX7_joinLine_1 (by decide) ?_
  refine lv_idiv hx hb dX7_joinLine_2 (by decide) ?_
  refine lv_topi (fun x1 ex1 => ?_)
  have hf := sbnd hf x1 ex1
  refine lv_istore (lv' := [(4, .int x1), (0, .ref h_this), (1, .int p0), (2, .int p1), (3, .int p2)]) hx hb dX7_joinLine_3 hl (by decide) rfl (fun ls hl => ?_)
  refine lv_iconst (v := (0 : Int32)) hx hb dX7_joinLine_5 (by decide) ?_
  refine lv_istore (lv' := [(5, .int (0 : Int32)), (4, .int x1), (0, .ref h_this), (1, .int p0), (2, .int p1), (3, .int p2)]) hx hb dX7_joinLine_6 hl (by decide) rfl (fun ls hl => ?_)
  obtain ⟨o4, ho4, hf⟩ := sbind hf
  obtain ⟨FF4, hFF4, ho4⟩ := sfix ho4
  have L4 : ∀ (n : Nat) (x2 : Int32) (g3 : (Nat → Int32)) (b4 : (Nat → Int32)) (H : Heap) (locs : List Loc) (ls : Array Slot), fixN n FF4 (x2, g3) = some b4 → gH G A s.heap H locs [(h_this, .inr (6, FX7 r_this)), ((r_this 0), gA G 64 t_this_places), ((r_this 1), gA G 8 g3)] → lv_has ls 9 [(0, .ref h_this), (1, .int p0), (2, .int p1), (3, .int p2), (4, .int x1), (5, .int x2)] → (∀ (H : Heap) (locs : List Loc) (ls : Array Slot), gH G A s.heap H locs [(h_this, .inr (6, FX7 r_this)), ((r_this 0), gA G 64 t_this_places), ((r_this 1), gA G 8 b4)] → lv_has ls 9 [(0, .ref h_this), (1, .int p0), (2, .int p1), (3, .int p2)] → W p l e rm_X7_joinLine s m args below meth c H locs 0 0 Q (F0 m 88 ls [])) → W p l e rm_X7_joinLine s m args below meth c H locs 0 0 Q (F0 m 8 ls []) := by
    intro n
    induction n with
    | zero => intro x2 g3 b4 H locs ls hf; exact sfix0 hf
    | succ n ih =>
      intro x2 g3 b4 H locs ls hf hH hl KK
      obtain ⟨self4, hself4, hf⟩ := sstep hFF4 hf
      refine lv_iload hx hb dX7_joinLine_8 (lv_at hl 5 rfl) ?_
      refine lv_iload hx hb dX7_joinLine_10 (lv_at hl 4 rfl) ?_
      refine lv_icmp_ge (tgt := 88) hx hb dX7_joinLine_12 (by decide) (fun c5 => ?_) (fun c5 => ?_)
      · have hf := spos hf c5
        obtain rfl := Option.some.inj hf
        exact KK _ _ _ hH (lv_sub hl [0, 1, 2, 3] rfl)
      · have hf := sneg hf c5
        refine lv_aload_n hx hb dX7_joinLine_15 rfl (lv_at hl 0 rfl) ?_
        refine g_get (T := TX7) (N := 2) (ci := 6) (C := RX7) (v := .ref (r_this 0)) X hK hH in_RX7 0 rfl rfl 0 (by decide) q_108 (fun _ h9 => h9) rfl dX7_joinLine_16 ?_
        refine lv_iload_n hx hb dX7_joinLine_19 rfl (lv_at hl 1 rfl) ?_
        refine lv_iload hx hb dX7_joinLine_20 (lv_at hl 5 rfl) ?_
        refine lv_iload_n hx hb dX7_joinLine_22 rfl (lv_at hl 2 rfl) ?_
        refine lv_imul hx hb dX7_joinLine_23 ?_
        refine lv_iadd hx hb dX7_joinLine_24 ?_
        obtain ⟨x6, hx6, hf⟩ := sbind hf
        refine g_ald X hK hH 1 rfl hx6 dX7_joinLine_25 ?_
        refine lv_istore (lv' := [(6, .int x6), (0, .ref h_this), (1, .int p0), (2, .int p1), (3, .int p2), (4, .int x1), (5, .int x2)]) hx hb dX7_joinLine_26 hl (by decide) rfl (fun ls hl => ?_)
        refine lv_aload_n hx hb dX7_joinLine_28 rfl (lv_at hl 1 rfl) ?_
        refine g_get (T := TX7) (N := 2) (ci := 6) (C := RX7) (v := .ref (r_this 0)) X hK hH in_RX7 0 rfl rfl 0 (by decide) q_108 (fun _ h9 => h9) rfl dX7_joinLine_29 ?_
        refine lv_iload_n hx hb dX7_joinLine_32 rfl (lv_at hl 2 rfl) ?_
        refine lv_iload hx hb dX7_joinLine_33 (lv_at hl 5 rfl) ?_
        refine lv_iload hx hb dX7_joinLine_35 (lv_at hl 6 rfl) ?_
        refine lv_iadd hx hb dX7_joinLine_37 ?_
        refine lv_iload_n hx hb dX7_joinLine_38 rfl (lv_at hl 3 rfl) ?_
        refine lv_imul hx hb dX7_joinLine_39 ?_
        refine lv_iadd hx hb dX7_joinLine_40 ?_
        obtain ⟨x7, hx7, hf⟩ := sbind hf
        refine g_ald X hK hH 1 rfl hx7 dX7_joinLine_41 ?_
        refine lv_istore (lv' := [(7, .int x7), (6, .int x6), (0, .ref h_this), (1, .int p0), (2, .int p1), (3, .int p2), (4, .int x1), (5, .int x2)]) hx hb dX7_joinLine_42 hl (by decide) rfl (fun ls hl => ?_)
        refine lv_iload hx hb dX7_joinLine_44 (lv_at hl 1 rfl) ?_
        refine lv_iload hx hb dX7_joinLine_46 (lv_at hl 0 rfl) ?_
        refine lv_iconst (v := (1 : Int32)) hx hb dX7_joinLine_48 (by decide) ?_
        refine lv_iadd hx hb dX7_joinLine_49 ?_
        refine lv_iconst (v := (1 : Int32)) hx hb dX7_joinLine_50 (by decide) ?_
        refine lv_ishr hx hb dX7_joinLine_51 ?_
        refine lv_iadd hx hb dX7_joinLine_52 ?_
        refine lv_topi (fun x8 ex8 => ?_)
        have hf := sbnd hf x8 ex8
        refine lv_istore (lv' := [(8, .int x8), (7, .int x7), (6, .int x6), (0, .ref h_this), (1, .int p0), (2, .int p1), (3, .int p2), (4, .int x1), (5, .int x2)]) hx hb dX7_joinLine_53 hl (by decide) rfl (fun ls hl => ?_)
        refine lv_aload_n hx hb dX7_joinLine_55 rfl (lv_at hl 3 rfl) ?_
        refine g_get (T := TX7) (N := 2) (ci := 6) (C := RX7) (v := .ref (r_this 1)) X hK hH in_RX7 0 rfl rfl 1 (by decide) q_110 (fun _ h9 => h9) rfl dX7_joinLine_56 ?_
        refine lv_iconst (v := (2 : Int32)) hx hb dX7_joinLine_59 (by decide) ?_
        refine lv_iload hx hb dX7_joinLine_60 (lv_at hl 8 rfl) ?_
        refine lv_imul hx hb dX7_joinLine_62 ?_
        refine lv_iload hx hb dX7_joinLine_63 (lv_at hl 0 rfl) ?_
        obtain ⟨g9, hg9, hf⟩ := sbind hf
        refine g_ast (w1 := [(h_this, .inr (6, FX7 r_this)), ((r_this 0), gA G 64 t_this_places), ((r_this 1), gA G 8 g9)]) X hK hH 2 rfl hg9 dX7_joinLine_65 rfl (fun H locs hH => ?_)
        refine lv_aload_n hx hb dX7_joinLine_66 rfl (lv_at hl 3 rfl) ?_
        refine g_get (T := TX7) (N := 2) (ci := 6) (C := RX7) (v := .ref (r_this 1)) X hK hH in_RX7 0 rfl rfl 1 (by decide) q_110 (fun _ h9 => h9) rfl dX7_joinLine_67 ?_
        refine lv_iconst (v := (2 : Int32)) hx hb dX7_joinLine_70 (by decide) ?_
        refine lv_iload hx hb dX7_joinLine_71 (lv_at hl 8 rfl) ?_
        refine lv_imul hx hb dX7_joinLine_73 ?_
        refine lv_iconst (v := (1 : Int32)) hx hb dX7_joinLine_74 (by decide) ?_
        refine lv_iadd hx hb dX7_joinLine_75 ?_
        refine lv_iload hx hb dX7_joinLine_76 (lv_at hl 0 rfl) ?_
        refine lv_iload hx hb dX7_joinLine_78 (lv_at hl 1 rfl) ?_
        refine lv_isub hx hb dX7_joinLine_80 ?_
        obtain ⟨g10, hg10, hf⟩ := sbind hf
        refine g_ast (w1 := [(h_this, .inr (6, FX7 r_this)), ((r_this 0), gA G 64 t_this_places), ((r_this 1), gA G 8 g10)]) X hK hH 2 rfl hg10 dX7_joinLine_81 rfl (fun H locs hH => ?_)
        obtain ⟨x11, ex11⟩ : ∃ y : Int32, y = (x2 + (1 : Int32)) := ⟨_, rfl⟩
        have hf := sbnd hf x11 ex11
        refine lv_iinc (v := x11) (lv' := [(5, .int x11), (8, .int x8), (7, .int x7), (6, .int x6), (0, .ref h_this), (1, .int p0), (2, .int p1), (3, .int p2), (4, .int x1)]) hx hb dX7_joinLine_82 hl (k := 8) rfl (by rw [ex11]; rfl) (by decide) rfl (fun ls hl => ?_)
        refine lv_goto (tgt := 8) hx hb dX7_joinLine_85 (by decide) ?_
        exact ih x11 g10 _ _ _ _ (hself4 _ _ hf) hH (lv_sub hl [4, 5, 6, 7, 8, 0] rfl) KK
  refine L4 FUEL (0 : Int32) t_this_line o4 _ _ _ ho4 hH (lv_sub hl [2, 3, 4, 5, 1, 0] rfl) (fun H locs ls hH hl => ?_)
  refine lv_iconst (v := (0 : Int32)) hx hb dX7_joinLine_88 (by decide) ?_
  refine lv_istore (lv' := [(5, .int (0 : Int32)), (0, .ref h_this), (1, .int p0), (2, .int p1), (3, .int p2)]) hx hb dX7_joinLine_89 hl (by decide) rfl (fun ls hl => ?_)
  obtain ⟨o14, ho14, hf⟩ := sbind hf
  obtain ⟨FF14, hFF14, ho14⟩ := sfix ho14
  have L14 : ∀ (n : Nat) (x12 : Int32) (g13 : (Nat → Int32)) (b14 : (Nat → Int32)) (H : Heap) (locs : List Loc) (ls : Array Slot), fixN n FF14 (x12, g13) = some b14 → gH G A s.heap H locs [(h_this, .inr (6, FX7 r_this)), ((r_this 0), gA G 64 g13), ((r_this 1), gA G 8 o4)] → lv_has ls 9 [(0, .ref h_this), (1, .int p0), (2, .int p1), (3, .int p2), (5, .int x12)] → (∀ (H : Heap) (locs : List Loc) (ls : Array Slot), gH G A s.heap H locs [(h_this, .inr (6, FX7 r_this)), ((r_this 0), gA G 64 b14), ((r_this 1), gA G 8 o4)] → lv_has ls 9 [] → W p l e rm_X7_joinLine s m args below meth c H locs 0 0 Q (F0 m 121 ls [])) → W p l e rm_X7_joinLine s m args below meth c H locs 0 0 Q (F0 m 91 ls []) := by
    intro n
    induction n with
    | zero => intro x12 g13 b14 H locs ls hf; exact sfix0 hf
    | succ n ih =>
      intro x12 g13 b14 H locs ls hf hH hl KK
      obtain ⟨self14, hself14, hf⟩ := sstep hFF14 hf
      refine lv_iload hx hb dX7_joinLine_91 (lv_at hl 4 rfl) ?_
      refine lv_iload_n hx hb dX7_joinLine_93 rfl (lv_at hl 3 rfl) ?_
      refine lv_icmp_ge (tgt := 121) hx hb dX7_joinLine_94 (by decide) (fun c15 => ?_) (fun c15 => ?_)
      · have hf := spos hf c15
        obtain rfl := Option.some.inj hf
        exact KK _ _ _ hH (lv_sub hl [] rfl)
      · have hf := sneg hf c15
        refine lv_aload_n hx hb dX7_joinLine_97 rfl (lv_at hl 0 rfl) ?_
        refine g_get (T := TX7) (N := 2) (ci := 6) (C := RX7) (v := .ref (r_this 0)) X hK hH in_RX7 0 rfl rfl 0 (by decide) q_108 (fun _ h9 => h9) rfl dX7_joinLine_98 ?_
        refine lv_iload_n hx hb dX7_joinLine_101 rfl (lv_at hl 1 rfl) ?_
        refine lv_iload hx hb dX7_joinLine_102 (lv_at hl 4 rfl) ?_
        refine lv_iload_n hx hb dX7_joinLine_104 rfl (lv_at hl 2 rfl) ?_
        refine lv_imul hx hb dX7_joinLine_105 ?_
        refine lv_iadd hx hb dX7_joinLine_106 ?_
        refine lv_aload_n hx hb dX7_joinLine_107 rfl (lv_at hl 0 rfl) ?_
        refine g_get (T := TX7) (N := 2) (ci := 6) (C := RX7) (v := .ref (r_this 1)) X hK hH in_RX7 0 rfl rfl 1 (by decide) q_110 (fun _ h9 => h9) rfl dX7_joinLine_108 ?_
        refine lv_iload hx hb dX7_joinLine_111 (lv_at hl 4 rfl) ?_
        obtain ⟨x16, hx16, hf⟩ := sbind hf
        refine g_ald X hK hH 2 rfl hx16 dX7_joinLine_113 ?_
        obtain ⟨g17, hg17, hf⟩ := sbind hf
        refine g_ast (w1 := [(h_this, .inr (6, FX7 r_this)), ((r_this 0), gA G 64 g17), ((r_this 1), gA G 8 o4)]) X hK hH 1 rfl hg17 dX7_joinLine_114 rfl (fun H locs hH => ?_)
        obtain ⟨x18, ex18⟩ : ∃ y : Int32, y = (x12 + (1 : Int32)) := ⟨_, rfl⟩
        have hf := sbnd hf x18 ex18
        refine lv_iinc (v := x18) (lv' := [(5, .int x18), (0, .ref h_this), (1, .int p0), (2, .int p1), (3, .int p2)]) hx hb dX7_joinLine_115 hl (k := 4) rfl (by rw [ex18]; rfl) (by decide) rfl (fun ls hl => ?_)
        refine lv_goto (tgt := 91) hx hb dX7_joinLine_118 (by decide) ?_
        exact ih x18 g17 _ _ _ _ (hself14 _ _ hf) hH (lv_sub hl [1, 2, 3, 4, 0] rfl) KK
  refine L14 FUEL (0 : Int32) t_this_places o14 _ _ _ ho14 hH (lv_sub hl [1, 2, 3, 4, 0] rfl) (fun H locs ls hH hl => ?_)
  obtain rfl := Option.some.inj hf
  exact hE _ _ _ _ hH dX7_joinLine_121

def lf_X7_join (t_this_line : Nat → Int32) (t_this_places : Nat → Int32) (p0 : Int32) : Option ((Nat → Int32) × (Nat → Int32)) :=
(fixN FUEL (fun (self4 : (Int32 × (Nat → Int32) × (Nat → Int32)) → Option ((Nat → Int32) × (Nat → Int32))) (z4 : Int32 × (Nat → Int32) × (Nat → Int32)) => (fun (x1 : Int32) (g2 : (Nat → Int32)) (g3 : (Nat → Int32)) => (if p0 < x1 then some (g2, g3) else (fixN FUEL (fun (self9 : (Int32 × (Nat → Int32) × (Nat → Int32)) → Option ((Nat → Int32) × (Nat → Int32))) (z9 : Int32 × (Nat → Int32) × (Nat → Int32)) => (fun (x6 : Int32) (g7 : (Nat → Int32)) (g8 : (Nat → Int32)) => (if x1 ≤ x6 then some (g7, g8) else (lf_X7_joinLine g7 g8 x6 (8 : Int32) x1).bind fun o11 => bnd (x6 + (1 : Int32)) fun x12 => self9 (x12, o11.1, o11.2))) z9.1 z9.2.1 z9.2.2) ((0 : Int32), g2, g3)).bind fun o9 => (fixN FUEL (fun (self16 : (Int32 × (Nat → Int32) × (Nat → Int32)) → Option ((Nat → Int32) × (Nat → Int32))) (z16 : Int32 × (Nat → Int32) × (Nat → Int32)) => (fun (x13 : Int32) (g14 : (Nat → Int32)) (g15 : (Nat → Int32)) => (if x1 ≤ x13 then some (g14, g15) else (lf_X7_joinLine g14 g15 (x13 * (8 : Int32)) (1 : Int32) x1).bind fun o18 => bnd (x13 + (1 : Int32)) fun x19 => self16 (x19, o18.1, o18.2))) z16.1 z16.2.1 z16.2.2) ((0 : Int32), o9.1, o9.2)).bind fun o16 => bnd (x1 * (2 : Int32)) fun x20 => self4 (x20, o16.1, o16.2))) z4.1 z4.2.1 z4.2.2) ((2 : Int32), t_this_line, t_this_places)).bind fun o4 => some (o4.1, o4.2)
abbrev rm_X7_join : Room := { frames := 1, cells := 0, slots := 0, locals := 28 }
theorem hd_X7_join : yX7_join.cls ≠ "java/lang/invoke/MethodHandle" ∧ yX7_join.cls ≠ "java/lang/invoke/VarHandle" ∧ (parseMethodDescriptor yX7_join.desc).map (fun d => d.parameters.length) = some 1 := by decide +kernel
set_option maxHeartbeats 4000000 in
set_option maxRecDepth 100000 in
theorem ct_X7_join (l : Launch) (G : gG) (h_this : Nat) (r_this : Nat → Nat) (t_this_line t_this_places : Nat → Int32) (p0 : Int32) (sz : Nat) (out : (Nat → Int32) × (Nat → Int32)) (hf : lf_X7_join t_this_line t_this_places p0 = some out) : gV l G yX7_join cX7_join 4 rm_X7_join [.ref h_this, .int p0] sz [(h_this, .inr (6, FX7 r_this)), ((r_this 0), gA G 64 t_this_places), ((r_this 1), gA G 8 t_this_line)] [(h_this, .inr (6, FX7 r_this)), ((r_this 0), gA G 64 out.2), ((r_this 1), gA G 8 out.1)] := by
  refine gV_of (by decide +kernel) (Nat.le_of_ble_eq_true rfl) ?_
  intro p e s m args below meth c ls A Q X hK hA hsz hH hl hE
  subst hsz
  have hx := X.1
  have hb := X.2.1
  unfold lf_X7_join at hf
  have hl : lv_has ls 4 [(0, .ref h_this), (1, .int p0)] := hl
  have hH : gH G A s.heap s.heap [] [(h_this, .inr (6, FX7 r_this)), ((r_this 0), gA G 64 t_this_places), ((r_this 1), gA G 8 t_this_line)] := hH
  refine lv_iconst (v := (2 : Int32)) hx hb dX7_join_0 (by decide) ?_
  refine lv_istore_n (lv' := [(2, .int (2 : Int32)), (0, .ref h_this), (1, .int p0)]) hx hb dX7_join_1 rfl hl (by decide) rfl (fun ls hl => ?_)
  obtain ⟨o4, ho4, hf⟩ := sbind hf
  obtain ⟨FF4, hFF4, ho4⟩ := sfix ho4
  have L4 : ∀ (n : Nat) (x1 : Int32) (g2 : (Nat → Int32)) (g3 : (Nat → Int32)) (b4 : (Nat → Int32) × (Nat → Int32)) (H : Heap) (locs : List Loc) (ls : Array Slot), fixN n FF4 (x1, g2, g3) = some b4 → gH G A s.heap H locs [(h_this, .inr (6, FX7 r_this)), ((r_this 0), gA G 64 g3), ((r_this 1), gA G 8 g2)] → lv_has ls 4 [(0, .ref h_this), (1, .int p0), (2, .int x1)] → (∀ (H : Heap) (locs : List Loc) (ls : Array Slot), gH G A s.heap H locs [(h_this, .inr (6, FX7 r_this)), ((r_this 0), gA G 64 b4.2), ((r_this 1), gA G 8 b4.1)] → lv_has ls 4 [] → W p l e rm_X7_join s m args below meth c H locs 0 0 Q (F0 m 58 ls [])) → W p l e rm_X7_join s m args below meth c H locs 0 0 Q (F0 m 2 ls []) := by
    intro n
    induction n with
    | zero => intro x1 g2 g3 b4 H locs ls hf; exact sfix0 hf
    | succ n ih =>
      intro x1 g2 g3 b4 H locs ls hf hH hl KK
      obtain ⟨self4, hself4, hf⟩ := sstep hFF4 hf
      refine lv_iload_n hx hb dX7_join_2 rfl (lv_at hl 2 rfl) ?_
      refine lv_iload_n hx hb dX7_join_3 rfl (lv_at hl 1 rfl) ?_
      refine lv_icmp_gt (tgt := 58) hx hb dX7_join_4 (by decide) (fun c5 => ?_) (fun c5 => ?_)
      · have hf := spos hf c5
        obtain rfl := Option.some.inj hf
        exact KK _ _ _ hH (lv_sub hl [] rfl)
      · have hf := sneg hf c5
        refine lv_iconst (v := (0 : Int32)) hx hb dX7_join_7 (by decide) ?_
        refine lv_istore_n (lv' := [(3, .int (0 : Int32)), (0, .ref h_this), (1, .int p0), (2, .int x1)]) hx hb dX7_join_8 rfl hl (by decide) rfl (fun ls hl => ?_)
        obtain ⟨o9, ho9, hf⟩ := sbind hf
        obtain ⟨FF9, hFF9, ho9⟩ := sfix ho9
        have L9 : ∀ (n : Nat) (x6 : Int32) (g7 : (Nat → Int32)) (g8 : (Nat → Int32)) (b9 : (Nat → Int32) × (Nat → Int32)) (H : Heap) (locs : List Loc) (ls : Array Slot), fixN n FF9 (x6, g7, g8) = some b9 → gH G A s.heap H locs [(h_this, .inr (6, FX7 r_this)), ((r_this 0), gA G 64 g8), ((r_this 1), gA G 8 g7)] → lv_has ls 4 [(0, .ref h_this), (1, .int p0), (2, .int x1), (3, .int x6)] → (∀ (H : Heap) (locs : List Loc) (ls : Array Slot), gH G A s.heap H locs [(h_this, .inr (6, FX7 r_this)), ((r_this 0), gA G 64 b9.2), ((r_this 1), gA G 8 b9.1)] → lv_has ls 4 [(0, .ref h_this), (1, .int p0), (2, .int x1)] → W p l e rm_X7_join s m args below meth c H locs 0 0 Q (F0 m 28 ls [])) → W p l e rm_X7_join s m args below meth c H locs 0 0 Q (F0 m 9 ls []) := by
          intro n
          induction n with
          | zero => intro x6 g7 g8 b9 H locs ls hf; exact sfix0 hf
          | succ n ih =>
            intro x6 g7 g8 b9 H locs ls hf hH hl KK
            obtain ⟨self9, hself9, hf⟩ := sstep hFF9 hf
            refine lv_iload_n hx hb dX7_join_9 rfl (lv_at hl 3 rfl) ?_
            refine lv_iload_n hx hb dX7_join_10 rfl (lv_at hl 2 rfl) ?_
            refine lv_icmp_ge (tgt := 28) hx hb dX7_join_11 (by decide) (fun c10 => ?_) (fun c10 => ?_)
            · have hf := spos hf c10
              obtain rfl := Option.some.inj hf
              exact KK _ _ _ hH (lv_sub hl [0, 1, 2] rfl)
            · have hf := sneg hf c10
              refine lv_aload_n hx hb dX7_join_14 rfl (lv_at hl 0 rfl) ?_
              refine lv_iload_n hx hb dX7_join_15 rfl (lv_at hl 3 rfl) ?_
              refine lv_bipush (v := (8 : Int32)) hx hb dX7_join_16 (by decide) ?_
              refine lv_iload_n hx hb dX7_join_18 rfl (lv_at hl 2 rfl) ?_
              obtain ⟨o11, ho11, hf⟩ := sbind hf
              refine g_cVv (isC := [0, 1, 2]) (isR := []) (isP := [0, 1, 2]) (wr := []) (w2 := [(h_this, .inr (6, FX7 r_this)), ((r_this 0), gA G 64 o11.2), ((r_this 1), gA G 8 o11.1)]) (q0 := 0) X hK hA hH hl (ct_X7_joinLine l G h_this r_this g7 g8 x6 (8 : Int32) x1 H.size o11 ho11) ⟨q_6, q_639, hd_X7_joinLine, rfl, rfl, ⟨Nat.le_of_ble_eq_true rfl, Nat.le_of_ble_eq_true rfl⟩, ⟨Nat.zero_le _, Nat.zero_le _⟩⟩ q_636 q_638 qs_11 rfl rfl ⟨rfl, rfl, rfl, rfl, by decide, rfl, rfl⟩ rfl rfl (Nat.le_of_ble_eq_true rfl) dX7_join_19 (fun H locs hH => ?_)
              obtain ⟨x12, ex12⟩ : ∃ y : Int32, y = (x6 + (1 : Int32)) := ⟨_, rfl⟩
              have hf := sbnd hf x12 ex12
              refine lv_iinc (v := x12) (lv' := [(3, .int x12), (0, .ref h_this), (1, .int p0), (2, .int x1)]) hx hb dX7_join_22 hl (k := 3) rfl (by rw [ex12]; rfl) (by decide) rfl (fun ls hl => ?_)
              refine lv_goto (tgt := 9) hx hb dX7_join_25 (by decide) ?_
              exact ih x12 o11.1 o11.2 _ _ _ _ (hself9 _ _ hf) hH (lv_sub hl [1, 2, 3, 0] rfl) KK
        refine L9 FUEL (0 : Int32) g2 g3 o9 _ _ _ ho9 hH (lv_sub hl [1, 2, 3, 0] rfl) (fun H locs ls hH hl => ?_)
        refine lv_iconst (v := (0 : Int32)) hx hb dX7_join_28 (by decide) ?_
        refine lv_istore_n (lv' := [(3, .int (0 : Int32)), (0, .ref h_this), (1, .int p0), (2, .int x1)]) hx hb dX7_join_29 rfl hl (by decide) rfl (fun ls hl => ?_)
        obtain ⟨o16, ho16, hf⟩ := sbind hf
        obtain ⟨FF16, hFF16, ho16⟩ := sfix ho16
        have L16 : ∀ (n : Nat) (x13 : Int32) (g14 : (Nat → Int32)) (g15 : (Nat → Int32)) (b16 : (Nat → Int32) × (Nat → Int32)) (H : Heap) (locs : List Loc) (ls : Array Slot), fixN n FF16 (x13, g14, g15) = some b16 → gH G A s.heap H locs [(h_this, .inr (6, FX7 r_this)), ((r_this 0), gA G 64 g15), ((r_this 1), gA G 8 g14)] → lv_has ls 4 [(0, .ref h_this), (1, .int p0), (2, .int x1), (3, .int x13)] → (∀ (H : Heap) (locs : List Loc) (ls : Array Slot), gH G A s.heap H locs [(h_this, .inr (6, FX7 r_this)), ((r_this 0), gA G 64 b16.2), ((r_this 1), gA G 8 b16.1)] → lv_has ls 4 [(0, .ref h_this), (1, .int p0), (2, .int x1)] → W p l e rm_X7_join s m args below meth c H locs 0 0 Q (F0 m 51 ls [])) → W p l e rm_X7_join s m args below meth c H locs 0 0 Q (F0 m 30 ls []) := by
          intro n
          induction n with
          | zero => intro x13 g14 g15 b16 H locs ls hf; exact sfix0 hf
          | succ n ih =>
            intro x13 g14 g15 b16 H locs ls hf hH hl KK
            obtain ⟨self16, hself16, hf⟩ := sstep hFF16 hf
            refine lv_iload_n hx hb dX7_join_30 rfl (lv_at hl 3 rfl) ?_
            refine lv_iload_n hx hb dX7_join_31 rfl (lv_at hl 2 rfl) ?_
            refine lv_icmp_ge (tgt := 51) hx hb dX7_join_32 (by decide) (fun c17 => ?_) (fun c17 => ?_)
            · have hf := spos hf c17
              obtain rfl := Option.some.inj hf
              exact KK _ _ _ hH (lv_sub hl [0, 1, 2] rfl)
            · have hf := sneg hf c17
              refine lv_aload_n hx hb dX7_join_35 rfl (lv_at hl 0 rfl) ?_
              refine lv_iload_n hx hb dX7_join_36 rfl (lv_at hl 3 rfl) ?_
              refine lv_bipush (v := (8 : Int32)) hx hb dX7_join_37 (by decide) ?_
              refine lv_imul hx hb dX7_join_39 ?_
              refine lv_iconst (v := (1 : Int32)) hx hb dX7_join_40 (by decide) ?_
              refine lv_iload_n hx hb dX7_join_41 rfl (lv_at hl 2 rfl) ?_
              obtain ⟨o18, ho18, hf⟩ := sbind hf
              refine g_cVv (isC := [0, 1, 2]) (isR := []) (isP := [0, 1, 2]) (wr := []) (w2 := [(h_this, .inr (6, FX7 r_this)), ((r_this 0), gA G 64 o18.2), ((r_this 1), gA G 8 o18.1)]) (q0 := 0) X hK hA hH hl (ct_X7_joinLine l G h_this r_this g14 g15 (x13 * (8 : Int32)) (1 : Int32) x1 H.size o18 ho18) ⟨q_6, q_639, hd_X7_joinLine, rfl, rfl, ⟨Nat.le_of_ble_eq_true rfl, Nat.le_of_ble_eq_true rfl⟩, ⟨Nat.zero_le _, Nat.zero_le _⟩⟩ q_636 q_638 qs_11 rfl rfl ⟨rfl, rfl, rfl, rfl, by decide, rfl, rfl⟩ rfl rfl (Nat.le_of_ble_eq_true rfl) dX7_join_42 (fun H locs hH => ?_)
              obtain ⟨x19, ex19⟩ : ∃ y : Int32, y = (x13 + (1 : Int32)) := ⟨_, rfl⟩
              have hf := sbnd hf x19 ex19
              refine lv_iinc (v := x19) (lv' := [(3, .int x19), (0, .ref h_this), (1, .int p0), (2, .int x1)]) hx hb dX7_join_45 hl (k := 3) rfl (by rw [ex19]; rfl) (by decide) rfl (fun ls hl => ?_)
              refine lv_goto (tgt := 30) hx hb dX7_join_48 (by decide) ?_
              exact ih x19 o18.1 o18.2 _ _ _ _ (hself16 _ _ hf) hH (lv_sub hl [1, 2, 3, 0] rfl) KK
        refine L16 FUEL (0 : Int32) o9.1 o9.2 o16 _ _ _ ho16 hH (lv_sub hl [1, 2, 3, 0] rfl) (fun H locs ls hH hl => ?_)
        refine lv_iload_n hx hb dX7_join_51 rfl (lv_at hl 2 rfl) ?_
        refine lv_iconst (v := (2 : Int32)) hx hb dX7_join_52 (by decide) ?_
        refine lv_imul hx hb dX7_join_53 ?_
        refine lv_topi (fun x20 ex20 => ?_)
        have hf := sbnd hf x20 ex20
        refine lv_istore_n (lv' := [(2, .int x20), (0, .ref h_this), (1, .int p0)]) hx hb dX7_join_54 rfl hl (by decide) rfl (fun ls hl => ?_)
        refine lv_goto (tgt := 2) hx hb dX7_join_55 (by decide) ?_
        exact ih x20 o16.1 o16.2 _ _ _ _ (hself4 _ _ hf) hH (lv_sub hl [1, 2, 0] rfl) KK
  refine L4 FUEL (2 : Int32) t_this_line t_this_places o4 _ _ _ ho4 hH (lv_sub hl [1, 2, 0] rfl) (fun H locs ls hH hl => ?_)
  obtain rfl := Option.some.inj hf
  exact hE _ _ _ _ hH dX7_join_58

def lf_X4_restoreBlock (i_this_prediction_average : Int32) (i_this_prediction_size : Int32) (i_this_step : Int32) (t_this_levels : Nat → Int32) (t_this_modes : Nat → Int32) (t_this_prediction_above : Nat → Int32) (t_this_prediction_left : Nat → Int32) (t_this_result : Nat → Int32) (t_this_sizes : Nat → Int32) (t_this_transform_line : Nat → Int32) (t_this_transform_places : Nat → Int32) (p0 : Int32) (p1 : Int32) (p2 : Int32) : Option (Int32 × Int32 × (Nat → Int32) × (Nat → Int32) × (Nat → Int32) × (Nat → Int32) × (Nat → Int32)) :=
(lf_X4_firstCell t_this_sizes p0 p1).bind fun o1 => (rdA 24 t_this_modes o1).bind fun x2 => (lf_X6_look i_this_prediction_average i_this_prediction_size t_this_prediction_above t_this_prediction_left 384 t_this_result p0 p1 p2).bind fun o3 => (fixN FUEL (fun (self6 : (Int32 × (Nat → Int32)) → Option ((Nat → Int32))) (z6 : Int32 × (Nat → Int32)) => (fun (x4 : Int32) (g5 : (Nat → Int32)) => (if p2 ≤ x4 then some g5 else (fixN FUEL (fun (self10 : (Int32 × (Nat → Int32)) → Option ((Nat → Int32))) (z10 : Int32 × (Nat → Int32)) => (fun (x8 : Int32) (g9 : (Nat → Int32)) => (if p2 ≤ x8 then some g9 else (rdA 384 t_this_levels ((((p1 + x4) * (16 : Int32)) + p0) + x8)).bind fun x12 => (wrA 64 g9 ((x4 * (8 : Int32)) + x8) (x12 * i_this_step)).bind fun g13 => bnd (x8 + (1 : Int32)) fun x14 => self10 (x14, g13))) z10.1 z10.2) ((0 : Int32), g5)).bind fun o10 => bnd (x4 + (1 : Int32)) fun x15 => self6 (x15, o10))) z6.1 z6.2) ((0 : Int32), t_this_transform_places)).bind fun o6 => (lf_X7_join t_this_transform_line o6 p2).bind fun o16 => (fixN FUEL (fun (self19 : (Int32 × (Nat → Int32)) → Option ((Nat → Int32))) (z19 : Int32 × (Nat → Int32)) => (fun (x17 : Int32) (g18 : (Nat → Int32)) => (if p2 ≤ x17 then some g18 else (fixN FUEL (fun (self23 : (Int32 × (Nat → Int32)) → Option ((Nat → Int32))) (z23 : Int32 × (Nat → Int32)) => (fun (x21 : Int32) (g22 : (Nat → Int32)) => (if p2 ≤ x21 then some g22 else (rdA 64 o16.2 ((x17 * (8 : Int32)) + x21)).bind fun x25 => (lf_X6_of o3.1 o3.2.2.1 o3.2.2.2 x2 x17 x21).bind fun o26 => (wrA 384 g22 ((((p1 + x17) * (16 : Int32)) + p0) + x21) (x25 + o26)).bind fun g27 => bnd (x21 + (1 : Int32)) fun x28 => self23 (x28, g27))) z23.1 z23.2) ((0 : Int32), g18)).bind fun o23 => bnd (x17 + (1 : Int32)) fun x29 => self19 (x29, o23))) z19.1 z19.2) ((0 : Int32), t_this_result)).bind fun o19 => some (o3.1, o3.2.1, o3.2.2.1, o3.2.2.2, o19, o16.1, o16.2)
abbrev rm_X4_restoreBlock : Room := { frames := 2, cells := 0, slots := 0, locals := 51 }
theorem hd_X4_restoreBlock : yX4_restoreBlock.cls ≠ "java/lang/invoke/MethodHandle" ∧ yX4_restoreBlock.cls ≠ "java/lang/invoke/VarHandle" ∧ (parseMethodDescriptor yX4_restoreBlock.desc).map (fun d => d.parameters.length) = some 3 := by decide +kernel
set_option maxHeartbeats 4000000 in
set_option maxRecDepth 100000 in
theorem ct_X4_restoreBlock (l : Launch) (G : gG) (h_this : Nat) (r_this r_this_prediction r_this_transform : Nat → Nat) (i_this_step i_this_blockCount i_this_prediction_size i_this_prediction_average : Int32) (t_this_levels t_this_modes t_this_prediction_above t_this_prediction_left t_this_result t_this_sizes t_this_transform_line t_this_transform_places : Nat → Int32) (p0 p1 p2 : Int32) (sz : Nat) (out : Int32 × Int32 × (Nat → Int32) × (Nat → Int32) × (Nat → Int32) × (Nat → Int32) × (Nat → Int32)) (hf : lf_X4_restoreBlock i_this_prediction_average i_this_prediction_size i_this_step t_this_levels t_this_modes t_this_prediction_above t_this_prediction_left t_this_result t_this_sizes t_this_transform_line t_this_transform_places p0 p1 p2 = some out) : gV l G yX4_restoreBlock cX4_restoreBlock 7 rm_X4_restoreBlock [.ref h_this, .int p0, .int p1, .int p2] sz [(h_this, .inr (3, FX4 r_this i_this_step i_this_blockCount)), ((r_this 3), gA G 6 t_this_sizes), ((r_this 4), gA G 24 t_this_modes), ((r_this 6), gA G 384 t_this_levels), ((r_this 7), gA G 384 t_this_result), ((r_this 8), .inr (5, FX6 r_this_prediction i_this_prediction_size i_this_prediction_average)), ((r_this_prediction 2), gA G 8 t_this_prediction_left), ((r_this_prediction 3), gA G 8 t_this_prediction_above), ((r_this 9), .inr (6, FX7 r_this_transform)), ((r_this_transform 0), gA G 64 t_this_transform_places), ((r_this_transform 1), gA G 8 t_this_transform_line)] [(h_this, .inr (3, FX4 r_this i_this_step i_this_blockCount)), ((r_this 3), gA G 6 t_this_sizes), ((r_this 4), gA G 24 t_this_modes), ((r_this 6), gA G 384 t_this_levels), ((r_this 7), gA G 384 out.2.2.2.2.1), ((r_this 8), .inr (5, FX6 r_this_prediction out.2.1 out.1)), ((r_this_prediction 2), gA G 8 out.2.2.2.1), ((r_this_prediction 3), gA G 8 out.2.2.1), ((r_this 9), .inr (6, FX7 r_this_transform)), ((r_this_transform 0), gA G 64 out.2.2.2.2.2.2), ((r_this_transform 1), gA G 8 out.2.2.2.2.2.1)] := by
  refine gV_of (by decide +kernel) (Nat.le_of_ble_eq_true rfl) ?_
  intro p e s m args below meth c ls A Q X hK hA hsz hH hl hE
  subst hsz
  have hx := X.1
  have hb := X.2.1
  unfold lf_X4_restoreBlock at hf
  have hl : lv_has ls 7 [(0, .ref h_this), (1, .int p0), (2, .int p1), (3, .int p2)] := hl
  have hH : gH G A s.heap s.heap [] [(h_this, .inr (3, FX4 r_this i_this_step i_this_blockCount)), ((r_this 3), gA G 6 t_this_sizes), ((r_this 4), gA G 24 t_this_modes), ((r_this 6), gA G 384 t_this_levels), ((r_this 7), gA G 384 t_this_result), ((r_this 8), .inr (5, FX6 r_this_prediction i_this_prediction_size i_this_prediction_average)), ((r_this_prediction 2), gA G 8 t_this_prediction_left), ((r_this_prediction 3), gA G 8 t_this_prediction_above), ((r_this 9), .inr (6, FX7 r_this_transform)), ((r_this_transform 0), gA G 64 t_this_transform_places), ((r_this_transform 1), gA G 8 t_this_transform_line)] := hH
  refine lv_aload_n hx hb dX4_restoreBlock_0 rfl (lv_at hl 0 rfl) ?_
  refine g_get (T := TX4) (N := 10) (ci := 3) (C := RX4) (v := .ref (r_this 4)) X hK hH in_RX4 0 rfl rfl 4 (by decide) q_123 (fun _ h9 => h9) rfl dX4_restoreBlock_1 ?_
  refine lv_aload_n hx hb dX4_restoreBlock_4 rfl (lv_at hl 0 rfl) ?_
  refine lv_iload_n hx hb dX4_restoreBlock_5 rfl (lv_at hl 1 rfl) ?_
  refine lv_iload_n hx hb dX4_restoreBlock_6 rfl (lv_at hl 2 rfl) ?_
  obtain ⟨o1, ho1, hf⟩ := sbind hf
  refine g_cVi (isC := [0, 1]) (isR := [2, 3, 4, 5, 6, 7, 8, 9, 10]) (isP := [9, 10, 0, 1, 2, 3, 4, 5, 6, 7, 8]) (wr := [((r_this 4), gA G 24 t_this_modes), ((r_this 6), gA G 384 t_this_levels), ((r_this 7), gA G 384 t_this_result), ((r_this 8), .inr (5, FX6 r_this_prediction i_this_prediction_size i_this_prediction_average)), ((r_this_prediction 2), gA G 8 t_this_prediction_left), ((r_this_prediction 3), gA G 8 t_this_prediction_above), ((r_this 9), .inr (6, FX7 r_this_transform)), ((r_this_transform 0), gA G 64 t_this_transform_places), ((r_this_transform 1), gA G 8 t_this_transform_line)]) (w2 := [(h_this, .inr (3, FX4 r_this i_this_step i_this_blockCount)), ((r_this 3), gA G 6 t_this_sizes), ((r_this 4), gA G 24 t_this_modes), ((r_this 6), gA G 384 t_this_levels), ((r_this 7), gA G 384 t_this_result), ((r_this 8), .inr (5, FX6 r_this_prediction i_this_prediction_size i_this_prediction_average)), ((r_this_prediction 2), gA G 8 t_this_prediction_left), ((r_this_prediction 3), gA G 8 t_this_prediction_above), ((r_this 9), .inr (6, FX7 r_this_transform)), ((r_this_transform 0), gA G 64 t_this_transform_places), ((r_this_transform 1), gA G 8 t_this_transform_line)]) (q0 := 0) X hK hA hH hl (ct_X4_firstCell l G h_this r_this i_this_step i_this_blockCount t_this_sizes p0 p1 s.heap.size o1 ho1) ⟨q_4, q_605, hd_X4_firstCell, rfl, rfl, ⟨Nat.le_of_ble_eq_true rfl, Nat.le_of_ble_eq_true rfl⟩, ⟨Nat.zero_le _, Nat.zero_le _⟩⟩ q_624 q_603 q_604 rfl rfl ⟨rfl, rfl, rfl, rfl, by decide, rfl, rfl⟩ rfl rfl (Nat.le_of_ble_eq_true rfl) dX4_restoreBlock_7 (fun H locs hH => ?_)
  obtain ⟨x2, hx2, hf⟩ := sbind hf
  refine g_ald X hK hH 2 rfl hx2 dX4_restoreBlock_10 ?_
  refine lv_istore (lv' := [(4, .int x2), (0, .ref h_this), (1, .int p0), (2, .int p1), (3, .int p2)]) hx hb dX4_restoreBlock_11 hl (by decide) rfl (fun ls hl => ?_)
  refine lv_aload_n hx hb dX4_restoreBlock_13 rfl (lv_at hl 1 rfl) ?_
  refine g_get (T := TX4) (N := 10) (ci := 3) (C := RX4) (v := .ref (r_this 8)) X hK hH in_RX4 0 rfl rfl 8 (by decide) q_131 (fun _ h9 => h9) rfl dX4_restoreBlock_14 ?_
  refine lv_aload_n hx hb dX4_restoreBlock_17 rfl (lv_at hl 1 rfl) ?_
  refine g_get (T := TX4) (N := 10) (ci := 3) (C := RX4) (v := .ref (r_this 7)) X hK hH in_RX4 0 rfl rfl 7 (by decide) q_129 (fun _ h9 => h9) rfl dX4_restoreBlock_18 ?_
  refine lv_iload_n hx hb dX4_restoreBlock_21 rfl (lv_at hl 2 rfl) ?_
  refine lv_iload_n hx hb dX4_restoreBlock_22 rfl (lv_at hl 3 rfl) ?_
  refine lv_iload_n hx hb dX4_restoreBlock_23 rfl (lv_at hl 4 rfl) ?_
  obtain ⟨o3, ho3, hf⟩ := sbind hf
  refine g_cVv (isC := [5, 6, 7, 4]) (isR := [0, 1, 2, 3, 8, 9, 10]) (isP := [0, 1, 2, 3, 10, 7, 8, 9, 4, 5, 6]) (wr := [(h_this, .inr (3, FX4 r_this i_this_step i_this_blockCount)), ((r_this 3), gA G 6 t_this_sizes), ((r_this 4), gA G 24 t_this_modes), ((r_this 6), gA G 384 t_this_levels), ((r_this 9), .inr (6, FX7 r_this_transform)), ((r_this_transform 0), gA G 64 t_this_transform_places), ((r_this_transform 1), gA G 8 t_this_transform_line)]) (w2 := [(h_this, .inr (3, FX4 r_this i_this_step i_this_blockCount)), ((r_this 3), gA G 6 t_this_sizes), ((r_this 4), gA G 24 t_this_modes), ((r_this 6), gA G 384 t_this_levels), ((r_this 7), gA G 384 t_this_result), ((r_this 8), .inr (5, FX6 r_this_prediction o3.2.1 o3.1)), ((r_this_prediction 2), gA G 8 o3.2.2.2), ((r_this_prediction 3), gA G 8 o3.2.2.1), ((r_this 9), .inr (6, FX7 r_this_transform)), ((r_this_transform 0), gA G 64 t_this_transform_places), ((r_this_transform 1), gA G 8 t_this_transform_line)]) (q0 := 5) X hK hA hH hl (ct_X6_look l G (r_this 8) r_this_prediction i_this_prediction_size i_this_prediction_average (r_this 7) 384 t_this_prediction_above t_this_prediction_left t_this_result p0 p1 p2 H.size o3 ho3) ⟨q_5, q_628, hd_X6_look, rfl, rfl, ⟨Nat.le_of_ble_eq_true rfl, Nat.le_of_ble_eq_true rfl⟩, ⟨Nat.zero_le _, Nat.zero_le _⟩⟩ q_625 q_626 q_627 rfl rfl ⟨rfl, rfl, rfl, rfl, by decide, rfl, rfl⟩ rfl rfl (Nat.le_of_ble_eq_true rfl) dX4_restoreBlock_24 (fun H locs hH => ?_)
  refine lv_iconst (v := (0 : Int32)) hx hb dX4_restoreBlock_27 (by decide) ?_
  refine lv_istore (lv' := [(5, .int (0 : Int32)), (4, .int x2), (0, .ref h_this), (1, .int p0), (2, .int p1), (3, .int p2)]) hx hb dX4_restoreBlock_28 hl (by decide) rfl (fun ls hl => ?_)
  obtain ⟨o6, ho6, hf⟩ := sbind hf
  obtain ⟨FF6, hFF6, ho6⟩ := sfix ho6
  have L6 : ∀ (n : Nat) (x4 : Int32) (g5 : (Nat → Int32)) (b6 : (Nat → Int32)) (H : Heap) (locs : List Loc) (ls : Array Slot), fixN n FF6 (x4, g5) = some b6 → gH G A s.heap H locs [(h_this, .inr (3, FX4 r_this i_this_step i_this_blockCount)), ((r_this 3), gA G 6 t_this_sizes), ((r_this 4), gA G 24 t_this_modes), ((r_this 6), gA G 384 t_this_levels), ((r_this 7), gA G 384 t_this_result), ((r_this 8), .inr (5, FX6 r_this_prediction o3.2.1 o3.1)), ((r_this_prediction 2), gA G 8 o3.2.2.2), ((r_this_prediction 3), gA G 8 o3.2.2.1), ((r_this 9), .inr (6, FX7 r_this_transform)), ((r_this_transform 0), gA G 64 g5), ((r_this_transform 1), gA G 8 t_this_transform_line)] → lv_has ls 7 [(0, .ref h_this), (1, .int p0), (2, .int p1), (3, .int p2), (4, .int x2), (5, .int x4)] → (∀ (H : Heap) (locs : List Loc) (ls : Array Slot), gH G A s.heap H locs [(h_this, .inr (3, FX4 r_this i_this_step i_this_blockCount)), ((r_this 3), gA G 6 t_this_sizes), ((r_this 4), gA G 24 t_this_modes), ((r_this 6), gA G 384 t_this_levels), ((r_this 7), gA G 384 t_this_result), ((r_this 8), .inr (5, FX6 r_this_prediction o3.2.1 o3.1)), ((r_this_prediction 2), gA G 8 o3.2.2.2), ((r_this_prediction 3), gA G 8 o3.2.2.1), ((r_this 9), .inr (6, FX7 r_this_transform)), ((r_this_transform 0), gA G 64 b6), ((r_this_transform 1), gA G 8 t_this_transform_line)] → lv_has ls 7 [(0, .ref h_this), (1, .int p0), (2, .int p1), (3, .int p2), (4, .int x2)] → W p l e rm_X4_restoreBlock s m args below meth c H locs 0 0 Q (F0 m 95 ls [])) → W p l e rm_X4_restoreBlock s m args below meth c H locs 0 0 Q (F0 m 30 ls []) := by
    intro n
    induction n with
    | zero => intro x4 g5 b6 H locs ls hf; exact sfix0 hf
    | succ n ih =>
      intro x4 g5 b6 H locs ls hf hH hl KK
      obtain ⟨self6, hself6, hf⟩ := sstep hFF6 hf
      refine lv_iload hx hb dX4_restoreBlock_30 (lv_at hl 5 rfl) ?_
      refine lv_iload_n hx hb dX4_restoreBlock_32 rfl (lv_at hl 3 rfl) ?_
      refine lv_icmp_ge (tgt := 95) hx hb dX4_restoreBlock_33 (by decide) (fun c7 => ?_) (fun c7 => ?_)
      · have hf := spos hf c7
        obtain rfl := Option.some.inj hf
        exact KK _ _ _ hH (lv_sub hl [0, 1, 2, 3, 4] rfl)
      · have hf := sneg hf c7
        refine lv_iconst (v := (0 : Int32)) hx hb dX4_restoreBlock_36 (by decide) ?_
        refine lv_istore (lv' := [(6, .int (0 : Int32)), (0, .ref h_this), (1, .int p0), (2, .int p1), (3, .int p2), (4, .int x2), (5, .int x4)]) hx hb dX4_restoreBlock_37 hl (by decide) rfl (fun ls hl => ?_)
        obtain ⟨o10, ho10, hf⟩ := sbind hf
        obtain ⟨FF10, hFF10, ho10⟩ := sfix ho10
        have L10 : ∀ (n : Nat) (x8 : Int32) (g9 : (Nat → Int32)) (b10 : (Nat → Int32)) (H : Heap) (locs : List Loc) (ls : Array Slot), fixN n FF10 (x8, g9) = some b10 → gH G A s.heap H locs [(h_this, .inr (3, FX4 r_this i_this_step i_this_blockCount)), ((r_this 3), gA G 6 t_this_sizes), ((r_this 4), gA G 24 t_this_modes), ((r_this 6), gA G 384 t_this_levels), ((r_this 7), gA G 384 t_this_result), ((r_this 8), .inr (5, FX6 r_this_prediction o3.2.1 o3.1)), ((r_this_prediction 2), gA G 8 o3.2.2.2), ((r_this_prediction 3), gA G 8 o3.2.2.1), ((r_this 9), .inr (6, FX7 r_this_transform)), ((r_this_transform 0), gA G 64 g9), ((r_this_transform 1), gA G 8 t_this_transform_line)] → lv_has ls 7 [(0, .ref h_this), (1, .int p0), (2, .int p1), (3, .int p2), (4, .int x2), (5, .int x4), (6, .int x8)] → (∀ (H : Heap) (locs : List Loc) (ls : Array Slot), gH G A s.heap H locs [(h_this, .inr (3, FX4 r_this i_this_step i_this_blockCount)), ((r_this 3), gA G 6 t_this_sizes), ((r_this 4), gA G 24 t_this_modes), ((r_this 6), gA G 384 t_this_levels), ((r_this 7), gA G 384 t_this_result), ((r_this 8), .inr (5, FX6 r_this_prediction o3.2.1 o3.1)), ((r_this_prediction 2), gA G 8 o3.2.2.2), ((r_this_prediction 3), gA G 8 o3.2.2.1), ((r_this 9), .inr (6, FX7 r_this_transform)), ((r_this_transform 0), gA G 64 b10), ((r_this_transform 1), gA G 8 t_this_transform_line)] → lv_has ls 7 [(0, .ref h_this), (1, .int p0), (2, .int p1), (3, .int p2), (4, .int x2), (5, .int x4)] → W p l e rm_X4_restoreBlock s m args below meth c H locs 0 0 Q (F0 m 89 ls [])) → W p l e rm_X4_restoreBlock s m args below meth c H locs 0 0 Q (F0 m 39 ls []) := by
          intro n
          induction n with
          | zero => intro x8 g9 b10 H locs ls hf; exact sfix0 hf
          | succ n ih =>
            intro x8 g9 b10 H locs ls hf hH hl KK
            obtain ⟨self10, hself10, hf⟩ := sstep hFF10 hf
            refine lv_iload hx hb dX4_restoreBlock_39 (lv_at hl 6 rfl) ?_
            refine lv_iload_n hx hb dX4_restoreBlock_41 rfl (lv_at hl 3 rfl) ?_
            refine lv_icmp_ge (tgt := 89) hx hb dX4_restoreBlock_42 (by decide) (fun c11 => ?_) (fun c11 => ?_)
            · have hf := spos hf c11
              obtain rfl := Option.some.inj hf
              exact KK _ _ _ hH (lv_sub hl [0, 1, 2, 3, 4, 5] rfl)
            · have hf := sneg hf c11
              refine lv_aload_n hx hb dX4_restoreBlock_45 rfl (lv_at hl 0 rfl) ?_
              refine g_get (T := TX4) (N := 10) (ci := 3) (C := RX4) (v := .ref (r_this 9)) X hK hH in_RX4 0 rfl rfl 9 (by decide) q_132 (fun _ h9 => h9) rfl dX4_restoreBlock_46 ?_
              refine g_getN (T := TX7) (N := 2) (ci := 6) (C := RX7) (v := .ref (r_this_transform 0)) X hK hH in_RX7 8 rfl rfl 0 (by decide) qn_109 (fun _ h9 => h9) rfl dX4_restoreBlock_49 ?_
              refine lv_iload hx hb dX4_restoreBlock_52 (lv_at hl 5 rfl) ?_
              refine lv_bipush (v := (8 : Int32)) hx hb dX4_restoreBlock_54 (by decide) ?_
              refine lv_imul hx hb dX4_restoreBlock_56 ?_
              refine lv_iload hx hb dX4_restoreBlock_57 (lv_at hl 6 rfl) ?_
              refine lv_iadd hx hb dX4_restoreBlock_59 ?_
              refine lv_aload_n hx hb dX4_restoreBlock_60 rfl (lv_at hl 0 rfl) ?_
              refine g_get (T := TX4) (N := 10) (ci := 3) (C := RX4) (v := .ref (r_this 6)) X hK hH in_RX4 0 rfl rfl 6 (by decide) q_127 (fun _ h9 => h9) rfl dX4_restoreBlock_61 ?_
              refine lv_iload_n hx hb dX4_restoreBlock_64 rfl (lv_at hl 2 rfl) ?_
              refine lv_iload hx hb dX4_restoreBlock_65 (lv_at hl 5 rfl) ?_
              refine lv_iadd hx hb dX4_restoreBlock_67 ?_
              refine lv_bipush (v := (16 : Int32)) hx hb dX4_restoreBlock_68 (by decide) ?_
              refine lv_imul hx hb dX4_restoreBlock_70 ?_
              refine lv_iload_n hx hb dX4_restoreBlock_71 rfl (lv_at hl 1 rfl) ?_
              refine lv_iadd hx hb dX4_restoreBlock_72 ?_
              refine lv_iload hx hb dX4_restoreBlock_73 (lv_at hl 6 rfl) ?_
              refine lv_iadd hx hb dX4_restoreBlock_75 ?_
              obtain ⟨x12, hx12, hf⟩ := sbind hf
              refine g_ald X hK hH 3 rfl hx12 dX4_restoreBlock_76 ?_
              refine lv_aload_n hx hb dX4_restoreBlock_77 rfl (lv_at hl 0 rfl) ?_
              refine g_get (T := TX4) (N := 10) (ci := 3) (C := RX4) (v := .int i_this_step) X hK hH in_RX4 0 rfl rfl 0 (by decide) q_116 (fun _ h9 => h9) rfl dX4_restoreBlock_78 ?_
              refine lv_imul hx hb dX4_restoreBlock_81 ?_
              obtain ⟨g13, hg13, hf⟩ := sbind hf
              refine g_ast (w1 := [(h_this, .inr (3, FX4 r_this i_this_step i_this_blockCount)), ((r_this 3), gA G 6 t_this_sizes), ((r_this 4), gA G 24 t_this_modes), ((r_this 6), gA G 384 t_this_levels), ((r_this 7), gA G 384 t_this_result), ((r_this 8), .inr (5, FX6 r_this_prediction o3.2.1 o3.1)), ((r_this_prediction 2), gA G 8 o3.2.2.2), ((r_this_prediction 3), gA G 8 o3.2.2.1), ((r_this 9), .inr (6, FX7 r_this_transform)), ((r_this_transform 0), gA G 64 g13), ((r_this_transform 1), gA G 8 t_this_transform_line)]) X hK hH 9 rfl hg13 dX4_restoreBlock_82 rfl (fun H locs hH => ?_)
              obtain ⟨x14, ex14⟩ : ∃ y : Int32, y = (x8 + (1 : Int32)) := ⟨_, rfl⟩
              have hf := sbnd hf x14 ex14
              refine lv_iinc (v := x14) (lv' := [(6, .int x14), (0, .ref h_this), (1, .int p0), (2, .int p1), (3, .int p2), (4, .int x2), (5, .int x4)]) hx hb dX4_restoreBlock_83 hl (k := 6) rfl (by rw [ex14]; rfl) (by decide) rfl (fun ls hl => ?_)
              refine lv_goto (tgt := 39) hx hb dX4_restoreBlock_86 (by decide) ?_
              exact ih x14 g13 _ _ _ _ (hself10 _ _ hf) hH (lv_sub hl [1, 2, 3, 4, 5, 6, 0] rfl) KK
        refine L10 FUEL (0 : Int32) g5 o10 _ _ _ ho10 hH (lv_sub hl [1, 2, 3, 4, 5, 6, 0] rfl) (fun H locs ls hH hl => ?_)
        obtain ⟨x15, ex15⟩ : ∃ y : Int32, y = (x4 + (1 : Int32)) := ⟨_, rfl⟩
        have hf := sbnd hf x15 ex15
        refine lv_iinc (v := x15) (lv' := [(5, .int x15), (0, .ref h_this), (1, .int p0), (2, .int p1), (3, .int p2), (4, .int x2)]) hx hb dX4_restoreBlock_89 hl (k := 5) rfl (by rw [ex15]; rfl) (by decide) rfl (fun ls hl => ?_)
        refine lv_goto (tgt := 30) hx hb dX4_restoreBlock_92 (by decide) ?_
        exact ih x15 o10 _ _ _ _ (hself6 _ _ hf) hH (lv_sub hl [1, 2, 3, 4, 5, 0] rfl) KK
  refine L6 FUEL (0 : Int32) t_this_transform_places o6 _ _ _ ho6 hH (lv_sub hl [2, 3, 4, 5, 1, 0] rfl) (fun H locs ls hH hl => ?_)
  refine lv_aload_n hx hb dX4_restoreBlock_95 rfl (lv_at hl 0 rfl) ?_
  refine g_get (T := TX4) (N := 10) (ci := 3) (C := RX4) (v := .ref (r_this 9)) X hK hH in_RX4 0 rfl rfl 9 (by decide) q_132 (fun _ h9 => h9) rfl dX4_restoreBlock_96 ?_
  refine lv_iload_n hx hb dX4_restoreBlock_99 rfl (lv_at hl 3 rfl) ?_
  obtain ⟨o16, ho16, hf⟩ := sbind hf
  refine g_cVv (isC := [8, 9, 10]) (isR := [0, 1, 2, 3, 4, 5, 6, 7]) (isP := [0, 1, 2, 3, 4, 5, 6, 7, 8, 9, 10]) (wr := [(h_this, .inr (3, FX4 r_this i_this_step i_this_blockCount)), ((r_this 3), gA G 6 t_this_sizes), ((r_this 4), gA G 24 t_this_modes), ((r_this 6), gA G 384 t_this_levels), ((r_this 7), gA G 384 t_this_result), ((r_this 8), .inr (5, FX6 r_this_prediction o3.2.1 o3.1)), ((r_this_prediction 2), gA G 8 o3.2.2.2), ((r_this_prediction 3), gA G 8 o3.2.2.1)]) (w2 := [(h_this, .inr (3, FX4 r_this i_this_step i_this_blockCount)), ((r_this 3), gA G 6 t_this_sizes), ((r_this 4), gA G 24 t_this_modes), ((r_this 6), gA G 384 t_this_levels), ((r_this 7), gA G 384 t_this_result), ((r_this 8), .inr (5, FX6 r_this_prediction o3.2.1 o3.1)), ((r_this_prediction 2), gA G 8 o3.2.2.2), ((r_this_prediction 3), gA G 8 o3.2.2.1), ((r_this 9), .inr (6, FX7 r_this_transform)), ((r_this_transform 0), gA G 64 o16.2), ((r_this_transform 1), gA G 8 o16.1)]) (q0 := 8) X hK hA hH hl (ct_X7_join l G (r_this 9) r_this_transform t_this_transform_line o6 p2 H.size o16 ho16) ⟨q_6, q_635, hd_X7_join, rfl, rfl, ⟨Nat.le_of_ble_eq_true rfl, Nat.le_of_ble_eq_true rfl⟩, ⟨Nat.zero_le _, Nat.zero_le _⟩⟩ q_632 q_633 q_634 rfl rfl ⟨rfl, rfl, rfl, rfl, by decide, rfl, rfl⟩ rfl rfl (Nat.le_of_ble_eq_true rfl) dX4_restoreBlock_100 (fun H locs hH => ?_)
  refine lv_iconst (v := (0 : Int32)) hx hb dX4_restoreBlock_103 (by decide) ?_
  refine lv_istore (lv' := [(5, .int (0 : Int32)), (0, .ref h_this), (1, .int p0), (2, .int p1), (3, .int p2), (4, .int x2)]) hx hb dX4_restoreBlock_104 hl (by decide) rfl (fun ls hl => ?_)
  obtain ⟨o19, ho19, hf⟩ := sbind hf
  obtain ⟨FF19, hFF19, ho19⟩ := sfix ho19
  have L19 : ∀ (n : Nat) (x17 : Int32) (g18 : (Nat → Int32)) (b19 : (Nat → Int32)) (H : Heap) (locs : List Loc) (ls : Array Slot), fixN n FF19 (x17, g18) = some b19 → gH G A s.heap H locs [(h_this, .inr (3, FX4 r_this i_this_step i_this_blockCount)), ((r_this 3), gA G 6 t_this_sizes), ((r_this 4), gA G 24 t_this_modes), ((r_this 6), gA G 384 t_this_levels), ((r_this 7), gA G 384 g18), ((r_this 8), .inr (5, FX6 r_this_prediction o3.2.1 o3.1)), ((r_this_prediction 2), gA G 8 o3.2.2.2), ((r_this_prediction 3), gA G 8 o3.2.2.1), ((r_this 9), .inr (6, FX7 r_this_transform)), ((r_this_transform 0), gA G 64 o16.2), ((r_this_transform 1), gA G 8 o16.1)] → lv_has ls 7 [(0, .ref h_this), (1, .int p0), (2, .int p1), (3, .int p2), (4, .int x2), (5, .int x17)] → (∀ (H : Heap) (locs : List Loc) (ls : Array Slot), gH G A s.heap H locs [(h_this, .inr (3, FX4 r_this i_this_step i_this_blockCount)), ((r_this 3), gA G 6 t_this_sizes), ((r_this 4), gA G 24 t_this_modes), ((r_this 6), gA G 384 t_this_levels), ((r_this 7), gA G 384 b19), ((r_this 8), .inr (5, FX6 r_this_prediction o3.2.1 o3.1)), ((r_this_prediction 2), gA G 8 o3.2.2.2), ((r_this_prediction 3), gA G 8 o3.2.2.1), ((r_this 9), .inr (6, FX7 r_this_transform)), ((r_this_transform 0), gA G 64 o16.2), ((r_this_transform 1), gA G 8 o16.1)] → lv_has ls 7 [] → W p l e rm_X4_restoreBlock s m args below meth c H locs 0 0 Q (F0 m 180 ls [])) → W p l e rm_X4_restoreBlock s m args below meth c H locs 0 0 Q (F0 m 106 ls []) := by
    intro n
    induction n with
    | zero => intro x17 g18 b19 H locs ls hf; exact sfix0 hf
    | succ n ih =>
      intro x17 g18 b19 H locs ls hf hH hl KK
      obtain ⟨self19, hself19, hf⟩ := sstep hFF19 hf
      refine lv_iload hx hb dX4_restoreBlock_106 (lv_at hl 5 rfl) ?_
      refine lv_iload_n hx hb dX4_restoreBlock_108 rfl (lv_at hl 3 rfl) ?_
      refine lv_icmp_ge (tgt := 180) hx hb dX4_restoreBlock_109 (by decide) (fun c20 => ?_) (fun c20 => ?_)
      · have hf := spos hf c20
        obtain rfl := Option.some.inj hf
        exact KK _ _ _ hH (lv_sub hl [] rfl)
      · have hf := sneg hf c20
        refine lv_iconst (v := (0 : Int32)) hx hb dX4_restoreBlock_112 (by decide) ?_
        refine lv_istore (lv' := [(6, .int (0 : Int32)), (0, .ref h_this), (1, .int p0), (2, .int p1), (3, .int p2), (4, .int x2), (5, .int x17)]) hx hb dX4_restoreBlock_113 hl (by decide) rfl (fun ls hl => ?_)
        obtain ⟨o23, ho23, hf⟩ := sbind hf
        obtain ⟨FF23, hFF23, ho23⟩ := sfix ho23
        have L23 : ∀ (n : Nat) (x21 : Int32) (g22 : (Nat → Int32)) (b23 : (Nat → Int32)) (H : Heap) (locs : List Loc) (ls : Array Slot), fixN n FF23 (x21, g22) = some b23 → gH G A s.heap H locs [(h_this, .inr (3, FX4 r_this i_this_step i_this_blockCount)), ((r_this 3), gA G 6 t_this_sizes), ((r_this 4), gA G 24 t_this_modes), ((r_this 6), gA G 384 t_this_levels), ((r_this 7), gA G 384 g22), ((r_this 8), .inr (5, FX6 r_this_prediction o3.2.1 o3.1)), ((r_this_prediction 2), gA G 8 o3.2.2.2), ((r_this_prediction 3), gA G 8 o3.2.2.1), ((r_this 9), .inr (6, FX7 r_this_transform)), ((r_this_transform 0), gA G 64 o16.2), ((r_this_transform 1), gA G 8 o16.1)] → lv_has ls 7 [(0, .ref h_this), (1, .int p0), (2, .int p1), (3, .int p2), (4, .int x2), (5, .int x17), (6, .int x21)] → (∀ (H : Heap) (locs : List Loc) (ls : Array Slot), gH G A s.heap H locs [(h_this, .inr (3, FX4 r_this i_this_step i_this_blockCount)), ((r_this 3), gA G 6 t_this_sizes), ((r_this 4), gA G 24 t_this_modes), ((r_this 6), gA G 384 t_this_levels), ((r_this 7), gA G 384 b23), ((r_this 8), .inr (5, FX6 r_this_prediction o3.2.1 o3.1)), ((r_this_prediction 2), gA G 8 o3.2.2.2), ((r_this_prediction 3), gA G 8 o3.2.2.1), ((r_this 9), .inr (6, FX7 r_this_transform)), ((r_this_transform 0), gA G 64 o16.2), ((r_this_transform 1), gA G 8 o16.1)] → lv_has ls 7 [(0, .ref h_this), (1, .int p0), (2, .int p1), (3, .int p2), (4, .int x2), (5, .int x17)] → W p l e rm_X4_restoreBlock s m args below meth c H locs 0 0 Q (F0 m 174 ls [])) → W p l e rm_X4_restoreBlock s m args below meth c H locs 0 0 Q (F0 m 115 ls []) := by
          intro n
          induction n with
          | zero => intro x21 g22 b23 H locs ls hf; exact sfix0 hf
          | succ n ih =>
            intro x21 g22 b23 H locs ls hf hH hl KK
            obtain ⟨self23, hself23, hf⟩ := sstep hFF23 hf
            refine lv_iload hx hb dX4_restoreBlock_115 (lv_at hl 6 rfl) ?_
            refine lv_iload_n hx hb dX4_restoreBlock_117 rfl (lv_at hl 3 rfl) ?_
            refine lv_icmp_ge (tgt := 174) hx hb dX4_restoreBlock_118 (by decide) (fun c24 => ?_) (fun c24 => ?_)
            · have hf := spos hf c24
              obtain rfl := Option.some.inj hf
              exact KK _ _ _ hH (lv_sub hl [0, 1, 2, 3, 4, 5] rfl)
            · have hf := sneg hf c24
              refine lv_aload_n hx hb dX4_restoreBlock_121 rfl (lv_at hl 0 rfl) ?_
              refine g_get (T := TX4) (N := 10) (ci := 3) (C := RX4) (v := .ref (r_this 7)) X hK hH in_RX4 0 rfl rfl 7 (by decide) q_129 (fun _ h9 => h9) rfl dX4_restoreBlock_122 ?_
              refine lv_iload_n hx hb dX4_restoreBlock_125 rfl (lv_at hl 2 rfl) ?_
              refine lv_iload hx hb dX4_restoreBlock_126 (lv_at hl 5 rfl) ?_
              refine lv_iadd hx hb dX4_restoreBlock_128 ?_
              refine lv_bipush (v := (16 : Int32)) hx hb dX4_restoreBlock_129 (by decide) ?_
              refine lv_imul hx hb dX4_restoreBlock_131 ?_
              refine lv_iload_n hx hb dX4_restoreBlock_132 rfl (lv_at hl 1 rfl) ?_
              refine lv_iadd hx hb dX4_restoreBlock_133 ?_
              refine lv_iload hx hb dX4_restoreBlock_134 (lv_at hl 6 rfl) ?_
              refine lv_iadd hx hb dX4_restoreBlock_136 ?_
              refine lv_aload_n hx hb dX4_restoreBlock_137 rfl (lv_at hl 0 rfl) ?_
              refine g_get (T := TX4) (N := 10) (ci := 3) (C := RX4) (v := .ref (r_this 9)) X hK hH in_RX4 0 rfl rfl 9 (by decide) q_132 (fun _ h9 => h9) rfl dX4_restoreBlock_138 ?_
              refine g_getN (T := TX7) (N := 2) (ci := 6) (C := RX7) (v := .ref (r_this_transform 0)) X hK hH in_RX7 8 rfl rfl 0 (by decide) qn_109 (fun _ h9 => h9) rfl dX4_restoreBlock_141 ?_
              refine lv_iload hx hb dX4_restoreBlock_144 (lv_at hl 5 rfl) ?_
              refine lv_bipush (v := (8 : Int32)) hx hb dX4_restoreBlock_146 (by decide) ?_
              refine lv_imul hx hb dX4_restoreBlock_148 ?_
              refine lv_iload hx hb dX4_restoreBlock_149 (lv_at hl 6 rfl) ?_
              refine lv_iadd hx hb dX4_restoreBlock_151 ?_
              obtain ⟨x25, hx25, hf⟩ := sbind hf
              refine g_ald X hK hH 9 rfl hx25 dX4_restoreBlock_152 ?_
              refine lv_aload_n hx hb dX4_restoreBlock_153 rfl (lv_at hl 0 rfl) ?_
              refine g_get (T := TX4) (N := 10) (ci := 3) (C := RX4) (v := .ref (r_this 8)) X hK hH in_RX4 0 rfl rfl 8 (by decide) q_131 (fun _ h9 => h9) rfl dX4_restoreBlock_154 ?_
              refine lv_iload hx hb dX4_restoreBlock_157 (lv_at hl 4 rfl) ?_
              refine lv_iload hx hb dX4_restoreBlock_159 (lv_at hl 5 rfl) ?_
              refine lv_iload hx hb dX4_restoreBlock_161 (lv_at hl 6 rfl) ?_
              obtain ⟨o26, ho26, hf⟩ := sbind hf
              refine g_cVi (isC := [5, 6, 7]) (isR := [0, 1, 2, 3, 4, 8, 9, 10]) (isP := [0, 1, 2, 3, 4, 8, 9, 10, 5, 6, 7]) (wr := [(h_this, .inr (3, FX4 r_this i_this_step i_this_blockCount)), ((r_this 3), gA G 6 t_this_sizes), ((r_this 4), gA G 24 t_this_modes), ((r_this 6), gA G 384 t_this_levels), ((r_this 7), gA G 384 g22), ((r_this 9), .inr (6, FX7 r_this_transform)), ((r_this_transform 0), gA G 64 o16.2), ((r_this_transform 1), gA G 8 o16.1)]) (w2 := [(h_this, .inr (3, FX4 r_this i_this_step i_this_blockCount)), ((r_this 3), gA G 6 t_this_sizes), ((r_this 4), gA G 24 t_this_modes), ((r_this 6), gA G 384 t_this_levels), ((r_this 7), gA G 384 g22), ((r_this 8), .inr (5, FX6 r_this_prediction o3.2.1 o3.1)), ((r_this_prediction 2), gA G 8 o3.2.2.2), ((r_this_prediction 3), gA G 8 o3.2.2.1), ((r_this 9), .inr (6, FX7 r_this_transform)), ((r_this_transform 0), gA G 64 o16.2), ((r_this_transform 1), gA G 8 o16.1)]) (q0 := 5) X hK hA hH hl (ct_X6_of l G (r_this 8) r_this_prediction o3.2.1 o3.1 o3.2.2.1 o3.2.2.2 x2 x17 x21 H.size o26 ho26) ⟨q_5, q_643, hd_X6_of, rfl, rfl, ⟨Nat.le_of_ble_eq_true rfl, Nat.le_of_ble_eq_true rfl⟩, ⟨Nat.zero_le _, Nat.zero_le _⟩⟩ q_640 q_641 q_642 rfl rfl ⟨rfl, rfl, rfl, rfl, by decide, rfl, rfl⟩ rfl rfl (Nat.le_of_ble_eq_true rfl) dX4_restoreBlock_163 (fun H locs hH => ?_)
              refine lv_iadd hx hb dX4_restoreBlock_166 ?_
              obtain ⟨g27, hg27, hf⟩ := sbind hf
              refine g_ast (w1 := [(h_this, .inr (3, FX4 r_this i_this_step i_this_blockCount)), ((r_this 3), gA G 6 t_this_sizes), ((r_this 4), gA G 24 t_this_modes), ((r_this 6), gA G 384 t_this_levels), ((r_this 7), gA G 384 g27), ((r_this 8), .inr (5, FX6 r_this_prediction o3.2.1 o3.1)), ((r_this_prediction 2), gA G 8 o3.2.2.2), ((r_this_prediction 3), gA G 8 o3.2.2.1), ((r_this 9), .inr (6, FX7 r_this_transform)), ((r_this_transform 0), gA G 64 o16.2), ((r_this_transform 1), gA G 8 o16.1)]) X hK hH 4 rfl hg27 dX4_restoreBlock_167 rfl (fun H locs hH => ?_)
              obtain ⟨x28, ex28⟩ : ∃ y : Int32, y = (x21 + (1 : Int32)) := ⟨_, rfl⟩
              have hf := sbnd hf x28 ex28
              refine lv_iinc (v := x28) (lv' := [(6, .int x28), (0, .ref h_this), (1, .int p0), (2, .int p1), (3, .int p2), (4, .int x2), (5, .int x17)]) hx hb dX4_restoreBlock_168 hl (k := 6) rfl (by rw [ex28]; rfl) (by decide) rfl (fun ls hl => ?_)
              refine lv_goto (tgt := 115) hx hb dX4_restoreBlock_171 (by decide) ?_
              exact ih x28 g27 _ _ _ _ (hself23 _ _ hf) hH (lv_sub hl [1, 2, 3, 4, 5, 6, 0] rfl) KK
        refine L23 FUEL (0 : Int32) g18 o23 _ _ _ ho23 hH (lv_sub hl [1, 2, 3, 4, 5, 6, 0] rfl) (fun H locs ls hH hl => ?_)
        obtain ⟨x29, ex29⟩ : ∃ y : Int32, y = (x17 + (1 : Int32)) := ⟨_, rfl⟩
        have hf := sbnd hf x29 ex29
        refine lv_iinc (v := x29) (lv' := [(5, .int x29), (0, .ref h_this), (1, .int p0), (2, .int p1), (3, .int p2), (4, .int x2)]) hx hb dX4_restoreBlock_174 hl (k := 5) rfl (by rw [ex29]; rfl) (by decide) rfl (fun ls hl => ?_)
        refine lv_goto (tgt := 106) hx hb dX4_restoreBlock_177 (by decide) ?_
        exact ih x29 o23 _ _ _ _ (hself19 _ _ hf) hH (lv_sub hl [1, 2, 3, 4, 5, 0] rfl) KK
  refine L19 FUEL (0 : Int32) t_this_result o19 _ _ _ ho19 hH (lv_sub hl [1, 2, 3, 4, 5, 0] rfl) (fun H locs ls hH hl => ?_)
  obtain rfl := Option.some.inj hf
  exact hE _ _ _ _ hH dX4_restoreBlock_180

def lf_X4_makeBlocks (i_this_prediction_average : Int32) (i_this_prediction_size : Int32) (i_this_step : Int32) (t_this_costs : Nat → Int32) (t_this_levels : Nat → Int32) (t_this_modes : Nat → Int32) (t_this_prediction_above : Nat → Int32) (t_this_prediction_left : Nat → Int32) (t_this_result : Nat → Int32) (t_this_sizes : Nat → Int32) (t_this_transform_line : Nat → Int32) (t_this_transform_places : Nat → Int32) (n_p0 : Nat) (t_p0 : Nat → Int32) (p1 : Int32) (p2 : Int32) (p3 : Int32) : Option (Int32 × Int32 × Int32 × (Nat → Int32) × (Nat → Int32) × (Nat → Int32) × (Nat → Int32) × (Nat → Int32) × (Nat → Int32) × (Nat → Int32) × (Nat → Int32) × (Nat → Int32)) :=
jn (fun (z3 : Int32) => (fun (s2 : Int32) => (lf_X4_setSizeAt t_this_sizes p1 p2 s2).bind fun o4 => (fixN FUEL (fun (self17 : (Int32 × Int32 × Int32 × Int32 × (Nat → Int32) × (Nat → Int32) × (Nat → Int32) × (Nat → Int32) × (Nat → Int32) × (Nat → Int32) × (Nat → Int32) × (Nat → Int32)) → Option (Int32 × Int32 × Int32 × (Nat → Int32) × (Nat → Int32) × (Nat → Int32) × (Nat → Int32) × (Nat → Int32) × (Nat → Int32) × (Nat → Int32) × (Nat → Int32))) (z17 : Int32 × Int32 × Int32 × Int32 × (Nat → Int32) × (Nat → Int32) × (Nat → Int32) × (Nat → Int32) × (Nat → Int32) × (Nat → Int32) × (Nat → Int32) × (Nat → Int32)) => (fun (x5 : Int32) (x6 : Int32) (v7 : Int32) (v8 : Int32) (g9 : (Nat → Int32)) (g10 : (Nat → Int32)) (g11 : (Nat → Int32)) (g12 : (Nat → Int32)) (g13 : (Nat → Int32)) (g14 : (Nat → Int32)) (g15 : (Nat → Int32)) (g16 : (Nat → Int32)) => (if (8 : Int32) ≤ x6 then some (x5, v7, v8, g9, g10, g11, g12, g13, g14, g15, g16) else (fixN FUEL (fun (self31 : (Int32 × Int32 × Int32 × Int32 × (Nat → Int32) × (Nat → Int32) × (Nat → Int32) × (Nat → Int32) × (Nat → Int32) × (Nat → Int32) × (Nat → Int32) × (Nat → Int32)) → Option (Int32 × Int32 × Int32 × (Nat → Int32) × (Nat → Int32) × (Nat → Int32) × (Nat → Int32) × (Nat → Int32) × (Nat → Int32) × (Nat → Int32) × (Nat → Int32))) (z31 : Int32 × Int32 × Int32 × Int32 × (Nat → Int32) × (Nat → Int32) × (Nat → Int32) × (Nat → Int32) × (Nat → Int32) × (Nat → Int32) × (Nat → Int32) × (Nat → Int32)) => (fun (x19 : Int32) (x20 : Int32) (v21 : Int32) (v22 : Int32) (g23 : (Nat → Int32)) (g24 : (Nat → Int32)) (g25 : (Nat → Int32)) (g26 : (Nat → Int32)) (g27 : (Nat → Int32)) (g28 : (Nat → Int32)) (g29 : (Nat → Int32)) (g30 : (Nat → Int32)) => (if (8 : Int32) ≤ x20 then some (x19, v21, v22, g23, g24, g25, g26, g27, g28, g29, g30) else (lf_X4_fitBlock v21 v22 i_this_step g23 g24 g25 g26 g27 g28 o4 g29 g30 n_p0 t_p0 (p1 + x20) (p2 + x6) s2).bind fun o33 => bnd (x19 + o33.1) fun x34 => (lf_X4_restoreBlock o33.2.1 o33.2.2.1 i_this_step o33.2.2.2.2.1 o33.2.2.2.2.2.1 o33.2.2.2.2.2.2.1 o33.2.2.2.2.2.2.2.1 g28 o4 o33.2.2.2.2.2.2.2.2.1 o33.2.2.2.2.2.2.2.2.2 (p1 + x20) (p2 + x6) s2).bind fun o35 => bnd (x20 + s2) fun x36 => self31 (x34, x36, o35.1, o35.2.1, o33.2.2.2.1, o33.2.2.2.2.1, o33.2.2.2.2.2.1, o35.2.2.1, o35.2.2.2.1, o35.2.2.2.2.1, o35.2.2.2.2.2.1, o35.2.2.2.2.2.2))) z31.1 z31.2.1 z31.2.2.1 z31.2.2.2.1 z31.2.2.2.2.1 z31.2.2.2.2.2.1 z31.2.2.2.2.2.2.1 z31.2.2.2.2.2.2.2.1 z31.2.2.2.2.2.2.2.2.1 z31.2.2.2.2.2.2.2.2.2.1 z31.2.2.2.2.2.2.2.2.2.2.1 z31.2.2.2.2.2.2.2.2.2.2.2) (x5, (0 : Int32), v7, v8, g9, g10, g11, g12, g13, g14, g15, g16)).bind fun o31 => bnd (x6 + s2) fun x37 => self17 (o31.1, x37, o31.2.1, o31.2.2.1, o31.2.2.2.1, o31.2.2.2.2.1, o31.2.2.2.2.2.1, o31.2.2.2.2.2.2.1, o31.2.2.2.2.2.2.2.1, o31.2.2.2.2.2.2.2.2.1, o31.2.2.2.2.2.2.2.2.2.1, o31.2.2.2.2.2.2.2.2.2.2))) z17.1 z17.2.1 z17.2.2.1 z17.2.2.2.1 z17.2.2.2.2.1 z17.2.2.2.2.2.1 z17.2.2.2.2.2.2.1 z17.2.2.2.2.2.2.2.1 z17.2.2.2.2.2.2.2.2.1 z17.2.2.2.2.2.2.2.2.2.1 z17.2.2.2.2.2.2.2.2.2.2.1 z17.2.2.2.2.2.2.2.2.2.2.2) ((0 : Int32), (0 : Int32), i_this_prediction_average, i_this_prediction_size, t_this_costs, t_this_levels, t_this_modes, t_this_prediction_above, t_this_prediction_left, t_this_result, t_this_transform_line, t_this_transform_places)).bind fun o17 => some (o17.1, o17.2.1, o17.2.2.1, o17.2.2.2.1, o17.2.2.2.2.1, o17.2.2.2.2.2.1, o17.2.2.2.2.2.2.1, o17.2.2.2.2.2.2.2.1, o17.2.2.2.2.2.2.2.2.1, o4, o17.2.2.2.2.2.2.2.2.2.1, o17.2.2.2.2.2.2.2.2.2.2)) z3) (fun k3 => (if p3 = (0 : Int32) then k3 (8 : Int32) else k3 (4 : Int32)))
abbrev rm_X4_makeBlocks : Room := { frames := 4, cells := 0, slots := 0, locals := 104 }
theorem hd_X4_makeBlocks : yX4_makeBlocks.cls ≠ "java/lang/invoke/MethodHandle" ∧ yX4_makeBlocks.cls ≠ "java/lang/invoke/VarHandle" ∧ (parseMethodDescriptor yX4_makeBlocks.desc).map (fun d => d.parameters.length) = some 4 := by decide +kernel
set_option maxHeartbeats 4000000 in
set_option maxRecDepth 100000 in
theorem ct_X4_makeBlocks (l : Launch) (G : gG) (h_this : Nat) (r_this r_this_prediction r_this_transform : Nat → Nat) (i_this_step i_this_blockCount i_this_prediction_size i_this_prediction_average : Int32) (a_p0 n_p0 : Nat) (t_this_costs t_this_levels t_this_modes t_this_prediction_above t_this_prediction_left t_this_result t_this_sizes t_this_transform_line t_this_transform_places t_p0 : Nat → Int32) (p1 p2 p3 : Int32) (sz : Nat) (out : Int32 × Int32 × Int32 × (Nat → Int32) × (Nat → Int32) × (Nat → Int32) × (Nat → Int32) × (Nat → Int32) × (Nat → Int32) × (Nat → Int32) × (Nat → Int32) × (Nat → Int32)) (hf : lf_X4_makeBlocks i_this_prediction_average i_this_prediction_size i_this_step t_this_costs t_this_levels t_this_modes t_this_prediction_above t_this_prediction_left t_this_result t_this_sizes t_this_transform_line t_this_transform_places n_p0 t_p0 p1 p2 p3 = some out) : gI l G yX4_makeBlocks cX4_makeBlocks 9 .int rm_X4_makeBlocks [.ref h_this, .ref a_p0, .int p1, .int p2, .int p3] sz [(h_this, .inr (3, FX4 r_this i_this_step i_this_blockCount)), ((r_this 3), gA G 6 t_this_sizes), ((r_this 4), gA G 24 t_this_modes), ((r_this 5), gA G 24 t_this_costs), ((r_this 6), gA G 384 t_this_levels), ((r_this 7), gA G 384 t_this_result), ((r_this 8), .inr (5, FX6 r_this_prediction i_this_prediction_size i_this_prediction_average)), ((r_this_prediction 2), gA G 8 t_this_prediction_left), ((r_this_prediction 3), gA G 8 t_this_prediction_above), ((r_this 9), .inr (6, FX7 r_this_transform)), ((r_this_transform 0), gA G 64 t_this_transform_places), ((r_this_transform 1), gA G 8 t_this_transform_line), (a_p0, gA G n_p0 t_p0)] out.1 [(h_this, .inr (3, FX4 r_this i_this_step i_this_blockCount)), ((r_this 3), gA G 6 out.2.2.2.2.2.2.2.2.2.1), ((r_this 4), gA G 24 out.2.2.2.2.2.1), ((r_this 5), gA G 24 out.2.2.2.1), ((r_this 6), gA G 384 out.2.2.2.2.1), ((r_this 7), gA G 384 out.2.2.2.2.2.2.2.2.1), ((r_this 8), .inr (5, FX6 r_this_prediction out.2.2.1 out.2.1)), ((r_this_prediction 2), gA G 8 out.2.2.2.2.2.2.2.1), ((r_this_prediction 3), gA G 8 out.2.2.2.2.2.2.1), ((r_this 9), .inr (6, FX7 r_this_transform)), ((r_this_transform 0), gA G 64 out.2.2.2.2.2.2.2.2.2.2.2), ((r_this_transform 1), gA G 8 out.2.2.2.2.2.2.2.2.2.2.1), (a_p0, gA G n_p0 t_p0)] := by
  refine gI_of (by decide +kernel) (Nat.le_of_ble_eq_true rfl) ?_
  intro p e s m args below meth c ls A Q X hK hA hsz hH hl hE
  subst hsz
  have hx := X.1
  have hb := X.2.1
  unfold lf_X4_makeBlocks at hf
  have hl : lv_has ls 9 [(0, .ref h_this), (1, .ref a_p0), (2, .int p1), (3, .int p2), (4, .int p3)] := hl
  have hH : gH G A s.heap s.heap [] [(h_this, .inr (3, FX4 r_this i_this_step i_this_blockCount)), ((r_this 3), gA G 6 t_this_sizes), ((r_this 4), gA G 24 t_this_modes), ((r_this 5), gA G 24 t_this_costs), ((r_this 6), gA G 384 t_this_levels), ((r_this 7), gA G 384 t_this_result), ((r_this 8), .inr (5, FX6 r_this_prediction i_this_prediction_size i_this_prediction_average)), ((r_this_prediction 2), gA G 8 t_this_prediction_left), ((r_this_prediction 3), gA G 8 t_this_prediction_above), ((r_this 9), .inr (6, FX7 r_this_transform)), ((r_this_transform 0), gA G 64 t_this_transform_places), ((r_this_transform 1), gA G 8 t_this_transform_line), (a_p0, gA G n_p0 t_p0)] := hH
  refine lv_iload hx hb dX4_makeBlocks_0 (lv_at hl 4 rfl) ?_
  obtain ⟨k3, hk3, hf⟩ := sjn hf
  have J3 : ∀ (s2 : Int32) (H : Heap) (locs : List Loc) (ls : Array Slot), k3 s2 = some out → gH G A s.heap H locs [(h_this, .inr (3, FX4 r_this i_this_step i_this_blockCount)), ((r_this 3), gA G 6 t_this_sizes), ((r_this 4), gA G 24 t_this_modes), ((r_this 5), gA G 24 t_this_costs), ((r_this 6), gA G 384 t_this_levels), ((r_this 7), gA G 384 t_this_result), ((r_this 8), .inr (5, FX6 r_this_prediction i_this_prediction_size i_this_prediction_average)), ((r_this_prediction 2), gA G 8 t_this_prediction_left), ((r_this_prediction 3), gA G 8 t_this_prediction_above), ((r_this 9), .inr (6, FX7 r_this_transform)), ((r_this_transform 0), gA G 64 t_this_transform_places), ((r_this_transform 1), gA G 8 t_this_transform_line), (a_p0, gA G n_p0 t_p0)] → lv_has ls 9 [(0, .ref h_this), (1, .ref a_p0), (2, .int p1), (3, .int p2)] → W p l e rm_X4_makeBlocks s m args below meth c H locs 0 0 Q (F0 m 11 ls [.int s2]) := by
    intro s2 H locs ls hf hH hl
    have hf := hk3 _ _ hf
    refine lv_istore (lv' := [(5, .int s2), (0, .ref h_this), (1, .ref a_p0), (2, .int p1), (3, .int p2)]) hx hb dX4_makeBlocks_11 hl (by decide) rfl (fun ls hl => ?_)
    refine lv_iconst (v := (0 : Int32)) hx hb dX4_makeBlocks_13 (by decide) ?_
    refine lv_istore (lv' := [(6, .int (0 : Int32)), (5, .int s2), (0, .ref h_this), (1, .ref a_p0), (2, .int p1), (3, .int p2)]) hx hb dX4_makeBlocks_14 hl (by decide) rfl (fun ls hl => ?_)
    refine lv_aload_n hx hb dX4_makeBlocks_16 rfl (lv_at hl 2 rfl) ?_
    refine lv_iload_n hx hb dX4_makeBlocks_17 rfl (lv_at hl 4 rfl) ?_
    refine lv_iload_n hx hb dX4_makeBlocks_18 rfl (lv_at hl 5 rfl) ?_
    refine lv_iload hx hb dX4_makeBlocks_19 (lv_at hl 1 rfl) ?_
    obtain ⟨o4, ho4, hf⟩ := sbind hf
    refine g_cVv (isC := [0, 1]) (isR := [2, 3, 4, 5, 6, 7, 8, 9, 10, 11, 12]) (isP := [11, 12, 0, 1, 2, 3, 4, 5, 6, 7, 8, 9, 10]) (wr := [((r_this 4), gA G 24 t_this_modes), ((r_this 5), gA G 24 t_this_costs), ((r_this 6), gA G 384 t_this_levels), ((r_this 7), gA G 384 t_this_result), ((r_this 8), .inr (5, FX6 r_this_prediction i_this_prediction_size i_this_prediction_average)), ((r_this_prediction 2), gA G 8 t_this_prediction_left), ((r_this_prediction 3), gA G 8 t_this_prediction_above), ((r_this 9), .inr (6, FX7 r_this_transform)), ((r_this_transform 0), gA G 64 t_this_transform_places), ((r_this_transform 1), gA G 8 t_this_transform_line), (a_p0, gA G n_p0 t_p0)]) (w2 := [(h_this, .inr (3, FX4 r_this i_this_step i_this_blockCount)), ((r_this 3), gA G 6 o4), ((r_this 4), gA G 24 t_this_modes), ((r_this 5), gA G 24 t_this_costs), ((r_this 6), gA G 384 t_this_levels), ((r_this 7), gA G 384 t_this_result), ((r_this 8), .inr (5, FX6 r_this_prediction i_this_prediction_size i_this_prediction_average)), ((r_this_prediction 2), gA G 8 t_this_prediction_left), ((r_this_prediction 3), gA G 8 t_this_prediction_above), ((r_this 9), .inr (6, FX7 r_this_transform)), ((r_this_transform 0), gA G 64 t_this_transform_places), ((r_this_transform 1), gA G 8 t_this_transform_line), (a_p0, gA G n_p0 t_p0)]) (q0 := 0) X hK hA hH hl (ct_X4_setSizeAt l G h_this r_this i_this_step i_this_blockCount t_this_sizes p1 p2 s2 H.size o4 ho4) ⟨q_4, q_598, hd_X4_setSizeAt, rfl, rfl, ⟨Nat.le_of_ble_eq_true rfl, Nat.le_of_ble_eq_true rfl⟩, ⟨Nat.zero_le _, Nat.zero_le _⟩⟩ q_815 q_596 q_597 rfl rfl ⟨rfl, rfl, rfl, rfl, by decide, rfl, rfl⟩ rfl rfl (Nat.le_of_ble_eq_true rfl) dX4_makeBlocks_21 (fun H locs hH => ?_)
    refine lv_iconst (v := (0 : Int32)) hx hb dX4_makeBlocks_24 (by decide) ?_
    refine lv_istore (lv' := [(7, .int (0 : Int32)), (6, .int (0 : Int32)), (5, .int s2), (0, .ref h_this), (1, .ref a_p0), (2, .int p1), (3, .int p2)]) hx hb dX4_makeBlocks_25 hl (by decide) rfl (fun ls hl => ?_)
    obtain ⟨o17, ho17, hf⟩ := sbind hf
    obtain ⟨FF17, hFF17, ho17⟩ := sfix ho17
    have L17 : ∀ (n : Nat) (x5 : Int32) (x6 : Int32) (v7 : Int32) (v8 : Int32) (g9 : (Nat → Int32)) (g10 : (Nat → Int32)) (g11 : (Nat → Int32)) (g12 : (Nat → Int32)) (g13 : (Nat → Int32)) (g14 : (Nat → Int32)) (g15 : (Nat → Int32)) (g16 : (Nat → Int32)) (b17 : Int32 × Int32 × Int32 × (Nat → Int32) × (Nat → Int32) × (Nat → Int32) × (Nat → Int32) × (Nat → Int32) × (Nat → Int32) × (Nat → Int32) × (Nat → Int32)) (H : Heap) (locs : List Loc) (ls : Array Slot), fixN n FF17 (x5, x6, v7, v8, g9, g10, g11, g12, g13, g14, g15, g16) = some b17 → gH G A s.heap H locs [(h_this, .inr (3, FX4 r_this i_this_step i_this_blockCount)), ((r_this 3), gA G 6 o4), ((r_this 4), gA G 24 g11), ((r_this 5), gA G 24 g9), ((r_this 6), gA G 384 g10), ((r_this 7), gA G 384 g14), ((r_this 8), .inr (5, FX6 r_this_prediction v8 v7)), ((r_this_prediction 2), gA G 8 g13), ((r_this_prediction 3), gA G 8 g12), ((r_this 9), .inr (6, FX7 r_this_transform)), ((r_this_transform 0), gA G 64 g16), ((r_this_transform 1), gA G 8 g15), (a_p0, gA G n_p0 t_p0)] → lv_has ls 9 [(0, .ref h_this), (1, .ref a_p0), (2, .int p1), (3, .int p2), (5, .int s2), (6, .int x5), (7, .int x6)] → (∀ (H : Heap) (locs : List Loc) (ls : Array Slot), gH G A s.heap H locs [(h_this, .inr (3, FX4 r_this i_this_step i_this_blockCount)), ((r_this 3), gA G 6 o4), ((r_this 4), gA G 24 b17.2.2.2.2.2.1), ((r_this 5), gA G 24 b17.2.2.2.1), ((r_this 6), gA G 384 b17.2.2.2.2.1), ((r_this 7), gA G 384 b17.2.2.2.2.2.2.2.2.1), ((r_this 8), .inr (5, FX6 r_this_prediction b17.2.2.1 b17.2.1)), ((r_this_prediction 2), gA G 8 b17.2.2.2.2.2.2.2.1), ((r_this_prediction 3), gA G 8 b17.2.2.2.2.2.2.1), ((r_this 9), .inr (6, FX7 r_this_transform)), ((r_this_transform 0), gA G 64 b17.2.2.2.2.2.2.2.2.2.2), ((r_this_transform 1), gA G 8 b17.2.2.2.2.2.2.2.2.2.1), (a_p0, gA G n_p0 t_p0)] → lv_has ls 9 [(6, .int b17.1)] → W p l e rm_X4_makeBlocks s m args below meth c H locs 0 0 Q (F0 m 98 ls [])) → W p l e rm_X4_makeBlocks s m args below meth c H locs 0 0 Q (F0 m 27 ls []) := by
      intro n
      induction n with
      | zero => intro x5 x6 v7 v8 g9 g10 g11 g12 g13 g14 g15 g16 b17 H locs ls hf; exact sfix0 hf
      | succ n ih =>
        intro x5 x6 v7 v8 g9 g10 g11 g12 g13 g14 g15 g16 b17 H locs ls hf hH hl KK
        obtain ⟨self17, hself17, hf⟩ := sstep hFF17 hf
        refine lv_iload hx hb dX4_makeBlocks_27 (lv_at hl 6 rfl) ?_
        refine lv_bipush (v := (8 : Int32)) hx hb dX4_makeBlocks_29 (by decide) ?_
        refine lv_icmp_ge (tgt := 98) hx hb dX4_makeBlocks_31 (by decide) (fun c18 => ?_) (fun c18 => ?_)
        · have hf := spos hf c18
          obtain rfl := Option.some.inj hf
          exact KK _ _ _ hH (lv_sub hl [5] rfl)
        · have hf := sneg hf c18
          refine lv_iconst (v := (0 : Int32)) hx hb dX4_makeBlocks_34 (by decide) ?_
          refine lv_istore (lv' := [(8, .int (0 : Int32)), (0, .ref h_this), (1, .ref a_p0), (2, .int p1), (3, .int p2), (5, .int s2), (6, .int x5), (7, .int x6)]) hx hb dX4_makeBlocks_35 hl (by decide) rfl (fun ls hl => ?_)
          obtain ⟨o31, ho31, hf⟩ := sbind hf
          obtain ⟨FF31, hFF31, ho31⟩ := sfix ho31
          have L31 : ∀ (n : Nat) (x19 : Int32) (x20 : Int32) (v21 : Int32) (v22 : Int32) (g23 : (Nat → Int32)) (g24 : (Nat → Int32)) (g25 : (Nat → Int32)) (g26 : (Nat → Int32)) (g27 : (Nat → Int32)) (g28 : (Nat → Int32)) (g29 : (Nat → Int32)) (g30 : (Nat → Int32)) (b31 : Int32 × Int32 × Int32 × (Nat → Int32) × (Nat → Int32) × (Nat → Int32) × (Nat → Int32) × (Nat → Int32) × (Nat → Int32) × (Nat → Int32) × (Nat → Int32)) (H : Heap) (locs : List Loc) (ls : Array Slot), fixN n FF31 (x19, x20, v21, v22, g23, g24, g25, g26, g27, g28, g29, g30) = some b31 → gH G A s.heap H locs [(h_this, .inr (3, FX4 r_this i_this_step i_this_blockCount)), ((r_this 3), gA G 6 o4), ((r_this 4), gA G 24 g25), ((r_this 5), gA G 24 g23), ((r_this 6), gA G 384 g24), ((r_this 7), gA G 384 g28), ((r_this 8), .inr (5, FX6 r_this_prediction v22 v21)), ((r_this_prediction 2), gA G 8 g27), ((r_this_prediction 3), gA G 8 g26), ((r_this 9), .inr (6, FX7 r_this_transform)), ((r_this_transform 0), gA G 64 g30), ((r_this_transform 1), gA G 8 g29), (a_p0, gA G n_p0 t_p0)] → lv_has ls 9 [(0, .ref h_this), (1, .ref a_p0), (2, .int p1), (3, .int p2), (5, .int s2), (6, .int x19), (7, .int x6), (8, .int x20)] → (∀ (H : Heap) (locs : List Loc) (ls : Array Slot), gH G A s.heap H locs [(h_this, .inr (3, FX4 r_this i_this_step i_this_blockCount)), ((r_this 3), gA G 6 o4), ((r_this 4), gA G 24 b31.2.2.2.2.2.1), ((r_this 5), gA G 24 b31.2.2.2.1), ((r_this 6), gA G 384 b31.2.2.2.2.1), ((r_this 7), gA G 384 b31.2.2.2.2.2.2.2.2.1), ((r_this 8), .inr (5, FX6 r_this_prediction b31.2.2.1 b31.2.1)), ((r_this_prediction 2), gA G 8 b31.2.2.2.2.2.2.2.1), ((r_this_prediction 3), gA G 8 b31.2.2.2.2.2.2.1), ((r_this 9), .inr (6, FX7 r_this_transform)), ((r_this_transform 0), gA G 64 b31.2.2.2.2.2.2.2.2.2.2), ((r_this_transform 1), gA G 8 b31.2.2.2.2.2.2.2.2.2.1), (a_p0, gA G n_p0 t_p0)] → lv_has ls 9 [(0, .ref h_this), (1, .ref a_p0), (2, .int p1), (3, .int p2), (5, .int s2), (6, .int b31.1), (7, .int x6)] → W p l e rm_X4_makeBlocks s m args below meth c H locs 0 0 Q (F0 m 88 ls [])) → W p l e rm_X4_makeBlocks s m args below meth c H locs 0 0 Q (F0 m 37 ls []) := by
            intro n
            induction n with
            | zero => intro x19 x20 v21 v22 g23 g24 g25 g26 g27 g28 g29 g30 b31 H locs ls hf; exact sfix0 hf
            | succ n ih =>
              intro x19 x20 v21 v22 g23 g24 g25 g26 g27 g28 g29 g30 b31 H locs ls hf hH hl KK
              obtain ⟨self31, hself31, hf⟩ := sstep hFF31 hf
              refine lv_iload hx hb dX4_makeBlocks_37 (lv_at hl 7 rfl) ?_
              refine lv_bipush (v := (8 : Int32)) hx hb dX4_makeBlocks_39 (by decide) ?_
              refine lv_icmp_ge (tgt := 88) hx hb dX4_makeBlocks_41 (by decide) (fun c32 => ?_) (fun c32 => ?_)
              · have hf := spos hf c32
                obtain rfl := Option.some.inj hf
                exact KK _ _ _ hH (lv_sub hl [0, 1, 2, 3, 4, 5, 6] rfl)
              · have hf := sneg hf c32
                refine lv_iload hx hb dX4_makeBlocks_44 (lv_at hl 5 rfl) ?_
                refine lv_aload_n hx hb dX4_makeBlocks_46 rfl (lv_at hl 0 rfl) ?_
                refine lv_aload_n hx hb dX4_makeBlocks_47 rfl (lv_at hl 1 rfl) ?_
                refine lv_iload_n hx hb dX4_makeBlocks_48 rfl (lv_at hl 2 rfl) ?_
                refine lv_iload hx hb dX4_makeBlocks_49 (lv_at hl 7 rfl) ?_
                refine lv_iadd hx hb dX4_makeBlocks_51 ?_
                refine lv_iload_n hx hb dX4_makeBlocks_52 rfl (lv_at hl 3 rfl) ?_
                refine lv_iload hx hb dX4_makeBlocks_53 (lv_at hl 6 rfl) ?_
                refine lv_iadd hx hb dX4_makeBlocks_55 ?_
                refine lv_iload hx hb dX4_makeBlocks_56 (lv_at hl 4 rfl) ?_
                obtain ⟨o33, ho33, hf⟩ := sbind hf
                refine g_cVi (isC := [0, 1, 2, 3, 4, 5, 6, 7, 8, 9, 10, 11, 12]) (isR := []) (isP := [0, 1, 2, 3, 4, 5, 6, 7, 8, 9, 10, 11, 12]) (wr := []) (w2 := [(h_this, .inr (3, FX4 r_this i_this_step i_this_blockCount)), ((r_this 3), gA G 6 o4), ((r_this 4), gA G 24 o33.2.2.2.2.2.1), ((r_this 5), gA G 24 o33.2.2.2.1), ((r_this 6), gA G 384 o33.2.2.2.2.1), ((r_this 7), gA G 384 g28), ((r_this 8), .inr (5, FX6 r_this_prediction o33.2.2.1 o33.2.1)), ((r_this_prediction 2), gA G 8 o33.2.2.2.2.2.2.2.1), ((r_this_prediction 3), gA G 8 o33.2.2.2.2.2.2.1), ((r_this 9), .inr (6, FX7 r_this_transform)), ((r_this_transform 0), gA G 64 o33.2.2.2.2.2.2.2.2.2), ((r_this_transform 1), gA G 8 o33.2.2.2.2.2.2.2.2.1), (a_p0, gA G n_p0 t_p0)]) (q0 := 0) X hK hA hH hl (ct_X4_fitBlock l G h_this r_this r_this_prediction r_this_transform i_this_step i_this_blockCount v22 v21 a_p0 n_p0 g23 g24 g25 g26 g27 g28 o4 g29 g30 t_p0 (p1 + x20) (p2 + x6) s2 H.size o33 ho33) ⟨q_4, q_819, hd_X4_fitBlock, rfl, rfl, ⟨Nat.le_of_ble_eq_true rfl, Nat.le_of_ble_eq_true rfl⟩, ⟨Nat.zero_le _, Nat.zero_le _⟩⟩ q_816 q_818 qs_21 rfl rfl ⟨rfl, rfl, rfl, rfl, by decide, rfl, rfl⟩ rfl rfl (Nat.le_of_ble_eq_true rfl) dX4_makeBlocks_58 (fun H locs hH => ?_)
                refine lv_iadd hx hb dX4_makeBlocks_61 ?_
                refine lv_topi (fun x34 ex34 => ?_)
                have hf := sbnd hf x34 ex34
                refine lv_istore (lv' := [(6, .int x34), (0, .ref h_this), (1, .ref a_p0), (2, .int p1), (3, .int p2), (5, .int s2), (7, .int x6), (8, .int x20)]) hx hb dX4_makeBlocks_62 hl (by decide) rfl (fun ls hl => ?_)
                refine lv_aload_n hx hb dX4_makeBlocks_64 rfl (lv_at hl 1 rfl) ?_
                refine lv_iload_n hx hb dX4_makeBlocks_65 rfl (lv_at hl 3 rfl) ?_
                refine lv_iload hx hb dX4_makeBlocks_66 (lv_at hl 7 rfl) ?_
                refine lv_iadd hx hb dX4_makeBlocks_68 ?_
                refine lv_iload_n hx hb dX4_makeBlocks_69 rfl (lv_at hl 4 rfl) ?_
                refine lv_iload hx hb dX4_makeBlocks_70 (lv_at hl 6 rfl) ?_
                refine lv_iadd hx hb dX4_makeBlocks_72 ?_
                refine lv_iload hx hb dX4_makeBlocks_73 (lv_at hl 5 rfl) ?_
                obtain ⟨o35, ho35, hf⟩ := sbind hf
                refine g_cVv (isC := [0, 1, 2, 4, 5, 6, 7, 8, 9, 10, 11]) (isR := [3, 12]) (isP := [2, 3, 4, 0, 5, 6, 7, 8, 9, 10, 11, 12, 1]) (wr := [((r_this 5), gA G 24 o33.2.2.2.1), (a_p0, gA G n_p0 t_p0)]) (w2 := [(h_this, .inr (3, FX4 r_this i_this_step i_this_blockCount)), ((r_this 3), gA G 6 o4), ((r_this 4), gA G 24 o33.2.2.2.2.2.1), ((r_this 5), gA G 24 o33.2.2.2.1), ((r_this 6), gA G 384 o33.2.2.2.2.1), ((r_this 7), gA G 384 o35.2.2.2.2.1), ((r_this 8), .inr (5, FX6 r_this_prediction o35.2.1 o35.1)), ((r_this_prediction 2), gA G 8 o35.2.2.2.1), ((r_this_prediction 3), gA G 8 o35.2.2.1), ((r_this 9), .inr (6, FX7 r_this_transform)), ((r_this_transform 0), gA G 64 o35.2.2.2.2.2.2), ((r_this_transform 1), gA G 8 o35.2.2.2.2.2.1), (a_p0, gA G n_p0 t_p0)]) (q0 := 0) X hK hA hH hl (ct_X4_restoreBlock l G h_this r_this r_this_prediction r_this_transform i_this_step i_this_blockCount o33.2.2.1 o33.2.1 o33.2.2.2.2.1 o33.2.2.2.2.2.1 o33.2.2.2.2.2.2.1 o33.2.2.2.2.2.2.2.1 g28 o4 o33.2.2.2.2.2.2.2.2.1 o33.2.2.2.2.2.2.2.2.2 (p1 + x20) (p2 + x6) s2 H.size o35 ho35) ⟨q_4, q_623, hd_X4_restoreBlock, rfl, rfl, ⟨Nat.le_of_ble_eq_true rfl, Nat.le_of_ble_eq_true rfl⟩, ⟨Nat.zero_le _, Nat.zero_le _⟩⟩ q_620 q_622 qs_10 rfl rfl ⟨rfl, rfl, rfl, rfl, by decide, rfl, rfl⟩ rfl rfl (Nat.le_of_ble_eq_true rfl) dX4_makeBlocks_75 (fun H locs hH => ?_)
                refine lv_iload hx hb dX4_makeBlocks_78 (lv_at hl 7 rfl) ?_
                refine lv_iload hx hb dX4_makeBlocks_80 (lv_at hl 5 rfl) ?_
                refine lv_iadd hx hb dX4_makeBlocks_82 ?_
                refine lv_topi (fun x36 ex36 => ?_)
                have hf := sbnd hf x36 ex36
                refine lv_istore (lv' := [(8, .int x36), (6, .int x34), (0, .ref h_this), (1, .ref a_p0), (2, .int p1), (3, .int p2), (5, .int s2), (7, .int x6)]) hx hb dX4_makeBlocks_83 hl (by decide) rfl (fun ls hl => ?_)
                refine lv_goto (tgt := 37) hx hb dX4_makeBlocks_85 (by decide) ?_
                exact ih x34 x36 o35.1 o35.2.1 o33.2.2.2.1 o33.2.2.2.2.1 o33.2.2.2.2.2.1 o35.2.2.1 o35.2.2.2.1 o35.2.2.2.2.1 o35.2.2.2.2.2.1 o35.2.2.2.2.2.2 _ _ _ _ (hself31 _ _ hf) hH (lv_sub hl [2, 3, 4, 5, 6, 1, 7, 0] rfl) KK
          refine L31 FUEL x5 (0 : Int32) v7 v8 g9 g10 g11 g12 g13 g14 g15 g16 o31 _ _ _ ho31 hH (lv_sub hl [1, 2, 3, 4, 5, 6, 7, 0] rfl) (fun H locs ls hH hl => ?_)
          refine lv_iload hx hb dX4_makeBlocks_88 (lv_at hl 6 rfl) ?_
          refine lv_iload hx hb dX4_makeBlocks_90 (lv_at hl 4 rfl) ?_
          refine lv_iadd hx hb dX4_makeBlocks_92 ?_
          refine lv_topi (fun x37 ex37 => ?_)
          have hf := sbnd hf x37 ex37
          refine lv_istore (lv' := [(7, .int x37), (0, .ref h_this), (1, .ref a_p0), (2, .int p1), (3, .int p2), (5, .int s2), (6, .int o31.1)]) hx hb dX4_makeBlocks_93 hl (by decide) rfl (fun ls hl => ?_)
          refine lv_goto (tgt := 27) hx hb dX4_makeBlocks_95 (by decide) ?_
          exact ih o31.1 x37 o31.2.1 o31.2.2.1 o31.2.2.2.1 o31.2.2.2.2.1 o31.2.2.2.2.2.1 o31.2.2.2.2.2.2.1 o31.2.2.2.2.2.2.2.1 o31.2.2.2.2.2.2.2.2.1 o31.2.2.2.2.2.2.2.2.2.1 o31.2.2.2.2.2.2.2.2.2.2 _ _ _ _ (hself17 _ _ hf) hH (lv_sub hl [1, 2, 3, 4, 5, 6, 0] rfl) KK
    refine L17 FUEL (0 : Int32) (0 : Int32) i_this_prediction_average i_this_prediction_size t_this_costs t_this_levels t_this_modes t_this_prediction_above t_this_prediction_left t_this_result t_this_transform_line t_this_transform_places o17 _ _ _ ho17 hH (lv_sub hl [3, 4, 5, 6, 2, 1, 0] rfl) (fun H locs ls hH hl => ?_)
    refine lv_iload hx hb dX4_makeBlocks_98 (lv_at hl 0 rfl) ?_
    obtain rfl := Option.some.inj hf
    exact hE _ _ _ _ rfl hH dX4_makeBlocks_100
  refine lv_if_eq (tgt := 9) hx hb dX4_makeBlocks_2 (by decide) (fun c1 => ?_) (fun c1 => ?_)
  · have hf := spos hf c1
    refine lv_bipush (v := (8 : Int32)) hx hb dX4_makeBlocks_9 (by decide) ?_
    exact J3 (8 : Int32) _ _ _ hf hH (lv_sub hl [0, 1, 2, 3] rfl)
  · have hf := sneg hf c1
    refine lv_iconst (v := (4 : Int32)) hx hb dX4_makeBlocks_5 (by decide) ?_
    refine lv_goto (tgt := 11) hx hb dX4_makeBlocks_6 (by decide) ?_
    exact J3 (4 : Int32) _ _ _ hf hH (lv_sub hl [0, 1, 2, 3] rfl)

def lf_X4_makeTile (i_this_blockCount : Int32) (i_this_prediction_average : Int32) (i_this_prediction_size : Int32) (i_this_step : Int32) (t_this_costs : Nat → Int32) (t_this_levels : Nat → Int32) (t_this_modes : Nat → Int32) (t_this_prediction_above : Nat → Int32) (t_this_prediction_left : Nat → Int32) (t_this_result : Nat → Int32) (t_this_sizes : Nat → Int32) (t_this_transform_line : Nat → Int32) (t_this_transform_places : Nat → Int32) (n_p0 : Nat) (t_p0 : Nat → Int32) (p1 : Int32) (p2 : Int32) : Option (Int32 × Int32 × Int32 × (Nat → Int32) × (Nat → Int32) × (Nat → Int32) × (Nat → Int32) × (Nat → Int32) × (Nat → Int32) × (Nat → Int32) × (Nat → Int32) × (Nat → Int32)) :=
(lf_X4_makeBlocks i_this_prediction_average i_this_prediction_size i_this_step t_this_costs t_this_levels t_this_modes t_this_prediction_above t_this_prediction_left t_this_result t_this_sizes t_this_transform_line t_this_transform_places n_p0 t_p0 p1 p2 (1 : Int32)).bind fun o1 => (lf_X4_makeBlocks o1.2.1 o1.2.2.1 i_this_step o1.2.2.2.1 o1.2.2.2.2.1 o1.2.2.2.2.2.1 o1.2.2.2.2.2.2.1 o1.2.2.2.2.2.2.2.1 o1.2.2.2.2.2.2.2.2.1 o1.2.2.2.2.2.2.2.2.2.1 o1.2.2.2.2.2.2.2.2.2.2.1 o1.2.2.2.2.2.2.2.2.2.2.2 n_p0 t_p0 p1 p2 (0 : Int32)).bind fun o2 => (if o2.1 ≤ o1.1 then some ((i_this_blockCount + (1 : Int32)), o2.2.1, o2.2.2.1, o2.2.2.2.1, o2.2.2.2.2.1, o2.2.2.2.2.2.1, o2.2.2.2.2.2.2.1, o2.2.2.2.2.2.2.2.1, o2.2.2.2.2.2.2.2.2.1, o2.2.2.2.2.2.2.2.2.2.1, o2.2.2.2.2.2.2.2.2.2.2.1, o2.2.2.2.2.2.2.2.2.2.2.2) else (lf_X4_makeBlocks o2.2.1 o2.2.2.1 i_this_step o2.2.2.2.1 o2.2.2.2.2.1 o2.2.2.2.2.2.1 o2.2.2.2.2.2.2.1 o2.2.2.2.2.2.2.2.1 o2.2.2.2.2.2.2.2.2.1 o2.2.2.2.2.2.2.2.2.2.1 o2.2.2.2.2.2.2.2.2.2.2.1 o2.2.2.2.2.2.2.2.2.2.2.2 n_p0 t_p0 p1 p2 (1 : Int32)).bind fun o4 => some ((i_this_blockCount + (4 : Int32)), o4.2.1, o4.2.2.1, o4.2.2.2.1, o4.2.2.2.2.1, o4.2.2.2.2.2.1, o4.2.2.2.2.2.2.1, o4.2.2.2.2.2.2.2.1, o4.2.2.2.2.2.2.2.2.1, o4.2.2.2.2.2.2.2.2.2.1, o4.2.2.2.2.2.2.2.2.2.2.1, o4.2.2.2.2.2.2.2.2.2.2.2))
abbrev rm_X4_makeTile : Room := { frames := 5, cells := 0, slots := 0, locals := 132 }
theorem hd_X4_makeTile : yX4_makeTile.cls ≠ "java/lang/invoke/MethodHandle" ∧ yX4_makeTile.cls ≠ "java/lang/invoke/VarHandle" ∧ (parseMethodDescriptor yX4_makeTile.desc).map (fun d => d.parameters.length) = some 3 := by decide +kernel
set_option maxHeartbeats 4000000 in
set_option maxRecDepth 100000 in
theorem ct_X4_makeTile (l : Launch) (G : gG) (h_this : Nat) (r_this r_this_prediction r_this_transform : Nat → Nat) (i_this_step i_this_blockCount i_this_prediction_size i_this_prediction_average : Int32) (a_p0 n_p0 : Nat) (t_this_costs t_this_levels t_this_modes t_this_prediction_above t_this_prediction_left t_this_result t_this_sizes t_this_transform_line t_this_transform_places t_p0 : Nat → Int32) (p1 p2 : Int32) (sz : Nat) (out : Int32 × Int32 × Int32 × (Nat → Int32) × (Nat → Int32) × (Nat → Int32) × (Nat → Int32) × (Nat → Int32) × (Nat → Int32) × (Nat → Int32) × (Nat → Int32) × (Nat → Int32)) (hf : lf_X4_makeTile i_this_blockCount i_this_prediction_average i_this_prediction_size i_this_step t_this_costs t_this_levels t_this_modes t_this_prediction_above t_this_prediction_left t_this_result t_this_sizes t_this_transform_line t_this_transform_places n_p0 t_p0 p1 p2 = some out) : gV l G yX4_makeTile cX4_makeTile 6 rm_X4_makeTile [.ref h_this, .ref a_p0, .int p1, .int p2] sz [(h_this, .inr (3, FX4 r_this i_this_step i_this_blockCount)), ((r_this 3), gA G 6 t_this_sizes), ((r_this 4), gA G 24 t_this_modes), ((r_this 5), gA G 24 t_this_costs), ((r_this 6), gA G 384 t_this_levels), ((r_this 7), gA G 384 t_this_result), ((r_this 8), .inr (5, FX6 r_this_prediction i_this_prediction_size i_this_prediction_average)), ((r_this_prediction 2), gA G 8 t_this_prediction_left), ((r_this_prediction 3), gA G 8 t_this_prediction_above), ((r_this 9), .inr (6, FX7 r_this_transform)), ((r_this_transform 0), gA G 64 t_this_transform_places), ((r_this_transform 1), gA G 8 t_this_transform_line), (a_p0, gA G n_p0 t_p0)] [(h_this, .inr (3, FX4 r_this i_this_step out.1)), ((r_this 3), gA G 6 out.2.2.2.2.2.2.2.2.2.1), ((r_this 4), gA G 24 out.2.2.2.2.2.1), ((r_this 5), gA G 24 out.2.2.2.1), ((r_this 6), gA G 384 out.2.2.2.2.1), ((r_this 7), gA G 384 out.2.2.2.2.2.2.2.2.1), ((r_this 8), .inr (5, FX6 r_this_prediction out.2.2.1 out.2.1)), ((r_this_prediction 2), gA G 8 out.2.2.2.2.2.2.2.1), ((r_this_prediction 3), gA G 8 out.2.2.2.2.2.2.1), ((r_this 9), .inr (6, FX7 r_this_transform)), ((r_this_transform 0), gA G 64 out.2.2.2.2.2.2.2.2.2.2.2), ((r_this_transform 1), gA G 8 out.2.2.2.2.2.2.2.2.2.2.1), (a_p0, gA G n_p0 t_p0)] := by
  refine gV_of (by decide +kernel) (Nat.le_of_ble_eq_true rfl) ?_
  intro p e s m args below meth c ls A Q X hK hA hsz hH hl hE
  subst hsz
  have hx := X.1
  have hb := X.2.1
  unfold lf_X4_makeTile at hf
  have hl : lv_has ls 6 [(0, .ref h_this), (1, .ref a_p0), (2, .int p1), (3, .int p2)] := hl
  have hH : gH G A s.heap s.heap [] [(h_this, .inr (3, FX4 r_this i_this_step i_this_blockCount)), ((r_this 3), gA G 6 t_this_sizes), ((r_this 4), gA G 24 t_this_modes), ((r_this 5), gA G 24 t_this_costs), ((r_this 6), gA G 384 t_this_levels), ((r_this 7), gA G 384 t_this_result), ((r_this 8), .inr (5, FX6 r_this_prediction i_this_prediction_size i_this_prediction_average)), ((r_this_prediction 2), gA G 8 t_this_prediction_left), ((r_this_prediction 3), gA G 8 t_this_prediction_above), ((r_this 9), .inr (6, FX7 r_this_transform)), ((r_this_transform 0), gA G 64 t_this_transform_places), ((r_this_transform 1), gA G 8 t_this_transform_line), (a_p0, gA G n_p0 t_p0)] := hH
  refine lv_aload_n hx hb dX4_makeTile_0 rfl (lv_at hl 0 rfl) ?_
  refine lv_aload_n hx hb dX4_makeTile_1 rfl (lv_at hl 1 rfl) ?_
  refine lv_iload_n hx hb dX4_makeTile_2 rfl (lv_at hl 2 rfl) ?_
  refine lv_iload_n hx hb dX4_makeTile_3 rfl (lv_at hl 3 rfl) ?_
  refine lv_iconst (v := (1 : Int32)) hx hb dX4_makeTile_4 (by decide) ?_
  obtain ⟨o1, ho1, hf⟩ := sbind hf
  refine g_cVi (isC := [0, 1, 2, 3, 4, 5, 6, 7, 8, 9, 10, 11, 12]) (isR := []) (isP := [0, 1, 2, 3, 4, 5, 6, 7, 8, 9, 10, 11, 12]) (wr := []) (w2 := [(h_this, .inr (3, FX4 r_this i_this_step i_this_blockCount)), ((r_this 3), gA G 6 o1.2.2.2.2.2.2.2.2.2.1), ((r_this 4), gA G 24 o1.2.2.2.2.2.1), ((r_this 5), gA G 24 o1.2.2.2.1), ((r_this 6), gA G 384 o1.2.2.2.2.1), ((r_this 7), gA G 384 o1.2.2.2.2.2.2.2.2.1), ((r_this 8), .inr (5, FX6 r_this_prediction o1.2.2.1 o1.2.1)), ((r_this_prediction 2), gA G 8 o1.2.2.2.2.2.2.2.1), ((r_this_prediction 3), gA G 8 o1.2.2.2.2.2.2.1), ((r_this 9), .inr (6, FX7 r_this_transform)), ((r_this_transform 0), gA G 64 o1.2.2.2.2.2.2.2.2.2.2.2), ((r_this_transform 1), gA G 8 o1.2.2.2.2.2.2.2.2.2.2.1), (a_p0, gA G n_p0 t_p0)]) (q0 := 0) X hK hA hH hl (ct_X4_makeBlocks l G h_this r_this r_this_prediction r_this_transform i_this_step i_this_blockCount i_this_prediction_size i_this_prediction_average a_p0 n_p0 t_this_costs t_this_levels t_this_modes t_this_prediction_above t_this_prediction_left t_this_result t_this_sizes t_this_transform_line t_this_transform_places t_p0 p1 p2 (1 : Int32) s.heap.size o1 ho1) ⟨q_4, q_814, hd_X4_makeBlocks, rfl, rfl, ⟨Nat.le_of_ble_eq_true rfl, Nat.le_of_ble_eq_true rfl⟩, ⟨Nat.zero_le _, Nat.zero_le _⟩⟩ q_811 q_813 qs_20 rfl rfl ⟨rfl, rfl, rfl, rfl, by decide, rfl, rfl⟩ rfl rfl (Nat.le_of_ble_eq_true rfl) dX4_makeTile_5 (fun H locs hH => ?_)
  refine lv_istore (lv' := [(4, .int o1.1), (0, .ref h_this), (1, .ref a_p0), (2, .int p1), (3, .int p2)]) hx hb dX4_makeTile_8 hl (by decide) rfl (fun ls hl => ?_)
  refine lv_aload_n hx hb dX4_makeTile_10 rfl (lv_at hl 1 rfl) ?_
  refine lv_aload_n hx hb dX4_makeTile_11 rfl (lv_at hl 2 rfl) ?_
  refine lv_iload_n hx hb dX4_makeTile_12 rfl (lv_at hl 3 rfl) ?_
  refine lv_iload_n hx hb dX4_makeTile_13 rfl (lv_at hl 4 rfl) ?_
  refine lv_iconst (v := (0 : Int32)) hx hb dX4_makeTile_14 (by decide) ?_
  obtain ⟨o2, ho2, hf⟩ := sbind hf
  refine g_cVi (isC := [0, 1, 2, 3, 4, 5, 6, 7, 8, 9, 10, 11, 12]) (isR := []) (isP := [0, 1, 2, 3, 4, 5, 6, 7, 8, 9, 10, 11, 12]) (wr := []) (w2 := [(h_this, .inr (3, FX4 r_this i_this_step i_this_blockCount)), ((r_this 3), gA G 6 o2.2.2.2.2.2.2.2.2.2.1), ((r_this 4), gA G 24 o2.2.2.2.2.2.1), ((r_this 5), gA G 24 o2.2.2.2.1), ((r_this 6), gA G 384 o2.2.2.2.2.1), ((r_this 7), gA G 384 o2.2.2.2.2.2.2.2.2.1), ((r_this 8), .inr (5, FX6 r_this_prediction o2.2.2.1 o2.2.1)), ((r_this_prediction 2), gA G 8 o2.2.2.2.2.2.2.2.1), ((r_this_prediction 3), gA G 8 o2.2.2.2.2.2.2.1), ((r_this 9), .inr (6, FX7 r_this_transform)), ((r_this_transform 0), gA G 64 o2.2.2.2.2.2.2.2.2.2.2.2), ((r_this_transform 1), gA G 8 o2.2.2.2.2.2.2.2.2.2.2.1), (a_p0, gA G n_p0 t_p0)]) (q0 := 0) X hK hA hH hl (ct_X4_makeBlocks l G h_this r_this r_this_prediction r_this_transform i_this_step i_this_blockCount o1.2.2.1 o1.2.1 a_p0 n_p0 o1.2.2.2.1 o1.2.2.2.2.1 o1.2.2.2.2.2.1 o1.2.2.2.2.2.2.1 o1.2.2.2.2.2.2.2.1 o1.2.2.2.2.2.2.2.2.1 o1.2.2.2.2.2.2.2.2.2.1 o1.2.2.2.2.2.2.2.2.2.2.1 o1.2.2.2.2.2.2.2.2.2.2.2 t_p0 p1 p2 (0 : Int32) H.size o2 ho2) ⟨q_4, q_814, hd_X4_makeBlocks, rfl, rfl, ⟨Nat.le_of_ble_eq_true rfl, Nat.le_of_ble_eq_true rfl⟩, ⟨Nat.zero_le _, Nat.zero_le _⟩⟩ q_811 q_813 qs_20 rfl rfl ⟨rfl, rfl, rfl, rfl, by decide, rfl, rfl⟩ rfl rfl (Nat.le_of_ble_eq_true rfl) dX4_makeTile_15 (fun H locs hH => ?_)
  refine lv_istore (lv' := [(5, .int o2.1), (4, .int o1.1), (0, .ref h_this), (1, .ref a_p0), (2, .int p1), (3, .int p2)]) hx hb dX4_makeTile_18 hl (by decide) rfl (fun ls hl => ?_)
  refine lv_iload hx hb dX4_makeTile_20 (lv_at hl 1 rfl) ?_
  refine lv_iload hx hb dX4_makeTile_22 (lv_at hl 0 rfl) ?_
  refine lv_icmp_ge (tgt := 49) hx hb dX4_makeTile_24 (by decide) (fun c3 => ?_) (fun c3 => ?_)
  · have hf := spos hf c3
    refine lv_aload_n hx hb dX4_makeTile_49 rfl (lv_at hl 2 rfl) ?_
    refine lv_dup hx hb dX4_makeTile_50 rfl ?_
    refine g_get (T := TX4) (N := 10) (ci := 3) (C := RX4) (v := .int i_this_blockCount) X hK hH in_RX4 0 rfl rfl 1 (by decide) q_118 (fun _ h9 => h9) rfl dX4_makeTile_51 ?_
    refine lv_iconst (v := (1 : Int32)) hx hb dX4_makeTile_54 (by decide) ?_
    refine lv_iadd hx hb dX4_makeTile_55 ?_
    refine g_put (w1 := [(h_this, .inr (3, FX4 r_this i_this_step (i_this_blockCount + (1 : Int32)))), ((r_this 3), gA G 6 o2.2.2.2.2.2.2.2.2.2.1), ((r_this 4), gA G 24 o2.2.2.2.2.2.1), ((r_this 5), gA G 24 o2.2.2.2.1), ((r_this 6), gA G 384 o2.2.2.2.2.1), ((r_this 7), gA G 384 o2.2.2.2.2.2.2.2.2.1), ((r_this 8), .inr (5, FX6 r_this_prediction o2.2.2.1 o2.2.1)), ((r_this_prediction 2), gA G 8 o2.2.2.2.2.2.2.2.1), ((r_this_prediction 3), gA G 8 o2.2.2.2.2.2.2.1), ((r_this 9), .inr (6, FX7 r_this_transform)), ((r_this_transform 0), gA G 64 o2.2.2.2.2.2.2.2.2.2.2.2), ((r_this_transform 1), gA G 8 o2.2.2.2.2.2.2.2.2.2.2.1), (a_p0, gA G n_p0 t_p0)]) (T := TX4) (N := 10) (ci := 3) (C := RX4) (ty := .int) (v := .int (i_this_blockCount + (1 : Int32))) X hK hH in_RX4 tyX4 tyX4_ok nmX4 0 rfl rfl 1 (by decide) q_118 (fun _ h9 => h9) rfl (by decide +kernel) rfl rfl (Nat.le_of_ble_eq_true rfl) dX4_makeTile_56 FX4_blockCount rfl (fun H locs hH => ?_)
    obtain rfl := Option.some.inj hf
    exact hE _ _ _ _ hH dX4_makeTile_59
  · have hf := sneg hf c3
    refine lv_aload_n hx hb dX4_makeTile_27 rfl (lv_at hl 2 rfl) ?_
    refine lv_aload_n hx hb dX4_makeTile_28 rfl (lv_at hl 3 rfl) ?_
    refine lv_iload_n hx hb dX4_makeTile_29 rfl (lv_at hl 4 rfl) ?_
    refine lv_iload_n hx hb dX4_makeTile_30 rfl (lv_at hl 5 rfl) ?_
    refine lv_iconst (v := (1 : Int32)) hx hb dX4_makeTile_31 (by decide) ?_
    obtain ⟨o4, ho4, hf⟩ := sbind hf
    refine g_cVi (isC := [0, 1, 2, 3, 4, 5, 6, 7, 8, 9, 10, 11, 12]) (isR := []) (isP := [0, 1, 2, 3, 4, 5, 6, 7, 8, 9, 10, 11, 12]) (wr := []) (w2 := [(h_this, .inr (3, FX4 r_this i_this_step i_this_blockCount)), ((r_this 3), gA G 6 o4.2.2.2.2.2.2.2.2.2.1), ((r_this 4), gA G 24 o4.2.2.2.2.2.1), ((r_this 5), gA G 24 o4.2.2.2.1), ((r_this 6), gA G 384 o4.2.2.2.2.1), ((r_this 7), gA G 384 o4.2.2.2.2.2.2.2.2.1), ((r_this 8), .inr (5, FX6 r_this_prediction o4.2.2.1 o4.2.1)), ((r_this_prediction 2), gA G 8 o4.2.2.2.2.2.2.2.1), ((r_this_prediction 3), gA G 8 o4.2.2.2.2.2.2.1), ((r_this 9), .inr (6, FX7 r_this_transform)), ((r_this_transform 0), gA G 64 o4.2.2.2.2.2.2.2.2.2.2.2), ((r_this_transform 1), gA G 8 o4.2.2.2.2.2.2.2.2.2.2.1), (a_p0, gA G n_p0 t_p0)]) (q0 := 0) X hK hA hH hl (ct_X4_makeBlocks l G h_this r_this r_this_prediction r_this_transform i_this_step i_this_blockCount o2.2.2.1 o2.2.1 a_p0 n_p0 o2.2.2.2.1 o2.2.2.2.2.1 o2.2.2.2.2.2.1 o2.2.2.2.2.2.2.1 o2.2.2.2.2.2.2.2.1 o2.2.2.2.2.2.2.2.2.1 o2.2.2.2.2.2.2.2.2.2.1 o2.2.2.2.2.2.2.2.2.2.2.1 o2.2.2.2.2.2.2.2.2.2.2.2 t_p0 p1 p2 (1 : Int32) H.size o4 ho4) ⟨q_4, q_814, hd_X4_makeBlocks, rfl, rfl, ⟨Nat.le_of_ble_eq_true rfl, Nat.le_of_ble_eq_true rfl⟩, ⟨Nat.zero_le _, Nat.zero_le _⟩⟩ q_811 q_813 qs_20 rfl rfl ⟨rfl, rfl, rfl, rfl, by decide, rfl, rfl⟩ rfl rfl (Nat.le_of_ble_eq_true rfl) dX4_makeTile_32 (fun H locs hH => ?_)
    refine lv_pop hx hb dX4_makeTile_35 rfl ?_
    refine lv_aload_n hx hb dX4_makeTile_36 rfl (lv_at hl 2 rfl) ?_
    refine lv_dup hx hb dX4_makeTile_37 rfl ?_
    refine g_get (T := TX4) (N := 10) (ci := 3) (C := RX4) (v := .int i_this_blockCount) X hK hH in_RX4 0 rfl rfl 1 (by decide) q_118 (fun _ h9 => h9) rfl dX4_makeTile_38 ?_
    refine lv_iconst (v := (4 : Int32)) hx hb dX4_makeTile_41 (by decide) ?_
    refine lv_iadd hx hb dX4_makeTile_42 ?_
    refine g_put (w1 := [(h_this, .inr (3, FX4 r_this i_this_step (i_this_blockCount + (4 : Int32)))), ((r_this 3), gA G 6 o4.2.2.2.2.2.2.2.2.2.1), ((r_this 4), gA G 24 o4.2.2.2.2.2.1), ((r_this 5), gA G 24 o4.2.2.2.1), ((r_this 6), gA G 384 o4.2.2.2.2.1), ((r_this 7), gA G 384 o4.2.2.2.2.2.2.2.2.1), ((r_this 8), .inr (5, FX6 r_this_prediction o4.2.2.1 o4.2.1)), ((r_this_prediction 2), gA G 8 o4.2.2.2.2.2.2.2.1), ((r_this_prediction 3), gA G 8 o4.2.2.2.2.2.2.1), ((r_this 9), .inr (6, FX7 r_this_transform)), ((r_this_transform 0), gA G 64 o4.2.2.2.2.2.2.2.2.2.2.2), ((r_this_transform 1), gA G 8 o4.2.2.2.2.2.2.2.2.2.2.1), (a_p0, gA G n_p0 t_p0)]) (T := TX4) (N := 10) (ci := 3) (C := RX4) (ty := .int) (v := .int (i_this_blockCount + (4 : Int32))) X hK hH in_RX4 tyX4 tyX4_ok nmX4 0 rfl rfl 1 (by decide) q_118 (fun _ h9 => h9) rfl (by decide +kernel) rfl rfl (Nat.le_of_ble_eq_true rfl) dX4_makeTile_43 FX4_blockCount rfl (fun H locs hH => ?_)
    refine lv_goto (tgt := 59) hx hb dX4_makeTile_46 (by decide) ?_
    obtain rfl := Option.some.inj hf
    exact hE _ _ _ _ hH dX4_makeTile_59

def lf_X4_restoreSlice (i_this_prediction_average : Int32) (i_this_prediction_size : Int32) (i_this_step : Int32) (t_this_levels : Nat → Int32) (t_this_modes : Nat → Int32) (t_this_prediction_above : Nat → Int32) (t_this_prediction_left : Nat → Int32) (t_this_result : Nat → Int32) (t_this_sizes : Nat → Int32) (t_this_transform_line : Nat → Int32) (t_this_transform_places : Nat → Int32) (p0 : Int32) (p1 : Int32) : Option (Int32 × Int32 × (Nat → Int32) × (Nat → Int32) × (Nat → Int32) × (Nat → Int32) × (Nat → Int32)) :=
bnd (p0 * (8 : Int32)) fun x1 => (fixN FUEL (fun (self10 : (Int32 × Int32 × Int32 × (Nat → Int32) × (Nat → Int32) × (Nat → Int32) × (Nat → Int32) × (Nat → Int32)) → Option (Int32 × Int32 × (Nat → Int32) × (Nat → Int32) × (Nat → Int32) × (Nat → Int32) × (Nat → Int32))) (z10 : Int32 × Int32 × Int32 × (Nat → Int32) × (Nat → Int32) × (Nat → Int32) × (Nat → Int32) × (Nat → Int32)) => (fun (x2 : Int32) (v3 : Int32) (v4 : Int32) (g5 : (Nat → Int32)) (g6 : (Nat → Int32)) (g7 : (Nat → Int32)) (g8 : (Nat → Int32)) (g9 : (Nat → Int32)) => (if p1 ≤ x2 then some (v3, v4, g5, g6, g7, g8, g9) else bnd (x2 * (8 : Int32)) fun x12 => (lf_X4_sizeAt t_this_sizes x12 x1).bind fun o13 => (fixN FUEL (fun (self22 : (Int32 × Int32 × Int32 × (Nat → Int32) × (Nat → Int32) × (Nat → Int32) × (Nat → Int32) × (Nat → Int32)) → Option (Int32 × Int32 × (Nat → Int32) × (Nat → Int32) × (Nat → Int32) × (Nat → Int32) × (Nat → Int32))) (z22 : Int32 × Int32 × Int32 × (Nat → Int32) × (Nat → Int32) × (Nat → Int32) × (Nat → Int32) × (Nat → Int32)) => (fun (x14 : Int32) (v15 : Int32) (v16 : Int32) (g17 : (Nat → Int32)) (g18 : (Nat → Int32)) (g19 : (Nat → Int32)) (g20 : (Nat → Int32)) (g21 : (Nat → Int32)) => (if (8 : Int32) ≤ x14 then some (v15, v16, g17, g18, g19, g20, g21) else (fixN FUEL (fun (self32 : (Int32 × Int32 × Int32 × (Nat → Int32) × (Nat → Int32) × (Nat → Int32) × (Nat → Int32) × (Nat → Int32)) → Option (Int32 × Int32 × (Nat → Int32) × (Nat → Int32) × (Nat → Int32) × (Nat → Int32) × (Nat → Int32))) (z32 : Int32 × Int32 × Int32 × (Nat → Int32) × (Nat → Int32) × (Nat → Int32) × (Nat → Int32) × (Nat → Int32)) => (fun (x24 : Int32) (v25 : Int32) (v26 : Int32) (g27 : (Nat → Int32)) (g28 : (Nat → Int32)) (g29 : (Nat → Int32)) (g30 : (Nat → Int32)) (g31 : (Nat → Int32)) => (if (8 : Int32) ≤ x24 then some (v25, v26, g27, g28, g29, g30, g31) else (lf_X4_restoreBlock v25 v26 i_this_step t_this_levels t_this_modes g27 g28 g29 t_this_sizes g30 g31 (x12 + x24) (x1 + x14) o13).bind fun o34 => bnd (x24 + o13) fun x35 => self32 (x35, o34.1, o34.2.1, o34.2.2.1, o34.2.2.2.1, o34.2.2.2.2.1, o34.2.2.2.2.2.1, o34.2.2.2.2.2.2))) z32.1 z32.2.1 z32.2.2.1 z32.2.2.2.1 z32.2.2.2.2.1 z32.2.2.2.2.2.1 z32.2.2.2.2.2.2.1 z32.2.2.2.2.2.2.2) ((0 : Int32), v15, v16, g17, g18, g19, g20, g21)).bind fun o32 => bnd (x14 + o13) fun x36 => self22 (x36, o32.1, o32.2.1, o32.2.2.1, o32.2.2.2.1, o32.2.2.2.2.1, o32.2.2.2.2.2.1, o32.2.2.2.2.2.2))) z22.1 z22.2.1 z22.2.2.1 z22.2.2.2.1 z22.2.2.2.2.1 z22.2.2.2.2.2.1 z22.2.2.2.2.2.2.1 z22.2.2.2.2.2.2.2) ((0 : Int32), v3, v4, g5, g6, g7, g8, g9)).bind fun o22 => bnd (x2 + (1 : Int32)) fun x37 => self10 (x37, o22.1, o22.2.1, o22.2.2.1, o22.2.2.2.1, o22.2.2.2.2.1, o22.2.2.2.2.2.1, o22.2.2.2.2.2.2))) z10.1 z10.2.1 z10.2.2.1 z10.2.2.2.1 z10.2.2.2.2.1 z10.2.2.2.2.2.1 z10.2.2.2.2.2.2.1 z10.2.2.2.2.2.2.2) ((0 : Int32), i_this_prediction_average, i_this_prediction_size, t_this_prediction_above, t_this_prediction_left, t_this_result, t_this_transform_line, t_this_transform_places)).bind fun o10 => some (o10.1, o10.2.1, o10.2.2.1, o10.2.2.2.1, o10.2.2.2.2.1, o10.2.2.2.2.2.1, o10.2.2.2.2.2.2)
abbrev rm_X4_restoreSlice : Room := { frames := 3, cells := 0, slots := 0, locals := 77 }
theorem hd_X4_restoreSlice : yX4_restoreSlice.cls ≠ "java/lang/invoke/MethodHandle" ∧ yX4_restoreSlice.cls ≠ "java/lang/invoke/VarHandle" ∧ (parseMethodDescriptor yX4_restoreSlice.desc).map (fun d => d.parameters.length) = some 2 := by decide +kernel
set_option maxHeartbeats 4000000 in
set_option maxRecDepth 100000 in
theorem ct_X4_restoreSlice (l : Launch) (G : gG) (h_this : Nat) (r_this r_this_prediction r_this_transform : Nat → Nat) (i_this_step i_this_blockCount i_this_prediction_size i_this_prediction_average : Int32) (t_this_levels t_this_modes t_this_prediction_above t_this_prediction_left t_this_result t_this_sizes t_this_transform_line t_this_transform_places : Nat → Int32) (p0 p1 : Int32) (sz : Nat) (out : Int32 × Int32 × (Nat → Int32) × (Nat → Int32) × (Nat → Int32) × (Nat → Int32) × (Nat → Int32)) (hf : lf_X4_restoreSlice i_this_prediction_average i_this_prediction_size i_this_step t_this_levels t_this_modes t_this_prediction_above t_this_prediction_left t_this_result t_this_sizes t_this_transform_line t_this_transform_places p0 p1 = some out) : gV l G yX4_restoreSlice cX4_restoreSlice 9 rm_X4_restoreSlice [.ref h_this, .int p0, .int p1] sz [(h_this, .inr (3, FX4 r_this i_this_step i_this_blockCount)), ((r_this 3), gA G 6 t_this_sizes), ((r_this 4), gA G 24 t_this_modes), ((r_this 6), gA G 384 t_this_levels), ((r_this 7), gA G 384 t_this_result), ((r_this 8), .inr (5, FX6 r_this_prediction i_this_prediction_size i_this_prediction_average)), ((r_this_prediction 2), gA G 8 t_this_prediction_left), ((r_this_prediction 3), gA G 8 t_this_prediction_above), ((r_this 9), .inr (6, FX7 r_this_transform)), ((r_this_transform 0), gA G 64 t_this_transform_places), ((r_this_transform 1), gA G 8 t_this_transform_line)] [(h_this, .inr (3, FX4 r_this i_this_step i_this_blockCount)), ((r_this 3), gA G 6 t_this_sizes), ((r_this 4), gA G 24 t_this_modes), ((r_this 6), gA G 384 t_this_levels), ((r_this 7), gA G 384 out.2.2.2.2.1), ((r_this 8), .inr (5, FX6 r_this_prediction out.2.1 out.1)), ((r_this_prediction 2), gA G 8 out.2.2.2.1), ((r_this_prediction 3), gA G 8 out.2.2.1), ((r_this 9), .inr (6, FX7 r_this_transform)), ((r_this_transform 0), gA G 64 out.2.2.2.2.2.2), ((r_this_transform 1), gA G 8 out.2.2.2.2.2.1)] := by
  refine gV_of (by decide +kernel) (Nat.le_of_ble_eq_true rfl) ?_
  intro p e s m args below meth c ls A Q X hK hA hsz hH hl hE
  subst hsz
  have hx := X.1
  have hb := X.2.1
  unfold lf_X4_restoreSlice at hf
  have hl : lv_has ls 9 [(0, .ref h_this), (1, .int p0), (2, .int p1)] := hl
  have hH : gH G A s.heap s.heap [] [(h_this, .inr (3, FX4 r_this i_this_step i_this_blockCount)), ((r_this 3), gA G 6 t_this_sizes), ((r_this 4), gA G 24 t_this_modes), ((r_this 6), gA G 384 t_this_levels), ((r_this 7), gA G 384 t_this_result), ((r_this 8), .inr (5, FX6 r_this_prediction i_this_prediction_size i_this_prediction_average)), ((r_this_prediction 2), gA G 8 t_this_prediction_left), ((r_this_prediction 3), gA G 8 t_this_prediction_above), ((r_this 9), .inr (6, FX7 r_this_transform)), ((r_this_transform 0), gA G 64 t_this_transform_places), ((r_this_transform 1), gA G 8 t_this_transform_line)] := hH
  refine lv_iload_n hx hb dX4_restoreSlice_0 rfl (lv_at hl 1 rfl) ?_
  refine lv_bipush (v := (8 : Int32)) hx hb dX4_restoreSlice_1 (by decide) ?_
  refine lv_imul hx hb dX4_restoreSlice_3 ?_
  refine lv_topi (fun x1 ex1 => ?_)
  have hf := sbnd hf x1 ex1
  refine lv_istore_n (lv' := [(3, .int x1), (0, .ref h_this), (1, .int p0), (2, .int p1)]) hx hb dX4_restoreSlice_4 rfl hl (by decide) rfl (fun ls hl => ?_)
  refine lv_iconst (v := (0 : Int32)) hx hb dX4_restoreSlice_5 (by decide) ?_
  refine lv_istore (lv' := [(4, .int (0 : Int32)), (3, .int x1), (0, .ref h_this), (1, .int p0), (2, .int p1)]) hx hb dX4_restoreSlice_6 hl (by decide) rfl (fun ls hl => ?_)
  obtain ⟨o10, ho10, hf⟩ := sbind hf
  obtain ⟨FF10, hFF10, ho10⟩ := sfix ho10
  have L10 : ∀ (n : Nat) (x2 : Int32) (v3 : Int32) (v4 : Int32) (g5 : (Nat → Int32)) (g6 : (Nat → Int32)) (g7 : (Nat → Int32)) (g8 : (Nat → Int32)) (g9 : (Nat → Int32)) (b10 : Int32 × Int32 × (Nat → Int32) × (Nat → Int32) × (Nat → Int32) × (Nat → Int32) × (Nat → Int32)) (H : Heap) (locs : List Loc) (ls : Array Slot), fixN n FF10 (x2, v3, v4, g5, g6, g7, g8, g9) = some b10 → gH G A s.heap H locs [(h_this, .inr (3, FX4 r_this i_this_step i_this_blockCount)), ((r_this 3), gA G 6 t_this_sizes), ((r_this 4), gA G 24 t_this_modes), ((r_this 6), gA G 384 t_this_levels), ((r_this 7), gA G 384 g7), ((r_this 8), .inr (5, FX6 r_this_prediction v4 v3)), ((r_this_prediction 2), gA G 8 g6), ((r_this_prediction 3), gA G 8 g5), ((r_this 9), .inr (6, FX7 r_this_transform)), ((r_this_transform 0), gA G 64 g9), ((r_this_transform 1), gA G 8 g8)] → lv_has ls 9 [(0, .ref h_this), (2, .int p1), (3, .int x1), (4, .int x2)] → (∀ (H : Heap) (locs : List Loc) (ls : Array Slot), gH G A s.heap H locs [(h_this, .inr (3, FX4 r_this i_this_step i_this_blockCount)), ((r_this 3), gA G 6 t_this_sizes), ((r_this 4), gA G 24 t_this_modes), ((r_this 6), gA G 384 t_this_levels), ((r_this 7), gA G 384 b10.2.2.2.2.1), ((r_this 8), .inr (5, FX6 r_this_prediction b10.2.1 b10.1)), ((r_this_prediction 2), gA G 8 b10.2.2.2.1), ((r_this_prediction 3), gA G 8 b10.2.2.1), ((r_this 9), .inr (6, FX7 r_this_transform)), ((r_this_transform 0), gA G 64 b10.2.2.2.2.2.2), ((r_this_transform 1), gA G 8 b10.2.2.2.2.2.1)] → lv_has ls 9 [] → W p l e rm_X4_restoreSlice s m args below meth c H locs 0 0 Q (F0 m 91 ls [])) → W p l e rm_X4_restoreSlice s m args below meth c H locs 0 0 Q (F0 m 8 ls []) := by
    intro n
    induction n with
    | zero => intro x2 v3 v4 g5 g6 g7 g8 g9 b10 H locs ls hf; exact sfix0 hf
    | succ n ih =>
      intro x2 v3 v4 g5 g6 g7 g8 g9 b10 H locs ls hf hH hl KK
      obtain ⟨self10, hself10, hf⟩ := sstep hFF10 hf
      refine lv_iload hx hb dX4_restoreSlice_8 (lv_at hl 3 rfl) ?_
      refine lv_iload_n hx hb dX4_restoreSlice_10 rfl (lv_at hl 1 rfl) ?_
      refine lv_icmp_ge (tgt := 91) hx hb dX4_restoreSlice_11 (by decide) (fun c11 => ?_) (fun c11 => ?_)
      · have hf := spos hf c11
        obtain rfl := Option.some.inj hf
        exact KK _ _ _ hH (lv_sub hl [] rfl)
      · have hf := sneg hf c11
        refine lv_iload hx hb dX4_restoreSlice_14 (lv_at hl 3 rfl) ?_
        refine lv_bipush (v := (8 : Int32)) hx hb dX4_restoreSlice_16 (by decide) ?_
        refine lv_imul hx hb dX4_restoreSlice_18 ?_
        refine lv_topi (fun x12 ex12 => ?_)
        have hf := sbnd hf x12 ex12
        refine lv_istore (lv' := [(5, .int x12), (0, .ref h_this), (2, .int p1), (3, .int x1), (4, .int x2)]) hx hb dX4_restoreSlice_19 hl (by decide) rfl (fun ls hl => ?_)
        refine lv_aload_n hx hb dX4_restoreSlice_21 rfl (lv_at hl 1 rfl) ?_
        refine lv_iload hx hb dX4_restoreSlice_22 (lv_at hl 0 rfl) ?_
        refine lv_iload_n hx hb dX4_restoreSlice_24 rfl (lv_at hl 3 rfl) ?_
        obtain ⟨o13, ho13, hf⟩ := sbind hf
        refine g_cVi (isC := [0, 1]) (isR := [2, 3, 4, 5, 6, 7, 8, 9, 10]) (isP := [9, 10, 0, 1, 2, 3, 4, 5, 6, 7, 8]) (wr := [((r_this 4), gA G 24 t_this_modes), ((r_this 6), gA G 384 t_this_levels), ((r_this 7), gA G 384 g7), ((r_this 8), .inr (5, FX6 r_this_prediction v4 v3)), ((r_this_prediction 2), gA G 8 g6), ((r_this_prediction 3), gA G 8 g5), ((r_this 9), .inr (6, FX7 r_this_transform)), ((r_this_transform 0), gA G 64 g9), ((r_this_transform 1), gA G 8 g8)]) (w2 := [(h_this, .inr (3, FX4 r_this i_this_step i_this_blockCount)), ((r_this 3), gA G 6 t_this_sizes), ((r_this 4), gA G 24 t_this_modes), ((r_this 6), gA G 384 t_this_levels), ((r_this 7), gA G 384 g7), ((r_this 8), .inr (5, FX6 r_this_prediction v4 v3)), ((r_this_prediction 2), gA G 8 g6), ((r_this_prediction 3), gA G 8 g5), ((r_this 9), .inr (6, FX7 r_this_transform)), ((r_this_transform 0), gA G 64 g9), ((r_this_transform 1), gA G 8 g8)]) (q0 := 0) X hK hA hH hl (ct_X4_sizeAt l G h_this r_this i_this_step i_this_blockCount t_this_sizes x12 x1 H.size o13 ho13) ⟨q_4, q_557, hd_X4_sizeAt, rfl, rfl, ⟨Nat.le_of_ble_eq_true rfl, Nat.le_of_ble_eq_true rfl⟩, ⟨Nat.zero_le _, Nat.zero_le _⟩⟩ q_606 q_555 q_556 rfl rfl ⟨rfl, rfl, rfl, rfl, by decide, rfl, rfl⟩ rfl rfl (Nat.le_of_ble_eq_true rfl) dX4_restoreSlice_25 (fun H locs hH => ?_)
        refine lv_istore (lv' := [(6, .int o13), (5, .int x12), (0, .ref h_this), (2, .int p1), (3, .int x1), (4, .int x2)]) hx hb dX4_restoreSlice_28 hl (by decide) rfl (fun ls hl => ?_)
        refine lv_iconst (v := (0 : Int32)) hx hb dX4_restoreSlice_30 (by decide) ?_
        refine lv_istore (lv' := [(7, .int (0 : Int32)), (6, .int o13), (5, .int x12), (0, .ref h_this), (2, .int p1), (3, .int x1), (4, .int x2)]) hx hb dX4_restoreSlice_31 hl (by decide) rfl (fun ls hl => ?_)
        obtain ⟨o22, ho22, hf⟩ := sbind hf
        obtain ⟨FF22, hFF22, ho22⟩ := sfix ho22
        have L22 : ∀ (n : Nat) (x14 : Int32) (v15 : Int32) (v16 : Int32) (g17 : (Nat → Int32)) (g18 : (Nat → Int32)) (g19 : (Nat → Int32)) (g20 : (Nat → Int32)) (g21 : (Nat → Int32)) (b22 : Int32 × Int32 × (Nat → Int32) × (Nat → Int32) × (Nat → Int32) × (Nat → Int32) × (Nat → Int32)) (H : Heap) (locs : List Loc) (ls : Array Slot), fixN n FF22 (x14, v15, v16, g17, g18, g19, g20, g21) = some b22 → gH G A s.heap H locs [(h_this, .inr (3, FX4 r_this i_this_step i_this_blockCount)), ((r_this 3), gA G 6 t_this_sizes), ((r_this 4), gA G 24 t_this_modes), ((r_this 6), gA G 384 t_this_levels), ((r_this 7), gA G 384 g19), ((r_this 8), .inr (5, FX6 r_this_prediction v16 v15)), ((r_this_prediction 2), gA G 8 g18), ((r_this_prediction 3), gA G 8 g17), ((r_this 9), .inr (6, FX7 r_this_transform)), ((r_this_transform 0), gA G 64 g21), ((r_this_transform 1), gA G 8 g20)] → lv_has ls 9 [(0, .ref h_this), (2, .int p1), (3, .int x1), (4, .int x2), (5, .int x12), (6, .int o13), (7, .int x14)] → (∀ (H : Heap) (locs : List Loc) (ls : Array Slot), gH G A s.heap H locs [(h_this, .inr (3, FX4 r_this i_this_step i_this_blockCount)), ((r_this 3), gA G 6 t_this_sizes), ((r_this 4), gA G 24 t_this_modes), ((r_this 6), gA G 384 t_this_levels), ((r_this 7), gA G 384 b22.2.2.2.2.1), ((r_this 8), .inr (5, FX6 r_this_prediction b22.2.1 b22.1)), ((r_this_prediction 2), gA G 8 b22.2.2.2.1), ((r_this_prediction 3), gA G 8 b22.2.2.1), ((r_this 9), .inr (6, FX7 r_this_transform)), ((r_this_transform 0), gA G 64 b22.2.2.2.2.2.2), ((r_this_transform 1), gA G 8 b22.2.2.2.2.2.1)] → lv_has ls 9 [(0, .ref h_this), (2, .int p1), (3, .int x1), (4, .int x2)] → W p l e rm_X4_restoreSlice s m args below meth c H locs 0 0 Q (F0 m 85 ls [])) → W p l e rm_X4_restoreSlice s m args below meth c H locs 0 0 Q (F0 m 33 ls []) := by
          intro n
          induction n with
          | zero => intro x14 v15 v16 g17 g18 g19 g20 g21 b22 H locs ls hf; exact sfix0 hf
          | succ n ih =>
            intro x14 v15 v16 g17 g18 g19 g20 g21 b22 H locs ls hf hH hl KK
            obtain ⟨self22, hself22, hf⟩ := sstep hFF22 hf
            refine lv_iload hx hb dX4_restoreSlice_33 (lv_at hl 6 rfl) ?_
            refine lv_bipush (v := (8 : Int32)) hx hb dX4_restoreSlice_35 (by decide) ?_
            refine lv_icmp_ge (tgt := 85) hx hb dX4_restoreSlice_37 (by decide) (fun c23 => ?_) (fun c23 => ?_)
            · have hf := spos hf c23
              obtain rfl := Option.some.inj hf
              exact KK _ _ _ hH (lv_sub hl [0, 1, 2, 3] rfl)
            · have hf := sneg hf c23
              refine lv_iconst (v := (0 : Int32)) hx hb dX4_restoreSlice_40 (by decide) ?_
              refine lv_istore (lv' := [(8, .int (0 : Int32)), (0, .ref h_this), (2, .int p1), (3, .int x1), (4, .int x2), (5, .int x12), (6, .int o13), (7, .int x14)]) hx hb dX4_restoreSlice_41 hl (by decide) rfl (fun ls hl => ?_)
              obtain ⟨o32, ho32, hf⟩ := sbind hf
              obtain ⟨FF32, hFF32, ho32⟩ := sfix ho32
              have L32 : ∀ (n : Nat) (x24 : Int32) (v25 : Int32) (v26 : Int32) (g27 : (Nat → Int32)) (g28 : (Nat → Int32)) (g29 : (Nat → Int32)) (g30 : (Nat → Int32)) (g31 : (Nat → Int32)) (b32 : Int32 × Int32 × (Nat → Int32) × (Nat → Int32) × (Nat → Int32) × (Nat → Int32) × (Nat → Int32)) (H : Heap) (locs : List Loc) (ls : Array Slot), fixN n FF32 (x24, v25, v26, g27, g28, g29, g30, g31) = some b32 → gH G A s.heap H locs [(h_this, .inr (3, FX4 r_this i_this_step i_this_blockCount)), ((r_this 3), gA G 6 t_this_sizes), ((r_this 4), gA G 24 t_this_modes), ((r_this 6), gA G 384 t_this_levels), ((r_this 7), gA G 384 g29), ((r_this 8), .inr (5, FX6 r_this_prediction v26 v25)), ((r_this_prediction 2), gA G 8 g28), ((r_this_prediction 3), gA G 8 g27), ((r_this 9), .inr (6, FX7 r_this_transform)), ((r_this_transform 0), gA G 64 g31), ((r_this_transform 1), gA G 8 g30)] → lv_has ls 9 [(0, .ref h_this), (2, .int p1), (3, .int x1), (4, .int x2), (5, .int x12), (6, .int o13), (7, .int x14), (8, .int x24)] → (∀ (H : Heap) (locs : List Loc) (ls : Array Slot), gH G A s.heap H locs [(h_this, .inr (3, FX4 r_this i_this_step i_this_blockCount)), ((r_this 3), gA G 6 t_this_sizes), ((r_this 4), gA G 24 t_this_modes), ((r_this 6), gA G 384 t_this_levels), ((r_this 7), gA G 384 b32.2.2.2.2.1), ((r_this 8), .inr (5, FX6 r_this_prediction b32.2.1 b32.1)), ((r_this_prediction 2), gA G 8 b32.2.2.2.1), ((r_this_prediction 3), gA G 8 b32.2.2.1), ((r_this 9), .inr (6, FX7 r_this_transform)), ((r_this_transform 0), gA G 64 b32.2.2.2.2.2.2), ((r_this_transform 1), gA G 8 b32.2.2.2.2.2.1)] → lv_has ls 9 [(0, .ref h_this), (2, .int p1), (3, .int x1), (4, .int x2), (5, .int x12), (6, .int o13), (7, .int x14)] → W p l e rm_X4_restoreSlice s m args below meth c H locs 0 0 Q (F0 m 75 ls [])) → W p l e rm_X4_restoreSlice s m args below meth c H locs 0 0 Q (F0 m 43 ls []) := by
                intro n
                induction n with
                | zero => intro x24 v25 v26 g27 g28 g29 g30 g31 b32 H locs ls hf; exact sfix0 hf
                | succ n ih =>
                  intro x24 v25 v26 g27 g28 g29 g30 g31 b32 H locs ls hf hH hl KK
                  obtain ⟨self32, hself32, hf⟩ := sstep hFF32 hf
                  refine lv_iload hx hb dX4_restoreSlice_43 (lv_at hl 7 rfl) ?_
                  refine lv_bipush (v := (8 : Int32)) hx hb dX4_restoreSlice_45 (by decide) ?_
                  refine lv_icmp_ge (tgt := 75) hx hb dX4_restoreSlice_47 (by decide) (fun c33 => ?_) (fun c33 => ?_)
                  · have hf := spos hf c33
                    obtain rfl := Option.some.inj hf
                    exact KK _ _ _ hH (lv_sub hl [0, 1, 2, 3, 4, 5, 6] rfl)
                  · have hf := sneg hf c33
                    refine lv_aload_n hx hb dX4_restoreSlice_50 rfl (lv_at hl 0 rfl) ?_
                    refine lv_iload hx hb dX4_restoreSlice_51 (lv_at hl 4 rfl) ?_
                    refine lv_iload hx hb dX4_restoreSlice_53 (lv_at hl 7 rfl) ?_
                    refine lv_iadd hx hb dX4_restoreSlice_55 ?_
                    refine lv_iload_n hx hb dX4_restoreSlice_56 rfl (lv_at hl 2 rfl) ?_
                    refine lv_iload hx hb dX4_restoreSlice_57 (lv_at hl 6 rfl) ?_
                    refine lv_iadd hx hb dX4_restoreSlice_59 ?_
                    refine lv_iload hx hb dX4_restoreSlice_60 (lv_at hl 5 rfl) ?_
                    obtain ⟨o34, ho34, hf⟩ := sbind hf
                    refine g_cVv (isC := [0, 1, 2, 3, 4, 5, 6, 7, 8, 9, 10]) (isR := []) (isP := [0, 1, 2, 3, 4, 5, 6, 7, 8, 9, 10]) (wr := []) (w2 := [(h_this, .inr (3, FX4 r_this i_this_step i_this_blockCount)), ((r_this 3), gA G 6 t_this_sizes), ((r_this 4), gA G 24 t_this_modes), ((r_this 6), gA G 384 t_this_levels), ((r_this 7), gA G 384 o34.2.2.2.2.1), ((r_this 8), .inr (5, FX6 r_this_prediction o34.2.1 o34.1)), ((r_this_prediction 2), gA G 8 o34.2.2.2.1), ((r_this_prediction 3), gA G 8 o34.2.2.1), ((r_this 9), .inr (6, FX7 r_this_transform)), ((r_this_transform 0), gA G 64 o34.2.2.2.2.2.2), ((r_this_transform 1), gA G 8 o34.2.2.2.2.2.1)]) (q0 := 0) X hK hA hH hl (ct_X4_restoreBlock l G h_this r_this r_this_prediction r_this_transform i_this_step i_this_blockCount v26 v25 t_this_levels t_this_modes g27 g28 g29 t_this_sizes g30 g31 (x12 + x24) (x1 + x14) o13 H.size o34 ho34) ⟨q_4, q_623, hd_X4_restoreBlock, rfl, rfl, ⟨Nat.le_of_ble_eq_true rfl, Nat.le_of_ble_eq_true rfl⟩, ⟨Nat.zero_le _, Nat.zero_le _⟩⟩ q_620 q_622 qs_10 rfl rfl ⟨rfl, rfl, rfl, rfl, by decide, rfl, rfl⟩ rfl rfl (Nat.le_of_ble_eq_true rfl) dX4_restoreSlice_62 (fun H locs hH => ?_)
                    refine lv_iload hx hb dX4_restoreSlice_65 (lv_at hl 7 rfl) ?_
                    refine lv_iload hx hb dX4_restoreSlice_67 (lv_at hl 5 rfl) ?_
                    refine lv_iadd hx hb dX4_restoreSlice_69 ?_
                    refine lv_topi (fun x35 ex35 => ?_)
                    have hf := sbnd hf x35 ex35
                    refine lv_istore (lv' := [(8, .int x35), (0, .ref h_this), (2, .int p1), (3, .int x1), (4, .int x2), (5, .int x12), (6, .int o13), (7, .int x14)]) hx hb dX4_restoreSlice_70 hl (by decide) rfl (fun ls hl => ?_)
                    refine lv_goto (tgt := 43) hx hb dX4_restoreSlice_72 (by decide) ?_
                    exact ih x35 o34.1 o34.2.1 o34.2.2.1 o34.2.2.2.1 o34.2.2.2.2.1 o34.2.2.2.2.2.1 o34.2.2.2.2.2.2 _ _ _ _ (hself32 _ _ hf) hH (lv_sub hl [1, 2, 3, 4, 5, 6, 7, 0] rfl) KK
              refine L32 FUEL (0 : Int32) v15 v16 g17 g18 g19 g20 g21 o32 _ _ _ ho32 hH (lv_sub hl [1, 2, 3, 4, 5, 6, 7, 0] rfl) (fun H locs ls hH hl => ?_)
              refine lv_iload hx hb dX4_restoreSlice_75 (lv_at hl 6 rfl) ?_
              refine lv_iload hx hb dX4_restoreSlice_77 (lv_at hl 5 rfl) ?_
              refine lv_iadd hx hb dX4_restoreSlice_79 ?_
              refine lv_topi (fun x36 ex36 => ?_)
              have hf := sbnd hf x36 ex36
              refine lv_istore (lv' := [(7, .int x36), (0, .ref h_this), (2, .int p1), (3, .int x1), (4, .int x2), (5, .int x12), (6, .int o13)]) hx hb dX4_restoreSlice_80 hl (by decide) rfl (fun ls hl => ?_)
              refine lv_goto (tgt := 33) hx hb dX4_restoreSlice_82 (by decide) ?_
              exact ih x36 o32.1 o32.2.1 o32.2.2.1 o32.2.2.2.1 o32.2.2.2.2.1 o32.2.2.2.2.2.1 o32.2.2.2.2.2.2 _ _ _ _ (hself22 _ _ hf) hH (lv_sub hl [1, 2, 3, 4, 5, 6, 0] rfl) KK
        refine L22 FUEL (0 : Int32) v3 v4 g5 g6 g7 g8 g9 o22 _ _ _ ho22 hH (lv_sub hl [3, 4, 5, 6, 2, 1, 0] rfl) (fun H locs ls hH hl => ?_)
        obtain ⟨x37, ex37⟩ : ∃ y : Int32, y = (x2 + (1 : Int32)) := ⟨_, rfl⟩
        have hf := sbnd hf x37 ex37
        refine lv_iinc (v := x37) (lv' := [(4, .int x37), (0, .ref h_this), (2, .int p1), (3, .int x1)]) hx hb dX4_restoreSlice_85 hl (k := 3) rfl (by rw [ex37]; rfl) (by decide) rfl (fun ls hl => ?_)
        refine lv_goto (tgt := 8) hx hb dX4_restoreSlice_88 (by decide) ?_
        exact ih x37 o22.1 o22.2.1 o22.2.2.1 o22.2.2.2.1 o22.2.2.2.2.1 o22.2.2.2.2.2.1 o22.2.2.2.2.2.2 _ _ _ _ (hself10 _ _ hf) hH (lv_sub hl [1, 2, 3, 0] rfl) KK
  refine L10 FUEL (0 : Int32) i_this_prediction_average i_this_prediction_size t_this_prediction_above t_this_prediction_left t_this_result t_this_transform_line t_this_transform_places o10 _ _ _ ho10 hH (lv_sub hl [2, 4, 1, 0] rfl) (fun H locs ls hH hl => ?_)
  obtain rfl := Option.some.inj hf
  exact hE _ _ _ _ hH dX4_restoreSlice_91

def lf_J7_fill_53178 (n_p0 : Nat) (t_p0 : Nat → Int32) (p1 : Int32) : Option ((Nat → Int32)) :=
bnd (Int32.ofNat n_p0) fun x1 => (fixN FUEL (fun (self4 : (Int32 × (Nat → Int32)) → Option ((Nat → Int32))) (z4 : Int32 × (Nat → Int32)) => (fun (x2 : Int32) (g3 : (Nat → Int32)) => (if x1 ≤ x2 then some g3 else (wrA n_p0 g3 x2 p1).bind fun g6 => bnd (x2 + (1 : Int32)) fun x7 => self4 (x7, g6))) z4.1 z4.2) ((0 : Int32), t_p0)).bind fun o4 => some o4
abbrev rm_J7_fill_53178 : Room := { frames := 0, cells := 0, slots := 0, locals := 0 }
theorem hd_J7_fill_53178 : yJ7_fill_53178.cls ≠ "java/lang/invoke/MethodHandle" ∧ yJ7_fill_53178.cls ≠ "java/lang/invoke/VarHandle" ∧ (parseMethodDescriptor yJ7_fill_53178.desc).map (fun d => d.parameters.length) = some 2 := by decide +kernel
set_option maxHeartbeats 4000000 in
set_option maxRecDepth 100000 in
theorem ct_J7_fill_53178 (l : Launch) (G : gG) (a_p0 n_p0 : Nat) (t_p0 : Nat → Int32) (p1 : Int32) (sz : Nat) (out : (Nat → Int32)) (hf : lf_J7_fill_53178 n_p0 t_p0 p1 = some out) : gV l G yJ7_fill_53178 cJ7_fill_53178 4 rm_J7_fill_53178 [.ref a_p0, .int p1] sz [(a_p0, gA G n_p0 t_p0)] [(a_p0, gA G n_p0 out)] := by
  refine gV_of (by decide +kernel) (Nat.le_of_ble_eq_true rfl) ?_
  intro p e s m args below meth c ls A Q X hK hA hsz hH hl hE
  subst hsz
  have hx := X.1
  have hb := X.2.1
  unfold lf_J7_fill_53178 at hf
  have hl : lv_has ls 4 [(0, .ref a_p0), (1, .int p1)] := hl
  have hH : gH G A s.heap s.heap [] [(a_p0, gA G n_p0 t_p0)] := hH
  refine lv_iconst (v := (0 : Int32)) hx hb dJ7_fill_53178_0 (by decide) ?_
  refine lv_istore_n (lv' := [(2, .int (0 : Int32)), (0, .ref a_p0), (1, .int p1)]) hx hb dJ7_fill_53178_1 rfl hl (by decide) rfl (fun ls hl => ?_)
  refine lv_aload_n hx hb dJ7_fill_53178_2 rfl (lv_at hl 1 rfl) ?_
  refine g_alen X hK hH 0 rfl dJ7_fill_53178_3 ?_
  refine lv_topi (fun x1 ex1 => ?_)
  have hf := sbnd hf x1 ex1
  refine lv_istore_n (lv' := [(3, .int x1), (2, .int (0 : Int32)), (0, .ref a_p0), (1, .int p1)]) hx hb dJ7_fill_53178_4 rfl hl (by decide) rfl (fun ls hl => ?_)
  obtain ⟨o4, ho4, hf⟩ := sbind hf
  obtain ⟨FF4, hFF4, ho4⟩ := sfix ho4
  have L4 : ∀ (n : Nat) (x2 : Int32) (g3 : (Nat → Int32)) (b4 : (Nat → Int32)) (H : Heap) (locs : List Loc) (ls : Array Slot), fixN n FF4 (x2, g3) = some b4 → gH G A s.heap H locs [(a_p0, gA G n_p0 g3)] → lv_has ls 4 [(0, .ref a_p0), (1, .int p1), (2, .int x2), (3, .int x1)] → (∀ (H : Heap) (locs : List Loc) (ls : Array Slot), gH G A s.heap H locs [(a_p0, gA G n_p0 b4)] → lv_has ls 4 [] → W p l e rm_J7_fill_53178 s m args below meth c H locs 0 0 Q (F0 m 20 ls [])) → W p l e rm_J7_fill_53178 s m args below meth c H locs 0 0 Q (F0 m 5 ls []) := by
    intro n
    induction n with
    | zero => intro x2 g3 b4 H locs ls hf; exact sfix0 hf
    | succ n ih =>
      intro x2 g3 b4 H locs ls hf hH hl KK
      obtain ⟨self4, hself4, hf⟩ := sstep hFF4 hf
      refine lv_iload_n hx hb dJ7_fill_53178_5 rfl (lv_at hl 2 rfl) ?_
      refine lv_iload_n hx hb dJ7_fill_53178_6 rfl (lv_at hl 3 rfl) ?_
      refine lv_icmp_ge (tgt := 20) hx hb dJ7_fill_53178_7 (by decide) (fun c5 => ?_) (fun c5 => ?_)
      · have hf := spos hf c5
        obtain rfl := Option.some.inj hf
        exact KK _ _ _ hH (lv_sub hl [] rfl)
      · have hf := sneg hf c5
        refine lv_aload_n hx hb dJ7_fill_53178_10 rfl (lv_at hl 0 rfl) ?_
        refine lv_iload_n hx hb dJ7_fill_53178_11 rfl (lv_at hl 2 rfl) ?_
        refine lv_iload_n hx hb dJ7_fill_53178_12 rfl (lv_at hl 1 rfl) ?_
        obtain ⟨g6, hg6, hf⟩ := sbind hf
        refine g_ast (w1 := [(a_p0, gA G n_p0 g6)]) X hK hH 0 rfl hg6 dJ7_fill_53178_13 rfl (fun H locs hH => ?_)
        obtain ⟨x7, ex7⟩ : ∃ y : Int32, y = (x2 + (1 : Int32)) := ⟨_, rfl⟩
        have hf := sbnd hf x7 ex7
        refine lv_iinc (v := x7) (lv' := [(2, .int x7), (0, .ref a_p0), (1, .int p1), (3, .int x1)]) hx hb dJ7_fill_53178_14 hl (k := 2) rfl (by rw [ex7]; rfl) (by decide) rfl (fun ls hl => ?_)
        refine lv_goto (tgt := 5) hx hb dJ7_fill_53178_17 (by decide) ?_
        exact ih x7 g6 _ _ _ _ (hself4 _ _ hf) hH (lv_sub hl [1, 2, 0, 3] rfl) KK
  refine L4 FUEL (0 : Int32) t_p0 o4 _ _ _ ho4 hH (lv_sub hl [2, 3, 1, 0] rfl) (fun H locs ls hH hl => ?_)
  obtain rfl := Option.some.inj hf
  exact hE _ _ _ _ hH dJ7_fill_53178_20

def lf_X5_clear (i_this_columns : Int32) (i_this_rows : Int32) (t_this_pixels : Nat → Int32) (p0 : Int32) (p1 : Int32) : Option (Int32 × Int32 × (Nat → Int32)) :=
(lf_J7_fill_53178 384 t_this_pixels (0 : Int32)).bind fun o1 => some (p0, p1, o1)
abbrev rm_X5_clear : Room := { frames := 1, cells := 0, slots := 0, locals := 23 }
theorem hd_X5_clear : yX5_clear.cls ≠ "java/lang/invoke/MethodHandle" ∧ yX5_clear.cls ≠ "java/lang/invoke/VarHandle" ∧ (parseMethodDescriptor yX5_clear.desc).map (fun d => d.parameters.length) = some 2 := by decide +kernel
set_option maxHeartbeats 4000000 in
set_option maxRecDepth 100000 in
theorem ct_X5_clear (l : Launch) (G : gG) (h_this : Nat) (r_this : Nat → Nat) (i_this_columns i_this_rows : Int32) (t_this_pixels : Nat → Int32) (p0 p1 : Int32) (sz : Nat) (out : Int32 × Int32 × (Nat → Int32)) (hf : lf_X5_clear i_this_columns i_this_rows t_this_pixels p0 p1 = some out) : gV l G yX5_clear cX5_clear 3 rm_X5_clear [.ref h_this, .int p0, .int p1] sz [(h_this, .inr (4, FX5 r_this i_this_columns i_this_rows)), ((r_this 2), gA G 384 t_this_pixels)] [(h_this, .inr (4, FX5 r_this out.1 out.2.1)), ((r_this 2), gA G 384 out.2.2)] := by
  refine gV_of (by decide +kernel) (Nat.le_of_ble_eq_true rfl) ?_
  intro p e s m args below meth c ls A Q X hK hA hsz hH hl hE
  subst hsz
  have hx := X.1
  have hb := X.2.1
  unfold lf_X5_clear at hf
  have hl : lv_has ls 3 [(0, .ref h_this), (1, .int p0), (2, .int p1)] := hl
  have hH : gH G A s.heap s.heap [] [(h_this, .inr (4, FX5 r_this i_this_columns i_this_rows)), ((r_this 2), gA G 384 t_this_pixels)] := hH
  refine lv_aload_n hx hb dX5_clear_0 rfl (lv_at hl 0 rfl) ?_
  refine lv_iload_n hx hb dX5_clear_1 rfl (lv_at hl 1 rfl) ?_
  refine g_put (w1 := [(h_this, .inr (4, FX5 r_this p0 i_this_rows)), ((r_this 2), gA G 384 t_this_pixels)]) (T := TX5) (N := 3) (ci := 4) (C := RX5) (ty := .int) (v := .int p0) X hK hH in_RX5 tyX5 tyX5_ok nmX5 0 rfl rfl 0 (by decide) q_47 (fun _ h9 => h9) rfl (by decide +kernel) rfl rfl (Nat.le_of_ble_eq_true rfl) dX5_clear_2 FX5_columns rfl (fun H locs hH => ?_)
  refine lv_aload_n hx hb dX5_clear_5 rfl (lv_at hl 0 rfl) ?_
  refine lv_iload_n hx hb dX5_clear_6 rfl (lv_at hl 2 rfl) ?_
  refine g_put (w1 := [(h_this, .inr (4, FX5 r_this p0 p1)), ((r_this 2), gA G 384 t_this_pixels)]) (T := TX5) (N := 3) (ci := 4) (C := RX5) (ty := .int) (v := .int p1) X hK hH in_RX5 tyX5 tyX5_ok nmX5 0 rfl rfl 1 (by decide) q_49 (fun _ h9 => h9) rfl (by decide +kernel) rfl rfl (Nat.le_of_ble_eq_true rfl) dX5_clear_7 FX5_rows rfl (fun H locs hH => ?_)
  refine lv_aload_n hx hb dX5_clear_10 rfl (lv_at hl 0 rfl) ?_
  refine g_get (T := TX5) (N := 3) (ci := 4) (C := RX5) (v := .ref (r_this 2)) X hK hH in_RX5 0 rfl rfl 2 (by decide) q_51 (fun _ h9 => h9) rfl dX5_clear_11 ?_
  refine lv_iconst (v := (0 : Int32)) hx hb dX5_clear_14 (by decide) ?_
  obtain ⟨o1, ho1, hf⟩ := sbind hf
  refine g_cSv (isC := [1]) (isR := [0]) (isP := [0, 1]) (wr := [(h_this, .inr (4, FX5 r_this p0 p1))]) (w2 := [(h_this, .inr (4, FX5 r_this p0 p1)), ((r_this 2), gA G 384 o1)]) X hK hA hH hl (ct_J7_fill_53178 l G (r_this 2) 384 t_this_pixels (0 : Int32) H.size o1 ho1) ⟨q_15, q_498, hd_J7_fill_53178, rfl, rfl, ⟨Nat.le_of_ble_eq_true rfl, Nat.le_of_ble_eq_true rfl⟩, ⟨Nat.zero_le _, Nat.zero_le _⟩⟩ q_496 q_497 ⟨rfl, rfl, rfl, rfl, by decide, rfl, rfl⟩ rfl rfl (Nat.le_of_ble_eq_true rfl) dX5_clear_15 (fun H locs hH => ?_)
  obtain rfl := Option.some.inj hf
  exact hE _ _ _ _ hH dX5_clear_18

def lf_X5_has (i_this_columns : Int32) (i_this_rows : Int32) (p0 : Int32) (p1 : Int32) : Option (Int32) :=
jn (fun (z2 : Unit) => some (0 : Int32)) (fun k2 => (if p0 < (0 : Int32) then k2 () else (if i_this_columns ≤ p0 then k2 () else (if p1 < (0 : Int32) then k2 () else (if i_this_rows ≤ p1 then k2 () else some (1 : Int32))))))
abbrev rm_X5_has : Room := { frames := 0, cells := 0, slots := 0, locals := 0 }
theorem hd_X5_has : yX5_has.cls ≠ "java/lang/invoke/MethodHandle" ∧ yX5_has.cls ≠ "java/lang/invoke/VarHandle" ∧ (parseMethodDescriptor yX5_has.desc).map (fun d => d.parameters.length) = some 2 := by decide +kernel
set_option maxHeartbeats 4000000 in
set_option maxRecDepth 100000 in
theorem ct_X5_has (l : Launch) (G : gG) (h_this : Nat) (r_this : Nat → Nat) (i_this_columns i_this_rows : Int32) (p0 p1 : Int32) (sz : Nat) (out : Int32) (hf : lf_X5_has i_this_columns i_this_rows p0 p1 = some out) : gI l G yX5_has cX5_has 3 .boolean rm_X5_has [.ref h_this, .int p0, .int p1] sz [(h_this, .inr (4, FX5 r_this i_this_columns i_this_rows))] out [(h_this, .inr (4, FX5 r_this i_this_columns i_this_rows))] := by
  refine gI_of (by decide +kernel) (Nat.le_of_ble_eq_true rfl) ?_
  intro p e s m args below meth c ls A Q X hK hA hsz hH hl hE
  subst hsz
  have hx := X.1
  have hb := X.2.1
  unfold lf_X5_has at hf
  have hl : lv_has ls 3 [(0, .ref h_this), (1, .int p0), (2, .int p1)] := hl
  have hH : gH G A s.heap s.heap [] [(h_this, .inr (4, FX5 r_this i_this_columns i_this_rows))] := hH
  refine lv_iload_n hx hb dX5_has_0 rfl (lv_at hl 1 rfl) ?_
  obtain ⟨k2, hk2, hf⟩ := sjn hf
  have J2 : ∀  (H : Heap) (locs : List Loc) (ls : Array Slot), k2 () = some out → gH G A s.heap H locs [(h_this, .inr (4, FX5 r_this i_this_columns i_this_rows))] → lv_has ls 3 [] → W p l e rm_X5_has s m args below meth c H locs 0 0 Q (F0 m 28 ls []) := by
    intro  H locs ls hf hH hl
    have hf := hk2 _ _ hf
    refine lv_iconst (v := (0 : Int32)) hx hb dX5_has_28 (by decide) ?_
    obtain rfl := Option.some.inj hf
    exact hE _ _ _ _ (show narrow .boolean (.int (0 : Int32)) = .int (0 : Int32) from rfl) hH dX5_has_29
  refine lv_if_lt (tgt := 28) hx hb dX5_has_1 (by decide) (fun c1 => ?_) (fun c1 => ?_)
  · have hf := spos hf c1
    exact J2  _ _ _ hf hH (lv_sub hl [] rfl)
  · have hf := sneg hf c1
    refine lv_iload_n hx hb dX5_has_4 rfl (lv_at hl 1 rfl) ?_
    refine lv_aload_n hx hb dX5_has_5 rfl (lv_at hl 0 rfl) ?_
    refine g_get (T := TX5) (N := 3) (ci := 4) (C := RX5) (v := .int i_this_columns) X hK hH in_RX5 0 rfl rfl 0 (by decide) q_47 (fun _ h9 => h9) rfl dX5_has_6 ?_
    refine lv_icmp_ge (tgt := 28) hx hb dX5_has_9 (by decide) (fun c3 => ?_) (fun c3 => ?_)
    · have hf := spos hf c3
      exact J2  _ _ _ hf hH (lv_sub hl [] rfl)
    · have hf := sneg hf c3
      refine lv_iload_n hx hb dX5_has_12 rfl (lv_at hl 2 rfl) ?_
      refine lv_if_lt (tgt := 28) hx hb dX5_has_13 (by decide) (fun c4 => ?_) (fun c4 => ?_)
      · have hf := spos hf c4
        exact J2  _ _ _ hf hH (lv_sub hl [] rfl)
      · have hf := sneg hf c4
        refine lv_iload_n hx hb dX5_has_16 rfl (lv_at hl 2 rfl) ?_
        refine lv_aload_n hx hb dX5_has_17 rfl (lv_at hl 0 rfl) ?_
        refine g_get (T := TX5) (N := 3) (ci := 4) (C := RX5) (v := .int i_this_rows) X hK hH in_RX5 0 rfl rfl 1 (by decide) q_49 (fun _ h9 => h9) rfl dX5_has_18 ?_
        refine lv_icmp_ge (tgt := 28) hx hb dX5_has_21 (by decide) (fun c5 => ?_) (fun c5 => ?_)
        · have hf := spos hf c5
          exact J2  _ _ _ hf hH (lv_sub hl [] rfl)
        · have hf := sneg hf c5
          refine lv_iconst (v := (1 : Int32)) hx hb dX5_has_24 (by decide) ?_
          refine lv_goto (tgt := 29) hx hb dX5_has_25 (by decide) ?_
          obtain rfl := Option.some.inj hf
          exact hE _ _ _ _ (show narrow .boolean (.int (1 : Int32)) = .int (1 : Int32) from rfl) hH dX5_has_29

def lf_X5_at (i_this_columns : Int32) (i_this_rows : Int32) (t_this_pixels : Nat → Int32) (p0 : Int32) (p1 : Int32) : Option (Int32) :=
(lf_X5_has i_this_columns i_this_rows p0 p1).bind fun o1 => (if o1 = (0 : Int32) then some (0 : Int32) else (rdA 384 t_this_pixels ((p1 * (16 : Int32)) + p0)).bind fun x3 => some x3)
abbrev rm_X5_at : Room := { frames := 1, cells := 0, slots := 0, locals := 22 }
theorem hd_X5_at : yX5_at.cls ≠ "java/lang/invoke/MethodHandle" ∧ yX5_at.cls ≠ "java/lang/invoke/VarHandle" ∧ (parseMethodDescriptor yX5_at.desc).map (fun d => d.parameters.length) = some 2 := by decide +kernel
set_option maxHeartbeats 4000000 in
set_option maxRecDepth 100000 in
theorem ct_X5_at (l : Launch) (G : gG) (h_this : Nat) (r_this : Nat → Nat) (i_this_columns i_this_rows : Int32) (t_this_pixels : Nat → Int32) (p0 p1 : Int32) (sz : Nat) (out : Int32) (hf : lf_X5_at i_this_columns i_this_rows t_this_pixels p0 p1 = some out) : gI l G yX5_at cX5_at 3 .int rm_X5_at [.ref h_this, .int p0, .int p1] sz [(h_this, .inr (4, FX5 r_this i_this_columns i_this_rows)), ((r_this 2), gA G 384 t_this_pixels)] out [(h_this, .inr (4, FX5 r_this i_this_columns i_this_rows)), ((r_this 2), gA G 384 t_this_pixels)] := by
  refine gI_of (by decide +kernel) (Nat.le_of_ble_eq_true rfl) ?_
  intro p e s m args below meth c ls A Q X hK hA hsz hH hl hE
  subst hsz
  have hx := X.1
  have hb := X.2.1
  unfold lf_X5_at at hf
  have hl : lv_has ls 3 [(0, .ref h_this), (1, .int p0), (2, .int p1)] := hl
  have hH : gH G A s.heap s.heap [] [(h_this, .inr (4, FX5 r_this i_this_columns i_this_rows)), ((r_this 2), gA G 384 t_this_pixels)] := hH
  refine lv_aload_n hx hb dX5_at_0 rfl (lv_at hl 0 rfl) ?_
  refine lv_iload_n hx hb dX5_at_1 rfl (lv_at hl 1 rfl) ?_
  refine lv_iload_n hx hb dX5_at_2 rfl (lv_at hl 2 rfl) ?_
  obtain ⟨o1, ho1, hf⟩ := sbind hf
  refine g_cVi (isC := [0]) (isR := [1]) (isP := [1, 0]) (wr := [((r_this 2), gA G 384 t_this_pixels)]) (w2 := [(h_this, .inr (4, FX5 r_this i_this_columns i_this_rows)), ((r_this 2), gA G 384 t_this_pixels)]) (q0 := 0) X hK hA hH hl (ct_X5_has l G h_this r_this i_this_columns i_this_rows p0 p1 s.heap.size o1 ho1) ⟨q_2, q_313, hd_X5_has, rfl, rfl, ⟨Nat.le_of_ble_eq_true rfl, Nat.le_of_ble_eq_true rfl⟩, ⟨Nat.zero_le _, Nat.zero_le _⟩⟩ q_407 q_311 q_312 rfl rfl ⟨rfl, rfl, rfl, rfl, by decide, rfl, rfl⟩ rfl rfl (Nat.le_of_ble_eq_true rfl) dX5_at_3 (fun H locs hH => ?_)
  refine lv_if_eq (tgt := 23) hx hb dX5_at_6 (by decide) (fun c2 => ?_) (fun c2 => ?_)
  · have hf := spos hf c2
    refine lv_iconst (v := (0 : Int32)) hx hb dX5_at_23 (by decide) ?_
    obtain rfl := Option.some.inj hf
    exact hE _ _ _ _ rfl hH dX5_at_24
  · have hf := sneg hf c2
    refine lv_aload_n hx hb dX5_at_9 rfl (lv_at hl 0 rfl) ?_
    refine g_get (T := TX5) (N := 3) (ci := 4) (C := RX5) (v := .ref (r_this 2)) X hK hH in_RX5 0 rfl rfl 2 (by decide) q_51 (fun _ h9 => h9) rfl dX5_at_10 ?_
    refine lv_iload_n hx hb dX5_at_13 rfl (lv_at hl 2 rfl) ?_
    refine lv_bipush (v := (16 : Int32)) hx hb dX5_at_14 (by decide) ?_
    refine lv_imul hx hb dX5_at_16 ?_
    refine lv_iload_n hx hb dX5_at_17 rfl (lv_at hl 1 rfl) ?_
    refine lv_iadd hx hb dX5_at_18 ?_
    obtain ⟨x3, hx3, hf⟩ := sbind hf
    refine g_ald X hK hH 1 rfl hx3 dX5_at_19 ?_
    refine lv_goto (tgt := 24) hx hb dX5_at_20 (by decide) ?_
    obtain rfl := Option.some.inj hf
    exact hE _ _ _ _ rfl hH dX5_at_24

def lf_X5_put (i_this_columns : Int32) (i_this_rows : Int32) (t_this_pixels : Nat → Int32) (p0 : Int32) (p1 : Int32) (p2 : Int32) : Option ((Nat → Int32)) :=
(lf_X5_has i_this_columns i_this_rows p0 p1).bind fun o1 => (if o1 = (0 : Int32) then some t_this_pixels else (wrA 384 t_this_pixels ((p1 * (16 : Int32)) + p0) p2).bind fun g3 => some g3)
abbrev rm_X5_put : Room := { frames := 1, cells := 0, slots := 0, locals := 22 }
theorem hd_X5_put : yX5_put.cls ≠ "java/lang/invoke/MethodHandle" ∧ yX5_put.cls ≠ "java/lang/invoke/VarHandle" ∧ (parseMethodDescriptor yX5_put.desc).map (fun d => d.parameters.length) = some 3 := by decide +kernel
set_option maxHeartbeats 4000000 in
set_option maxRecDepth 100000 in
theorem ct_X5_put (l : Launch) (G : gG) (h_this : Nat) (r_this : Nat → Nat) (i_this_columns i_this_rows : Int32) (t_this_pixels : Nat → Int32) (p0 p1 p2 : Int32) (sz : Nat) (out : (Nat → Int32)) (hf : lf_X5_put i_this_columns i_this_rows t_this_pixels p0 p1 p2 = some out) : gV l G yX5_put cX5_put 4 rm_X5_put [.ref h_this, .int p0, .int p1, .int p2] sz [(h_this, .inr (4, FX5 r_this i_this_columns i_this_rows)), ((r_this 2), gA G 384 t_this_pixels)] [(h_this, .inr (4, FX5 r_this i_this_columns i_this_rows)), ((r_this 2), gA G 384 out)] := by
  refine gV_of (by decide +kernel) (Nat.le_of_ble_eq_true rfl) ?_
  intro p e s m args below meth c ls A Q X hK hA hsz hH hl hE
  subst hsz
  have hx := X.1
  have hb := X.2.1
  unfold lf_X5_put at hf
  have hl : lv_has ls 4 [(0, .ref h_this), (1, .int p0), (2, .int p1), (3, .int p2)] := hl
  have hH : gH G A s.heap s.heap [] [(h_this, .inr (4, FX5 r_this i_this_columns i_this_rows)), ((r_this 2), gA G 384 t_this_pixels)] := hH
  refine lv_aload_n hx hb dX5_put_0 rfl (lv_at hl 0 rfl) ?_
  refine lv_iload_n hx hb dX5_put_1 rfl (lv_at hl 1 rfl) ?_
  refine lv_iload_n hx hb dX5_put_2 rfl (lv_at hl 2 rfl) ?_
  obtain ⟨o1, ho1, hf⟩ := sbind hf
  refine g_cVi (isC := [0]) (isR := [1]) (isP := [1, 0]) (wr := [((r_this 2), gA G 384 t_this_pixels)]) (w2 := [(h_this, .inr (4, FX5 r_this i_this_columns i_this_rows)), ((r_this 2), gA G 384 t_this_pixels)]) (q0 := 0) X hK hA hH hl (ct_X5_has l G h_this r_this i_this_columns i_this_rows p0 p1 s.heap.size o1 ho1) ⟨q_2, q_313, hd_X5_has, rfl, rfl, ⟨Nat.le_of_ble_eq_true rfl, Nat.le_of_ble_eq_true rfl⟩, ⟨Nat.zero_le _, Nat.zero_le _⟩⟩ q_407 q_311 q_312 rfl rfl ⟨rfl, rfl, rfl, rfl, by decide, rfl, rfl⟩ rfl rfl (Nat.le_of_ble_eq_true rfl) dX5_put_3 (fun H locs hH => ?_)
  refine lv_if_eq (tgt := 21) hx hb dX5_put_6 (by decide) (fun c2 => ?_) (fun c2 => ?_)
  · have hf := spos hf c2
    obtain rfl := Option.some.inj hf
    exact hE _ _ _ _ hH dX5_put_21
  · have hf := sneg hf c2
    refine lv_aload_n hx hb dX5_put_9 rfl (lv_at hl 0 rfl) ?_
    refine g_get (T := TX5) (N := 3) (ci := 4) (C := RX5) (v := .ref (r_this 2)) X hK hH in_RX5 0 rfl rfl 2 (by decide) q_51 (fun _ h9 => h9) rfl dX5_put_10 ?_
    refine lv_iload_n hx hb dX5_put_13 rfl (lv_at hl 2 rfl) ?_
    refine lv_bipush (v := (16 : Int32)) hx hb dX5_put_14 (by decide) ?_
    refine lv_imul hx hb dX5_put_16 ?_
    refine lv_iload_n hx hb dX5_put_17 rfl (lv_at hl 1 rfl) ?_
    refine lv_iadd hx hb dX5_put_18 ?_
    refine lv_iload_n hx hb dX5_put_19 rfl (lv_at hl 3 rfl) ?_
    obtain ⟨g3, hg3, hf⟩ := sbind hf
    refine g_ast (w1 := [(h_this, .inr (4, FX5 r_this i_this_columns i_this_rows)), ((r_this 2), gA G 384 g3)]) X hK hH 1 rfl hg3 dX5_put_20 rfl (fun H locs hH => ?_)
    obtain rfl := Option.some.inj hf
    exact hE _ _ _ _ hH dX5_put_21

def lf_X5_isAsLargeAs (i_this_columns : Int32) (i_this_rows : Int32) (i_p0_columns : Int32) (i_p0_rows : Int32) : Option (Int32) :=
jn (fun (z2 : Unit) => some (0 : Int32)) (fun k2 => (if i_this_columns = i_p0_columns then (if i_this_rows = i_p0_rows then some (1 : Int32) else k2 ()) else k2 ()))
abbrev rm_X5_isAsLargeAs : Room := { frames := 0, cells := 0, slots := 0, locals := 0 }
theorem hd_X5_isAsLargeAs : yX5_isAsLargeAs.cls ≠ "java/lang/invoke/MethodHandle" ∧ yX5_isAsLargeAs.cls ≠ "java/lang/invoke/VarHandle" ∧ (parseMethodDescriptor yX5_isAsLargeAs.desc).map (fun d => d.parameters.length) = some 1 := by decide +kernel
set_option maxHeartbeats 4000000 in
set_option maxRecDepth 100000 in
theorem ct_X5_isAsLargeAs (l : Launch) (G : gG) (h_this h_p0 : Nat) (r_this r_p0 : Nat → Nat) (i_this_columns i_this_rows i_p0_columns i_p0_rows : Int32) (sz : Nat) (out : Int32) (hf : lf_X5_isAsLargeAs i_this_columns i_this_rows i_p0_columns i_p0_rows = some out) : gI l G yX5_isAsLargeAs cX5_isAsLargeAs 2 .boolean rm_X5_isAsLargeAs [.ref h_this, .ref h_p0] sz [(h_this, .inr (4, FX5 r_this i_this_columns i_this_rows)), (h_p0, .inr (4, FX5 r_p0 i_p0_columns i_p0_rows))] out [(h_this, .inr (4, FX5 r_this i_this_columns i_this_rows)), (h_p0, .inr (4, FX5 r_p0 i_p0_columns i_p0_rows))] := by
  refine gI_of (by decide +kernel) (Nat.le_of_ble_eq_true rfl) ?_
  intro p e s m args below meth c ls A Q X hK hA hsz hH hl hE
  subst hsz
  have hx := X.1
  have hb := X.2.1
  unfold lf_X5_isAsLargeAs at hf
  have hl : lv_has ls 2 [(0, .ref h_this), (1, .ref h_p0)] := hl
  have hH : gH G A s.heap s.heap [] [(h_this, .inr (4, FX5 r_this i_this_columns i_this_rows)), (h_p0, .inr (4, FX5 r_p0 i_p0_columns i_p0_rows))] := hH
  refine lv_aload_n hx hb dX5_isAsLargeAs_0 rfl (lv_at hl 0 rfl) ?_
  refine g_get (T := TX5) (N := 3) (ci := 4) (C := RX5) (v := .int i_this_columns) X hK hH in_RX5 0 rfl rfl 0 (by decide) q_47 (fun _ h9 => h9) rfl dX5_isAsLargeAs_1 ?_
  refine lv_aload_n hx hb dX5_isAsLargeAs_4 rfl (lv_at hl 1 rfl) ?_
  refine g_get (T := TX5) (N := 3) (ci := 4) (C := RX5) (v := .int i_p0_columns) X hK hH in_RX5 1 rfl rfl 0 (by decide) q_47 (fun _ h9 => h9) rfl dX5_isAsLargeAs_5 ?_
  obtain ⟨k2, hk2, hf⟩ := sjn hf
  have J2 : ∀  (H : Heap) (locs : List Loc) (ls : Array Slot), k2 () = some out → gH G A s.heap H locs [(h_this, .inr (4, FX5 r_this i_this_columns i_this_rows)), (h_p0, .inr (4, FX5 r_p0 i_p0_columns i_p0_rows))] → lv_has ls 2 [] → W p l e rm_X5_isAsLargeAs s m args below meth c H locs 0 0 Q (F0 m 26 ls []) := by
    intro  H locs ls hf hH hl
    have hf := hk2 _ _ hf
    refine lv_iconst (v := (0 : Int32)) hx hb dX5_isAsLargeAs_26 (by decide) ?_
    obtain rfl := Option.some.inj hf
    exact hE _ _ _ _ (show narrow .boolean (.int (0 : Int32)) = .int (0 : Int32) from rfl) hH dX5_isAsLargeAs_27
  refine lv_icmp_ne (tgt := 26) hx hb dX5_isAsLargeAs_8 (by decide) (fun c1 => ?_) (fun c1 => ?_)
  · have hf := sneg hf c1
    exact J2  _ _ _ hf hH (lv_sub hl [] rfl)
  · have hf := spos hf c1
    refine lv_aload_n hx hb dX5_isAsLargeAs_11 rfl (lv_at hl 0 rfl) ?_
    refine g_get (T := TX5) (N := 3) (ci := 4) (C := RX5) (v := .int i_this_rows) X hK hH in_RX5 0 rfl rfl 1 (by decide) q_49 (fun _ h9 => h9) rfl dX5_isAsLargeAs_12 ?_
    refine lv_aload_n hx hb dX5_isAsLargeAs_15 rfl (lv_at hl 1 rfl) ?_
    refine g_get (T := TX5) (N := 3) (ci := 4) (C := RX5) (v := .int i_p0_rows) X hK hH in_RX5 1 rfl rfl 1 (by decide) q_49 (fun _ h9 => h9) rfl dX5_isAsLargeAs_16 ?_
    refine lv_icmp_ne (tgt := 26) hx hb dX5_isAsLargeAs_19 (by decide) (fun c3 => ?_) (fun c3 => ?_)
    · have hf := sneg hf c3
      exact J2  _ _ _ hf hH (lv_sub hl [] rfl)
    · have hf := spos hf c3
      refine lv_iconst (v := (1 : Int32)) hx hb dX5_isAsLargeAs_22 (by decide) ?_
      refine lv_goto (tgt := 27) hx hb dX5_isAsLargeAs_23 (by decide) ?_
      obtain rfl := Option.some.inj hf
      exact hE _ _ _ _ (show narrow .boolean (.int (1 : Int32)) = .int (1 : Int32) from rfl) hH dX5_isAsLargeAs_27

def lf_X5_addRows (i_this_columns : Int32) (i_this_rows : Int32) (t_this_pixels : Nat → Int32) (n_p0 : Nat) (t_p0 : Nat → Int32) (p1 : Int32) : Option ((Nat → Int32)) :=
bnd (jmin (p1 + (8 : Int32)) i_this_rows) fun x1 => (fixN FUEL (fun (self4 : (Int32 × (Nat → Int32)) → Option ((Nat → Int32))) (z4 : Int32 × (Nat → Int32)) => (fun (x2 : Int32) (g3 : (Nat → Int32)) => (if x1 ≤ x2 then some g3 else (fixN FUEL (fun (self8 : (Int32 × (Nat → Int32)) → Option ((Nat → Int32))) (z8 : Int32 × (Nat → Int32)) => (fun (x6 : Int32) (g7 : (Nat → Int32)) => (if i_this_columns ≤ x6 then some g7 else (rdA 384 g7 ((x2 * (16 : Int32)) + x6)).bind fun x10 => (rdA n_p0 t_p0 ((x2 * (16 : Int32)) + x6)).bind fun x11 => (wrA 384 g7 ((x2 * (16 : Int32)) + x6) (x10 + x11)).bind fun g12 => bnd (x6 + (1 : Int32)) fun x13 => self8 (x13, g12))) z8.1 z8.2) ((0 : Int32), g3)).bind fun o8 => bnd (x2 + (1 : Int32)) fun x14 => self4 (x14, o8))) z4.1 z4.2) (p1, t_this_pixels)).bind fun o4 => some o4
abbrev rm_X5_addRows : Room := { frames := 1, cells := 0, slots := 0, locals := 40 }
theorem hd_X5_addRows : yX5_addRows.cls ≠ "java/lang/invoke/MethodHandle" ∧ yX5_addRows.cls ≠ "java/lang/invoke/VarHandle" ∧ (parseMethodDescriptor yX5_addRows.desc).map (fun d => d.parameters.length) = some 2 := by decide +kernel
set_option maxHeartbeats 4000000 in
set_option maxRecDepth 100000 in
theorem ct_X5_addRows (l : Launch) (G : gG) (h_this : Nat) (r_this : Nat → Nat) (i_this_columns i_this_rows : Int32) (a_p0 n_p0 : Nat) (t_this_pixels t_p0 : Nat → Int32) (p1 : Int32) (sz : Nat) (out : (Nat → Int32)) (hf : lf_X5_addRows i_this_columns i_this_rows t_this_pixels n_p0 t_p0 p1 = some out) : gV l G yX5_addRows cX5_addRows 6 rm_X5_addRows [.ref h_this, .ref a_p0, .int p1] sz [(h_this, .inr (4, FX5 r_this i_this_columns i_this_rows)), ((r_this 2), gA G 384 t_this_pixels), (a_p0, gA G n_p0 t_p0)] [(h_this, .inr (4, FX5 r_this i_this_columns i_this_rows)), ((r_this 2), gA G 384 out), (a_p0, gA G n_p0 t_p0)] := by
  refine gV_of (by decide +kernel) (Nat.le_of_ble_eq_true rfl) ?_
  intro p e s m args below meth c ls A Q X hK hA hsz hH hl hE
  subst hsz
  have hx := X.1
  have hb := X.2.1
  unfold lf_X5_addRows at hf
  have hl : lv_has ls 6 [(0, .ref h_this), (1, .ref a_p0), (2, .int p1)] := hl
  have hH : gH G A s.heap s.heap [] [(h_this, .inr (4, FX5 r_this i_this_columns i_this_rows)), ((r_this 2), gA G 384 t_this_pixels), (a_p0, gA G n_p0 t_p0)] := hH
  refine lv_iload_n hx hb dX5_addRows_0 rfl (lv_at hl 2 rfl) ?_
  refine lv_bipush (v := (8 : Int32)) hx hb dX5_addRows_1 (by decide) ?_
  refine lv_iadd hx hb dX5_addRows_3 ?_
  refine lv_aload_n hx hb dX5_addRows_4 rfl (lv_at hl 0 rfl) ?_
  refine g_get (T := TX5) (N := 3) (ci := 4) (C := RX5) (v := .int i_this_rows) X hK hH in_RX5 0 rfl rfl 1 (by decide) q_49 (fun _ h9 => h9) rfl dX5_addRows_5 ?_
  refine g_min X hl q_648 q_511 q_16 q_512 ⟨Nat.le_of_ble_eq_true rfl, Nat.le_of_ble_eq_true rfl⟩ ⟨Nat.zero_le _, Nat.zero_le _⟩ dX5_addRows_8 ?_
  refine lv_topi (fun x1 ex1 => ?_)
  have hf := sbnd hf x1 ex1
  refine lv_istore_n (lv' := [(3, .int x1), (0, .ref h_this), (1, .ref a_p0), (2, .int p1)]) hx hb dX5_addRows_11 rfl hl (by decide) rfl (fun ls hl => ?_)
  refine lv_iload_n hx hb dX5_addRows_12 rfl (lv_at hl 3 rfl) ?_
  refine lv_istore (lv' := [(4, .int p1), (3, .int x1), (0, .ref h_this), (1, .ref a_p0), (2, .int p1)]) hx hb dX5_addRows_13 hl (by decide) rfl (fun ls hl => ?_)
  obtain ⟨o4, ho4, hf⟩ := sbind hf
  obtain ⟨FF4, hFF4, ho4⟩ := sfix ho4
  have L4 : ∀ (n : Nat) (x2 : Int32) (g3 : (Nat → Int32)) (b4 : (Nat → Int32)) (H : Heap) (locs : List Loc) (ls : Array Slot), fixN n FF4 (x2, g3) = some b4 → gH G A s.heap H locs [(h_this, .inr (4, FX5 r_this i_this_columns i_this_rows)), ((r_this 2), gA G 384 g3), (a_p0, gA G n_p0 t_p0)] → lv_has ls 6 [(0, .ref h_this), (1, .ref a_p0), (3, .int x1), (4, .int x2)] → (∀ (H : Heap) (locs : List Loc) (ls : Array Slot), gH G A s.heap H locs [(h_this, .inr (4, FX5 r_this i_this_columns i_this_rows)), ((r_this 2), gA G 384 b4), (a_p0, gA G n_p0 t_p0)] → lv_has ls 6 [] → W p l e rm_X5_addRows s m args below meth c H locs 0 0 Q (F0 m 71 ls [])) → W p l e rm_X5_addRows s m args below meth c H locs 0 0 Q (F0 m 15 ls []) := by
    intro n
    induction n with
    | zero => intro x2 g3 b4 H locs ls hf; exact sfix0 hf
    | succ n ih =>
      intro x2 g3 b4 H locs ls hf hH hl KK
      obtain ⟨self4, hself4, hf⟩ := sstep hFF4 hf
      refine lv_iload hx hb dX5_addRows_15 (lv_at hl 3 rfl) ?_
      refine lv_iload_n hx hb dX5_addRows_17 rfl (lv_at hl 2 rfl) ?_
      refine lv_icmp_ge (tgt := 71) hx hb dX5_addRows_18 (by decide) (fun c5 => ?_) (fun c5 => ?_)
      · have hf := spos hf c5
        obtain rfl := Option.some.inj hf
        exact KK _ _ _ hH (lv_sub hl [] rfl)
      · have hf := sneg hf c5
        refine lv_iconst (v := (0 : Int32)) hx hb dX5_addRows_21 (by decide) ?_
        refine lv_istore (lv' := [(5, .int (0 : Int32)), (0, .ref h_this), (1, .ref a_p0), (3, .int x1), (4, .int x2)]) hx hb dX5_addRows_22 hl (by decide) rfl (fun ls hl => ?_)
        obtain ⟨o8, ho8, hf⟩ := sbind hf
        obtain ⟨FF8, hFF8, ho8⟩ := sfix ho8
        have L8 : ∀ (n : Nat) (x6 : Int32) (g7 : (Nat → Int32)) (b8 : (Nat → Int32)) (H : Heap) (locs : List Loc) (ls : Array Slot), fixN n FF8 (x6, g7) = some b8 → gH G A s.heap H locs [(h_this, .inr (4, FX5 r_this i_this_columns i_this_rows)), ((r_this 2), gA G 384 g7), (a_p0, gA G n_p0 t_p0)] → lv_has ls 6 [(0, .ref h_this), (1, .ref a_p0), (3, .int x1), (4, .int x2), (5, .int x6)] → (∀ (H : Heap) (locs : List Loc) (ls : Array Slot), gH G A s.heap H locs [(h_this, .inr (4, FX5 r_this i_this_columns i_this_rows)), ((r_this 2), gA G 384 b8), (a_p0, gA G n_p0 t_p0)] → lv_has ls 6 [(0, .ref h_this), (1, .ref a_p0), (3, .int x1), (4, .int x2)] → W p l e rm_X5_addRows s m args below meth c H locs 0 0 Q (F0 m 65 ls [])) → W p l e rm_X5_addRows s m args below meth c H locs 0 0 Q (F0 m 24 ls []) := by
          intro n
          induction n with
          | zero => intro x6 g7 b8 H locs ls hf; exact sfix0 hf
          | succ n ih =>
            intro x6 g7 b8 H locs ls hf hH hl KK
            obtain ⟨self8, hself8, hf⟩ := sstep hFF8 hf
            refine lv_iload hx hb dX5_addRows_24 (lv_at hl 4 rfl) ?_
            refine lv_aload_n hx hb dX5_addRows_26 rfl (lv_at hl 0 rfl) ?_
            refine g_get (T := TX5) (N := 3) (ci := 4) (C := RX5) (v := .int i_this_columns) X hK hH in_RX5 0 rfl rfl 0 (by decide) q_47 (fun _ h9 => h9) rfl dX5_addRows_27 ?_
            refine lv_icmp_ge (tgt := 65) hx hb dX5_addRows_30 (by decide) (fun c9 => ?_) (fun c9 => ?_)
            · have hf := spos hf c9
              obtain rfl := Option.some.inj hf
              exact KK _ _ _ hH (lv_sub hl [0, 1, 2, 3] rfl)
            · have hf := sneg hf c9
              refine lv_aload_n hx hb dX5_addRows_33 rfl (lv_at hl 0 rfl) ?_
              refine g_get (T := TX5) (N := 3) (ci := 4) (C := RX5) (v := .ref (r_this 2)) X hK hH in_RX5 0 rfl rfl 2 (by decide) q_51 (fun _ h9 => h9) rfl dX5_addRows_34 ?_
              refine lv_iload hx hb dX5_addRows_37 (lv_at hl 3 rfl) ?_
              refine lv_bipush (v := (16 : Int32)) hx hb dX5_addRows_39 (by decide) ?_
              refine lv_imul hx hb dX5_addRows_41 ?_
              refine lv_iload hx hb dX5_addRows_42 (lv_at hl 4 rfl) ?_
              refine lv_iadd hx hb dX5_addRows_44 ?_
              refine lv_dup2_11 hx hb dX5_addRows_45 rfl rfl ?_
              obtain ⟨x10, hx10, hf⟩ := sbind hf
              refine g_ald X hK hH 1 rfl hx10 dX5_addRows_46 ?_
              refine lv_aload_n hx hb dX5_addRows_47 rfl (lv_at hl 1 rfl) ?_
              refine lv_iload hx hb dX5_addRows_48 (lv_at hl 3 rfl) ?_
              refine lv_bipush (v := (16 : Int32)) hx hb dX5_addRows_50 (by decide) ?_
              refine lv_imul hx hb dX5_addRows_52 ?_
              refine lv_iload hx hb dX5_addRows_53 (lv_at hl 4 rfl) ?_
              refine lv_iadd hx hb dX5_addRows_55 ?_
              obtain ⟨x11, hx11, hf⟩ := sbind hf
              refine g_ald X hK hH 2 rfl hx11 dX5_addRows_56 ?_
              refine lv_iadd hx hb dX5_addRows_57 ?_
              obtain ⟨g12, hg12, hf⟩ := sbind hf
              refine g_ast (w1 := [(h_this, .inr (4, FX5 r_this i_this_columns i_this_rows)), ((r_this 2), gA G 384 g12), (a_p0, gA G n_p0 t_p0)]) X hK hH 1 rfl hg12 dX5_addRows_58 rfl (fun H locs hH => ?_)
              obtain ⟨x13, ex13⟩ : ∃ y : Int32, y = (x6 + (1 : Int32)) := ⟨_, rfl⟩
              have hf := sbnd hf x13 ex13
              refine lv_iinc (v := x13) (lv' := [(5, .int x13), (0, .ref h_this), (1, .ref a_p0), (3, .int x1), (4, .int x2)]) hx hb dX5_addRows_59 hl (k := 4) rfl (by rw [ex13]; rfl) (by decide) rfl (fun ls hl => ?_)
              refine lv_goto (tgt := 24) hx hb dX5_addRows_62 (by decide) ?_
              exact ih x13 g12 _ _ _ _ (hself8 _ _ hf) hH (lv_sub hl [1, 2, 3, 4, 0] rfl) KK
        refine L8 FUEL (0 : Int32) g3 o8 _ _ _ ho8 hH (lv_sub hl [1, 2, 3, 4, 0] rfl) (fun H locs ls hH hl => ?_)
        obtain ⟨x14, ex14⟩ : ∃ y : Int32, y = (x2 + (1 : Int32)) := ⟨_, rfl⟩
        have hf := sbnd hf x14 ex14
        refine lv_iinc (v := x14) (lv' := [(4, .int x14), (0, .ref h_this), (1, .ref a_p0), (3, .int x1)]) hx hb dX5_addRows_65 hl (k := 3) rfl (by rw [ex14]; rfl) (by decide) rfl (fun ls hl => ?_)
        refine lv_goto (tgt := 15) hx hb dX5_addRows_68 (by decide) ?_
        exact ih x14 o8 _ _ _ _ (hself4 _ _ hf) hH (lv_sub hl [1, 2, 3, 0] rfl) KK
  refine L4 FUEL p1 t_this_pixels o4 _ _ _ ho4 hH (lv_sub hl [2, 3, 1, 0] rfl) (fun H locs ls hH hl => ?_)
  obtain rfl := Option.some.inj hf
  exact hE _ _ _ _ hH dX5_addRows_71

def lf_X5_clamp (t_this_pixels : Nat → Int32) : Option ((Nat → Int32)) :=
(fixN FUEL (fun (self3 : (Int32 × (Nat → Int32)) → Option ((Nat → Int32))) (z3 : Int32 × (Nat → Int32)) => (fun (x1 : Int32) (g2 : (Nat → Int32)) => (if (384 : Int32) ≤ x1 then some g2 else (rdA 384 g2 x1).bind fun x5 => (wrA 384 g2 x1 (jmax (0 : Int32) (jmin (255 : Int32) x5))).bind fun g6 => bnd (x1 + (1 : Int32)) fun x7 => self3 (x7, g6))) z3.1 z3.2) ((0 : Int32), t_this_pixels)).bind fun o3 => some o3
abbrev rm_X5_clamp : Room := { frames := 1, cells := 0, slots := 0, locals := 40 }
theorem hd_X5_clamp : yX5_clamp.cls ≠ "java/lang/invoke/MethodHandle" ∧ yX5_clamp.cls ≠ "java/lang/invoke/VarHandle" ∧ (parseMethodDescriptor yX5_clamp.desc).map (fun d => d.parameters.length) = some 0 := by decide +kernel
set_option maxHeartbeats 4000000 in
set_option maxRecDepth 100000 in
theorem ct_X5_clamp (l : Launch) (G : gG) (h_this : Nat) (r_this : Nat → Nat) (i_this_columns i_this_rows : Int32) (t_this_pixels : Nat → Int32) (sz : Nat) (out : (Nat → Int32)) (hf : lf_X5_clamp t_this_pixels = some out) : gV l G yX5_clamp cX5_clamp 2 rm_X5_clamp [.ref h_this] sz [(h_this, .inr (4, FX5 r_this i_this_columns i_this_rows)), ((r_this 2), gA G 384 t_this_pixels)] [(h_this, .inr (4, FX5 r_this i_this_columns i_this_rows)), ((r_this 2), gA G 384 out)] := by
  refine gV_of (by decide +kernel) (Nat.le_of_ble_eq_true rfl) ?_
  intro p e s m args below meth c ls A Q X hK hA hsz hH hl hE
  subst hsz
  have hx := X.1
  have hb := X.2.1
  unfold lf_X5_clamp at hf
  have hl : lv_has ls 2 [(0, .ref h_this)] := hl
  have hH : gH G A s.heap s.heap [] [(h_this, .inr (4, FX5 r_this i_this_columns i_this_rows)), ((r_this 2), gA G 384 t_this_pixels)] := hH
  refine lv_iconst (v := (0 : Int32)) hx hb dX5_clamp_0 (by decide) ?_
  refine lv_istore_n (lv' := [(1, .int (0 : Int32)), (0, .ref h_this)]) hx hb dX5_clamp_1 rfl hl (by decide) rfl (fun ls hl => ?_)
  obtain ⟨o3, ho3, hf⟩ := sbind hf
  obtain ⟨FF3, hFF3, ho3⟩ := sfix ho3
  have L3 : ∀ (n : Nat) (x1 : Int32) (g2 : (Nat → Int32)) (b3 : (Nat → Int32)) (H : Heap) (locs : List Loc) (ls : Array Slot), fixN n FF3 (x1, g2) = some b3 → gH G A s.heap H locs [(h_this, .inr (4, FX5 r_this i_this_columns i_this_rows)), ((r_this 2), gA G 384 g2)] → lv_has ls 2 [(0, .ref h_this), (1, .int x1)] → (∀ (H : Heap) (locs : List Loc) (ls : Array Slot), gH G A s.heap H locs [(h_this, .inr (4, FX5 r_this i_this_columns i_this_rows)), ((r_this 2), gA G 384 b3)] → lv_has ls 2 [] → W p l e rm_X5_clamp s m args below meth c H locs 0 0 Q (F0 m 37 ls [])) → W p l e rm_X5_clamp s m args below meth c H locs 0 0 Q (F0 m 2 ls []) := by
    intro n
    induction n with
    | zero => intro x1 g2 b3 H locs ls hf; exact sfix0 hf
    | succ n ih =>
      intro x1 g2 b3 H locs ls hf hH hl KK
      obtain ⟨self3, hself3, hf⟩ := sstep hFF3 hf
      refine lv_iload_n hx hb dX5_clamp_2 rfl (lv_at hl 1 rfl) ?_
      refine lv_sipush (v := (384 : Int32)) hx hb dX5_clamp_3 (by decide) ?_
      refine lv_icmp_ge (tgt := 37) hx hb dX5_clamp_6 (by decide) (fun c4 => ?_) (fun c4 => ?_)
      · have hf := spos hf c4
        obtain rfl := Option.some.inj hf
        exact KK _ _ _ hH (lv_sub hl [] rfl)
      · have hf := sneg hf c4
        refine lv_aload_n hx hb dX5_clamp_9 rfl (lv_at hl 0 rfl) ?_
        refine g_get (T := TX5) (N := 3) (ci := 4) (C := RX5) (v := .ref (r_this 2)) X hK hH in_RX5 0 rfl rfl 2 (by decide) q_51 (fun _ h9 => h9) rfl dX5_clamp_10 ?_
        refine lv_iload_n hx hb dX5_clamp_13 rfl (lv_at hl 1 rfl) ?_
        refine lv_iconst (v := (0 : Int32)) hx hb dX5_clamp_14 (by decide) ?_
        refine lv_sipush (v := (255 : Int32)) hx hb dX5_clamp_15 (by decide) ?_
        refine lv_aload_n hx hb dX5_clamp_18 rfl (lv_at hl 0 rfl) ?_
        refine g_get (T := TX5) (N := 3) (ci := 4) (C := RX5) (v := .ref (r_this 2)) X hK hH in_RX5 0 rfl rfl 2 (by decide) q_51 (fun _ h9 => h9) rfl dX5_clamp_19 ?_
        refine lv_iload_n hx hb dX5_clamp_22 rfl (lv_at hl 1 rfl) ?_
        obtain ⟨x5, hx5, hf⟩ := sbind hf
        refine g_ald X hK hH 1 rfl hx5 dX5_clamp_23 ?_
        refine g_min X hl q_648 q_511 q_16 q_512 ⟨Nat.le_of_ble_eq_true rfl, Nat.le_of_ble_eq_true rfl⟩ ⟨Nat.zero_le _, Nat.zero_le _⟩ dX5_clamp_24 ?_
        refine g_max X hl q_653 q_654 q_16 q_655 ⟨Nat.le_of_ble_eq_true rfl, Nat.le_of_ble_eq_true rfl⟩ ⟨Nat.zero_le _, Nat.zero_le _⟩ dX5_clamp_27 ?_
        obtain ⟨g6, hg6, hf⟩ := sbind hf
        refine g_ast (w1 := [(h_this, .inr (4, FX5 r_this i_this_columns i_this_rows)), ((r_this 2), gA G 384 g6)]) X hK hH 1 rfl hg6 dX5_clamp_30 rfl (fun H locs hH => ?_)
        obtain ⟨x7, ex7⟩ : ∃ y : Int32, y = (x1 + (1 : Int32)) := ⟨_, rfl⟩
        have hf := sbnd hf x7 ex7
        refine lv_iinc (v := x7) (lv' := [(1, .int x7), (0, .ref h_this)]) hx hb dX5_clamp_31 hl (k := 1) rfl (by rw [ex7]; rfl) (by decide) rfl (fun ls hl => ?_)
        refine lv_goto (tgt := 2) hx hb dX5_clamp_34 (by decide) ?_
        exact ih x7 g6 _ _ _ _ (hself3 _ _ hf) hH (lv_sub hl [1, 0] rfl) KK
  refine L3 FUEL (0 : Int32) t_this_pixels o3 _ _ _ ho3 hH (lv_sub hl [1, 0] rfl) (fun H locs ls hH hl => ?_)
  obtain rfl := Option.some.inj hf
  exact hE _ _ _ _ hH dX5_clamp_37
