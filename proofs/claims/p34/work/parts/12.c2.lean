def lf_X1_choose (i_this_code : Int32) (p0 : Int32) (p1 : Int32) : Option (Int32) :=
(if p1 < i_this_code then some (1 : Int32) else some (0 : Int32))
abbrev rm_X1_choose : Room := { frames := 0, cells := 0, slots := 0, locals := 0 }
theorem hd_X1_choose : yX1_choose.cls ≠ "java/lang/invoke/MethodHandle" ∧ yX1_choose.cls ≠ "java/lang/invoke/VarHandle" ∧ (parseMethodDescriptor yX1_choose.desc).map (fun d => d.parameters.length) = some 2 := by decide +kernel
set_option maxHeartbeats 4000000 in
set_option maxRecDepth 100000 in
theorem ct_X1_choose (l : Launch) (G : gG) (h_this : Nat) (r_this : Nat → Nat) (q_this_bytes : Nat) (i_this_low i_this_high i_this_position i_this_end i_this_code : Int32) (p0 p1 : Int32) (sz : Nat) (out : Int32) (hf : lf_X1_choose i_this_code p0 p1 = some out) : gI l G yX1_choose cX1_choose 3 .int rm_X1_choose [.ref h_this, .int p0, .int p1] sz [(h_this, .inr (0, FX1 r_this q_this_bytes i_this_low i_this_high i_this_position i_this_end i_this_code))] out [(h_this, .inr (0, FX1 r_this q_this_bytes i_this_low i_this_high i_this_position i_this_end i_this_code))] := by
  refine gI_of (by decide +kernel) (Nat.le_of_ble_eq_true rfl) ?_
  intro p e s m args below meth c ls A Q X hK hA hsz hH hl hE
  subst hsz
  have hx := X.1
  have hb := X.2.1
  unfold lf_X1_choose at hf
  have hl : lv_has ls 3 [(0, .ref h_this), (1, .int p0), (2, .int p1)] := hl
  have hH : gH G A s.heap s.heap [] [(h_this, .inr (0, FX1 r_this q_this_bytes i_this_low i_this_high i_this_position i_this_end i_this_code))] := hH
  refine lv_aload_n hx hb dX1_choose_0 rfl (lv_at hl 0 rfl) ?_
  refine g_get (T := TX1) (N := 8) (ci := 0) (C := RX1) (v := .int i_this_code) X hK hH in_RX1 0 rfl rfl 7 (by decide) q_198 (fun _ h9 => h9) rfl dX1_choose_1 ?_
  refine lv_iload_n hx hb dX1_choose_4 rfl (lv_at hl 2 rfl) ?_
  refine lv_icmp_gt (tgt := 12) hx hb dX1_choose_5 (by decide) (fun c1 => ?_) (fun c1 => ?_)
  · have hf := spos hf c1
    refine lv_iconst (v := (1 : Int32)) hx hb dX1_choose_12 (by decide) ?_
    obtain rfl := Option.some.inj hf
    exact hE _ _ _ _ rfl hH dX1_choose_13
  · have hf := sneg hf c1
    refine lv_iconst (v := (0 : Int32)) hx hb dX1_choose_8 (by decide) ?_
    refine lv_goto (tgt := 13) hx hb dX1_choose_9 (by decide) ?_
    obtain rfl := Option.some.inj hf
    exact hE _ _ _ _ rfl hH dX1_choose_13

def lf_X1_take (i_this_code : Int32) (i_this_end : Int32) (i_this_position : Int32) (n_this_bytes : Nat) (t_this_bytes : Nat → Int32) (p0 : Int32) : Option (Int32 × Int32) :=
jn (fun (z4 : Int32 × Int32) => (fun (x2 : Int32) (v3 : Int32) => some ((((i_this_code - p0) * (2 : Int32)) + x2), v3)) z4.1 z4.2) (fun k4 => (if i_this_end ≤ i_this_position then k4 ((0 : Int32), i_this_position) else (rdA n_this_bytes t_this_bytes (i_this_position / (8 : Int32))).bind fun x5 => bnd ((x5 >>> (((7 : Int32) - (i_this_position - i_this_position / (8 : Int32) * (8 : Int32))) &&& 31)) &&& (1 : Int32)) fun x6 => k4 (x6, (i_this_position + (1 : Int32)))))
abbrev rm_X1_take : Room := { frames := 0, cells := 0, slots := 0, locals := 0 }
theorem hd_X1_take : yX1_take.cls ≠ "java/lang/invoke/MethodHandle" ∧ yX1_take.cls ≠ "java/lang/invoke/VarHandle" ∧ (parseMethodDescriptor yX1_take.desc).map (fun d => d.parameters.length) = some 1 := by decide +kernel
set_option maxHeartbeats 4000000 in
set_option maxRecDepth 100000 in
theorem ct_X1_take (l : Launch) (G : gG) (h_this : Nat) (r_this : Nat → Nat) (q_this_bytes n_this_bytes : Nat) (i_this_low i_this_high i_this_position i_this_end i_this_code : Int32) (t_this_bytes : Nat → Int32) (p0 : Int32) (sz : Nat) (out : Int32 × Int32) (hf : lf_X1_take i_this_code i_this_end i_this_position n_this_bytes t_this_bytes p0 = some out) : gV l G yX1_take cX1_take 3 rm_X1_take [.ref h_this, .int p0] sz [(h_this, .inr (0, FX1 r_this q_this_bytes i_this_low i_this_high i_this_position i_this_end i_this_code)), (q_this_bytes, gA G n_this_bytes t_this_bytes)] [(h_this, .inr (0, FX1 r_this q_this_bytes i_this_low i_this_high out.2 i_this_end out.1)), (q_this_bytes, gA G n_this_bytes t_this_bytes)] := by
  refine gV_of (by decide +kernel) (Nat.le_of_ble_eq_true rfl) ?_
  intro p e s m args below meth c ls A Q X hK hA hsz hH hl hE
  subst hsz
  have hx := X.1
  have hb := X.2.1
  unfold lf_X1_take at hf
  have hl : lv_has ls 3 [(0, .ref h_this), (1, .int p0)] := hl
  have hH : gH G A s.heap s.heap [] [(h_this, .inr (0, FX1 r_this q_this_bytes i_this_low i_this_high i_this_position i_this_end i_this_code)), (q_this_bytes, gA G n_this_bytes t_this_bytes)] := hH
  refine lv_iconst (v := (0 : Int32)) hx hb dX1_take_0 (by decide) ?_
  refine lv_istore_n (lv' := [(2, .int (0 : Int32)), (0, .ref h_this), (1, .int p0)]) hx hb dX1_take_1 rfl hl (by decide) rfl (fun ls hl => ?_)
  refine lv_aload_n hx hb dX1_take_2 rfl (lv_at hl 1 rfl) ?_
  refine g_get (T := TX1) (N := 8) (ci := 0) (C := RX1) (v := .int i_this_position) X hK hH in_RX1 0 rfl rfl 5 (by decide) q_196 (fun _ h9 => h9) rfl dX1_take_3 ?_
  refine lv_aload_n hx hb dX1_take_6 rfl (lv_at hl 1 rfl) ?_
  refine g_get (T := TX1) (N := 8) (ci := 0) (C := RX1) (v := .int i_this_end) X hK hH in_RX1 0 rfl rfl 6 (by decide) q_197 (fun _ h9 => h9) rfl dX1_take_7 ?_
  obtain ⟨k4, hk4, hf⟩ := sjn hf
  have J4 : ∀ (x2 : Int32) (v3 : Int32) (H : Heap) (locs : List Loc) (ls : Array Slot), k4 (x2, v3) = some out → gH G A s.heap H locs [(h_this, .inr (0, FX1 r_this q_this_bytes i_this_low i_this_high v3 i_this_end i_this_code)), (q_this_bytes, gA G n_this_bytes t_this_bytes)] → lv_has ls 3 [(0, .ref h_this), (1, .int p0), (2, .int x2)] → W p l e rm_X1_take s m args below meth c H locs 0 0 Q (F0 m 49 ls []) := by
    intro x2 v3 H locs ls hf hH hl
    have hf := hk4 _ _ hf
    refine lv_aload_n hx hb dX1_take_49 rfl (lv_at hl 0 rfl) ?_
    refine lv_aload_n hx hb dX1_take_50 rfl (lv_at hl 0 rfl) ?_
    refine g_get (T := TX1) (N := 8) (ci := 0) (C := RX1) (v := .int i_this_code) X hK hH in_RX1 0 rfl rfl 7 (by decide) q_198 (fun _ h9 => h9) rfl dX1_take_51 ?_
    refine lv_iload_n hx hb dX1_take_54 rfl (lv_at hl 1 rfl) ?_
    refine lv_isub hx hb dX1_take_55 ?_
    refine lv_iconst (v := (2 : Int32)) hx hb dX1_take_56 (by decide) ?_
    refine lv_imul hx hb dX1_take_57 ?_
    refine lv_iload_n hx hb dX1_take_58 rfl (lv_at hl 2 rfl) ?_
    refine lv_iadd hx hb dX1_take_59 ?_
    refine g_put (w1 := [(h_this, .inr (0, FX1 r_this q_this_bytes i_this_low i_this_high v3 i_this_end (((i_this_code - p0) * (2 : Int32)) + x2))), (q_this_bytes, gA G n_this_bytes t_this_bytes)]) (T := TX1) (N := 8) (ci := 0) (C := RX1) (ty := .int) (v := .int (((i_this_code - p0) * (2 : Int32)) + x2)) X hK hH in_RX1 tyX1 tyX1_ok nmX1 0 rfl rfl 7 (by decide) q_198 (fun _ h9 => h9) rfl (by decide +kernel) rfl rfl (Nat.le_of_ble_eq_true rfl) dX1_take_60 FX1_code rfl (fun H locs hH => ?_)
    obtain rfl := Option.some.inj hf
    exact hE _ _ _ _ hH dX1_take_63
  refine lv_icmp_ge (tgt := 49) hx hb dX1_take_10 (by decide) (fun c1 => ?_) (fun c1 => ?_)
  · have hf := spos hf c1
    exact J4 (0 : Int32) i_this_position _ _ _ hf hH (lv_sub hl [1, 2, 0] rfl)
  · have hf := sneg hf c1
    refine lv_aload_n hx hb dX1_take_13 rfl (lv_at hl 1 rfl) ?_
    refine g_get (T := TX1) (N := 8) (ci := 0) (C := RX1) (v := .ref q_this_bytes) X hK hH in_RX1 0 rfl rfl 4 (by decide) q_195 (fun _ h9 => h9) rfl dX1_take_14 ?_
    refine lv_aload_n hx hb dX1_take_17 rfl (lv_at hl 1 rfl) ?_
    refine g_get (T := TX1) (N := 8) (ci := 0) (C := RX1) (v := .int i_this_position) X hK hH in_RX1 0 rfl rfl 5 (by decide) q_196 (fun _ h9 => h9) rfl dX1_take_18 ?_
    refine lv_bipush (v := (8 : Int32)) hx hb dX1_take_21 (by decide) ?_
    refine lv_idiv hx hb dX1_take_23 (by decide) ?_
    obtain ⟨x5, hx5, hf⟩ := sbind hf
    refine g_ald X hK hH 1 rfl hx5 dX1_take_24 ?_
    refine lv_bipush (v := (7 : Int32)) hx hb dX1_take_25 (by decide) ?_
    refine lv_aload_n hx hb dX1_take_27 rfl (lv_at hl 1 rfl) ?_
    refine g_get (T := TX1) (N := 8) (ci := 0) (C := RX1) (v := .int i_this_position) X hK hH in_RX1 0 rfl rfl 5 (by decide) q_196 (fun _ h9 => h9) rfl dX1_take_28 ?_
    refine lv_bipush (v := (8 : Int32)) hx hb dX1_take_31 (by decide) ?_
    refine lv_irem hx hb dX1_take_33 (by decide) ?_
    refine lv_isub hx hb dX1_take_34 ?_
    refine lv_ishr hx hb dX1_take_35 ?_
    refine lv_iconst (v := (1 : Int32)) hx hb dX1_take_36 (by decide) ?_
    refine lv_iand hx hb dX1_take_37 ?_
    refine lv_topi (fun x6 ex6 => ?_)
    have hf := sbnd hf x6 ex6
    refine lv_istore_n (lv' := [(2, .int x6), (0, .ref h_this), (1, .int p0)]) hx hb dX1_take_38 rfl hl (by decide) rfl (fun ls hl => ?_)
    refine lv_aload_n hx hb dX1_take_39 rfl (lv_at hl 1 rfl) ?_
    refine lv_dup hx hb dX1_take_40 rfl ?_
    refine g_get (T := TX1) (N := 8) (ci := 0) (C := RX1) (v := .int i_this_position) X hK hH in_RX1 0 rfl rfl 5 (by decide) q_196 (fun _ h9 => h9) rfl dX1_take_41 ?_
    refine lv_iconst (v := (1 : Int32)) hx hb dX1_take_44 (by decide) ?_
    refine lv_iadd hx hb dX1_take_45 ?_
    refine g_put (w1 := [(h_this, .inr (0, FX1 r_this q_this_bytes i_this_low i_this_high (i_this_position + (1 : Int32)) i_this_end i_this_code)), (q_this_bytes, gA G n_this_bytes t_this_bytes)]) (T := TX1) (N := 8) (ci := 0) (C := RX1) (ty := .int) (v := .int (i_this_position + (1 : Int32))) X hK hH in_RX1 tyX1 tyX1_ok nmX1 0 rfl rfl 5 (by decide) q_196 (fun _ h9 => h9) rfl (by decide +kernel) rfl rfl (Nat.le_of_ble_eq_true rfl) dX1_take_46 FX1_position rfl (fun H locs hH => ?_)
    exact J4 x6 (i_this_position + (1 : Int32)) _ _ _ hf hH (lv_sub hl [1, 2, 0] rfl)

def lf_X0_splitFor_X1 (i_this_high : Int32) (i_this_low : Int32) (t_this_ones : Nat → Int32) (t_this_zeros : Nat → Int32) (p0 : Int32) : Option (Int32) :=
bnd ((i_this_high - i_this_low) + (1 : Int32)) fun x1 => jn (fun (z5 : Int32 × Int32) => (fun (x3 : Int32) (x4 : Int32) => (if (x3 + x4) ≤ (0 : Int32) then some i_this_low else (dvO (x1 * x3) (x3 + x4)).bind fun x7 => some ((i_this_low - (1 : Int32)) + x7))) z5.1 z5.2) (fun k5 => (if p0 < (0 : Int32) then k5 ((1 : Int32), (1 : Int32)) else (if (20 : Int32) ≤ p0 then k5 ((1 : Int32), (1 : Int32)) else (rdA 20 t_this_zeros p0).bind fun x9 => (rdA 20 t_this_ones p0).bind fun x10 => k5 (x9, x10))))
abbrev rm_X0_splitFor_X1 : Room := { frames := 0, cells := 0, slots := 0, locals := 0 }
theorem hd_X0_splitFor_X1 : yX0_splitFor.cls ≠ "java/lang/invoke/MethodHandle" ∧ yX0_splitFor.cls ≠ "java/lang/invoke/VarHandle" ∧ (parseMethodDescriptor yX0_splitFor.desc).map (fun d => d.parameters.length) = some 1 := by decide +kernel
set_option maxHeartbeats 4000000 in
set_option maxRecDepth 100000 in
theorem ct_X0_splitFor_X1 (l : Launch) (G : gG) (h_this : Nat) (r_this : Nat → Nat) (q_this_bytes : Nat) (i_this_low i_this_high i_this_position i_this_end i_this_code : Int32) (t_this_ones t_this_zeros : Nat → Int32) (p0 : Int32) (sz : Nat) (out : Int32) (hf : lf_X0_splitFor_X1 i_this_high i_this_low t_this_ones t_this_zeros p0 = some out) : gI l G yX0_splitFor cX0_splitFor 5 .int rm_X0_splitFor_X1 [.ref h_this, .int p0] sz [(h_this, .inr (0, FX1 r_this q_this_bytes i_this_low i_this_high i_this_position i_this_end i_this_code)), ((r_this 2), gA G 20 t_this_zeros), ((r_this 3), gA G 20 t_this_ones)] out [(h_this, .inr (0, FX1 r_this q_this_bytes i_this_low i_this_high i_this_position i_this_end i_this_code)), ((r_this 2), gA G 20 t_this_zeros), ((r_this 3), gA G 20 t_this_ones)] := by
  refine gI_of (by decide +kernel) (Nat.le_of_ble_eq_true rfl) ?_
  intro p e s m args below meth c ls A Q X hK hA hsz hH hl hE
  subst hsz
  have hx := X.1
  have hb := X.2.1
  unfold lf_X0_splitFor_X1 at hf
  have hl : lv_has ls 5 [(0, .ref h_this), (1, .int p0)] := hl
  have hH : gH G A s.heap s.heap [] [(h_this, .inr (0, FX1 r_this q_this_bytes i_this_low i_this_high i_this_position i_this_end i_this_code)), ((r_this 2), gA G 20 t_this_zeros), ((r_this 3), gA G 20 t_this_ones)] := hH
  refine lv_aload_n hx hb dX0_splitFor_0 rfl (lv_at hl 0 rfl) ?_
  refine g_get (T := TX1) (N := 8) (ci := 0) (C := RX1) (v := .int i_this_high) X hK hH in_RX1 0 rfl rfl 1 (by decide) q_171 (fun _ h9 => h9) rfl dX0_splitFor_1 ?_
  refine lv_aload_n hx hb dX0_splitFor_4 rfl (lv_at hl 0 rfl) ?_
  refine g_get (T := TX1) (N := 8) (ci := 0) (C := RX1) (v := .int i_this_low) X hK hH in_RX1 0 rfl rfl 0 (by decide) q_168 (fun _ h9 => h9) rfl dX0_splitFor_5 ?_
  refine lv_isub hx hb dX0_splitFor_8 ?_
  refine lv_iconst (v := (1 : Int32)) hx hb dX0_splitFor_9 (by decide) ?_
  refine lv_iadd hx hb dX0_splitFor_10 ?_
  refine lv_topi (fun x1 ex1 => ?_)
  have hf := sbnd hf x1 ex1
  refine lv_istore_n (lv' := [(2, .int x1), (0, .ref h_this), (1, .int p0)]) hx hb dX0_splitFor_11 rfl hl (by decide) rfl (fun ls hl => ?_)
  refine lv_iconst (v := (1 : Int32)) hx hb dX0_splitFor_12 (by decide) ?_
  refine lv_istore_n (lv' := [(3, .int (1 : Int32)), (2, .int x1), (0, .ref h_this), (1, .int p0)]) hx hb dX0_splitFor_13 rfl hl (by decide) rfl (fun ls hl => ?_)
  refine lv_iconst (v := (1 : Int32)) hx hb dX0_splitFor_14 (by decide) ?_
  refine lv_istore (lv' := [(4, .int (1 : Int32)), (3, .int (1 : Int32)), (2, .int x1), (0, .ref h_this), (1, .int p0)]) hx hb dX0_splitFor_15 hl (by decide) rfl (fun ls hl => ?_)
  refine lv_iload_n hx hb dX0_splitFor_17 rfl (lv_at hl 4 rfl) ?_
  obtain ⟨k5, hk5, hf⟩ := sjn hf
  have J5 : ∀ (x3 : Int32) (x4 : Int32) (H : Heap) (locs : List Loc) (ls : Array Slot), k5 (x3, x4) = some out → gH G A s.heap H locs [(h_this, .inr (0, FX1 r_this q_this_bytes i_this_low i_this_high i_this_position i_this_end i_this_code)), ((r_this 2), gA G 20 t_this_zeros), ((r_this 3), gA G 20 t_this_ones)] → lv_has ls 5 [(0, .ref h_this), (2, .int x1), (3, .int x3), (4, .int x4)] → W p l e rm_X0_splitFor_X1 s m args below meth c H locs 0 0 Q (F0 m 42 ls []) := by
    intro x3 x4 H locs ls hf hH hl
    have hf := hk5 _ _ hf
    refine lv_iload_n hx hb dX0_splitFor_42 rfl (lv_at hl 2 rfl) ?_
    refine lv_iload hx hb dX0_splitFor_43 (lv_at hl 3 rfl) ?_
    refine lv_iadd hx hb dX0_splitFor_45 ?_
    refine lv_if_le (tgt := 67) hx hb dX0_splitFor_46 (by decide) (fun c6 => ?_) (fun c6 => ?_)
    · have hf := spos hf c6
      refine lv_aload_n hx hb dX0_splitFor_67 rfl (lv_at hl 0 rfl) ?_
      refine g_get (T := TX1) (N := 8) (ci := 0) (C := RX1) (v := .int i_this_low) X hK hH in_RX1 0 rfl rfl 0 (by decide) q_168 (fun _ h9 => h9) rfl dX0_splitFor_68 ?_
      obtain rfl := Option.some.inj hf
      exact hE _ _ _ _ rfl hH dX0_splitFor_71
    · have hf := sneg hf c6
      refine lv_aload_n hx hb dX0_splitFor_49 rfl (lv_at hl 0 rfl) ?_
      refine g_get (T := TX1) (N := 8) (ci := 0) (C := RX1) (v := .int i_this_low) X hK hH in_RX1 0 rfl rfl 0 (by decide) q_168 (fun _ h9 => h9) rfl dX0_splitFor_50 ?_
      refine lv_iconst (v := (1 : Int32)) hx hb dX0_splitFor_53 (by decide) ?_
      refine lv_isub hx hb dX0_splitFor_54 ?_
      refine lv_iload_n hx hb dX0_splitFor_55 rfl (lv_at hl 1 rfl) ?_
      refine lv_iload_n hx hb dX0_splitFor_56 rfl (lv_at hl 2 rfl) ?_
      refine lv_imul hx hb dX0_splitFor_57 ?_
      refine lv_iload_n hx hb dX0_splitFor_58 rfl (lv_at hl 2 rfl) ?_
      refine lv_iload hx hb dX0_splitFor_59 (lv_at hl 3 rfl) ?_
      refine lv_iadd hx hb dX0_splitFor_61 ?_
      obtain ⟨x7, hx7, hf⟩ := sbind hf
      refine g_div X hx7 dX0_splitFor_62 ?_
      refine lv_iadd hx hb dX0_splitFor_63 ?_
      refine lv_goto (tgt := 71) hx hb dX0_splitFor_64 (by decide) ?_
      obtain rfl := Option.some.inj hf
      exact hE _ _ _ _ rfl hH dX0_splitFor_71
  refine lv_if_lt (tgt := 42) hx hb dX0_splitFor_18 (by decide) (fun c2 => ?_) (fun c2 => ?_)
  · have hf := spos hf c2
    exact J5 (1 : Int32) (1 : Int32) _ _ _ hf hH (lv_sub hl [3, 2, 1, 0] rfl)
  · have hf := sneg hf c2
    refine lv_iload_n hx hb dX0_splitFor_21 rfl (lv_at hl 4 rfl) ?_
    refine lv_bipush (v := (20 : Int32)) hx hb dX0_splitFor_22 (by decide) ?_
    refine lv_icmp_ge (tgt := 42) hx hb dX0_splitFor_24 (by decide) (fun c8 => ?_) (fun c8 => ?_)
    · have hf := spos hf c8
      exact J5 (1 : Int32) (1 : Int32) _ _ _ hf hH (lv_sub hl [3, 2, 1, 0] rfl)
    · have hf := sneg hf c8
      refine lv_aload_n hx hb dX0_splitFor_27 rfl (lv_at hl 3 rfl) ?_
      refine g_get (T := TX1) (N := 8) (ci := 0) (C := RX1) (v := .ref (r_this 2)) X hK hH in_RX1 0 rfl rfl 2 (by decide) q_172 (fun _ h9 => h9) rfl dX0_splitFor_28 ?_
      refine lv_iload_n hx hb dX0_splitFor_31 rfl (lv_at hl 4 rfl) ?_
      obtain ⟨x9, hx9, hf⟩ := sbind hf
      refine g_ald X hK hH 1 rfl hx9 dX0_splitFor_32 ?_
      refine lv_istore_n (lv' := [(3, .int x9), (4, .int (1 : Int32)), (2, .int x1), (0, .ref h_this), (1, .int p0)]) hx hb dX0_splitFor_33 rfl hl (by decide) rfl (fun ls hl => ?_)
      refine lv_aload_n hx hb dX0_splitFor_34 rfl (lv_at hl 3 rfl) ?_
      refine g_get (T := TX1) (N := 8) (ci := 0) (C := RX1) (v := .ref (r_this 3)) X hK hH in_RX1 0 rfl rfl 3 (by decide) q_173 (fun _ h9 => h9) rfl dX0_splitFor_35 ?_
      refine lv_iload_n hx hb dX0_splitFor_38 rfl (lv_at hl 4 rfl) ?_
      obtain ⟨x10, hx10, hf⟩ := sbind hf
      refine g_ald X hK hH 2 rfl hx10 dX0_splitFor_39 ?_
      refine lv_istore (lv' := [(4, .int x10), (3, .int x9), (2, .int x1), (0, .ref h_this), (1, .int p0)]) hx hb dX0_splitFor_40 hl (by decide) rfl (fun ls hl => ?_)
      exact J5 x9 x10 _ _ _ hf hH (lv_sub hl [3, 2, 1, 0] rfl)

def lf_X0_count_X1 (t_this_ones : Nat → Int32) (t_this_zeros : Nat → Int32) (p0 : Int32) (p1 : Int32) : Option ((Nat → Int32) × (Nat → Int32)) :=
(if p1 < (0 : Int32) then some (t_this_ones, t_this_zeros) else (if p1 < (20 : Int32) then jn (fun (z6 : (Nat → Int32) × (Nat → Int32)) => (fun (g4 : (Nat → Int32)) (g5 : (Nat → Int32)) => (rdA 20 g5 p1).bind fun x7 => (rdA 20 g4 p1).bind fun x8 => (if (x7 + x8) ≤ (64 : Int32) then some (g4, g5) else (rdA 20 g5 p1).bind fun x10 => (wrA 20 g5 p1 ((x10 + (1 : Int32)) / (2 : Int32))).bind fun g11 => (rdA 20 g4 p1).bind fun x12 => (wrA 20 g4 p1 ((x12 + (1 : Int32)) / (2 : Int32))).bind fun g13 => some (g13, g11))) z6.1 z6.2) (fun k6 => (if p0 = (0 : Int32) then (rdA 20 t_this_zeros p1).bind fun x16 => (wrA 20 t_this_zeros p1 (x16 + (1 : Int32))).bind fun g17 => k6 (t_this_ones, g17) else (rdA 20 t_this_ones p1).bind fun x14 => (wrA 20 t_this_ones p1 (x14 + (1 : Int32))).bind fun g15 => k6 (g15, t_this_zeros))) else some (t_this_ones, t_this_zeros)))
abbrev rm_X0_count_X1 : Room := { frames := 0, cells := 0, slots := 0, locals := 0 }
theorem hd_X0_count_X1 : yX0_count.cls ≠ "java/lang/invoke/MethodHandle" ∧ yX0_count.cls ≠ "java/lang/invoke/VarHandle" ∧ (parseMethodDescriptor yX0_count.desc).map (fun d => d.parameters.length) = some 2 := by decide +kernel
set_option maxHeartbeats 4000000 in
set_option maxRecDepth 100000 in
theorem ct_X0_count_X1 (l : Launch) (G : gG) (h_this : Nat) (r_this : Nat → Nat) (q_this_bytes : Nat) (i_this_low i_this_high i_this_position i_this_end i_this_code : Int32) (t_this_ones t_this_zeros : Nat → Int32) (p0 p1 : Int32) (sz : Nat) (out : (Nat → Int32) × (Nat → Int32)) (hf : lf_X0_count_X1 t_this_ones t_this_zeros p0 p1 = some out) : gV l G yX0_count cX0_count 3 rm_X0_count_X1 [.ref h_this, .int p0, .int p1] sz [(h_this, .inr (0, FX1 r_this q_this_bytes i_this_low i_this_high i_this_position i_this_end i_this_code)), ((r_this 2), gA G 20 t_this_zeros), ((r_this 3), gA G 20 t_this_ones)] [(h_this, .inr (0, FX1 r_this q_this_bytes i_this_low i_this_high i_this_position i_this_end i_this_code)), ((r_this 2), gA G 20 out.2), ((r_this 3), gA G 20 out.1)] := by
  refine gV_of (by decide +kernel) (Nat.le_of_ble_eq_true rfl) ?_
  intro p e s m args below meth c ls A Q X hK hA hsz hH hl hE
  subst hsz
  have hx := X.1
  have hb := X.2.1
  unfold lf_X0_count_X1 at hf
  have hl : lv_has ls 3 [(0, .ref h_this), (1, .int p0), (2, .int p1)] := hl
  have hH : gH G A s.heap s.heap [] [(h_this, .inr (0, FX1 r_this q_this_bytes i_this_low i_this_high i_this_position i_this_end i_this_code)), ((r_this 2), gA G 20 t_this_zeros), ((r_this 3), gA G 20 t_this_ones)] := hH
  refine lv_iload_n hx hb dX0_count_0 rfl (lv_at hl 2 rfl) ?_
  refine lv_if_lt (tgt := 10) hx hb dX0_count_1 (by decide) (fun c1 => ?_) (fun c1 => ?_)
  · have hf := spos hf c1
    obtain rfl := Option.some.inj hf
    exact hE _ _ _ _ hH dX0_count_10
  · have hf := sneg hf c1
    refine lv_iload_n hx hb dX0_count_4 rfl (lv_at hl 2 rfl) ?_
    refine lv_bipush (v := (20 : Int32)) hx hb dX0_count_5 (by decide) ?_
    refine lv_icmp_lt (tgt := 11) hx hb dX0_count_7 (by decide) (fun c2 => ?_) (fun c2 => ?_)
    · have hf := spos hf c2
      refine lv_iload_n hx hb dX0_count_11 rfl (lv_at hl 1 rfl) ?_
      obtain ⟨k6, hk6, hf⟩ := sjn hf
      have J6 : ∀ (g4 : (Nat → Int32)) (g5 : (Nat → Int32)) (H : Heap) (locs : List Loc) (ls : Array Slot), k6 (g4, g5) = some out → gH G A s.heap H locs [(h_this, .inr (0, FX1 r_this q_this_bytes i_this_low i_this_high i_this_position i_this_end i_this_code)), ((r_this 2), gA G 20 g5), ((r_this 3), gA G 20 g4)] → lv_has ls 3 [(0, .ref h_this), (2, .int p1)] → W p l e rm_X0_count_X1 s m args below meth c H locs 0 0 Q (F0 m 38 ls []) := by
        intro g4 g5 H locs ls hf hH hl
        have hf := hk6 _ _ hf
        refine lv_aload_n hx hb dX0_count_38 rfl (lv_at hl 0 rfl) ?_
        refine g_get (T := TX1) (N := 8) (ci := 0) (C := RX1) (v := .ref (r_this 2)) X hK hH in_RX1 0 rfl rfl 2 (by decide) q_172 (fun _ h9 => h9) rfl dX0_count_39 ?_
        refine lv_iload_n hx hb dX0_count_42 rfl (lv_at hl 1 rfl) ?_
        obtain ⟨x7, hx7, hf⟩ := sbind hf
        refine g_ald X hK hH 1 rfl hx7 dX0_count_43 ?_
        refine lv_aload_n hx hb dX0_count_44 rfl (lv_at hl 0 rfl) ?_
        refine g_get (T := TX1) (N := 8) (ci := 0) (C := RX1) (v := .ref (r_this 3)) X hK hH in_RX1 0 rfl rfl 3 (by decide) q_173 (fun _ h9 => h9) rfl dX0_count_45 ?_
        refine lv_iload_n hx hb dX0_count_48 rfl (lv_at hl 1 rfl) ?_
        obtain ⟨x8, hx8, hf⟩ := sbind hf
        refine g_ald X hK hH 2 rfl hx8 dX0_count_49 ?_
        refine lv_iadd hx hb dX0_count_50 ?_
        refine lv_bipush (v := (64 : Int32)) hx hb dX0_count_51 (by decide) ?_
        refine lv_icmp_le (tgt := 88) hx hb dX0_count_53 (by decide) (fun c9 => ?_) (fun c9 => ?_)
        · have hf := spos hf c9
          obtain rfl := Option.some.inj hf
          exact hE _ _ _ _ hH dX0_count_88
        · have hf := sneg hf c9
          refine lv_aload_n hx hb dX0_count_56 rfl (lv_at hl 0 rfl) ?_
          refine g_get (T := TX1) (N := 8) (ci := 0) (C := RX1) (v := .ref (r_this 2)) X hK hH in_RX1 0 rfl rfl 2 (by decide) q_172 (fun _ h9 => h9) rfl dX0_count_57 ?_
          refine lv_iload_n hx hb dX0_count_60 rfl (lv_at hl 1 rfl) ?_
          refine lv_aload_n hx hb dX0_count_61 rfl (lv_at hl 0 rfl) ?_
          refine g_get (T := TX1) (N := 8) (ci := 0) (C := RX1) (v := .ref (r_this 2)) X hK hH in_RX1 0 rfl rfl 2 (by decide) q_172 (fun _ h9 => h9) rfl dX0_count_62 ?_
          refine lv_iload_n hx hb dX0_count_65 rfl (lv_at hl 1 rfl) ?_
          obtain ⟨x10, hx10, hf⟩ := sbind hf
          refine g_ald X hK hH 1 rfl hx10 dX0_count_66 ?_
          refine lv_iconst (v := (1 : Int32)) hx hb dX0_count_67 (by decide) ?_
          refine lv_iadd hx hb dX0_count_68 ?_
          refine lv_iconst (v := (2 : Int32)) hx hb dX0_count_69 (by decide) ?_
          refine lv_idiv hx hb dX0_count_70 (by decide) ?_
          obtain ⟨g11, hg11, hf⟩ := sbind hf
          refine g_ast (w1 := [(h_this, .inr (0, FX1 r_this q_this_bytes i_this_low i_this_high i_this_position i_this_end i_this_code)), ((r_this 2), gA G 20 g11), ((r_this 3), gA G 20 g4)]) X hK hH 1 rfl hg11 dX0_count_71 rfl (fun H locs hH => ?_)
          refine lv_aload_n hx hb dX0_count_72 rfl (lv_at hl 0 rfl) ?_
          refine g_get (T := TX1) (N := 8) (ci := 0) (C := RX1) (v := .ref (r_this 3)) X hK hH in_RX1 0 rfl rfl 3 (by decide) q_173 (fun _ h9 => h9) rfl dX0_count_73 ?_
          refine lv_iload_n hx hb dX0_count_76 rfl (lv_at hl 1 rfl) ?_
          refine lv_aload_n hx hb dX0_count_77 rfl (lv_at hl 0 rfl) ?_
          refine g_get (T := TX1) (N := 8) (ci := 0) (C := RX1) (v := .ref (r_this 3)) X hK hH in_RX1 0 rfl rfl 3 (by decide) q_173 (fun _ h9 => h9) rfl dX0_count_78 ?_
          refine lv_iload_n hx hb dX0_count_81 rfl (lv_at hl 1 rfl) ?_
          obtain ⟨x12, hx12, hf⟩ := sbind hf
          refine g_ald X hK hH 2 rfl hx12 dX0_count_82 ?_
          refine lv_iconst (v := (1 : Int32)) hx hb dX0_count_83 (by decide) ?_
          refine lv_iadd hx hb dX0_count_84 ?_
          refine lv_iconst (v := (2 : Int32)) hx hb dX0_count_85 (by decide) ?_
          refine lv_idiv hx hb dX0_count_86 (by decide) ?_
          obtain ⟨g13, hg13, hf⟩ := sbind hf
          refine g_ast (w1 := [(h_this, .inr (0, FX1 r_this q_this_bytes i_this_low i_this_high i_this_position i_this_end i_this_code)), ((r_this 2), gA G 20 g11), ((r_this 3), gA G 20 g13)]) X hK hH 2 rfl hg13 dX0_count_87 rfl (fun H locs hH => ?_)
          obtain rfl := Option.some.inj hf
          exact hE _ _ _ _ hH dX0_count_88
      refine lv_if_ne (tgt := 28) hx hb dX0_count_12 (by decide) (fun c3 => ?_) (fun c3 => ?_)
      · have hf := sneg hf c3
        refine lv_aload_n hx hb dX0_count_28 rfl (lv_at hl 0 rfl) ?_
        refine g_get (T := TX1) (N := 8) (ci := 0) (C := RX1) (v := .ref (r_this 3)) X hK hH in_RX1 0 rfl rfl 3 (by decide) q_173 (fun _ h9 => h9) rfl dX0_count_29 ?_
        refine lv_iload_n hx hb dX0_count_32 rfl (lv_at hl 2 rfl) ?_
        refine lv_dup2_11 hx hb dX0_count_33 rfl rfl ?_
        obtain ⟨x14, hx14, hf⟩ := sbind hf
        refine g_ald X hK hH 2 rfl hx14 dX0_count_34 ?_
        refine lv_iconst (v := (1 : Int32)) hx hb dX0_count_35 (by decide) ?_
        refine lv_iadd hx hb dX0_count_36 ?_
        obtain ⟨g15, hg15, hf⟩ := sbind hf
        refine g_ast (w1 := [(h_this, .inr (0, FX1 r_this q_this_bytes i_this_low i_this_high i_this_position i_this_end i_this_code)), ((r_this 2), gA G 20 t_this_zeros), ((r_this 3), gA G 20 g15)]) X hK hH 2 rfl hg15 dX0_count_37 rfl (fun H locs hH => ?_)
        exact J6 g15 t_this_zeros _ _ _ hf hH (lv_sub hl [0, 2] rfl)
      · have hf := spos hf c3
        refine lv_aload_n hx hb dX0_count_15 rfl (lv_at hl 0 rfl) ?_
        refine g_get (T := TX1) (N := 8) (ci := 0) (C := RX1) (v := .ref (r_this 2)) X hK hH in_RX1 0 rfl rfl 2 (by decide) q_172 (fun _ h9 => h9) rfl dX0_count_16 ?_
        refine lv_iload_n hx hb dX0_count_19 rfl (lv_at hl 2 rfl) ?_
        refine lv_dup2_11 hx hb dX0_count_20 rfl rfl ?_
        obtain ⟨x16, hx16, hf⟩ := sbind hf
        refine g_ald X hK hH 1 rfl hx16 dX0_count_21 ?_
        refine lv_iconst (v := (1 : Int32)) hx hb dX0_count_22 (by decide) ?_
        refine lv_iadd hx hb dX0_count_23 ?_
        obtain ⟨g17, hg17, hf⟩ := sbind hf
        refine g_ast (w1 := [(h_this, .inr (0, FX1 r_this q_this_bytes i_this_low i_this_high i_this_position i_this_end i_this_code)), ((r_this 2), gA G 20 g17), ((r_this 3), gA G 20 t_this_ones)]) X hK hH 1 rfl hg17 dX0_count_24 rfl (fun H locs hH => ?_)
        refine lv_goto (tgt := 38) hx hb dX0_count_25 (by decide) ?_
        exact J6 t_this_ones g17 _ _ _ hf hH (lv_sub hl [0, 2] rfl)
    · have hf := sneg hf c2
      obtain rfl := Option.some.inj hf
      exact hE _ _ _ _ hH dX0_count_10

def lf_X0_nextOffset_X1 (i_this_high : Int32) (i_this_low : Int32) : Option (Int32) :=
(if (32768 : Int32) ≤ i_this_high then (if i_this_low < (32768 : Int32) then jn (fun (z4 : Unit) => some (-1 : Int32)) (fun k4 => (if i_this_low < (16384 : Int32) then k4 () else (if (49152 : Int32) ≤ i_this_high then k4 () else some (16384 : Int32)))) else some (32768 : Int32)) else some (0 : Int32))
abbrev rm_X0_nextOffset_X1 : Room := { frames := 0, cells := 0, slots := 0, locals := 0 }
theorem hd_X0_nextOffset_X1 : yX0_nextOffset.cls ≠ "java/lang/invoke/MethodHandle" ∧ yX0_nextOffset.cls ≠ "java/lang/invoke/VarHandle" ∧ (parseMethodDescriptor yX0_nextOffset.desc).map (fun d => d.parameters.length) = some 0 := by decide +kernel
set_option maxHeartbeats 4000000 in
set_option maxRecDepth 100000 in
theorem ct_X0_nextOffset_X1 (l : Launch) (G : gG) (h_this : Nat) (r_this : Nat → Nat) (q_this_bytes : Nat) (i_this_low i_this_high i_this_position i_this_end i_this_code : Int32) (sz : Nat) (out : Int32) (hf : lf_X0_nextOffset_X1 i_this_high i_this_low = some out) : gI l G yX0_nextOffset cX0_nextOffset 1 .int rm_X0_nextOffset_X1 [.ref h_this] sz [(h_this, .inr (0, FX1 r_this q_this_bytes i_this_low i_this_high i_this_position i_this_end i_this_code))] out [(h_this, .inr (0, FX1 r_this q_this_bytes i_this_low i_this_high i_this_position i_this_end i_this_code))] := by
  refine gI_of (by decide +kernel) (Nat.le_of_ble_eq_true rfl) ?_
  intro p e s m args below meth c ls A Q X hK hA hsz hH hl hE
  subst hsz
  have hx := X.1
  have hb := X.2.1
  unfold lf_X0_nextOffset_X1 at hf
  have hl : lv_has ls 1 [(0, .ref h_this)] := hl
  have hH : gH G A s.heap s.heap [] [(h_this, .inr (0, FX1 r_this q_this_bytes i_this_low i_this_high i_this_position i_this_end i_this_code))] := hH
  refine lv_aload_n hx hb dX0_nextOffset_0 rfl (lv_at hl 0 rfl) ?_
  refine g_get (T := TX1) (N := 8) (ci := 0) (C := RX1) (v := .int i_this_high) X hK hH in_RX1 0 rfl rfl 1 (by decide) q_171 (fun _ h9 => h9) rfl dX0_nextOffset_1 ?_
  refine lv_ldc (v := (32768 : Int32)) hx hb X.2.2.2.2.2.1 (X.2.2.2.2.1 _ q_585) dX0_nextOffset_4 ?_
  refine lv_icmp_ge (tgt := 11) hx hb dX0_nextOffset_6 (by decide) (fun c1 => ?_) (fun c1 => ?_)
  · have hf := spos hf c1
    refine lv_aload_n hx hb dX0_nextOffset_11 rfl (lv_at hl 0 rfl) ?_
    refine g_get (T := TX1) (N := 8) (ci := 0) (C := RX1) (v := .int i_this_low) X hK hH in_RX1 0 rfl rfl 0 (by decide) q_168 (fun _ h9 => h9) rfl dX0_nextOffset_12 ?_
    refine lv_ldc (v := (32768 : Int32)) hx hb X.2.2.2.2.2.1 (X.2.2.2.2.1 _ q_585) dX0_nextOffset_15 ?_
    refine lv_icmp_lt (tgt := 23) hx hb dX0_nextOffset_17 (by decide) (fun c2 => ?_) (fun c2 => ?_)
    · have hf := spos hf c2
      refine lv_aload_n hx hb dX0_nextOffset_23 rfl (lv_at hl 0 rfl) ?_
      refine g_get (T := TX1) (N := 8) (ci := 0) (C := RX1) (v := .int i_this_low) X hK hH in_RX1 0 rfl rfl 0 (by decide) q_168 (fun _ h9 => h9) rfl dX0_nextOffset_24 ?_
      refine lv_sipush (v := (16384 : Int32)) hx hb dX0_nextOffset_27 (by decide) ?_
      obtain ⟨k4, hk4, hf⟩ := sjn hf
      have J4 : ∀  (H : Heap) (locs : List Loc) (ls : Array Slot), k4 () = some out → gH G A s.heap H locs [(h_this, .inr (0, FX1 r_this q_this_bytes i_this_low i_this_high i_this_position i_this_end i_this_code))] → lv_has ls 1 [] → W p l e rm_X0_nextOffset_X1 s m args below meth c H locs 0 0 Q (F0 m 48 ls []) := by
        intro  H locs ls hf hH hl
        have hf := hk4 _ _ hf
        refine lv_iconst (v := (-1 : Int32)) hx hb dX0_nextOffset_48 (by decide) ?_
        obtain rfl := Option.some.inj hf
        exact hE _ _ _ _ rfl hH dX0_nextOffset_49
      refine lv_icmp_lt (tgt := 48) hx hb dX0_nextOffset_30 (by decide) (fun c3 => ?_) (fun c3 => ?_)
      · have hf := spos hf c3
        exact J4  _ _ _ hf hH (lv_sub hl [] rfl)
      · have hf := sneg hf c3
        refine lv_aload_n hx hb dX0_nextOffset_33 rfl (lv_at hl 0 rfl) ?_
        refine g_get (T := TX1) (N := 8) (ci := 0) (C := RX1) (v := .int i_this_high) X hK hH in_RX1 0 rfl rfl 1 (by decide) q_171 (fun _ h9 => h9) rfl dX0_nextOffset_34 ?_
        refine lv_ldc (v := (49152 : Int32)) hx hb X.2.2.2.2.2.1 (X.2.2.2.2.1 _ q_586) dX0_nextOffset_37 ?_
        refine lv_icmp_ge (tgt := 48) hx hb dX0_nextOffset_39 (by decide) (fun c5 => ?_) (fun c5 => ?_)
        · have hf := spos hf c5
          exact J4  _ _ _ hf hH (lv_sub hl [] rfl)
        · have hf := sneg hf c5
          refine lv_sipush (v := (16384 : Int32)) hx hb dX0_nextOffset_42 (by decide) ?_
          refine lv_goto (tgt := 49) hx hb dX0_nextOffset_45 (by decide) ?_
          obtain rfl := Option.some.inj hf
          exact hE _ _ _ _ rfl hH dX0_nextOffset_49
    · have hf := sneg hf c2
      refine lv_ldc (v := (32768 : Int32)) hx hb X.2.2.2.2.2.1 (X.2.2.2.2.1 _ q_585) dX0_nextOffset_20 ?_
      obtain rfl := Option.some.inj hf
      exact hE _ _ _ _ rfl hH dX0_nextOffset_22
  · have hf := sneg hf c1
    refine lv_iconst (v := (0 : Int32)) hx hb dX0_nextOffset_9 (by decide) ?_
    obtain rfl := Option.some.inj hf
    exact hE _ _ _ _ rfl hH dX0_nextOffset_10

def lf_X0_code_X1 (i_this_code : Int32) (i_this_end : Int32) (i_this_high : Int32) (i_this_low : Int32) (i_this_position : Int32) (n_this_bytes : Nat) (t_this_bytes : Nat → Int32) (t_this_ones : Nat → Int32) (t_this_zeros : Nat → Int32) (p0 : Int32) (p1 : Int32) : Option (Int32 × Int32 × Int32 × Int32 × Int32 × (Nat → Int32) × (Nat → Int32)) :=
(lf_X0_splitFor_X1 i_this_high i_this_low t_this_ones t_this_zeros p1).bind fun o1 => (lf_X1_choose i_this_code p0 o1).bind fun o2 => jn (fun (z6 : Int32 × Int32) => (fun (v4 : Int32) (v5 : Int32) => (lf_X0_count_X1 t_this_ones t_this_zeros o2 p1).bind fun o7 => (lf_X0_nextOffset_X1 v4 v5).bind fun o8 => (fixN FUEL (fun (self15 : (Int32 × Int32 × Int32 × Int32 × Int32 × Int32) → Option (Int32 × Int32 × Int32 × Int32)) (z15 : Int32 × Int32 × Int32 × Int32 × Int32 × Int32) => (fun (x9 : Int32) (x10 : Int32) (v11 : Int32) (v12 : Int32) (v13 : Int32) (v14 : Int32) => (if (17 : Int32) ≤ x10 then some (v11, v12, v13, v14) else (if x9 = (-1 : Int32) then some (v11, v12, v13, v14) else (lf_X1_take v11 i_this_end v14 n_this_bytes t_this_bytes x9).bind fun o18 => (lf_X0_nextOffset_X1 (((v12 - x9) * (2 : Int32)) + (1 : Int32)) ((v13 - x9) * (2 : Int32))).bind fun o19 => bnd (x10 + (1 : Int32)) fun x20 => self15 (o19, x20, o18.1, (((v12 - x9) * (2 : Int32)) + (1 : Int32)), ((v13 - x9) * (2 : Int32)), o18.2)))) z15.1 z15.2.1 z15.2.2.1 z15.2.2.2.1 z15.2.2.2.2.1 z15.2.2.2.2.2) (o8, (0 : Int32), i_this_code, v4, v5, i_this_position)).bind fun o15 => some (o2, o15.1, o15.2.1, o15.2.2.1, o15.2.2.2, o7.1, o7.2)) z6.1 z6.2) (fun k6 => (if o2 = (0 : Int32) then k6 (o1, i_this_low) else k6 (i_this_high, (o1 + (1 : Int32)))))
abbrev rm_X0_code_X1 : Room := { frames := 1, cells := 0, slots := 0, locals := 24 }
theorem hd_X0_code_X1 : yX0_code.cls ≠ "java/lang/invoke/MethodHandle" ∧ yX0_code.cls ≠ "java/lang/invoke/VarHandle" ∧ (parseMethodDescriptor yX0_code.desc).map (fun d => d.parameters.length) = some 2 := by decide +kernel
set_option maxHeartbeats 4000000 in
set_option maxRecDepth 100000 in
theorem ct_X0_code_X1 (l : Launch) (G : gG) (h_this : Nat) (r_this : Nat → Nat) (q_this_bytes n_this_bytes : Nat) (i_this_low i_this_high i_this_position i_this_end i_this_code : Int32) (t_this_bytes t_this_ones t_this_zeros : Nat → Int32) (p0 p1 : Int32) (sz : Nat) (out : Int32 × Int32 × Int32 × Int32 × Int32 × (Nat → Int32) × (Nat → Int32)) (hf : lf_X0_code_X1 i_this_code i_this_end i_this_high i_this_low i_this_position n_this_bytes t_this_bytes t_this_ones t_this_zeros p0 p1 = some out) : gI l G yX0_code cX0_code 7 .int rm_X0_code_X1 [.ref h_this, .int p0, .int p1] sz [(h_this, .inr (0, FX1 r_this q_this_bytes i_this_low i_this_high i_this_position i_this_end i_this_code)), ((r_this 2), gA G 20 t_this_zeros), ((r_this 3), gA G 20 t_this_ones), (q_this_bytes, gA G n_this_bytes t_this_bytes)] out.1 [(h_this, .inr (0, FX1 r_this q_this_bytes out.2.2.2.1 out.2.2.1 out.2.2.2.2.1 i_this_end out.2.1)), ((r_this 2), gA G 20 out.2.2.2.2.2.2), ((r_this 3), gA G 20 out.2.2.2.2.2.1), (q_this_bytes, gA G n_this_bytes t_this_bytes)] := by
  refine gI_of (by decide +kernel) (Nat.le_of_ble_eq_true rfl) ?_
  intro p e s m args below meth c ls A Q X hK hA hsz hH hl hE
  subst hsz
  have hx := X.1
  have hb := X.2.1
  unfold lf_X0_code_X1 at hf
  have hl : lv_has ls 7 [(0, .ref h_this), (1, .int p0), (2, .int p1)] := hl
  have hH : gH G A s.heap s.heap [] [(h_this, .inr (0, FX1 r_this q_this_bytes i_this_low i_this_high i_this_position i_this_end i_this_code)), ((r_this 2), gA G 20 t_this_zeros), ((r_this 3), gA G 20 t_this_ones), (q_this_bytes, gA G n_this_bytes t_this_bytes)] := hH
  refine lv_aload_n hx hb dX0_code_0 rfl (lv_at hl 0 rfl) ?_
  refine lv_iload_n hx hb dX0_code_1 rfl (lv_at hl 2 rfl) ?_
  obtain ⟨o1, ho1, hf⟩ := sbind hf
  refine g_cVi (isC := [0, 1, 2]) (isR := [3]) (isP := [1, 2, 3, 0]) (wr := [(q_this_bytes, gA G n_this_bytes t_this_bytes)]) (w2 := [(h_this, .inr (0, FX1 r_this q_this_bytes i_this_low i_this_high i_this_position i_this_end i_this_code)), ((r_this 2), gA G 20 t_this_zeros), ((r_this 3), gA G 20 t_this_ones), (q_this_bytes, gA G n_this_bytes t_this_bytes)]) (q0 := 0) X hK hA hH hl (ct_X0_splitFor_X1 l G h_this r_this q_this_bytes i_this_low i_this_high i_this_position i_this_end i_this_code t_this_ones t_this_zeros p1 s.heap.size o1 ho1) ⟨q_7, q_567, hd_X0_splitFor_X1, rfl, rfl, ⟨Nat.le_of_ble_eq_true rfl, Nat.le_of_ble_eq_true rfl⟩, ⟨Nat.zero_le _, Nat.zero_le _⟩⟩ q_564 q_566 qe_0 rfl rfl ⟨rfl, rfl, rfl, rfl, by decide, rfl, rfl⟩ rfl rfl (Nat.le_of_ble_eq_true rfl) dX0_code_2 (fun H locs hH => ?_)
  refine lv_istore_n (lv' := [(3, .int o1), (0, .ref h_this), (1, .int p0), (2, .int p1)]) hx hb dX0_code_5 rfl hl (by decide) rfl (fun ls hl => ?_)
  refine lv_aload_n hx hb dX0_code_6 rfl (lv_at hl 1 rfl) ?_
  refine lv_iload_n hx hb dX0_code_7 rfl (lv_at hl 2 rfl) ?_
  refine lv_iload_n hx hb dX0_code_8 rfl (lv_at hl 0 rfl) ?_
  obtain ⟨o2, ho2, hf⟩ := sbind hf
  refine g_cUi (isC := [0]) (isR := [1, 2, 3]) (isP := [3, 0, 1, 2]) (wr := [((r_this 2), gA G 20 t_this_zeros), ((r_this 3), gA G 20 t_this_ones), (q_this_bytes, gA G n_this_bytes t_this_bytes)]) (w2 := [(h_this, .inr (0, FX1 r_this q_this_bytes i_this_low i_this_high i_this_position i_this_end i_this_code)), ((r_this 2), gA G 20 t_this_zeros), ((r_this 3), gA G 20 t_this_ones), (q_this_bytes, gA G n_this_bytes t_this_bytes)]) (q0 := 0) X hK hA hH hl (ct_X1_choose l G h_this r_this q_this_bytes i_this_low i_this_high i_this_position i_this_end i_this_code p0 o1 H.size o2 ho2) ⟨q_9, q_573, hd_X1_choose, rfl, rfl, ⟨Nat.le_of_ble_eq_true rfl, Nat.le_of_ble_eq_true rfl⟩, ⟨Nat.zero_le _, Nat.zero_le _⟩⟩ q_568 q_570 q_571 q_572 (Or.inr qn_569) (by decide +kernel) rfl rfl ⟨rfl, rfl, rfl, rfl, by decide, rfl, rfl⟩ rfl rfl (Nat.le_of_ble_eq_true rfl) dX0_code_9 (fun H locs hH => ?_)
  refine lv_istore (lv' := [(4, .int o2), (3, .int o1), (0, .ref h_this), (1, .int p0), (2, .int p1)]) hx hb dX0_code_12 hl (by decide) rfl (fun ls hl => ?_)
  refine lv_iload hx hb dX0_code_14 (lv_at hl 0 rfl) ?_
  obtain ⟨k6, hk6, hf⟩ := sjn hf
  have J6 : ∀ (v4 : Int32) (v5 : Int32) (H : Heap) (locs : List Loc) (ls : Array Slot), k6 (v4, v5) = some out → gH G A s.heap H locs [(h_this, .inr (0, FX1 r_this q_this_bytes v5 v4 i_this_position i_this_end i_this_code)), ((r_this 2), gA G 20 t_this_zeros), ((r_this 3), gA G 20 t_this_ones), (q_this_bytes, gA G n_this_bytes t_this_bytes)] → lv_has ls 7 [(0, .ref h_this), (2, .int p1), (4, .int o2)] → W p l e rm_X0_code_X1 s m args below meth c H locs 0 0 Q (F0 m 34 ls []) := by
    intro v4 v5 H locs ls hf hH hl
    have hf := hk6 _ _ hf
    refine lv_aload_n hx hb dX0_code_34 rfl (lv_at hl 0 rfl) ?_
    refine lv_iload hx hb dX0_code_35 (lv_at hl 2 rfl) ?_
    refine lv_iload_n hx hb dX0_code_37 rfl (lv_at hl 1 rfl) ?_
    obtain ⟨o7, ho7, hf⟩ := sbind hf
    refine g_cVv (isC := [0, 1, 2]) (isR := [3]) (isP := [1, 2, 3, 0]) (wr := [(q_this_bytes, gA G n_this_bytes t_this_bytes)]) (w2 := [(h_this, .inr (0, FX1 r_this q_this_bytes v5 v4 i_this_position i_this_end i_this_code)), ((r_this 2), gA G 20 o7.2), ((r_this 3), gA G 20 o7.1), (q_this_bytes, gA G n_this_bytes t_this_bytes)]) (q0 := 0) X hK hA hH hl (ct_X0_count_X1 l G h_this r_this q_this_bytes v5 v4 i_this_position i_this_end i_this_code t_this_ones t_this_zeros o2 p1 H.size o7 ho7) ⟨q_7, q_580, hd_X0_count_X1, rfl, rfl, ⟨Nat.le_of_ble_eq_true rfl, Nat.le_of_ble_eq_true rfl⟩, ⟨Nat.zero_le _, Nat.zero_le _⟩⟩ q_577 q_579 qe_1 rfl rfl ⟨rfl, rfl, rfl, rfl, by decide, rfl, rfl⟩ rfl rfl (Nat.le_of_ble_eq_true rfl) dX0_code_38 (fun H locs hH => ?_)
    refine lv_aload_n hx hb dX0_code_41 rfl (lv_at hl 0 rfl) ?_
    obtain ⟨o8, ho8, hf⟩ := sbind hf
    refine g_cVi (isC := [0]) (isR := [1, 2, 3]) (isP := [3, 0, 1, 2]) (wr := [((r_this 2), gA G 20 o7.2), ((r_this 3), gA G 20 o7.1), (q_this_bytes, gA G n_this_bytes t_this_bytes)]) (w2 := [(h_this, .inr (0, FX1 r_this q_this_bytes v5 v4 i_this_position i_this_end i_this_code)), ((r_this 2), gA G 20 o7.2), ((r_this 3), gA G 20 o7.1), (q_this_bytes, gA G n_this_bytes t_this_bytes)]) (q0 := 0) X hK hA hH hl (ct_X0_nextOffset_X1 l G h_this r_this q_this_bytes v5 v4 i_this_position i_this_end i_this_code H.size o8 ho8) ⟨q_7, q_584, hd_X0_nextOffset_X1, rfl, rfl, ⟨Nat.le_of_ble_eq_true rfl, Nat.le_of_ble_eq_true rfl⟩, ⟨Nat.zero_le _, Nat.zero_le _⟩⟩ q_581 q_583 qe_2 rfl rfl ⟨rfl, rfl, rfl, rfl, by decide, rfl, rfl⟩ rfl rfl (Nat.le_of_ble_eq_true rfl) dX0_code_42 (fun H locs hH => ?_)
    refine lv_istore (lv' := [(5, .int o8), (0, .ref h_this), (2, .int p1), (4, .int o2)]) hx hb dX0_code_45 hl (by decide) rfl (fun ls hl => ?_)
    refine lv_iconst (v := (0 : Int32)) hx hb dX0_code_47 (by decide) ?_
    refine lv_istore (lv' := [(6, .int (0 : Int32)), (5, .int o8), (0, .ref h_this), (2, .int p1), (4, .int o2)]) hx hb dX0_code_48 hl (by decide) rfl (fun ls hl => ?_)
    obtain ⟨o15, ho15, hf⟩ := sbind hf
    obtain ⟨FF15, hFF15, ho15⟩ := sfix ho15
    have L15 : ∀ (n : Nat) (x9 : Int32) (x10 : Int32) (v11 : Int32) (v12 : Int32) (v13 : Int32) (v14 : Int32) (b15 : Int32 × Int32 × Int32 × Int32) (H : Heap) (locs : List Loc) (ls : Array Slot), fixN n FF15 (x9, x10, v11, v12, v13, v14) = some b15 → gH G A s.heap H locs [(h_this, .inr (0, FX1 r_this q_this_bytes v13 v12 v14 i_this_end v11)), ((r_this 2), gA G 20 o7.2), ((r_this 3), gA G 20 o7.1), (q_this_bytes, gA G n_this_bytes t_this_bytes)] → lv_has ls 7 [(0, .ref h_this), (4, .int o2), (5, .int x9), (6, .int x10)] → (∀ (H : Heap) (locs : List Loc) (ls : Array Slot), gH G A s.heap H locs [(h_this, .inr (0, FX1 r_this q_this_bytes b15.2.2.1 b15.2.1 b15.2.2.2 i_this_end b15.1)), ((r_this 2), gA G 20 o7.2), ((r_this 3), gA G 20 o7.1), (q_this_bytes, gA G n_this_bytes t_this_bytes)] → lv_has ls 7 [(4, .int o2)] → W p l e rm_X0_code_X1 s m args below meth c H locs 0 0 Q (F0 m 109 ls [])) → W p l e rm_X0_code_X1 s m args below meth c H locs 0 0 Q (F0 m 50 ls []) := by
      intro n
      induction n with
      | zero => intro x9 x10 v11 v12 v13 v14 b15 H locs ls hf; exact sfix0 hf
      | succ n ih =>
        intro x9 x10 v11 v12 v13 v14 b15 H locs ls hf hH hl KK
        obtain ⟨self15, hself15, hf⟩ := sstep hFF15 hf
        refine lv_iload hx hb dX0_code_50 (lv_at hl 3 rfl) ?_
        refine lv_bipush (v := (17 : Int32)) hx hb dX0_code_52 (by decide) ?_
        refine lv_icmp_ge (tgt := 109) hx hb dX0_code_54 (by decide) (fun c16 => ?_) (fun c16 => ?_)
        · have hf := spos hf c16
          obtain rfl := Option.some.inj hf
          exact KK _ _ _ hH (lv_sub hl [1] rfl)
        · have hf := sneg hf c16
          refine lv_iload hx hb dX0_code_57 (lv_at hl 2 rfl) ?_
          refine lv_iconst (v := (-1 : Int32)) hx hb dX0_code_59 (by decide) ?_
          refine lv_icmp_eq (tgt := 109) hx hb dX0_code_60 (by decide) (fun c17 => ?_) (fun c17 => ?_)
          · have hf := spos hf c17
            obtain rfl := Option.some.inj hf
            exact KK _ _ _ hH (lv_sub hl [1] rfl)
          · have hf := sneg hf c17
            refine lv_aload_n hx hb dX0_code_63 rfl (lv_at hl 0 rfl) ?_
            refine lv_iload hx hb dX0_code_64 (lv_at hl 2 rfl) ?_
            obtain ⟨o18, ho18, hf⟩ := sbind hf
            refine g_cUv (isC := [0, 3]) (isR := [1, 2]) (isP := [2, 0, 1, 3]) (wr := [((r_this 2), gA G 20 o7.2), ((r_this 3), gA G 20 o7.1)]) (w2 := [(h_this, .inr (0, FX1 r_this q_this_bytes v13 v12 o18.2 i_this_end o18.1)), ((r_this 2), gA G 20 o7.2), ((r_this 3), gA G 20 o7.1), (q_this_bytes, gA G n_this_bytes t_this_bytes)]) (q0 := 0) X hK hA hH hl (ct_X1_take l G h_this r_this q_this_bytes n_this_bytes v13 v12 v14 i_this_end v11 t_this_bytes x9 H.size o18 ho18) ⟨q_9, q_550, hd_X1_take, rfl, rfl, ⟨Nat.le_of_ble_eq_true rfl, Nat.le_of_ble_eq_true rfl⟩, ⟨Nat.zero_le _, Nat.zero_le _⟩⟩ q_587 q_589 q_590 q_548 (Or.inr qn_588) (by decide +kernel) rfl rfl ⟨rfl, rfl, rfl, rfl, by decide, rfl, rfl⟩ rfl rfl (Nat.le_of_ble_eq_true rfl) dX0_code_66 (fun H locs hH => ?_)
            refine lv_aload_n hx hb dX0_code_69 rfl (lv_at hl 0 rfl) ?_
            refine lv_aload_n hx hb dX0_code_70 rfl (lv_at hl 0 rfl) ?_
            refine g_get (T := TX1) (N := 8) (ci := 0) (C := RX1) (v := .int v13) X hK hH in_RX1 0 rfl rfl 0 (by decide) q_168 (fun _ h9 => h9) rfl dX0_code_71 ?_
            refine lv_iload hx hb dX0_code_74 (lv_at hl 2 rfl) ?_
            refine lv_isub hx hb dX0_code_76 ?_
            refine lv_iconst (v := (2 : Int32)) hx hb dX0_code_77 (by decide) ?_
            refine lv_imul hx hb dX0_code_78 ?_
            refine g_put (w1 := [(h_this, .inr (0, FX1 r_this q_this_bytes ((v13 - x9) * (2 : Int32)) v12 o18.2 i_this_end o18.1)), ((r_this 2), gA G 20 o7.2), ((r_this 3), gA G 20 o7.1), (q_this_bytes, gA G n_this_bytes t_this_bytes)]) (T := TX1) (N := 8) (ci := 0) (C := RX1) (ty := .int) (v := .int ((v13 - x9) * (2 : Int32))) X hK hH in_RX1 tyX1 tyX1_ok nmX1 0 rfl rfl 0 (by decide) q_168 (fun _ h9 => h9) rfl (by decide +kernel) rfl rfl (Nat.le_of_ble_eq_true rfl) dX0_code_79 FX1_low rfl (fun H locs hH => ?_)
            refine lv_aload_n hx hb dX0_code_82 rfl (lv_at hl 0 rfl) ?_
            refine lv_aload_n hx hb dX0_code_83 rfl (lv_at hl 0 rfl) ?_
            refine g_get (T := TX1) (N := 8) (ci := 0) (C := RX1) (v := .int v12) X hK hH in_RX1 0 rfl rfl 1 (by decide) q_171 (fun _ h9 => h9) rfl dX0_code_84 ?_
            refine lv_iload hx hb dX0_code_87 (lv_at hl 2 rfl) ?_
            refine lv_isub hx hb dX0_code_89 ?_
            refine lv_iconst (v := (2 : Int32)) hx hb dX0_code_90 (by decide) ?_
            refine lv_imul hx hb dX0_code_91 ?_
            refine lv_iconst (v := (1 : Int32)) hx hb dX0_code_92 (by decide) ?_
            refine lv_iadd hx hb dX0_code_93 ?_
            refine g_put (w1 := [(h_this, .inr (0, FX1 r_this q_this_bytes ((v13 - x9) * (2 : Int32)) (((v12 - x9) * (2 : Int32)) + (1 : Int32)) o18.2 i_this_end o18.1)), ((r_this 2), gA G 20 o7.2), ((r_this 3), gA G 20 o7.1), (q_this_bytes, gA G n_this_bytes t_this_bytes)]) (T := TX1) (N := 8) (ci := 0) (C := RX1) (ty := .int) (v := .int (((v12 - x9) * (2 : Int32)) + (1 : Int32))) X hK hH in_RX1 tyX1 tyX1_ok nmX1 0 rfl rfl 1 (by decide) q_171 (fun _ h9 => h9) rfl (by decide +kernel) rfl rfl (Nat.le_of_ble_eq_true rfl) dX0_code_94 FX1_high rfl (fun H locs hH => ?_)
            refine lv_aload_n hx hb dX0_code_97 rfl (lv_at hl 0 rfl) ?_
            obtain ⟨o19, ho19, hf⟩ := sbind hf
            refine g_cVi (isC := [0]) (isR := [1, 2, 3]) (isP := [3, 0, 1, 2]) (wr := [((r_this 2), gA G 20 o7.2), ((r_this 3), gA G 20 o7.1), (q_this_bytes, gA G n_this_bytes t_this_bytes)]) (w2 := [(h_this, .inr (0, FX1 r_this q_this_bytes ((v13 - x9) * (2 : Int32)) (((v12 - x9) * (2 : Int32)) + (1 : Int32)) o18.2 i_this_end o18.1)), ((r_this 2), gA G 20 o7.2), ((r_this 3), gA G 20 o7.1), (q_this_bytes, gA G n_this_bytes t_this_bytes)]) (q0 := 0) X hK hA hH hl (ct_X0_nextOffset_X1 l G h_this r_this q_this_bytes ((v13 - x9) * (2 : Int32)) (((v12 - x9) * (2 : Int32)) + (1 : Int32)) o18.2 i_this_end o18.1 H.size o19 ho19) ⟨q_7, q_584, hd_X0_nextOffset_X1, rfl, rfl, ⟨Nat.le_of_ble_eq_true rfl, Nat.le_of_ble_eq_true rfl⟩, ⟨Nat.zero_le _, Nat.zero_le _⟩⟩ q_581 q_583 qe_2 rfl rfl ⟨rfl, rfl, rfl, rfl, by decide, rfl, rfl⟩ rfl rfl (Nat.le_of_ble_eq_true rfl) dX0_code_98 (fun H locs hH => ?_)
            refine lv_istore (lv' := [(5, .int o19), (0, .ref h_this), (4, .int o2), (6, .int x10)]) hx hb dX0_code_101 hl (by decide) rfl (fun ls hl => ?_)
            obtain ⟨x20, ex20⟩ : ∃ y : Int32, y = (x10 + (1 : Int32)) := ⟨_, rfl⟩
            have hf := sbnd hf x20 ex20
            refine lv_iinc (v := x20) (lv' := [(6, .int x20), (5, .int o19), (0, .ref h_this), (4, .int o2)]) hx hb dX0_code_103 hl (k := 3) rfl (by rw [ex20]; rfl) (by decide) rfl (fun ls hl => ?_)
            refine lv_goto (tgt := 50) hx hb dX0_code_106 (by decide) ?_
            exact ih o19 x20 o18.1 (((v12 - x9) * (2 : Int32)) + (1 : Int32)) ((v13 - x9) * (2 : Int32)) o18.2 _ _ _ _ (hself15 _ _ hf) hH (lv_sub hl [2, 3, 1, 0] rfl) KK
    refine L15 FUEL o8 (0 : Int32) i_this_code v4 v5 i_this_position o15 _ _ _ ho15 hH (lv_sub hl [2, 4, 1, 0] rfl) (fun H locs ls hH hl => ?_)
    refine lv_iload hx hb dX0_code_109 (lv_at hl 0 rfl) ?_
    obtain rfl := Option.some.inj hf
    exact hE _ _ _ _ rfl hH dX0_code_111
  refine lv_if_ne (tgt := 27) hx hb dX0_code_16 (by decide) (fun c3 => ?_) (fun c3 => ?_)
  · have hf := sneg hf c3
    refine lv_aload_n hx hb dX0_code_27 rfl (lv_at hl 2 rfl) ?_
    refine lv_iload_n hx hb dX0_code_28 rfl (lv_at hl 1 rfl) ?_
    refine lv_iconst (v := (1 : Int32)) hx hb dX0_code_29 (by decide) ?_
    refine lv_iadd hx hb dX0_code_30 ?_
    refine g_put (w1 := [(h_this, .inr (0, FX1 r_this q_this_bytes (o1 + (1 : Int32)) i_this_high i_this_position i_this_end i_this_code)), ((r_this 2), gA G 20 t_this_zeros), ((r_this 3), gA G 20 t_this_ones), (q_this_bytes, gA G n_this_bytes t_this_bytes)]) (T := TX1) (N := 8) (ci := 0) (C := RX1) (ty := .int) (v := .int (o1 + (1 : Int32))) X hK hH in_RX1 tyX1 tyX1_ok nmX1 0 rfl rfl 0 (by decide) q_168 (fun _ h9 => h9) rfl (by decide +kernel) rfl rfl (Nat.le_of_ble_eq_true rfl) dX0_code_31 FX1_low rfl (fun H locs hH => ?_)
    exact J6 i_this_high (o1 + (1 : Int32)) _ _ _ hf hH (lv_sub hl [2, 4, 0] rfl)
  · have hf := spos hf c3
    refine lv_aload_n hx hb dX0_code_19 rfl (lv_at hl 2 rfl) ?_
    refine lv_iload_n hx hb dX0_code_20 rfl (lv_at hl 1 rfl) ?_
    refine g_put (w1 := [(h_this, .inr (0, FX1 r_this q_this_bytes i_this_low o1 i_this_position i_this_end i_this_code)), ((r_this 2), gA G 20 t_this_zeros), ((r_this 3), gA G 20 t_this_ones), (q_this_bytes, gA G n_this_bytes t_this_bytes)]) (T := TX1) (N := 8) (ci := 0) (C := RX1) (ty := .int) (v := .int o1) X hK hH in_RX1 tyX1 tyX1_ok nmX1 0 rfl rfl 1 (by decide) q_171 (fun _ h9 => h9) rfl (by decide +kernel) rfl rfl (Nat.le_of_ble_eq_true rfl) dX0_code_21 FX1_high rfl (fun H locs hH => ?_)
    refine lv_goto (tgt := 34) hx hb dX0_code_24 (by decide) ?_
    exact J6 o1 i_this_low _ _ _ hf hH (lv_sub hl [2, 4, 0] rfl)

def lf_X2_choose (p0 : Int32) (p1 : Int32) : Option (Int32) :=
some p0
abbrev rm_X2_choose : Room := { frames := 0, cells := 0, slots := 0, locals := 0 }
theorem hd_X2_choose : yX2_choose.cls ≠ "java/lang/invoke/MethodHandle" ∧ yX2_choose.cls ≠ "java/lang/invoke/VarHandle" ∧ (parseMethodDescriptor yX2_choose.desc).map (fun d => d.parameters.length) = some 2 := by decide +kernel
set_option maxHeartbeats 4000000 in
set_option maxRecDepth 100000 in
theorem ct_X2_choose (l : Launch) (G : gG) (h_this : Nat) (r_this : Nat → Nat) (i_this_low i_this_high i_this_bitCount i_this_pending : Int32) (p0 p1 : Int32) (sz : Nat) (out : Int32) (hf : lf_X2_choose p0 p1 = some out) : gI l G yX2_choose cX2_choose 3 .int rm_X2_choose [.ref h_this, .int p0, .int p1] sz [(h_this, .inr (1, FX2 r_this i_this_low i_this_high i_this_bitCount i_this_pending))] out [(h_this, .inr (1, FX2 r_this i_this_low i_this_high i_this_bitCount i_this_pending))] := by
  refine gI_of (by decide +kernel) (Nat.le_of_ble_eq_true rfl) ?_
  intro p e s m args below meth c ls A Q X hK hA hsz hH hl hE
  subst hsz
  have hx := X.1
  have hb := X.2.1
  unfold lf_X2_choose at hf
  have hl : lv_has ls 3 [(0, .ref h_this), (1, .int p0), (2, .int p1)] := hl
  have hH : gH G A s.heap s.heap [] [(h_this, .inr (1, FX2 r_this i_this_low i_this_high i_this_bitCount i_this_pending))] := hH
  refine lv_iload_n hx hb dX2_choose_0 rfl (lv_at hl 1 rfl) ?_
  obtain rfl := Option.some.inj hf
  exact hE _ _ _ _ rfl hH dX2_choose_1

def lf_X2_take (i_this_bitCount : Int32) (i_this_pending : Int32) (t_this_bytes : Nat → Int32) (p0 : Int32) : Option (Int32 × Int32 × (Nat → Int32)) :=
(if p0 = (16384 : Int32) then some (i_this_bitCount, (i_this_pending + (1 : Int32)), t_this_bytes) else jn (fun (z4 : Int32) => (fun (s3 : Int32) => bnd ((1 : Int32) + i_this_pending) fun x5 => (fixN FUEL (fun (self9 : (Int32 × Int32 × (Nat → Int32)) → Option (Int32 × (Nat → Int32))) (z9 : Int32 × Int32 × (Nat → Int32)) => (fun (x6 : Int32) (v7 : Int32) (g8 : (Nat → Int32)) => (if x5 ≤ x6 then some (v7, g8) else (if (Int32.ofNat 2048) ≤ (v7 / (8 : Int32)) then some (v7, g8) else jn (fun (z14 : Int32) => (fun (s13 : Int32) => bnd (v7 / (8 : Int32)) fun x15 => jn (fun (z18 : Int32) => (fun (s17 : Int32) => (wrA 2048 g8 x15 (s17 ||| (s13 <<< (((7 : Int32) - (v7 - v7 / (8 : Int32) * (8 : Int32))) &&& 31)))).bind fun g19 => bnd (x6 + (1 : Int32)) fun x20 => self9 (x20, (v7 + (1 : Int32)), g19)) z18) (fun k18 => (if (v7 - v7 / (8 : Int32) * (8 : Int32)) = (0 : Int32) then k18 (0 : Int32) else (rdA 2048 g8 x15).bind fun x21 => k18 x21))) z14) (fun k14 => (if x6 = (0 : Int32) then k14 s3 else k14 ((1 : Int32) - s3)))))) z9.1 z9.2.1 z9.2.2) ((0 : Int32), i_this_bitCount, t_this_bytes)).bind fun o9 => some (o9.1, (0 : Int32), o9.2)) z4) (fun k4 => (if p0 = (32768 : Int32) then k4 (1 : Int32) else k4 (0 : Int32))))
abbrev rm_X2_take : Room := { frames := 0, cells := 0, slots := 0, locals := 0 }
theorem hd_X2_take : yX2_take.cls ≠ "java/lang/invoke/MethodHandle" ∧ yX2_take.cls ≠ "java/lang/invoke/VarHandle" ∧ (parseMethodDescriptor yX2_take.desc).map (fun d => d.parameters.length) = some 1 := by decide +kernel
set_option maxHeartbeats 4000000 in
set_option maxRecDepth 100000 in
theorem ct_X2_take (l : Launch) (G : gG) (h_this : Nat) (r_this : Nat → Nat) (i_this_low i_this_high i_this_bitCount i_this_pending : Int32) (t_this_bytes : Nat → Int32) (p0 : Int32) (sz : Nat) (out : Int32 × Int32 × (Nat → Int32)) (hf : lf_X2_take i_this_bitCount i_this_pending t_this_bytes p0 = some out) : gV l G yX2_take cX2_take 8 rm_X2_take [.ref h_this, .int p0] sz [(h_this, .inr (1, FX2 r_this i_this_low i_this_high i_this_bitCount i_this_pending)), ((r_this 4), gA G 2048 t_this_bytes)] [(h_this, .inr (1, FX2 r_this i_this_low i_this_high out.1 out.2.1)), ((r_this 4), gA G 2048 out.2.2)] := by
  refine gV_of (by decide +kernel) (Nat.le_of_ble_eq_true rfl) ?_
  intro p e s m args below meth c ls A Q X hK hA hsz hH hl hE
  subst hsz
  have hx := X.1
  have hb := X.2.1
  unfold lf_X2_take at hf
  have hl : lv_has ls 8 [(0, .ref h_this), (1, .int p0)] := hl
  have hH : gH G A s.heap s.heap [] [(h_this, .inr (1, FX2 r_this i_this_low i_this_high i_this_bitCount i_this_pending)), ((r_this 4), gA G 2048 t_this_bytes)] := hH
  refine lv_iload_n hx hb dX2_take_0 rfl (lv_at hl 1 rfl) ?_
  refine lv_sipush (v := (16384 : Int32)) hx hb dX2_take_1 (by decide) ?_
  refine lv_icmp_ne (tgt := 18) hx hb dX2_take_4 (by decide) (fun c1 => ?_) (fun c1 => ?_)
  · have hf := sneg hf c1
    refine lv_iload_n hx hb dX2_take_18 rfl (lv_at hl 1 rfl) ?_
    refine lv_ldc (v := (32768 : Int32)) hx hb X.2.2.2.2.2.1 (X.2.2.2.2.1 _ q_594) dX2_take_19 ?_
    obtain ⟨k4, hk4, hf⟩ := sjn hf
    have J4 : ∀ (s3 : Int32) (H : Heap) (locs : List Loc) (ls : Array Slot), k4 s3 = some out → gH G A s.heap H locs [(h_this, .inr (1, FX2 r_this i_this_low i_this_high i_this_bitCount i_this_pending)), ((r_this 4), gA G 2048 t_this_bytes)] → lv_has ls 8 [(0, .ref h_this)] → W p l e rm_X2_take s m args below meth c H locs 0 0 Q (F0 m 29 ls [.int s3]) := by
      intro s3 H locs ls hf hH hl
      have hf := hk4 _ _ hf
      refine lv_istore_n (lv' := [(2, .int s3), (0, .ref h_this)]) hx hb dX2_take_29 rfl hl (by decide) rfl (fun ls hl => ?_)
      refine lv_iconst (v := (1 : Int32)) hx hb dX2_take_30 (by decide) ?_
      refine lv_aload_n hx hb dX2_take_31 rfl (lv_at hl 1 rfl) ?_
      refine g_get (T := TX2) (N := 7) (ci := 1) (C := RX2) (v := .int i_this_pending) X hK hH in_RX2 0 rfl rfl 6 (by decide) q_167 (fun _ h9 => h9) rfl dX2_take_32 ?_
      refine lv_iadd hx hb dX2_take_35 ?_
      refine lv_topi (fun x5 ex5 => ?_)
      have hf := sbnd hf x5 ex5
      refine lv_istore_n (lv' := [(3, .int x5), (2, .int s3), (0, .ref h_this)]) hx hb dX2_take_36 rfl hl (by decide) rfl (fun ls hl => ?_)
      refine lv_aload_n hx hb dX2_take_37 rfl (lv_at hl 2 rfl) ?_
      refine lv_iconst (v := (0 : Int32)) hx hb dX2_take_38 (by decide) ?_
      refine g_put (w1 := [(h_this, .inr (1, FX2 r_this i_this_low i_this_high i_this_bitCount (0 : Int32))), ((r_this 4), gA G 2048 t_this_bytes)]) (T := TX2) (N := 7) (ci := 1) (C := RX2) (ty := .int) (v := .int (0 : Int32)) X hK hH in_RX2 tyX2 tyX2_ok nmX2 0 rfl rfl 6 (by decide) q_167 (fun _ h9 => h9) rfl (by decide +kernel) rfl rfl (Nat.le_of_ble_eq_true rfl) dX2_take_39 FX2_pending rfl (fun H locs hH => ?_)
      refine lv_iconst (v := (0 : Int32)) hx hb dX2_take_42 (by decide) ?_
      refine lv_istore (lv' := [(4, .int (0 : Int32)), (3, .int x5), (2, .int s3), (0, .ref h_this)]) hx hb dX2_take_43 hl (by decide) rfl (fun ls hl => ?_)
      obtain ⟨o9, ho9, hf⟩ := sbind hf
      obtain ⟨FF9, hFF9, ho9⟩ := sfix ho9
      have L9 : ∀ (n : Nat) (x6 : Int32) (v7 : Int32) (g8 : (Nat → Int32)) (b9 : Int32 × (Nat → Int32)) (H : Heap) (locs : List Loc) (ls : Array Slot), fixN n FF9 (x6, v7, g8) = some b9 → gH G A s.heap H locs [(h_this, .inr (1, FX2 r_this i_this_low i_this_high v7 (0 : Int32))), ((r_this 4), gA G 2048 g8)] → lv_has ls 8 [(0, .ref h_this), (2, .int s3), (3, .int x5), (4, .int x6)] → (∀ (H : Heap) (locs : List Loc) (ls : Array Slot), gH G A s.heap H locs [(h_this, .inr (1, FX2 r_this i_this_low i_this_high b9.1 (0 : Int32))), ((r_this 4), gA G 2048 b9.2)] → lv_has ls 8 [] → W p l e rm_X2_take s m args below meth c H locs 0 0 Q (F0 m 151 ls [])) → W p l e rm_X2_take s m args below meth c H locs 0 0 Q (F0 m 45 ls []) := by
        intro n
        induction n with
        | zero => intro x6 v7 g8 b9 H locs ls hf; exact sfix0 hf
        | succ n ih =>
          intro x6 v7 g8 b9 H locs ls hf hH hl KK
          obtain ⟨self9, hself9, hf⟩ := sstep hFF9 hf
          refine lv_iload hx hb dX2_take_45 (lv_at hl 3 rfl) ?_
          refine lv_iload_n hx hb dX2_take_47 rfl (lv_at hl 2 rfl) ?_
          refine lv_icmp_ge (tgt := 151) hx hb dX2_take_48 (by decide) (fun c10 => ?_) (fun c10 => ?_)
          · have hf := spos hf c10
            obtain rfl := Option.some.inj hf
            exact KK _ _ _ hH (lv_sub hl [] rfl)
          · have hf := sneg hf c10
            refine lv_aload_n hx hb dX2_take_51 rfl (lv_at hl 0 rfl) ?_
            refine g_get (T := TX2) (N := 7) (ci := 1) (C := RX2) (v := .int v7) X hK hH in_RX2 0 rfl rfl 5 (by decide) q_166 (fun _ h9 => h9) rfl dX2_take_52 ?_
            refine lv_bipush (v := (8 : Int32)) hx hb dX2_take_55 (by decide) ?_
            refine lv_idiv hx hb dX2_take_57 (by decide) ?_
            refine lv_aload_n hx hb dX2_take_58 rfl (lv_at hl 0 rfl) ?_
            refine g_get (T := TX2) (N := 7) (ci := 1) (C := RX2) (v := .ref (r_this 4)) X hK hH in_RX2 0 rfl rfl 4 (by decide) q_164 (fun _ h9 => h9) rfl dX2_take_59 ?_
            refine g_alen X hK hH 1 rfl dX2_take_62 ?_
            refine lv_icmp_ge (tgt := 151) hx hb dX2_take_63 (by decide) (fun c11 => ?_) (fun c11 => ?_)
            · have hf := spos hf c11
              obtain rfl := Option.some.inj hf
              exact KK _ _ _ hH (lv_sub hl [] rfl)
            · have hf := sneg hf c11
              refine lv_iload hx hb dX2_take_66 (lv_at hl 3 rfl) ?_
              obtain ⟨k14, hk14, hf⟩ := sjn hf
              have J14 : ∀ (s13 : Int32) (H : Heap) (locs : List Loc) (ls : Array Slot), k14 s13 = some b9 → gH G A s.heap H locs [(h_this, .inr (1, FX2 r_this i_this_low i_this_high v7 (0 : Int32))), ((r_this 4), gA G 2048 g8)] → lv_has ls 8 [(0, .ref h_this), (2, .int s3), (3, .int x5), (4, .int x6)] → W p l e rm_X2_take s m args below meth c H locs 0 0 Q (F0 m 78 ls [.int s13]) := by
                intro s13 H locs ls hf hH hl
                have hf := hk14 _ _ hf
                refine lv_istore (lv' := [(5, .int s13), (0, .ref h_this), (2, .int s3), (3, .int x5), (4, .int x6)]) hx hb dX2_take_78 hl (by decide) rfl (fun ls hl => ?_)
                refine lv_aload_n hx hb dX2_take_80 rfl (lv_at hl 1 rfl) ?_
                refine g_get (T := TX2) (N := 7) (ci := 1) (C := RX2) (v := .int v7) X hK hH in_RX2 0 rfl rfl 5 (by decide) q_166 (fun _ h9 => h9) rfl dX2_take_81 ?_
                refine lv_bipush (v := (8 : Int32)) hx hb dX2_take_84 (by decide) ?_
                refine lv_idiv hx hb dX2_take_86 (by decide) ?_
                refine lv_topi (fun x15 ex15 => ?_)
                have hf := sbnd hf x15 ex15
                refine lv_istore (lv' := [(6, .int x15), (5, .int s13), (0, .ref h_this), (2, .int s3), (3, .int x5), (4, .int x6)]) hx hb dX2_take_87 hl (by decide) rfl (fun ls hl => ?_)
                refine lv_aload_n hx hb dX2_take_89 rfl (lv_at hl 2 rfl) ?_
                refine g_get (T := TX2) (N := 7) (ci := 1) (C := RX2) (v := .int v7) X hK hH in_RX2 0 rfl rfl 5 (by decide) q_166 (fun _ h9 => h9) rfl dX2_take_90 ?_
                refine lv_bipush (v := (8 : Int32)) hx hb dX2_take_93 (by decide) ?_
                refine lv_irem hx hb dX2_take_95 (by decide) ?_
                obtain ⟨k18, hk18, hf⟩ := sjn hf
                have J18 : ∀ (s17 : Int32) (H : Heap) (locs : List Loc) (ls : Array Slot), k18 s17 = some b9 → gH G A s.heap H locs [(h_this, .inr (1, FX2 r_this i_this_low i_this_high v7 (0 : Int32))), ((r_this 4), gA G 2048 g8)] → lv_has ls 8 [(0, .ref h_this), (2, .int s3), (3, .int x5), (4, .int x6), (5, .int s13), (6, .int x15)] → W p l e rm_X2_take s m args below meth c H locs 0 0 Q (F0 m 110 ls [.int s17]) := by
                  intro s17 H locs ls hf hH hl
                  have hf := hk18 _ _ hf
                  refine lv_istore (lv' := [(7, .int s17), (0, .ref h_this), (2, .int s3), (3, .int x5), (4, .int x6), (5, .int s13), (6, .int x15)]) hx hb dX2_take_110 hl (by decide) rfl (fun ls hl => ?_)
                  refine lv_aload_n hx hb dX2_take_112 rfl (lv_at hl 1 rfl) ?_
                  refine g_get (T := TX2) (N := 7) (ci := 1) (C := RX2) (v := .ref (r_this 4)) X hK hH in_RX2 0 rfl rfl 4 (by decide) q_164 (fun _ h9 => h9) rfl dX2_take_113 ?_
                  refine lv_iload hx hb dX2_take_116 (lv_at hl 6 rfl) ?_
                  refine lv_iload hx hb dX2_take_118 (lv_at hl 0 rfl) ?_
                  refine lv_iload hx hb dX2_take_120 (lv_at hl 5 rfl) ?_
                  refine lv_bipush (v := (7 : Int32)) hx hb dX2_take_122 (by decide) ?_
                  refine lv_aload_n hx hb dX2_take_124 rfl (lv_at hl 1 rfl) ?_
                  refine g_get (T := TX2) (N := 7) (ci := 1) (C := RX2) (v := .int v7) X hK hH in_RX2 0 rfl rfl 5 (by decide) q_166 (fun _ h9 => h9) rfl dX2_take_125 ?_
                  refine lv_bipush (v := (8 : Int32)) hx hb dX2_take_128 (by decide) ?_
                  refine lv_irem hx hb dX2_take_130 (by decide) ?_
                  refine lv_isub hx hb dX2_take_131 ?_
                  refine lv_ishl hx hb dX2_take_132 ?_
                  refine lv_ior hx hb dX2_take_133 ?_
                  obtain ⟨g19, hg19, hf⟩ := sbind hf
                  refine g_ast (w1 := [(h_this, .inr (1, FX2 r_this i_this_low i_this_high v7 (0 : Int32))), ((r_this 4), gA G 2048 g19)]) X hK hH 1 rfl hg19 dX2_take_134 rfl (fun H locs hH => ?_)
                  refine lv_aload_n hx hb dX2_take_135 rfl (lv_at hl 1 rfl) ?_
                  refine lv_dup hx hb dX2_take_136 rfl ?_
                  refine g_get (T := TX2) (N := 7) (ci := 1) (C := RX2) (v := .int v7) X hK hH in_RX2 0 rfl rfl 5 (by decide) q_166 (fun _ h9 => h9) rfl dX2_take_137 ?_
                  refine lv_iconst (v := (1 : Int32)) hx hb dX2_take_140 (by decide) ?_
                  refine lv_iadd hx hb dX2_take_141 ?_
                  refine g_put (w1 := [(h_this, .inr (1, FX2 r_this i_this_low i_this_high (v7 + (1 : Int32)) (0 : Int32))), ((r_this 4), gA G 2048 g19)]) (T := TX2) (N := 7) (ci := 1) (C := RX2) (ty := .int) (v := .int (v7 + (1 : Int32))) X hK hH in_RX2 tyX2 tyX2_ok nmX2 0 rfl rfl 5 (by decide) q_166 (fun _ h9 => h9) rfl (by decide +kernel) rfl rfl (Nat.le_of_ble_eq_true rfl) dX2_take_142 FX2_bitCount rfl (fun H locs hH => ?_)
                  obtain ⟨x20, ex20⟩ : ∃ y : Int32, y = (x6 + (1 : Int32)) := ⟨_, rfl⟩
                  have hf := sbnd hf x20 ex20
                  refine lv_iinc (v := x20) (lv' := [(4, .int x20), (7, .int s17), (0, .ref h_this), (2, .int s3), (3, .int x5), (5, .int s13), (6, .int x15)]) hx hb dX2_take_145 hl (k := 4) rfl (by rw [ex20]; rfl) (by decide) rfl (fun ls hl => ?_)
                  refine lv_goto (tgt := 45) hx hb dX2_take_148 (by decide) ?_
                  exact ih x20 (v7 + (1 : Int32)) g19 _ _ _ _ (hself9 _ _ hf) hH (lv_sub hl [2, 3, 4, 0] rfl) KK
                refine lv_if_ne (tgt := 103) hx hb dX2_take_96 (by decide) (fun c16 => ?_) (fun c16 => ?_)
                · have hf := sneg hf c16
                  refine lv_aload_n hx hb dX2_take_103 rfl (lv_at hl 2 rfl) ?_
                  refine g_get (T := TX2) (N := 7) (ci := 1) (C := RX2) (v := .ref (r_this 4)) X hK hH in_RX2 0 rfl rfl 4 (by decide) q_164 (fun _ h9 => h9) rfl dX2_take_104 ?_
                  refine lv_iload hx hb dX2_take_107 (lv_at hl 0 rfl) ?_
                  obtain ⟨x21, hx21, hf⟩ := sbind hf
                  refine g_ald X hK hH 1 rfl hx21 dX2_take_109 ?_
                  exact J18 x21 _ _ _ hf hH (lv_sub hl [2, 3, 4, 5, 1, 0] rfl)
                · have hf := spos hf c16
                  refine lv_iconst (v := (0 : Int32)) hx hb dX2_take_99 (by decide) ?_
                  refine lv_goto (tgt := 110) hx hb dX2_take_100 (by decide) ?_
                  exact J18 (0 : Int32) _ _ _ hf hH (lv_sub hl [2, 3, 4, 5, 1, 0] rfl)
              refine lv_if_ne (tgt := 75) hx hb dX2_take_68 (by decide) (fun c12 => ?_) (fun c12 => ?_)
              · have hf := sneg hf c12
                refine lv_iconst (v := (1 : Int32)) hx hb dX2_take_75 (by decide) ?_
                refine lv_iload_n hx hb dX2_take_76 rfl (lv_at hl 1 rfl) ?_
                refine lv_isub hx hb dX2_take_77 ?_
                exact J14 ((1 : Int32) - s3) _ _ _ hf hH (lv_sub hl [0, 1, 2, 3] rfl)
              · have hf := spos hf c12
                refine lv_iload_n hx hb dX2_take_71 rfl (lv_at hl 1 rfl) ?_
                refine lv_goto (tgt := 78) hx hb dX2_take_72 (by decide) ?_
                exact J14 s3 _ _ _ hf hH (lv_sub hl [0, 1, 2, 3] rfl)
      refine L9 FUEL (0 : Int32) i_this_bitCount t_this_bytes o9 _ _ _ ho9 hH (lv_sub hl [3, 2, 1, 0] rfl) (fun H locs ls hH hl => ?_)
      obtain rfl := Option.some.inj hf
      exact hE _ _ _ _ hH dX2_take_151
    refine lv_icmp_ne (tgt := 28) hx hb dX2_take_21 (by decide) (fun c2 => ?_) (fun c2 => ?_)
    · have hf := sneg hf c2
      refine lv_iconst (v := (0 : Int32)) hx hb dX2_take_28 (by decide) ?_
      exact J4 (0 : Int32) _ _ _ hf hH (lv_sub hl [0] rfl)
    · have hf := spos hf c2
      refine lv_iconst (v := (1 : Int32)) hx hb dX2_take_24 (by decide) ?_
      refine lv_goto (tgt := 29) hx hb dX2_take_25 (by decide) ?_
      exact J4 (1 : Int32) _ _ _ hf hH (lv_sub hl [0] rfl)
  · have hf := spos hf c1
    refine lv_aload_n hx hb dX2_take_7 rfl (lv_at hl 0 rfl) ?_
    refine lv_dup hx hb dX2_take_8 rfl ?_
    refine g_get (T := TX2) (N := 7) (ci := 1) (C := RX2) (v := .int i_this_pending) X hK hH in_RX2 0 rfl rfl 6 (by decide) q_167 (fun _ h9 => h9) rfl dX2_take_9 ?_
    refine lv_iconst (v := (1 : Int32)) hx hb dX2_take_12 (by decide) ?_
    refine lv_iadd hx hb dX2_take_13 ?_
    refine g_put (w1 := [(h_this, .inr (1, FX2 r_this i_this_low i_this_high i_this_bitCount (i_this_pending + (1 : Int32)))), ((r_this 4), gA G 2048 t_this_bytes)]) (T := TX2) (N := 7) (ci := 1) (C := RX2) (ty := .int) (v := .int (i_this_pending + (1 : Int32))) X hK hH in_RX2 tyX2 tyX2_ok nmX2 0 rfl rfl 6 (by decide) q_167 (fun _ h9 => h9) rfl (by decide +kernel) rfl rfl (Nat.le_of_ble_eq_true rfl) dX2_take_14 FX2_pending rfl (fun H locs hH => ?_)
    obtain rfl := Option.some.inj hf
    exact hE _ _ _ _ hH dX2_take_17

def lf_X0_splitFor_X2 (i_this_high : Int32) (i_this_low : Int32) (t_this_ones : Nat → Int32) (t_this_zeros : Nat → Int32) (p0 : Int32) : Option (Int32) :=
bnd ((i_this_high - i_this_low) + (1 : Int32)) fun x1 => jn (fun (z5 : Int32 × Int32) => (fun (x3 : Int32) (x4 : Int32) => (if (x3 + x4) ≤ (0 : Int32) then some i_this_low else (dvO (x1 * x3) (x3 + x4)).bind fun x7 => some ((i_this_low - (1 : Int32)) + x7))) z5.1 z5.2) (fun k5 => (if p0 < (0 : Int32) then k5 ((1 : Int32), (1 : Int32)) else (if (20 : Int32) ≤ p0 then k5 ((1 : Int32), (1 : Int32)) else (rdA 20 t_this_zeros p0).bind fun x9 => (rdA 20 t_this_ones p0).bind fun x10 => k5 (x9, x10))))
abbrev rm_X0_splitFor_X2 : Room := { frames := 0, cells := 0, slots := 0, locals := 0 }
theorem hd_X0_splitFor_X2 : yX0_splitFor.cls ≠ "java/lang/invoke/MethodHandle" ∧ yX0_splitFor.cls ≠ "java/lang/invoke/VarHandle" ∧ (parseMethodDescriptor yX0_splitFor.desc).map (fun d => d.parameters.length) = some 1 := by decide +kernel
set_option maxHeartbeats 4000000 in
set_option maxRecDepth 100000 in
theorem ct_X0_splitFor_X2 (l : Launch) (G : gG) (h_this : Nat) (r_this : Nat → Nat) (i_this_low i_this_high i_this_bitCount i_this_pending : Int32) (t_this_ones t_this_zeros : Nat → Int32) (p0 : Int32) (sz : Nat) (out : Int32) (hf : lf_X0_splitFor_X2 i_this_high i_this_low t_this_ones t_this_zeros p0 = some out) : gI l G yX0_splitFor cX0_splitFor 5 .int rm_X0_splitFor_X2 [.ref h_this, .int p0] sz [(h_this, .inr (1, FX2 r_this i_this_low i_this_high i_this_bitCount i_this_pending)), ((r_this 2), gA G 20 t_this_zeros), ((r_this 3), gA G 20 t_this_ones)] out [(h_this, .inr (1, FX2 r_this i_this_low i_this_high i_this_bitCount i_this_pending)), ((r_this 2), gA G 20 t_this_zeros), ((r_this 3), gA G 20 t_this_ones)] := by
  refine gI_of (by decide +kernel) (Nat.le_of_ble_eq_true rfl) ?_
  intro p e s m args below meth c ls A Q X hK hA hsz hH hl hE
  subst hsz
  have hx := X.1
  have hb := X.2.1
  unfold lf_X0_splitFor_X2 at hf
  have hl : lv_has ls 5 [(0, .ref h_this), (1, .int p0)] := hl
  have hH : gH G A s.heap s.heap [] [(h_this, .inr (1, FX2 r_this i_this_low i_this_high i_this_bitCount i_this_pending)), ((r_this 2), gA G 20 t_this_zeros), ((r_this 3), gA G 20 t_this_ones)] := hH
  refine lv_aload_n hx hb dX0_splitFor_0 rfl (lv_at hl 0 rfl) ?_
  refine g_get (T := TX2) (N := 7) (ci := 1) (C := RX2) (v := .int i_this_high) X hK hH in_RX2 0 rfl rfl 1 (by decide) q_171 (fun _ h9 => h9) rfl dX0_splitFor_1 ?_
  refine lv_aload_n hx hb dX0_splitFor_4 rfl (lv_at hl 0 rfl) ?_
  refine g_get (T := TX2) (N := 7) (ci := 1) (C := RX2) (v := .int i_this_low) X hK hH in_RX2 0 rfl rfl 0 (by decide) q_168 (fun _ h9 => h9) rfl dX0_splitFor_5 ?_
  refine lv_isub hx hb dX0_splitFor_8 ?_
  refine lv_iconst (v := (1 : Int32)) hx hb dX0_splitFor_9 (by decide) ?_
  refine lv_iadd hx hb dX0_splitFor_10 ?_
  refine lv_topi (fun x1 ex1 => ?_)
  have hf := sbnd hf x1 ex1
  refine lv_istore_n (lv' := [(2, .int x1), (0, .ref h_this), (1, .int p0)]) hx hb dX0_splitFor_11 rfl hl (by decide) rfl (fun ls hl => ?_)
  refine lv_iconst (v := (1 : Int32)) hx hb dX0_splitFor_12 (by decide) ?_
  refine lv_istore_n (lv' := [(3, .int (1 : Int32)), (2, .int x1), (0, .ref h_this), (1, .int p0)]) hx hb dX0_splitFor_13 rfl hl (by decide) rfl (fun ls hl => ?_)
  refine lv_iconst (v := (1 : Int32)) hx hb dX0_splitFor_14 (by decide) ?_
  refine lv_istore (lv' := [(4, .int (1 : Int32)), (3, .int (1 : Int32)), (2, .int x1), (0, .ref h_this), (1, .int p0)]) hx hb dX0_splitFor_15 hl (by decide) rfl (fun ls hl => ?_)
  refine lv_iload_n hx hb dX0_splitFor_17 rfl (lv_at hl 4 rfl) ?_
  obtain ⟨k5, hk5, hf⟩ := sjn hf
  have J5 : ∀ (x3 : Int32) (x4 : Int32) (H : Heap) (locs : List Loc) (ls : Array Slot), k5 (x3, x4) = some out → gH G A s.heap H locs [(h_this, .inr (1, FX2 r_this i_this_low i_this_high i_this_bitCount i_this_pending)), ((r_this 2), gA G 20 t_this_zeros), ((r_this 3), gA G 20 t_this_ones)] → lv_has ls 5 [(0, .ref h_this), (2, .int x1), (3, .int x3), (4, .int x4)] → W p l e rm_X0_splitFor_X2 s m args below meth c H locs 0 0 Q (F0 m 42 ls []) := by
    intro x3 x4 H locs ls hf hH hl
    have hf := hk5 _ _ hf
    refine lv_iload_n hx hb dX0_splitFor_42 rfl (lv_at hl 2 rfl) ?_
    refine lv_iload hx hb dX0_splitFor_43 (lv_at hl 3 rfl) ?_
    refine lv_iadd hx hb dX0_splitFor_45 ?_
    refine lv_if_le (tgt := 67) hx hb dX0_splitFor_46 (by decide) (fun c6 => ?_) (fun c6 => ?_)
    · have hf := spos hf c6
      refine lv_aload_n hx hb dX0_splitFor_67 rfl (lv_at hl 0 rfl) ?_
      refine g_get (T := TX2) (N := 7) (ci := 1) (C := RX2) (v := .int i_this_low) X hK hH in_RX2 0 rfl rfl 0 (by decide) q_168 (fun _ h9 => h9) rfl dX0_splitFor_68 ?_
      obtain rfl := Option.some.inj hf
      exact hE _ _ _ _ rfl hH dX0_splitFor_71
    · have hf := sneg hf c6
      refine lv_aload_n hx hb dX0_splitFor_49 rfl (lv_at hl 0 rfl) ?_
      refine g_get (T := TX2) (N := 7) (ci := 1) (C := RX2) (v := .int i_this_low) X hK hH in_RX2 0 rfl rfl 0 (by decide) q_168 (fun _ h9 => h9) rfl dX0_splitFor_50 ?_
      refine lv_iconst (v := (1 : Int32)) hx hb dX0_splitFor_53 (by decide) ?_
      refine lv_isub hx hb dX0_splitFor_54 ?_
      refine lv_iload_n hx hb dX0_splitFor_55 rfl (lv_at hl 1 rfl) ?_
      refine lv_iload_n hx hb dX0_splitFor_56 rfl (lv_at hl 2 rfl) ?_
      refine lv_imul hx hb dX0_splitFor_57 ?_
      refine lv_iload_n hx hb dX0_splitFor_58 rfl (lv_at hl 2 rfl) ?_
      refine lv_iload hx hb dX0_splitFor_59 (lv_at hl 3 rfl) ?_
      refine lv_iadd hx hb dX0_splitFor_61 ?_
      obtain ⟨x7, hx7, hf⟩ := sbind hf
      refine g_div X hx7 dX0_splitFor_62 ?_
      refine lv_iadd hx hb dX0_splitFor_63 ?_
      refine lv_goto (tgt := 71) hx hb dX0_splitFor_64 (by decide) ?_
      obtain rfl := Option.some.inj hf
      exact hE _ _ _ _ rfl hH dX0_splitFor_71
  refine lv_if_lt (tgt := 42) hx hb dX0_splitFor_18 (by decide) (fun c2 => ?_) (fun c2 => ?_)
  · have hf := spos hf c2
    exact J5 (1 : Int32) (1 : Int32) _ _ _ hf hH (lv_sub hl [3, 2, 1, 0] rfl)
  · have hf := sneg hf c2
    refine lv_iload_n hx hb dX0_splitFor_21 rfl (lv_at hl 4 rfl) ?_
    refine lv_bipush (v := (20 : Int32)) hx hb dX0_splitFor_22 (by decide) ?_
    refine lv_icmp_ge (tgt := 42) hx hb dX0_splitFor_24 (by decide) (fun c8 => ?_) (fun c8 => ?_)
    · have hf := spos hf c8
      exact J5 (1 : Int32) (1 : Int32) _ _ _ hf hH (lv_sub hl [3, 2, 1, 0] rfl)
    · have hf := sneg hf c8
      refine lv_aload_n hx hb dX0_splitFor_27 rfl (lv_at hl 3 rfl) ?_
      refine g_get (T := TX2) (N := 7) (ci := 1) (C := RX2) (v := .ref (r_this 2)) X hK hH in_RX2 0 rfl rfl 2 (by decide) q_172 (fun _ h9 => h9) rfl dX0_splitFor_28 ?_
      refine lv_iload_n hx hb dX0_splitFor_31 rfl (lv_at hl 4 rfl) ?_
      obtain ⟨x9, hx9, hf⟩ := sbind hf
      refine g_ald X hK hH 1 rfl hx9 dX0_splitFor_32 ?_
      refine lv_istore_n (lv' := [(3, .int x9), (4, .int (1 : Int32)), (2, .int x1), (0, .ref h_this), (1, .int p0)]) hx hb dX0_splitFor_33 rfl hl (by decide) rfl (fun ls hl => ?_)
      refine lv_aload_n hx hb dX0_splitFor_34 rfl (lv_at hl 3 rfl) ?_
      refine g_get (T := TX2) (N := 7) (ci := 1) (C := RX2) (v := .ref (r_this 3)) X hK hH in_RX2 0 rfl rfl 3 (by decide) q_173 (fun _ h9 => h9) rfl dX0_splitFor_35 ?_
      refine lv_iload_n hx hb dX0_splitFor_38 rfl (lv_at hl 4 rfl) ?_
      obtain ⟨x10, hx10, hf⟩ := sbind hf
      refine g_ald X hK hH 2 rfl hx10 dX0_splitFor_39 ?_
      refine lv_istore (lv' := [(4, .int x10), (3, .int x9), (2, .int x1), (0, .ref h_this), (1, .int p0)]) hx hb dX0_splitFor_40 hl (by decide) rfl (fun ls hl => ?_)
      exact J5 x9 x10 _ _ _ hf hH (lv_sub hl [3, 2, 1, 0] rfl)

def lf_X0_count_X2 (t_this_ones : Nat → Int32) (t_this_zeros : Nat → Int32) (p0 : Int32) (p1 : Int32) : Option ((Nat → Int32) × (Nat → Int32)) :=
(if p1 < (0 : Int32) then some (t_this_ones, t_this_zeros) else (if p1 < (20 : Int32) then jn (fun (z6 : (Nat → Int32) × (Nat → Int32)) => (fun (g4 : (Nat → Int32)) (g5 : (Nat → Int32)) => (rdA 20 g5 p1).bind fun x7 => (rdA 20 g4 p1).bind fun x8 => (if (x7 + x8) ≤ (64 : Int32) then some (g4, g5) else (rdA 20 g5 p1).bind fun x10 => (wrA 20 g5 p1 ((x10 + (1 : Int32)) / (2 : Int32))).bind fun g11 => (rdA 20 g4 p1).bind fun x12 => (wrA 20 g4 p1 ((x12 + (1 : Int32)) / (2 : Int32))).bind fun g13 => some (g13, g11))) z6.1 z6.2) (fun k6 => (if p0 = (0 : Int32) then (rdA 20 t_this_zeros p1).bind fun x16 => (wrA 20 t_this_zeros p1 (x16 + (1 : Int32))).bind fun g17 => k6 (t_this_ones, g17) else (rdA 20 t_this_ones p1).bind fun x14 => (wrA 20 t_this_ones p1 (x14 + (1 : Int32))).bind fun g15 => k6 (g15, t_this_zeros))) else some (t_this_ones, t_this_zeros)))
abbrev rm_X0_count_X2 : Room := { frames := 0, cells := 0, slots := 0, locals := 0 }
theorem hd_X0_count_X2 : yX0_count.cls ≠ "java/lang/invoke/MethodHandle" ∧ yX0_count.cls ≠ "java/lang/invoke/VarHandle" ∧ (parseMethodDescriptor yX0_count.desc).map (fun d => d.parameters.length) = some 2 := by decide +kernel
set_option maxHeartbeats 4000000 in
set_option maxRecDepth 100000 in
theorem ct_X0_count_X2 (l : Launch) (G : gG) (h_this : Nat) (r_this : Nat → Nat) (i_this_low i_this_high i_this_bitCount i_this_pending : Int32) (t_this_ones t_this_zeros : Nat → Int32) (p0 p1 : Int32) (sz : Nat) (out : (Nat → Int32) × (Nat → Int32)) (hf : lf_X0_count_X2 t_this_ones t_this_zeros p0 p1 = some out) : gV l G yX0_count cX0_count 3 rm_X0_count_X2 [.ref h_this, .int p0, .int p1] sz [(h_this, .inr (1, FX2 r_this i_this_low i_this_high i_this_bitCount i_this_pending)), ((r_this 2), gA G 20 t_this_zeros), ((r_this 3), gA G 20 t_this_ones)] [(h_this, .inr (1, FX2 r_this i_this_low i_this_high i_this_bitCount i_this_pending)), ((r_this 2), gA G 20 out.2), ((r_this 3), gA G 20 out.1)] := by
  refine gV_of (by decide +kernel) (Nat.le_of_ble_eq_true rfl) ?_
  intro p e s m args below meth c ls A Q X hK hA hsz hH hl hE
  subst hsz
  have hx := X.1
  have hb := X.2.1
  unfold lf_X0_count_X2 at hf
  have hl : lv_has ls 3 [(0, .ref h_this), (1, .int p0), (2, .int p1)] := hl
  have hH : gH G A s.heap s.heap [] [(h_this, .inr (1, FX2 r_this i_this_low i_this_high i_this_bitCount i_this_pending)), ((r_this 2), gA G 20 t_this_zeros), ((r_this 3), gA G 20 t_this_ones)] := hH
  refine lv_iload_n hx hb dX0_count_0 rfl (lv_at hl 2 rfl) ?_
  refine lv_if_lt (tgt := 10) hx hb dX0_count_1 (by decide) (fun c1 => ?_) (fun c1 => ?_)
  · have hf := spos hf c1
    obtain rfl := Option.some.inj hf
    exact hE _ _ _ _ hH dX0_count_10
  · have hf := sneg hf c1
    refine lv_iload_n hx hb dX0_count_4 rfl (lv_at hl 2 rfl) ?_
    refine lv_bipush (v := (20 : Int32)) hx hb dX0_count_5 (by decide) ?_
    refine lv_icmp_lt (tgt := 11) hx hb dX0_count_7 (by decide) (fun c2 => ?_) (fun c2 => ?_)
    · have hf := spos hf c2
      refine lv_iload_n hx hb dX0_count_11 rfl (lv_at hl 1 rfl) ?_
      obtain ⟨k6, hk6, hf⟩ := sjn hf
      have J6 : ∀ (g4 : (Nat → Int32)) (g5 : (Nat → Int32)) (H : Heap) (locs : List Loc) (ls : Array Slot), k6 (g4, g5) = some out → gH G A s.heap H locs [(h_this, .inr (1, FX2 r_this i_this_low i_this_high i_this_bitCount i_this_pending)), ((r_this 2), gA G 20 g5), ((r_this 3), gA G 20 g4)] → lv_has ls 3 [(0, .ref h_this), (2, .int p1)] → W p l e rm_X0_count_X2 s m args below meth c H locs 0 0 Q (F0 m 38 ls []) := by
        intro g4 g5 H locs ls hf hH hl
        have hf := hk6 _ _ hf
        refine lv_aload_n hx hb dX0_count_38 rfl (lv_at hl 0 rfl) ?_
        refine g_get (T := TX2) (N := 7) (ci := 1) (C := RX2) (v := .ref (r_this 2)) X hK hH in_RX2 0 rfl rfl 2 (by decide) q_172 (fun _ h9 => h9) rfl dX0_count_39 ?_
        refine lv_iload_n hx hb dX0_count_42 rfl (lv_at hl 1 rfl) ?_
        obtain ⟨x7, hx7, hf⟩ := sbind hf
        refine g_ald X hK hH 1 rfl hx7 dX0_count_43 ?_
        refine lv_aload_n hx hb dX0_count_44 rfl (lv_at hl 0 rfl) ?_
        refine g_get (T := TX2) (N := 7) (ci := 1) (C := RX2) (v := .ref (r_this 3)) X hK hH in_RX2 0 rfl rfl 3 (by decide) q_173 (fun _ h9 => h9) rfl dX0_count_45 ?_
        refine lv_iload_n hx hb dX0_count_48 rfl (lv_at hl 1 rfl) ?_
        obtain ⟨x8, hx8, hf⟩ := sbind hf
        refine g_ald X hK hH 2 rfl hx8 dX0_count_49 ?_
        refine lv_iadd hx hb dX0_count_50 ?_
        refine lv_bipush (v := (64 : Int32)) hx hb dX0_count_51 (by decide) ?_
        refine lv_icmp_le (tgt := 88) hx hb dX0_count_53 (by decide) (fun c9 => ?_) (fun c9 => ?_)
        · have hf := spos hf c9
          obtain rfl := Option.some.inj hf
          exact hE _ _ _ _ hH dX0_count_88
        · have hf := sneg hf c9
          refine lv_aload_n hx hb dX0_count_56 rfl (lv_at hl 0 rfl) ?_
          refine g_get (T := TX2) (N := 7) (ci := 1) (C := RX2) (v := .ref (r_this 2)) X hK hH in_RX2 0 rfl rfl 2 (by decide) q_172 (fun _ h9 => h9) rfl dX0_count_57 ?_
          refine lv_iload_n hx hb dX0_count_60 rfl (lv_at hl 1 rfl) ?_
          refine lv_aload_n hx hb dX0_count_61 rfl (lv_at hl 0 rfl) ?_
          refine g_get (T := TX2) (N := 7) (ci := 1) (C := RX2) (v := .ref (r_this 2)) X hK hH in_RX2 0 rfl rfl 2 (by decide) q_172 (fun _ h9 => h9) rfl dX0_count_62 ?_
          refine lv_iload_n hx hb dX0_count_65 rfl (lv_at hl 1 rfl) ?_
          obtain ⟨x10, hx10, hf⟩ := sbind hf
          refine g_ald X hK hH 1 rfl hx10 dX0_count_66 ?_
          refine lv_iconst (v := (1 : Int32)) hx hb dX0_count_67 (by decide) ?_
          refine lv_iadd hx hb dX0_count_68 ?_
          refine lv_iconst (v := (2 : Int32)) hx hb dX0_count_69 (by decide) ?_
          refine lv_idiv hx hb dX0_count_70 (by decide) ?_
          obtain ⟨g11, hg11, hf⟩ := sbind hf
          refine g_ast (w1 := [(h_this, .inr (1, FX2 r_this i_this_low i_this_high i_this_bitCount i_this_pending)), ((r_this 2), gA G 20 g11), ((r_this 3), gA G 20 g4)]) X hK hH 1 rfl hg11 dX0_count_71 rfl (fun H locs hH => ?_)
          refine lv_aload_n hx hb dX0_count_72 rfl (lv_at hl 0 rfl) ?_
          refine g_get (T := TX2) (N := 7) (ci := 1) (C := RX2) (v := .ref (r_this 3)) X hK hH in_RX2 0 rfl rfl 3 (by decide) q_173 (fun _ h9 => h9) rfl dX0_count_73 ?_
          refine lv_iload_n hx hb dX0_count_76 rfl (lv_at hl 1 rfl) ?_
          refine lv_aload_n hx hb dX0_count_77 rfl (lv_at hl 0 rfl) ?_
          refine g_get (T := TX2) (N := 7) (ci := 1) (C := RX2) (v := .ref (r_this 3)) X hK hH in_RX2 0 rfl rfl 3 (by decide) q_173 (fun _ h9 => h9) rfl dX0_count_78 ?_
          refine lv_iload_n hx hb dX0_count_81 rfl (lv_at hl 1 rfl) ?_
          obtain ⟨x12, hx12, hf⟩ := sbind hf
          refine g_ald X hK hH 2 rfl hx12 dX0_count_82 ?_
          refine lv_iconst (v := (1 : Int32)) hx hb dX0_count_83 (by decide) ?_
          refine lv_iadd hx hb dX0_count_84 ?_
          refine lv_iconst (v := (2 : Int32)) hx hb dX0_count_85 (by decide) ?_
          refine lv_idiv hx hb dX0_count_86 (by decide) ?_
          obtain ⟨g13, hg13, hf⟩ := sbind hf
          refine g_ast (w1 := [(h_this, .inr (1, FX2 r_this i_this_low i_this_high i_this_bitCount i_this_pending)), ((r_this 2), gA G 20 g11), ((r_this 3), gA G 20 g13)]) X hK hH 2 rfl hg13 dX0_count_87 rfl (fun H locs hH => ?_)
          obtain rfl := Option.some.inj hf
          exact hE _ _ _ _ hH dX0_count_88
      refine lv_if_ne (tgt := 28) hx hb dX0_count_12 (by decide) (fun c3 => ?_) (fun c3 => ?_)
      · have hf := sneg hf c3
        refine lv_aload_n hx hb dX0_count_28 rfl (lv_at hl 0 rfl) ?_
        refine g_get (T := TX2) (N := 7) (ci := 1) (C := RX2) (v := .ref (r_this 3)) X hK hH in_RX2 0 rfl rfl 3 (by decide) q_173 (fun _ h9 => h9) rfl dX0_count_29 ?_
        refine lv_iload_n hx hb dX0_count_32 rfl (lv_at hl 2 rfl) ?_
        refine lv_dup2_11 hx hb dX0_count_33 rfl rfl ?_
        obtain ⟨x14, hx14, hf⟩ := sbind hf
        refine g_ald X hK hH 2 rfl hx14 dX0_count_34 ?_
        refine lv_iconst (v := (1 : Int32)) hx hb dX0_count_35 (by decide) ?_
        refine lv_iadd hx hb dX0_count_36 ?_
        obtain ⟨g15, hg15, hf⟩ := sbind hf
        refine g_ast (w1 := [(h_this, .inr (1, FX2 r_this i_this_low i_this_high i_this_bitCount i_this_pending)), ((r_this 2), gA G 20 t_this_zeros), ((r_this 3), gA G 20 g15)]) X hK hH 2 rfl hg15 dX0_count_37 rfl (fun H locs hH => ?_)
        exact J6 g15 t_this_zeros _ _ _ hf hH (lv_sub hl [0, 2] rfl)
      · have hf := spos hf c3
        refine lv_aload_n hx hb dX0_count_15 rfl (lv_at hl 0 rfl) ?_
        refine g_get (T := TX2) (N := 7) (ci := 1) (C := RX2) (v := .ref (r_this 2)) X hK hH in_RX2 0 rfl rfl 2 (by decide) q_172 (fun _ h9 => h9) rfl dX0_count_16 ?_
        refine lv_iload_n hx hb dX0_count_19 rfl (lv_at hl 2 rfl) ?_
        refine lv_dup2_11 hx hb dX0_count_20 rfl rfl ?_
        obtain ⟨x16, hx16, hf⟩ := sbind hf
        refine g_ald X hK hH 1 rfl hx16 dX0_count_21 ?_
        refine lv_iconst (v := (1 : Int32)) hx hb dX0_count_22 (by decide) ?_
        refine lv_iadd hx hb dX0_count_23 ?_
        obtain ⟨g17, hg17, hf⟩ := sbind hf
        refine g_ast (w1 := [(h_this, .inr (1, FX2 r_this i_this_low i_this_high i_this_bitCount i_this_pending)), ((r_this 2), gA G 20 g17), ((r_this 3), gA G 20 t_this_ones)]) X hK hH 1 rfl hg17 dX0_count_24 rfl (fun H locs hH => ?_)
        refine lv_goto (tgt := 38) hx hb dX0_count_25 (by decide) ?_
        exact J6 t_this_ones g17 _ _ _ hf hH (lv_sub hl [0, 2] rfl)
    · have hf := sneg hf c2
      obtain rfl := Option.some.inj hf
      exact hE _ _ _ _ hH dX0_count_10

def lf_X0_nextOffset_X2 (i_this_high : Int32) (i_this_low : Int32) : Option (Int32) :=
(if (32768 : Int32) ≤ i_this_high then (if i_this_low < (32768 : Int32) then jn (fun (z4 : Unit) => some (-1 : Int32)) (fun k4 => (if i_this_low < (16384 : Int32) then k4 () else (if (49152 : Int32) ≤ i_this_high then k4 () else some (16384 : Int32)))) else some (32768 : Int32)) else some (0 : Int32))
abbrev rm_X0_nextOffset_X2 : Room := { frames := 0, cells := 0, slots := 0, locals := 0 }
theorem hd_X0_nextOffset_X2 : yX0_nextOffset.cls ≠ "java/lang/invoke/MethodHandle" ∧ yX0_nextOffset.cls ≠ "java/lang/invoke/VarHandle" ∧ (parseMethodDescriptor yX0_nextOffset.desc).map (fun d => d.parameters.length) = some 0 := by decide +kernel
set_option maxHeartbeats 4000000 in
set_option maxRecDepth 100000 in
theorem ct_X0_nextOffset_X2 (l : Launch) (G : gG) (h_this : Nat) (r_this : Nat → Nat) (i_this_low i_this_high i_this_bitCount i_this_pending : Int32) (sz : Nat) (out : Int32) (hf : lf_X0_nextOffset_X2 i_this_high i_this_low = some out) : gI l G yX0_nextOffset cX0_nextOffset 1 .int rm_X0_nextOffset_X2 [.ref h_this] sz [(h_this, .inr (1, FX2 r_this i_this_low i_this_high i_this_bitCount i_this_pending))] out [(h_this, .inr (1, FX2 r_this i_this_low i_this_high i_this_bitCount i_this_pending))] := by
  refine gI_of (by decide +kernel) (Nat.le_of_ble_eq_true rfl) ?_
  intro p e s m args below meth c ls A Q X hK hA hsz hH hl hE
  subst hsz
  have hx := X.1
  have hb := X.2.1
  unfold lf_X0_nextOffset_X2 at hf
  have hl : lv_has ls 1 [(0, .ref h_this)] := hl
  have hH : gH G A s.heap s.heap [] [(h_this, .inr (1, FX2 r_this i_this_low i_this_high i_this_bitCount i_this_pending))] := hH
  refine lv_aload_n hx hb dX0_nextOffset_0 rfl (lv_at hl 0 rfl) ?_
  refine g_get (T := TX2) (N := 7) (ci := 1) (C := RX2) (v := .int i_this_high) X hK hH in_RX2 0 rfl rfl 1 (by decide) q_171 (fun _ h9 => h9) rfl dX0_nextOffset_1 ?_
  refine lv_ldc (v := (32768 : Int32)) hx hb X.2.2.2.2.2.1 (X.2.2.2.2.1 _ q_585) dX0_nextOffset_4 ?_
  refine lv_icmp_ge (tgt := 11) hx hb dX0_nextOffset_6 (by decide) (fun c1 => ?_) (fun c1 => ?_)
  · have hf := spos hf c1
    refine lv_aload_n hx hb dX0_nextOffset_11 rfl (lv_at hl 0 rfl) ?_
    refine g_get (T := TX2) (N := 7) (ci := 1) (C := RX2) (v := .int i_this_low) X hK hH in_RX2 0 rfl rfl 0 (by decide) q_168 (fun _ h9 => h9) rfl dX0_nextOffset_12 ?_
    refine lv_ldc (v := (32768 : Int32)) hx hb X.2.2.2.2.2.1 (X.2.2.2.2.1 _ q_585) dX0_nextOffset_15 ?_
    refine lv_icmp_lt (tgt := 23) hx hb dX0_nextOffset_17 (by decide) (fun c2 => ?_) (fun c2 => ?_)
    · have hf := spos hf c2
      refine lv_aload_n hx hb dX0_nextOffset_23 rfl (lv_at hl 0 rfl) ?_
      refine g_get (T := TX2) (N := 7) (ci := 1) (C := RX2) (v := .int i_this_low) X hK hH in_RX2 0 rfl rfl 0 (by decide) q_168 (fun _ h9 => h9) rfl dX0_nextOffset_24 ?_
      refine lv_sipush (v := (16384 : Int32)) hx hb dX0_nextOffset_27 (by decide) ?_
      obtain ⟨k4, hk4, hf⟩ := sjn hf
      have J4 : ∀  (H : Heap) (locs : List Loc) (ls : Array Slot), k4 () = some out → gH G A s.heap H locs [(h_this, .inr (1, FX2 r_this i_this_low i_this_high i_this_bitCount i_this_pending))] → lv_has ls 1 [] → W p l e rm_X0_nextOffset_X2 s m args below meth c H locs 0 0 Q (F0 m 48 ls []) := by
        intro  H locs ls hf hH hl
        have hf := hk4 _ _ hf
        refine lv_iconst (v := (-1 : Int32)) hx hb dX0_nextOffset_48 (by decide) ?_
        obtain rfl := Option.some.inj hf
        exact hE _ _ _ _ rfl hH dX0_nextOffset_49
      refine lv_icmp_lt (tgt := 48) hx hb dX0_nextOffset_30 (by decide) (fun c3 => ?_) (fun c3 => ?_)
      · have hf := spos hf c3
        exact J4  _ _ _ hf hH (lv_sub hl [] rfl)
      · have hf := sneg hf c3
        refine lv_aload_n hx hb dX0_nextOffset_33 rfl (lv_at hl 0 rfl) ?_
        refine g_get (T := TX2) (N := 7) (ci := 1) (C := RX2) (v := .int i_this_high) X hK hH in_RX2 0 rfl rfl 1 (by decide) q_171 (fun _ h9 => h9) rfl dX0_nextOffset_34 ?_
        refine lv_ldc (v := (49152 : Int32)) hx hb X.2.2.2.2.2.1 (X.2.2.2.2.1 _ q_586) dX0_nextOffset_37 ?_
        refine lv_icmp_ge (tgt := 48) hx hb dX0_nextOffset_39 (by decide) (fun c5 => ?_) (fun c5 => ?_)
        · have hf := spos hf c5
          exact J4  _ _ _ hf hH (lv_sub hl [] rfl)
        · have hf := sneg hf c5
          refine lv_sipush (v := (16384 : Int32)) hx hb dX0_nextOffset_42 (by decide) ?_
          refine lv_goto (tgt := 49) hx hb dX0_nextOffset_45 (by decide) ?_
          obtain rfl := Option.some.inj hf
          exact hE _ _ _ _ rfl hH dX0_nextOffset_49
    · have hf := sneg hf c2
      refine lv_ldc (v := (32768 : Int32)) hx hb X.2.2.2.2.2.1 (X.2.2.2.2.1 _ q_585) dX0_nextOffset_20 ?_
      obtain rfl := Option.some.inj hf
      exact hE _ _ _ _ rfl hH dX0_nextOffset_22
  · have hf := sneg hf c1
    refine lv_iconst (v := (0 : Int32)) hx hb dX0_nextOffset_9 (by decide) ?_
    obtain rfl := Option.some.inj hf
    exact hE _ _ _ _ rfl hH dX0_nextOffset_10

def lf_X0_code_X2 (i_this_bitCount : Int32) (i_this_high : Int32) (i_this_low : Int32) (i_this_pending : Int32) (t_this_bytes : Nat → Int32) (t_this_ones : Nat → Int32) (t_this_zeros : Nat → Int32) (p0 : Int32) (p1 : Int32) : Option (Int32 × Int32 × Int32 × Int32 × Int32 × (Nat → Int32) × (Nat → Int32) × (Nat → Int32)) :=
(lf_X0_splitFor_X2 i_this_high i_this_low t_this_ones t_this_zeros p1).bind fun o1 => (lf_X2_choose p0 o1).bind fun o2 => jn (fun (z6 : Int32 × Int32) => (fun (v4 : Int32) (v5 : Int32) => (lf_X0_count_X2 t_this_ones t_this_zeros o2 p1).bind fun o7 => (lf_X0_nextOffset_X2 v4 v5).bind fun o8 => (fixN FUEL (fun (self16 : (Int32 × Int32 × Int32 × Int32 × Int32 × Int32 × (Nat → Int32)) → Option (Int32 × Int32 × Int32 × Int32 × (Nat → Int32))) (z16 : Int32 × Int32 × Int32 × Int32 × Int32 × Int32 × (Nat → Int32)) => (fun (x9 : Int32) (x10 : Int32) (v11 : Int32) (v12 : Int32) (v13 : Int32) (v14 : Int32) (g15 : (Nat → Int32)) => (if (17 : Int32) ≤ x10 then some (v11, v12, v13, v14, g15) else (if x9 = (-1 : Int32) then some (v11, v12, v13, v14, g15) else (lf_X2_take v11 v14 g15 x9).bind fun o19 => (lf_X0_nextOffset_X2 (((v12 - x9) * (2 : Int32)) + (1 : Int32)) ((v13 - x9) * (2 : Int32))).bind fun o20 => bnd (x10 + (1 : Int32)) fun x21 => self16 (o20, x21, o19.1, (((v12 - x9) * (2 : Int32)) + (1 : Int32)), ((v13 - x9) * (2 : Int32)), o19.2.1, o19.2.2)))) z16.1 z16.2.1 z16.2.2.1 z16.2.2.2.1 z16.2.2.2.2.1 z16.2.2.2.2.2.1 z16.2.2.2.2.2.2) (o8, (0 : Int32), i_this_bitCount, v4, v5, i_this_pending, t_this_bytes)).bind fun o16 => some (o2, o16.1, o16.2.1, o16.2.2.1, o16.2.2.2.1, o16.2.2.2.2, o7.1, o7.2)) z6.1 z6.2) (fun k6 => (if o2 = (0 : Int32) then k6 (o1, i_this_low) else k6 (i_this_high, (o1 + (1 : Int32)))))
abbrev rm_X0_code_X2 : Room := { frames := 1, cells := 0, slots := 0, locals := 27 }
theorem hd_X0_code_X2 : yX0_code.cls ≠ "java/lang/invoke/MethodHandle" ∧ yX0_code.cls ≠ "java/lang/invoke/VarHandle" ∧ (parseMethodDescriptor yX0_code.desc).map (fun d => d.parameters.length) = some 2 := by decide +kernel
set_option maxHeartbeats 4000000 in
set_option maxRecDepth 100000 in
theorem ct_X0_code_X2 (l : Launch) (G : gG) (h_this : Nat) (r_this : Nat → Nat) (i_this_low i_this_high i_this_bitCount i_this_pending : Int32) (t_this_bytes t_this_ones t_this_zeros : Nat → Int32) (p0 p1 : Int32) (sz : Nat) (out : Int32 × Int32 × Int32 × Int32 × Int32 × (Nat → Int32) × (Nat → Int32) × (Nat → Int32)) (hf : lf_X0_code_X2 i_this_bitCount i_this_high i_this_low i_this_pending t_this_bytes t_this_ones t_this_zeros p0 p1 = some out) : gI l G yX0_code cX0_code 7 .int rm_X0_code_X2 [.ref h_this, .int p0, .int p1] sz [(h_this, .inr (1, FX2 r_this i_this_low i_this_high i_this_bitCount i_this_pending)), ((r_this 2), gA G 20 t_this_zeros), ((r_this 3), gA G 20 t_this_ones), ((r_this 4), gA G 2048 t_this_bytes)] out.1 [(h_this, .inr (1, FX2 r_this out.2.2.2.1 out.2.2.1 out.2.1 out.2.2.2.2.1)), ((r_this 2), gA G 20 out.2.2.2.2.2.2.2), ((r_this 3), gA G 20 out.2.2.2.2.2.2.1), ((r_this 4), gA G 2048 out.2.2.2.2.2.1)] := by
  refine gI_of (by decide +kernel) (Nat.le_of_ble_eq_true rfl) ?_
  intro p e s m args below meth c ls A Q X hK hA hsz hH hl hE
  subst hsz
  have hx := X.1
  have hb := X.2.1
  unfold lf_X0_code_X2 at hf
  have hl : lv_has ls 7 [(0, .ref h_this), (1, .int p0), (2, .int p1)] := hl
  have hH : gH G A s.heap s.heap [] [(h_this, .inr (1, FX2 r_this i_this_low i_this_high i_this_bitCount i_this_pending)), ((r_this 2), gA G 20 t_this_zeros), ((r_this 3), gA G 20 t_this_ones), ((r_this 4), gA G 2048 t_this_bytes)] := hH
  refine lv_aload_n hx hb dX0_code_0 rfl (lv_at hl 0 rfl) ?_
  refine lv_iload_n hx hb dX0_code_1 rfl (lv_at hl 2 rfl) ?_
  obtain ⟨o1, ho1, hf⟩ := sbind hf
  refine g_cVi (isC := [0, 1, 2]) (isR := [3]) (isP := [1, 2, 3, 0]) (wr := [((r_this 4), gA G 2048 t_this_bytes)]) (w2 := [(h_this, .inr (1, FX2 r_this i_this_low i_this_high i_this_bitCount i_this_pending)), ((r_this 2), gA G 20 t_this_zeros), ((r_this 3), gA G 20 t_this_ones), ((r_this 4), gA G 2048 t_this_bytes)]) (q0 := 0) X hK hA hH hl (ct_X0_splitFor_X2 l G h_this r_this i_this_low i_this_high i_this_bitCount i_this_pending t_this_ones t_this_zeros p1 s.heap.size o1 ho1) ⟨q_7, q_567, hd_X0_splitFor_X2, rfl, rfl, ⟨Nat.le_of_ble_eq_true rfl, Nat.le_of_ble_eq_true rfl⟩, ⟨Nat.zero_le _, Nat.zero_le _⟩⟩ q_564 q_566 qe_3 rfl rfl ⟨rfl, rfl, rfl, rfl, by decide, rfl, rfl⟩ rfl rfl (Nat.le_of_ble_eq_true rfl) dX0_code_2 (fun H locs hH => ?_)
  refine lv_istore_n (lv' := [(3, .int o1), (0, .ref h_this), (1, .int p0), (2, .int p1)]) hx hb dX0_code_5 rfl hl (by decide) rfl (fun ls hl => ?_)
  refine lv_aload_n hx hb dX0_code_6 rfl (lv_at hl 1 rfl) ?_
  refine lv_iload_n hx hb dX0_code_7 rfl (lv_at hl 2 rfl) ?_
  refine lv_iload_n hx hb dX0_code_8 rfl (lv_at hl 0 rfl) ?_
  obtain ⟨o2, ho2, hf⟩ := sbind hf
  refine g_cUi (isC := [0]) (isR := [1, 2, 3]) (isP := [3, 0, 1, 2]) (wr := [((r_this 2), gA G 20 t_this_zeros), ((r_this 3), gA G 20 t_this_ones), ((r_this 4), gA G 2048 t_this_bytes)]) (w2 := [(h_this, .inr (1, FX2 r_this i_this_low i_this_high i_this_bitCount i_this_pending)), ((r_this 2), gA G 20 t_this_zeros), ((r_this 3), gA G 20 t_this_ones), ((r_this 4), gA G 2048 t_this_bytes)]) (q0 := 0) X hK hA hH hl (ct_X2_choose l G h_this r_this i_this_low i_this_high i_this_bitCount i_this_pending p0 o1 H.size o2 ho2) ⟨q_8, q_576, hd_X2_choose, rfl, rfl, ⟨Nat.le_of_ble_eq_true rfl, Nat.le_of_ble_eq_true rfl⟩, ⟨Nat.zero_le _, Nat.zero_le _⟩⟩ q_568 q_570 q_574 q_575 (Or.inr qn_569) (by decide +kernel) rfl rfl ⟨rfl, rfl, rfl, rfl, by decide, rfl, rfl⟩ rfl rfl (Nat.le_of_ble_eq_true rfl) dX0_code_9 (fun H locs hH => ?_)
  refine lv_istore (lv' := [(4, .int o2), (3, .int o1), (0, .ref h_this), (1, .int p0), (2, .int p1)]) hx hb dX0_code_12 hl (by decide) rfl (fun ls hl => ?_)
  refine lv_iload hx hb dX0_code_14 (lv_at hl 0 rfl) ?_
  obtain ⟨k6, hk6, hf⟩ := sjn hf
  have J6 : ∀ (v4 : Int32) (v5 : Int32) (H : Heap) (locs : List Loc) (ls : Array Slot), k6 (v4, v5) = some out → gH G A s.heap H locs [(h_this, .inr (1, FX2 r_this v5 v4 i_this_bitCount i_this_pending)), ((r_this 2), gA G 20 t_this_zeros), ((r_this 3), gA G 20 t_this_ones), ((r_this 4), gA G 2048 t_this_bytes)] → lv_has ls 7 [(0, .ref h_this), (2, .int p1), (4, .int o2)] → W p l e rm_X0_code_X2 s m args below meth c H locs 0 0 Q (F0 m 34 ls []) := by
    intro v4 v5 H locs ls hf hH hl
    have hf := hk6 _ _ hf
    refine lv_aload_n hx hb dX0_code_34 rfl (lv_at hl 0 rfl) ?_
    refine lv_iload hx hb dX0_code_35 (lv_at hl 2 rfl) ?_
    refine lv_iload_n hx hb dX0_code_37 rfl (lv_at hl 1 rfl) ?_
    obtain ⟨o7, ho7, hf⟩ := sbind hf
    refine g_cVv (isC := [0, 1, 2]) (isR := [3]) (isP := [1, 2, 3, 0]) (wr := [((r_this 4), gA G 2048 t_this_bytes)]) (w2 := [(h_this, .inr (1, FX2 r_this v5 v4 i_this_bitCount i_this_pending)), ((r_this 2), gA G 20 o7.2), ((r_this 3), gA G 20 o7.1), ((r_this 4), gA G 2048 t_this_bytes)]) (q0 := 0) X hK hA hH hl (ct_X0_count_X2 l G h_this r_this v5 v4 i_this_bitCount i_this_pending t_this_ones t_this_zeros o2 p1 H.size o7 ho7) ⟨q_7, q_580, hd_X0_count_X2, rfl, rfl, ⟨Nat.le_of_ble_eq_true rfl, Nat.le_of_ble_eq_true rfl⟩, ⟨Nat.zero_le _, Nat.zero_le _⟩⟩ q_577 q_579 qe_4 rfl rfl ⟨rfl, rfl, rfl, rfl, by decide, rfl, rfl⟩ rfl rfl (Nat.le_of_ble_eq_true rfl) dX0_code_38 (fun H locs hH => ?_)
    refine lv_aload_n hx hb dX0_code_41 rfl (lv_at hl 0 rfl) ?_
    obtain ⟨o8, ho8, hf⟩ := sbind hf
    refine g_cVi (isC := [0]) (isR := [1, 2, 3]) (isP := [3, 0, 1, 2]) (wr := [((r_this 2), gA G 20 o7.2), ((r_this 3), gA G 20 o7.1), ((r_this 4), gA G 2048 t_this_bytes)]) (w2 := [(h_this, .inr (1, FX2 r_this v5 v4 i_this_bitCount i_this_pending)), ((r_this 2), gA G 20 o7.2), ((r_this 3), gA G 20 o7.1), ((r_this 4), gA G 2048 t_this_bytes)]) (q0 := 0) X hK hA hH hl (ct_X0_nextOffset_X2 l G h_this r_this v5 v4 i_this_bitCount i_this_pending H.size o8 ho8) ⟨q_7, q_584, hd_X0_nextOffset_X2, rfl, rfl, ⟨Nat.le_of_ble_eq_true rfl, Nat.le_of_ble_eq_true rfl⟩, ⟨Nat.zero_le _, Nat.zero_le _⟩⟩ q_581 q_583 qe_5 rfl rfl ⟨rfl, rfl, rfl, rfl, by decide, rfl, rfl⟩ rfl rfl (Nat.le_of_ble_eq_true rfl) dX0_code_42 (fun H locs hH => ?_)
    refine lv_istore (lv' := [(5, .int o8), (0, .ref h_this), (2, .int p1), (4, .int o2)]) hx hb dX0_code_45 hl (by decide) rfl (fun ls hl => ?_)
    refine lv_iconst (v := (0 : Int32)) hx hb dX0_code_47 (by decide) ?_
    refine lv_istore (lv' := [(6, .int (0 : Int32)), (5, .int o8), (0, .ref h_this), (2, .int p1), (4, .int o2)]) hx hb dX0_code_48 hl (by decide) rfl (fun ls hl => ?_)
    obtain ⟨o16, ho16, hf⟩ := sbind hf
    obtain ⟨FF16, hFF16, ho16⟩ := sfix ho16
    have L16 : ∀ (n : Nat) (x9 : Int32) (x10 : Int32) (v11 : Int32) (v12 : Int32) (v13 : Int32) (v14 : Int32) (g15 : (Nat → Int32)) (b16 : Int32 × Int32 × Int32 × Int32 × (Nat → Int32)) (H : Heap) (locs : List Loc) (ls : Array Slot), fixN n FF16 (x9, x10, v11, v12, v13, v14, g15) = some b16 → gH G A s.heap H locs [(h_this, .inr (1, FX2 r_this v13 v12 v11 v14)), ((r_this 2), gA G 20 o7.2), ((r_this 3), gA G 20 o7.1), ((r_this 4), gA G 2048 g15)] → lv_has ls 7 [(0, .ref h_this), (4, .int o2), (5, .int x9), (6, .int x10)] → (∀ (H : Heap) (locs : List Loc) (ls : Array Slot), gH G A s.heap H locs [(h_this, .inr (1, FX2 r_this b16.2.2.1 b16.2.1 b16.1 b16.2.2.2.1)), ((r_this 2), gA G 20 o7.2), ((r_this 3), gA G 20 o7.1), ((r_this 4), gA G 2048 b16.2.2.2.2)] → lv_has ls 7 [(4, .int o2)] → W p l e rm_X0_code_X2 s m args below meth c H locs 0 0 Q (F0 m 109 ls [])) → W p l e rm_X0_code_X2 s m args below meth c H locs 0 0 Q (F0 m 50 ls []) := by
      intro n
      induction n with
      | zero => intro x9 x10 v11 v12 v13 v14 g15 b16 H locs ls hf; exact sfix0 hf
      | succ n ih =>
        intro x9 x10 v11 v12 v13 v14 g15 b16 H locs ls hf hH hl KK
        obtain ⟨self16, hself16, hf⟩ := sstep hFF16 hf
        refine lv_iload hx hb dX0_code_50 (lv_at hl 3 rfl) ?_
        refine lv_bipush (v := (17 : Int32)) hx hb dX0_code_52 (by decide) ?_
        refine lv_icmp_ge (tgt := 109) hx hb dX0_code_54 (by decide) (fun c17 => ?_) (fun c17 => ?_)
        · have hf := spos hf c17
          obtain rfl := Option.some.inj hf
          exact KK _ _ _ hH (lv_sub hl [1] rfl)
        · have hf := sneg hf c17
          refine lv_iload hx hb dX0_code_57 (lv_at hl 2 rfl) ?_
          refine lv_iconst (v := (-1 : Int32)) hx hb dX0_code_59 (by decide) ?_
          refine lv_icmp_eq (tgt := 109) hx hb dX0_code_60 (by decide) (fun c18 => ?_) (fun c18 => ?_)
          · have hf := spos hf c18
            obtain rfl := Option.some.inj hf
            exact KK _ _ _ hH (lv_sub hl [1] rfl)
          · have hf := sneg hf c18
            refine lv_aload_n hx hb dX0_code_63 rfl (lv_at hl 0 rfl) ?_
            refine lv_iload hx hb dX0_code_64 (lv_at hl 2 rfl) ?_
            obtain ⟨o19, ho19, hf⟩ := sbind hf
            refine g_cUv (isC := [0, 3]) (isR := [1, 2]) (isP := [2, 0, 1, 3]) (wr := [((r_this 2), gA G 20 o7.2), ((r_this 3), gA G 20 o7.1)]) (w2 := [(h_this, .inr (1, FX2 r_this v13 v12 o19.1 o19.2.1)), ((r_this 2), gA G 20 o7.2), ((r_this 3), gA G 20 o7.1), ((r_this 4), gA G 2048 o19.2.2)]) (q0 := 0) X hK hA hH hl (ct_X2_take l G h_this r_this v13 v12 v11 v14 g15 x9 H.size o19 ho19) ⟨q_8, q_593, hd_X2_take, rfl, rfl, ⟨Nat.le_of_ble_eq_true rfl, Nat.le_of_ble_eq_true rfl⟩, ⟨Nat.zero_le _, Nat.zero_le _⟩⟩ q_587 q_589 q_591 q_592 (Or.inr qn_588) (by decide +kernel) rfl rfl ⟨rfl, rfl, rfl, rfl, by decide, rfl, rfl⟩ rfl rfl (Nat.le_of_ble_eq_true rfl) dX0_code_66 (fun H locs hH => ?_)
            refine lv_aload_n hx hb dX0_code_69 rfl (lv_at hl 0 rfl) ?_
            refine lv_aload_n hx hb dX0_code_70 rfl (lv_at hl 0 rfl) ?_
            refine g_get (T := TX2) (N := 7) (ci := 1) (C := RX2) (v := .int v13) X hK hH in_RX2 0 rfl rfl 0 (by decide) q_168 (fun _ h9 => h9) rfl dX0_code_71 ?_
            refine lv_iload hx hb dX0_code_74 (lv_at hl 2 rfl) ?_
            refine lv_isub hx hb dX0_code_76 ?_
            refine lv_iconst (v := (2 : Int32)) hx hb dX0_code_77 (by decide) ?_
            refine lv_imul hx hb dX0_code_78 ?_
            refine g_put (w1 := [(h_this, .inr (1, FX2 r_this ((v13 - x9) * (2 : Int32)) v12 o19.1 o19.2.1)), ((r_this 2), gA G 20 o7.2), ((r_this 3), gA G 20 o7.1), ((r_this 4), gA G 2048 o19.2.2)]) (T := TX2) (N := 7) (ci := 1) (C := RX2) (ty := .int) (v := .int ((v13 - x9) * (2 : Int32))) X hK hH in_RX2 tyX2 tyX2_ok nmX2 0 rfl rfl 0 (by decide) q_168 (fun _ h9 => h9) rfl (by decide +kernel) rfl rfl (Nat.le_of_ble_eq_true rfl) dX0_code_79 FX2_low rfl (fun H locs hH => ?_)
            refine lv_aload_n hx hb dX0_code_82 rfl (lv_at hl 0 rfl) ?_
            refine lv_aload_n hx hb dX0_code_83 rfl (lv_at hl 0 rfl) ?_
            refine g_get (T := TX2) (N := 7) (ci := 1) (C := RX2) (v := .int v12) X hK hH in_RX2 0 rfl rfl 1 (by decide) q_171 (fun _ h9 => h9) rfl dX0_code_84 ?_
            refine lv_iload hx hb dX0_code_87 (lv_at hl 2 rfl) ?_
            refine lv_isub hx hb dX0_code_89 ?_
            refine lv_iconst (v := (2 : Int32)) hx hb dX0_code_90 (by decide) ?_
            refine lv_imul hx hb dX0_code_91 ?_
            refine lv_iconst (v := (1 : Int32)) hx hb dX0_code_92 (by decide) ?_
            refine lv_iadd hx hb dX0_code_93 ?_
            refine g_put (w1 := [(h_this, .inr (1, FX2 r_this ((v13 - x9) * (2 : Int32)) (((v12 - x9) * (2 : Int32)) + (1 : Int32)) o19.1 o19.2.1)), ((r_this 2), gA G 20 o7.2), ((r_this 3), gA G 20 o7.1), ((r_this 4), gA G 2048 o19.2.2)]) (T := TX2) (N := 7) (ci := 1) (C := RX2) (ty := .int) (v := .int (((v12 - x9) * (2 : Int32)) + (1 : Int32))) X hK hH in_RX2 tyX2 tyX2_ok nmX2 0 rfl rfl 1 (by decide) q_171 (fun _ h9 => h9) rfl (by decide +kernel) rfl rfl (Nat.le_of_ble_eq_true rfl) dX0_code_94 FX2_high rfl (fun H locs hH => ?_)
            refine lv_aload_n hx hb dX0_code_97 rfl (lv_at hl 0 rfl) ?_
            obtain ⟨o20, ho20, hf⟩ := sbind hf
            refine g_cVi (isC := [0]) (isR := [1, 2, 3]) (isP := [3, 0, 1, 2]) (wr := [((r_this 2), gA G 20 o7.2), ((r_this 3), gA G 20 o7.1), ((r_this 4), gA G 2048 o19.2.2)]) (w2 := [(h_this, .inr (1, FX2 r_this ((v13 - x9) * (2 : Int32)) (((v12 - x9) * (2 : Int32)) + (1 : Int32)) o19.1 o19.2.1)), ((r_this 2), gA G 20 o7.2), ((r_this 3), gA G 20 o7.1), ((r_this 4), gA G 2048 o19.2.2)]) (q0 := 0) X hK hA hH hl (ct_X0_nextOffset_X2 l G h_this r_this ((v13 - x9) * (2 : Int32)) (((v12 - x9) * (2 : Int32)) + (1 : Int32)) o19.1 o19.2.1 H.size o20 ho20) ⟨q_7, q_584, hd_X0_nextOffset_X2, rfl, rfl, ⟨Nat.le_of_ble_eq_true rfl, Nat.le_of_ble_eq_true rfl⟩, ⟨Nat.zero_le _, Nat.zero_le _⟩⟩ q_581 q_583 qe_5 rfl rfl ⟨rfl, rfl, rfl, rfl, by decide, rfl, rfl⟩ rfl rfl (Nat.le_of_ble_eq_true rfl) dX0_code_98 (fun H locs hH => ?_)
            refine lv_istore (lv' := [(5, .int o20), (0, .ref h_this), (4, .int o2), (6, .int x10)]) hx hb dX0_code_101 hl (by decide) rfl (fun ls hl => ?_)
            obtain ⟨x21, ex21⟩ : ∃ y : Int32, y = (x10 + (1 : Int32)) := ⟨_, rfl⟩
            have hf := sbnd hf x21 ex21
            refine lv_iinc (v := x21) (lv' := [(6, .int x21), (5, .int o20), (0, .ref h_this), (4, .int o2)]) hx hb dX0_code_103 hl (k := 3) rfl (by rw [ex21]; rfl) (by decide) rfl (fun ls hl => ?_)
            refine lv_goto (tgt := 50) hx hb dX0_code_106 (by decide) ?_
            exact ih o20 x21 o19.1 (((v12 - x9) * (2 : Int32)) + (1 : Int32)) ((v13 - x9) * (2 : Int32)) o19.2.1 o19.2.2 _ _ _ _ (hself16 _ _ hf) hH (lv_sub hl [2, 3, 1, 0] rfl) KK
    refine L16 FUEL o8 (0 : Int32) i_this_bitCount v4 v5 i_this_pending t_this_bytes o16 _ _ _ ho16 hH (lv_sub hl [2, 4, 1, 0] rfl) (fun H locs ls hH hl => ?_)
    refine lv_iload hx hb dX0_code_109 (lv_at hl 0 rfl) ?_
    obtain rfl := Option.some.inj hf
    exact hE _ _ _ _ rfl hH dX0_code_111
  refine lv_if_ne (tgt := 27) hx hb dX0_code_16 (by decide) (fun c3 => ?_) (fun c3 => ?_)
  · have hf := sneg hf c3
    refine lv_aload_n hx hb dX0_code_27 rfl (lv_at hl 2 rfl) ?_
    refine lv_iload_n hx hb dX0_code_28 rfl (lv_at hl 1 rfl) ?_
    refine lv_iconst (v := (1 : Int32)) hx hb dX0_code_29 (by decide) ?_
    refine lv_iadd hx hb dX0_code_30 ?_
    refine g_put (w1 := [(h_this, .inr (1, FX2 r_this (o1 + (1 : Int32)) i_this_high i_this_bitCount i_this_pending)), ((r_this 2), gA G 20 t_this_zeros), ((r_this 3), gA G 20 t_this_ones), ((r_this 4), gA G 2048 t_this_bytes)]) (T := TX2) (N := 7) (ci := 1) (C := RX2) (ty := .int) (v := .int (o1 + (1 : Int32))) X hK hH in_RX2 tyX2 tyX2_ok nmX2 0 rfl rfl 0 (by decide) q_168 (fun _ h9 => h9) rfl (by decide +kernel) rfl rfl (Nat.le_of_ble_eq_true rfl) dX0_code_31 FX2_low rfl (fun H locs hH => ?_)
    exact J6 i_this_high (o1 + (1 : Int32)) _ _ _ hf hH (lv_sub hl [2, 4, 0] rfl)
  · have hf := spos hf c3
    refine lv_aload_n hx hb dX0_code_19 rfl (lv_at hl 2 rfl) ?_
    refine lv_iload_n hx hb dX0_code_20 rfl (lv_at hl 1 rfl) ?_
    refine g_put (w1 := [(h_this, .inr (1, FX2 r_this i_this_low o1 i_this_bitCount i_this_pending)), ((r_this 2), gA G 20 t_this_zeros), ((r_this 3), gA G 20 t_this_ones), ((r_this 4), gA G 2048 t_this_bytes)]) (T := TX2) (N := 7) (ci := 1) (C := RX2) (ty := .int) (v := .int o1) X hK hH in_RX2 tyX2 tyX2_ok nmX2 0 rfl rfl 1 (by decide) q_171 (fun _ h9 => h9) rfl (by decide +kernel) rfl rfl (Nat.le_of_ble_eq_true rfl) dX0_code_21 FX2_high rfl (fun H locs hH => ?_)
    refine lv_goto (tgt := 34) hx hb dX0_code_24 (by decide) ?_
    exact J6 o1 i_this_low _ _ _ hf hH (lv_sub hl [2, 4, 0] rfl)

def lf_X0_reset_X2 (i_this_high : Int32) (i_this_low : Int32) (t_this_ones : Nat → Int32) (t_this_zeros : Nat → Int32) : Option (Int32 × Int32 × (Nat → Int32) × (Nat → Int32)) :=
(lf_J7_fill_53178 20 t_this_zeros (1 : Int32)).bind fun o1 => (lf_J7_fill_53178 20 t_this_ones (1 : Int32)).bind fun o2 => some ((65535 : Int32), (0 : Int32), o2, o1)
abbrev rm_X0_reset_X2 : Room := { frames := 1, cells := 0, slots := 0, locals := 23 }
theorem hd_X0_reset_X2 : yX0_reset.cls ≠ "java/lang/invoke/MethodHandle" ∧ yX0_reset.cls ≠ "java/lang/invoke/VarHandle" ∧ (parseMethodDescriptor yX0_reset.desc).map (fun d => d.parameters.length) = some 0 := by decide +kernel
set_option maxHeartbeats 4000000 in
set_option maxRecDepth 100000 in
theorem ct_X0_reset_X2 (l : Launch) (G : gG) (h_this : Nat) (r_this : Nat → Nat) (i_this_low i_this_high i_this_bitCount i_this_pending : Int32) (t_this_ones t_this_zeros : Nat → Int32) (sz : Nat) (out : Int32 × Int32 × (Nat → Int32) × (Nat → Int32)) (hf : lf_X0_reset_X2 i_this_high i_this_low t_this_ones t_this_zeros = some out) : gV l G yX0_reset cX0_reset 1 rm_X0_reset_X2 [.ref h_this] sz [(h_this, .inr (1, FX2 r_this i_this_low i_this_high i_this_bitCount i_this_pending)), ((r_this 2), gA G 20 t_this_zeros), ((r_this 3), gA G 20 t_this_ones)] [(h_this, .inr (1, FX2 r_this out.2.1 out.1 i_this_bitCount i_this_pending)), ((r_this 2), gA G 20 out.2.2.2), ((r_this 3), gA G 20 out.2.2.1)] := by
  refine gV_of (by decide +kernel) (Nat.le_of_ble_eq_true rfl) ?_
  intro p e s m args below meth c ls A Q X hK hA hsz hH hl hE
  subst hsz
  have hx := X.1
  have hb := X.2.1
  unfold lf_X0_reset_X2 at hf
  have hl : lv_has ls 1 [(0, .ref h_this)] := hl
  have hH : gH G A s.heap s.heap [] [(h_this, .inr (1, FX2 r_this i_this_low i_this_high i_this_bitCount i_this_pending)), ((r_this 2), gA G 20 t_this_zeros), ((r_this 3), gA G 20 t_this_ones)] := hH
  refine lv_aload_n hx hb dX0_reset_0 rfl (lv_at hl 0 rfl) ?_
  refine lv_iconst (v := (0 : Int32)) hx hb dX0_reset_1 (by decide) ?_
  refine g_put (w1 := [(h_this, .inr (1, FX2 r_this (0 : Int32) i_this_high i_this_bitCount i_this_pending)), ((r_this 2), gA G 20 t_this_zeros), ((r_this 3), gA G 20 t_this_ones)]) (T := TX2) (N := 7) (ci := 1) (C := RX2) (ty := .int) (v := .int (0 : Int32)) X hK hH in_RX2 tyX2 tyX2_ok nmX2 0 rfl rfl 0 (by decide) q_168 (fun _ h9 => h9) rfl (by decide +kernel) rfl rfl (Nat.le_of_ble_eq_true rfl) dX0_reset_2 FX2_low rfl (fun H locs hH => ?_)
  refine lv_aload_n hx hb dX0_reset_5 rfl (lv_at hl 0 rfl) ?_
  refine lv_ldc (v := (65535 : Int32)) hx hb X.2.2.2.2.2.1 (X.2.2.2.2.1 _ q_163) dX0_reset_6 ?_
  refine g_put (w1 := [(h_this, .inr (1, FX2 r_this (0 : Int32) (65535 : Int32) i_this_bitCount i_this_pending)), ((r_this 2), gA G 20 t_this_zeros), ((r_this 3), gA G 20 t_this_ones)]) (T := TX2) (N := 7) (ci := 1) (C := RX2) (ty := .int) (v := .int (65535 : Int32)) X hK hH in_RX2 tyX2 tyX2_ok nmX2 0 rfl rfl 1 (by decide) q_171 (fun _ h9 => h9) rfl (by decide +kernel) rfl rfl (Nat.le_of_ble_eq_true rfl) dX0_reset_8 FX2_high rfl (fun H locs hH => ?_)
  refine lv_aload_n hx hb dX0_reset_11 rfl (lv_at hl 0 rfl) ?_
  refine g_get (T := TX2) (N := 7) (ci := 1) (C := RX2) (v := .ref (r_this 2)) X hK hH in_RX2 0 rfl rfl 2 (by decide) q_172 (fun _ h9 => h9) rfl dX0_reset_12 ?_
  refine lv_iconst (v := (1 : Int32)) hx hb dX0_reset_15 (by decide) ?_
  obtain ⟨o1, ho1, hf⟩ := sbind hf
  refine g_cSv (isC := [1]) (isR := [0, 2]) (isP := [0, 2, 1]) (wr := [(h_this, .inr (1, FX2 r_this (0 : Int32) (65535 : Int32) i_this_bitCount i_this_pending)), ((r_this 3), gA G 20 t_this_ones)]) (w2 := [(h_this, .inr (1, FX2 r_this (0 : Int32) (65535 : Int32) i_this_bitCount i_this_pending)), ((r_this 2), gA G 20 o1), ((r_this 3), gA G 20 t_this_ones)]) X hK hA hH hl (ct_J7_fill_53178 l G (r_this 2) 20 t_this_zeros (1 : Int32) H.size o1 ho1) ⟨q_15, q_498, hd_J7_fill_53178, rfl, rfl, ⟨Nat.le_of_ble_eq_true rfl, Nat.le_of_ble_eq_true rfl⟩, ⟨Nat.zero_le _, Nat.zero_le _⟩⟩ q_545 q_497 ⟨rfl, rfl, rfl, rfl, by decide, rfl, rfl⟩ rfl rfl (Nat.le_of_ble_eq_true rfl) dX0_reset_16 (fun H locs hH => ?_)
  refine lv_aload_n hx hb dX0_reset_19 rfl (lv_at hl 0 rfl) ?_
  refine g_get (T := TX2) (N := 7) (ci := 1) (C := RX2) (v := .ref (r_this 3)) X hK hH in_RX2 0 rfl rfl 3 (by decide) q_173 (fun _ h9 => h9) rfl dX0_reset_20 ?_
  refine lv_iconst (v := (1 : Int32)) hx hb dX0_reset_23 (by decide) ?_
  obtain ⟨o2, ho2, hf⟩ := sbind hf
  refine g_cSv (isC := [2]) (isR := [0, 1]) (isP := [0, 1, 2]) (wr := [(h_this, .inr (1, FX2 r_this (0 : Int32) (65535 : Int32) i_this_bitCount i_this_pending)), ((r_this 2), gA G 20 o1)]) (w2 := [(h_this, .inr (1, FX2 r_this (0 : Int32) (65535 : Int32) i_this_bitCount i_this_pending)), ((r_this 2), gA G 20 o1), ((r_this 3), gA G 20 o2)]) X hK hA hH hl (ct_J7_fill_53178 l G (r_this 3) 20 t_this_ones (1 : Int32) H.size o2 ho2) ⟨q_15, q_498, hd_J7_fill_53178, rfl, rfl, ⟨Nat.le_of_ble_eq_true rfl, Nat.le_of_ble_eq_true rfl⟩, ⟨Nat.zero_le _, Nat.zero_le _⟩⟩ q_545 q_497 ⟨rfl, rfl, rfl, rfl, by decide, rfl, rfl⟩ rfl rfl (Nat.le_of_ble_eq_true rfl) dX0_reset_24 (fun H locs hH => ?_)
  obtain rfl := Option.some.inj hf
  exact hE _ _ _ _ hH dX0_reset_27

def lf_X2_start (i_this_bitCount : Int32) (i_this_high : Int32) (i_this_low : Int32) (i_this_pending : Int32) (t_this_ones : Nat → Int32) (t_this_zeros : Nat → Int32) : Option (Int32 × Int32 × Int32 × Int32 × (Nat → Int32) × (Nat → Int32)) :=
(lf_X0_reset_X2 i_this_high i_this_low t_this_ones t_this_zeros).bind fun o1 => some ((0 : Int32), o1.1, o1.2.1, (0 : Int32), o1.2.2.1, o1.2.2.2)
abbrev rm_X2_start : Room := { frames := 2, cells := 0, slots := 0, locals := 43 }
theorem hd_X2_start : yX2_start.cls ≠ "java/lang/invoke/MethodHandle" ∧ yX2_start.cls ≠ "java/lang/invoke/VarHandle" ∧ (parseMethodDescriptor yX2_start.desc).map (fun d => d.parameters.length) = some 0 := by decide +kernel
set_option maxHeartbeats 4000000 in
set_option maxRecDepth 100000 in
theorem ct_X2_start (l : Launch) (G : gG) (h_this : Nat) (r_this : Nat → Nat) (i_this_low i_this_high i_this_bitCount i_this_pending : Int32) (t_this_ones t_this_zeros : Nat → Int32) (sz : Nat) (out : Int32 × Int32 × Int32 × Int32 × (Nat → Int32) × (Nat → Int32)) (hf : lf_X2_start i_this_bitCount i_this_high i_this_low i_this_pending t_this_ones t_this_zeros = some out) : gV l G yX2_start cX2_start 1 rm_X2_start [.ref h_this] sz [(h_this, .inr (1, FX2 r_this i_this_low i_this_high i_this_bitCount i_this_pending)), ((r_this 2), gA G 20 t_this_zeros), ((r_this 3), gA G 20 t_this_ones)] [(h_this, .inr (1, FX2 r_this out.2.2.1 out.2.1 out.1 out.2.2.2.1)), ((r_this 2), gA G 20 out.2.2.2.2.2), ((r_this 3), gA G 20 out.2.2.2.2.1)] := by
  refine gV_of (by decide +kernel) (Nat.le_of_ble_eq_true rfl) ?_
  intro p e s m args below meth c ls A Q X hK hA hsz hH hl hE
  subst hsz
  have hx := X.1
  have hb := X.2.1
  unfold lf_X2_start at hf
  have hl : lv_has ls 1 [(0, .ref h_this)] := hl
  have hH : gH G A s.heap s.heap [] [(h_this, .inr (1, FX2 r_this i_this_low i_this_high i_this_bitCount i_this_pending)), ((r_this 2), gA G 20 t_this_zeros), ((r_this 3), gA G 20 t_this_ones)] := hH
  refine lv_aload_n hx hb dX2_start_0 rfl (lv_at hl 0 rfl) ?_
  obtain ⟨o1, ho1, hf⟩ := sbind hf
  refine g_cUv (isC := [0, 1, 2]) (isR := []) (isP := [0, 1, 2]) (wr := []) (w2 := [(h_this, .inr (1, FX2 r_this o1.2.1 o1.1 i_this_bitCount i_this_pending)), ((r_this 2), gA G 20 o1.2.2.2), ((r_this 3), gA G 20 o1.2.2.1)]) (q0 := 0) X hK hA hH hl (ct_X0_reset_X2 l G h_this r_this i_this_low i_this_high i_this_bitCount i_this_pending t_this_ones t_this_zeros s.heap.size o1 ho1) ⟨q_7, q_544, hd_X0_reset_X2, rfl, rfl, ⟨Nat.le_of_ble_eq_true rfl, Nat.le_of_ble_eq_true rfl⟩, ⟨Nat.zero_le _, Nat.zero_le _⟩⟩ q_840 q_841 q_842 q_543 (Or.inl rfl) (by decide +kernel) rfl rfl ⟨rfl, rfl, rfl, rfl, by decide, rfl, rfl⟩ rfl rfl (Nat.le_of_ble_eq_true rfl) dX2_start_1 (fun H locs hH => ?_)
  refine lv_aload_n hx hb dX2_start_4 rfl (lv_at hl 0 rfl) ?_
  refine lv_iconst (v := (0 : Int32)) hx hb dX2_start_5 (by decide) ?_
  refine g_put (w1 := [(h_this, .inr (1, FX2 r_this o1.2.1 o1.1 (0 : Int32) i_this_pending)), ((r_this 2), gA G 20 o1.2.2.2), ((r_this 3), gA G 20 o1.2.2.1)]) (T := TX2) (N := 7) (ci := 1) (C := RX2) (ty := .int) (v := .int (0 : Int32)) X hK hH in_RX2 tyX2 tyX2_ok nmX2 0 rfl rfl 5 (by decide) q_166 (fun _ h9 => h9) rfl (by decide +kernel) rfl rfl (Nat.le_of_ble_eq_true rfl) dX2_start_6 FX2_bitCount rfl (fun H locs hH => ?_)
  refine lv_aload_n hx hb dX2_start_9 rfl (lv_at hl 0 rfl) ?_
  refine lv_iconst (v := (0 : Int32)) hx hb dX2_start_10 (by decide) ?_
  refine g_put (w1 := [(h_this, .inr (1, FX2 r_this o1.2.1 o1.1 (0 : Int32) (0 : Int32))), ((r_this 2), gA G 20 o1.2.2.2), ((r_this 3), gA G 20 o1.2.2.1)]) (T := TX2) (N := 7) (ci := 1) (C := RX2) (ty := .int) (v := .int (0 : Int32)) X hK hH in_RX2 tyX2 tyX2_ok nmX2 0 rfl rfl 6 (by decide) q_167 (fun _ h9 => h9) rfl (by decide +kernel) rfl rfl (Nat.le_of_ble_eq_true rfl) dX2_start_11 FX2_pending rfl (fun H locs hH => ?_)
  obtain rfl := Option.some.inj hf
  exact hE _ _ _ _ hH dX2_start_14

def lf_X2_finish (i_this_bitCount : Int32) (i_this_low : Int32) (i_this_pending : Int32) (t_this_bytes : Nat → Int32) : Option (Int32 × Int32 × (Nat → Int32)) :=
(if (16384 : Int32) ≤ i_this_low then (lf_X2_take i_this_bitCount (i_this_pending + (1 : Int32)) t_this_bytes (32768 : Int32)).bind fun o2 => some (o2.1, o2.2.1, o2.2.2) else (lf_X2_take i_this_bitCount (i_this_pending + (1 : Int32)) t_this_bytes (0 : Int32)).bind fun o3 => some (o3.1, o3.2.1, o3.2.2))
abbrev rm_X2_finish : Room := { frames := 1, cells := 0, slots := 0, locals := 27 }
theorem hd_X2_finish : yX2_finish.cls ≠ "java/lang/invoke/MethodHandle" ∧ yX2_finish.cls ≠ "java/lang/invoke/VarHandle" ∧ (parseMethodDescriptor yX2_finish.desc).map (fun d => d.parameters.length) = some 0 := by decide +kernel
set_option maxHeartbeats 4000000 in
set_option maxRecDepth 100000 in
theorem ct_X2_finish (l : Launch) (G : gG) (h_this : Nat) (r_this : Nat → Nat) (i_this_low i_this_high i_this_bitCount i_this_pending : Int32) (t_this_bytes : Nat → Int32) (sz : Nat) (out : Int32 × Int32 × (Nat → Int32)) (hf : lf_X2_finish i_this_bitCount i_this_low i_this_pending t_this_bytes = some out) : gV l G yX2_finish cX2_finish 1 rm_X2_finish [.ref h_this] sz [(h_this, .inr (1, FX2 r_this i_this_low i_this_high i_this_bitCount i_this_pending)), ((r_this 4), gA G 2048 t_this_bytes)] [(h_this, .inr (1, FX2 r_this i_this_low i_this_high out.1 out.2.1)), ((r_this 4), gA G 2048 out.2.2)] := by
  refine gV_of (by decide +kernel) (Nat.le_of_ble_eq_true rfl) ?_
  intro p e s m args below meth c ls A Q X hK hA hsz hH hl hE
  subst hsz
  have hx := X.1
  have hb := X.2.1
  unfold lf_X2_finish at hf
  have hl : lv_has ls 1 [(0, .ref h_this)] := hl
  have hH : gH G A s.heap s.heap [] [(h_this, .inr (1, FX2 r_this i_this_low i_this_high i_this_bitCount i_this_pending)), ((r_this 4), gA G 2048 t_this_bytes)] := hH
  refine lv_aload_n hx hb dX2_finish_0 rfl (lv_at hl 0 rfl) ?_
  refine lv_dup hx hb dX2_finish_1 rfl ?_
  refine g_get (T := TX2) (N := 7) (ci := 1) (C := RX2) (v := .int i_this_pending) X hK hH in_RX2 0 rfl rfl 6 (by decide) q_167 (fun _ h9 => h9) rfl dX2_finish_2 ?_
  refine lv_iconst (v := (1 : Int32)) hx hb dX2_finish_5 (by decide) ?_
  refine lv_iadd hx hb dX2_finish_6 ?_
  refine g_put (w1 := [(h_this, .inr (1, FX2 r_this i_this_low i_this_high i_this_bitCount (i_this_pending + (1 : Int32)))), ((r_this 4), gA G 2048 t_this_bytes)]) (T := TX2) (N := 7) (ci := 1) (C := RX2) (ty := .int) (v := .int (i_this_pending + (1 : Int32))) X hK hH in_RX2 tyX2 tyX2_ok nmX2 0 rfl rfl 6 (by decide) q_167 (fun _ h9 => h9) rfl (by decide +kernel) rfl rfl (Nat.le_of_ble_eq_true rfl) dX2_finish_7 FX2_pending rfl (fun H locs hH => ?_)
  refine lv_aload_n hx hb dX2_finish_10 rfl (lv_at hl 0 rfl) ?_
  refine lv_aload_n hx hb dX2_finish_11 rfl (lv_at hl 0 rfl) ?_
  refine g_get (T := TX2) (N := 7) (ci := 1) (C := RX2) (v := .int i_this_low) X hK hH in_RX2 0 rfl rfl 0 (by decide) q_169 (g_same X q_170) rfl dX2_finish_12 ?_
  refine lv_sipush (v := (16384 : Int32)) hx hb dX2_finish_15 (by decide) ?_
  refine lv_icmp_ge (tgt := 25) hx hb dX2_finish_18 (by decide) (fun c1 => ?_) (fun c1 => ?_)
  · have hf := spos hf c1
    refine lv_ldc (v := (32768 : Int32)) hx hb X.2.2.2.2.2.1 (X.2.2.2.2.1 _ q_594) dX2_finish_25 ?_
    obtain ⟨o2, ho2, hf⟩ := sbind hf
    refine g_cVv (isC := [0, 1]) (isR := []) (isP := [0, 1]) (wr := []) (w2 := [(h_this, .inr (1, FX2 r_this i_this_low i_this_high o2.1 o2.2.1)), ((r_this 4), gA G 2048 o2.2.2)]) (q0 := 0) X hK hA hH hl (ct_X2_take l G h_this r_this i_this_low i_this_high i_this_bitCount (i_this_pending + (1 : Int32)) t_this_bytes (32768 : Int32) H.size o2 ho2) ⟨q_8, q_593, hd_X2_take, rfl, rfl, ⟨Nat.le_of_ble_eq_true rfl, Nat.le_of_ble_eq_true rfl⟩, ⟨Nat.zero_le _, Nat.zero_le _⟩⟩ q_847 q_592 q_1553 rfl rfl ⟨rfl, rfl, rfl, rfl, by decide, rfl, rfl⟩ rfl rfl (Nat.le_of_ble_eq_true rfl) dX2_finish_27 (fun H locs hH => ?_)
    obtain rfl := Option.some.inj hf
    exact hE _ _ _ _ hH dX2_finish_30
  · have hf := sneg hf c1
    refine lv_iconst (v := (0 : Int32)) hx hb dX2_finish_21 (by decide) ?_
    refine lv_goto (tgt := 27) hx hb dX2_finish_22 (by decide) ?_
    obtain ⟨o3, ho3, hf⟩ := sbind hf
    refine g_cVv (isC := [0, 1]) (isR := []) (isP := [0, 1]) (wr := []) (w2 := [(h_this, .inr (1, FX2 r_this i_this_low i_this_high o3.1 o3.2.1)), ((r_this 4), gA G 2048 o3.2.2)]) (q0 := 0) X hK hA hH hl (ct_X2_take l G h_this r_this i_this_low i_this_high i_this_bitCount (i_this_pending + (1 : Int32)) t_this_bytes (0 : Int32) H.size o3 ho3) ⟨q_8, q_593, hd_X2_take, rfl, rfl, ⟨Nat.le_of_ble_eq_true rfl, Nat.le_of_ble_eq_true rfl⟩, ⟨Nat.zero_le _, Nat.zero_le _⟩⟩ q_847 q_592 q_1553 rfl rfl ⟨rfl, rfl, rfl, rfl, by decide, rfl, rfl⟩ rfl rfl (Nat.le_of_ble_eq_true rfl) dX2_finish_27 (fun H locs hH => ?_)
    obtain rfl := Option.some.inj hf
    exact hE _ _ _ _ hH dX2_finish_30

def lf_X2_byteCount (i_this_bitCount : Int32) : Option (Int32) :=
some ((i_this_bitCount + (7 : Int32)) / (8 : Int32))
abbrev rm_X2_byteCount : Room := { frames := 0, cells := 0, slots := 0, locals := 0 }
theorem hd_X2_byteCount : yX2_byteCount.cls ≠ "java/lang/invoke/MethodHandle" ∧ yX2_byteCount.cls ≠ "java/lang/invoke/VarHandle" ∧ (parseMethodDescriptor yX2_byteCount.desc).map (fun d => d.parameters.length) = some 0 := by decide +kernel
set_option maxHeartbeats 4000000 in
set_option maxRecDepth 100000 in
theorem ct_X2_byteCount (l : Launch) (G : gG) (h_this : Nat) (r_this : Nat → Nat) (i_this_low i_this_high i_this_bitCount i_this_pending : Int32) (sz : Nat) (out : Int32) (hf : lf_X2_byteCount i_this_bitCount = some out) : gI l G yX2_byteCount cX2_byteCount 1 .int rm_X2_byteCount [.ref h_this] sz [(h_this, .inr (1, FX2 r_this i_this_low i_this_high i_this_bitCount i_this_pending))] out [(h_this, .inr (1, FX2 r_this i_this_low i_this_high i_this_bitCount i_this_pending))] := by
  refine gI_of (by decide +kernel) (Nat.le_of_ble_eq_true rfl) ?_
  intro p e s m args below meth c ls A Q X hK hA hsz hH hl hE
  subst hsz
  have hx := X.1
  have hb := X.2.1
  unfold lf_X2_byteCount at hf
  have hl : lv_has ls 1 [(0, .ref h_this)] := hl
  have hH : gH G A s.heap s.heap [] [(h_this, .inr (1, FX2 r_this i_this_low i_this_high i_this_bitCount i_this_pending))] := hH
  refine lv_aload_n hx hb dX2_byteCount_0 rfl (lv_at hl 0 rfl) ?_
  refine g_get (T := TX2) (N := 7) (ci := 1) (C := RX2) (v := .int i_this_bitCount) X hK hH in_RX2 0 rfl rfl 5 (by decide) q_166 (fun _ h9 => h9) rfl dX2_byteCount_1 ?_
  refine lv_bipush (v := (7 : Int32)) hx hb dX2_byteCount_4 (by decide) ?_
  refine lv_iadd hx hb dX2_byteCount_6 ?_
  refine lv_bipush (v := (8 : Int32)) hx hb dX2_byteCount_7 (by decide) ?_
  refine lv_idiv hx hb dX2_byteCount_9 (by decide) ?_
  obtain rfl := Option.some.inj hf
  exact hE _ _ _ _ rfl hH dX2_byteCount_10

def lf_X3_at (i_this_count : Int32) (n_this_bytes : Nat) (t_this_bytes : Nat → Int32) (p0 : Int32) : Option (Int32) :=
jn (fun (z2 : Unit) => some (-1 : Int32)) (fun k2 => (if p0 < (0 : Int32) then k2 () else (if i_this_count ≤ p0 then k2 () else (rdA n_this_bytes t_this_bytes p0).bind fun x4 => some x4)))
abbrev rm_X3_at : Room := { frames := 0, cells := 0, slots := 0, locals := 0 }
theorem hd_X3_at : yX3_at.cls ≠ "java/lang/invoke/MethodHandle" ∧ yX3_at.cls ≠ "java/lang/invoke/VarHandle" ∧ (parseMethodDescriptor yX3_at.desc).map (fun d => d.parameters.length) = some 1 := by decide +kernel
set_option maxHeartbeats 4000000 in
set_option maxRecDepth 100000 in
theorem ct_X3_at (l : Launch) (G : gG) (h_this : Nat) (r_this : Nat → Nat) (q_this_bytes n_this_bytes : Nat) (i_this_count : Int32) (t_this_bytes : Nat → Int32) (p0 : Int32) (sz : Nat) (out : Int32) (hf : lf_X3_at i_this_count n_this_bytes t_this_bytes p0 = some out) : gI l G yX3_at cX3_at 2 .int rm_X3_at [.ref h_this, .int p0] sz [(h_this, .inr (2, FX3 r_this q_this_bytes i_this_count)), (q_this_bytes, gA G n_this_bytes t_this_bytes)] out [(h_this, .inr (2, FX3 r_this q_this_bytes i_this_count)), (q_this_bytes, gA G n_this_bytes t_this_bytes)] := by
  refine gI_of (by decide +kernel) (Nat.le_of_ble_eq_true rfl) ?_
  intro p e s m args below meth c ls A Q X hK hA hsz hH hl hE
  subst hsz
  have hx := X.1
  have hb := X.2.1
  unfold lf_X3_at at hf
  have hl : lv_has ls 2 [(0, .ref h_this), (1, .int p0)] := hl
  have hH : gH G A s.heap s.heap [] [(h_this, .inr (2, FX3 r_this q_this_bytes i_this_count)), (q_this_bytes, gA G n_this_bytes t_this_bytes)] := hH
  refine lv_iload_n hx hb dX3_at_0 rfl (lv_at hl 1 rfl) ?_
  obtain ⟨k2, hk2, hf⟩ := sjn hf
  have J2 : ∀  (H : Heap) (locs : List Loc) (ls : Array Slot), k2 () = some out → gH G A s.heap H locs [(h_this, .inr (2, FX3 r_this q_this_bytes i_this_count)), (q_this_bytes, gA G n_this_bytes t_this_bytes)] → lv_has ls 2 [] → W p l e rm_X3_at s m args below meth c H locs 0 0 Q (F0 m 21 ls []) := by
    intro  H locs ls hf hH hl
    have hf := hk2 _ _ hf
    refine lv_iconst (v := (-1 : Int32)) hx hb dX3_at_21 (by decide) ?_
    obtain rfl := Option.some.inj hf
    exact hE _ _ _ _ rfl hH dX3_at_22
  refine lv_if_lt (tgt := 21) hx hb dX3_at_1 (by decide) (fun c1 => ?_) (fun c1 => ?_)
  · have hf := spos hf c1
    exact J2  _ _ _ hf hH (lv_sub hl [] rfl)
  · have hf := sneg hf c1
    refine lv_iload_n hx hb dX3_at_4 rfl (lv_at hl 1 rfl) ?_
    refine lv_aload_n hx hb dX3_at_5 rfl (lv_at hl 0 rfl) ?_
    refine g_get (T := TX3) (N := 2) (ci := 2) (C := RX3) (v := .int i_this_count) X hK hH in_RX3 0 rfl rfl 1 (by decide) q_68 (fun _ h9 => h9) rfl dX3_at_6 ?_
    refine lv_icmp_ge (tgt := 21) hx hb dX3_at_9 (by decide) (fun c3 => ?_) (fun c3 => ?_)
    · have hf := spos hf c3
      exact J2  _ _ _ hf hH (lv_sub hl [] rfl)
    · have hf := sneg hf c3
      refine lv_aload_n hx hb dX3_at_12 rfl (lv_at hl 0 rfl) ?_
      refine g_get (T := TX3) (N := 2) (ci := 2) (C := RX3) (v := .ref q_this_bytes) X hK hH in_RX3 0 rfl rfl 0 (by decide) q_66 (fun _ h9 => h9) rfl dX3_at_13 ?_
      refine lv_iload_n hx hb dX3_at_16 rfl (lv_at hl 1 rfl) ?_
      obtain ⟨x4, hx4, hf⟩ := sbind hf
      refine g_ald X hK hH 1 rfl hx4 dX3_at_17 ?_
      refine lv_goto (tgt := 22) hx hb dX3_at_18 (by decide) ?_
      obtain rfl := Option.some.inj hf
      exact hE _ _ _ _ rfl hH dX3_at_22

def lf_X3_put (i_this_count : Int32) (n_this_bytes : Nat) (t_this_bytes : Nat → Int32) (p0 : Int32) (p1 : Int32) : Option ((Nat → Int32)) :=
(if p0 < (0 : Int32) then some t_this_bytes else (if i_this_count ≤ p0 then some t_this_bytes else (wrA n_this_bytes t_this_bytes p0 p1).bind fun g3 => some g3))
abbrev rm_X3_put : Room := { frames := 0, cells := 0, slots := 0, locals := 0 }
theorem hd_X3_put : yX3_put.cls ≠ "java/lang/invoke/MethodHandle" ∧ yX3_put.cls ≠ "java/lang/invoke/VarHandle" ∧ (parseMethodDescriptor yX3_put.desc).map (fun d => d.parameters.length) = some 2 := by decide +kernel
set_option maxHeartbeats 4000000 in
set_option maxRecDepth 100000 in
theorem ct_X3_put (l : Launch) (G : gG) (h_this : Nat) (r_this : Nat → Nat) (q_this_bytes n_this_bytes : Nat) (i_this_count : Int32) (t_this_bytes : Nat → Int32) (p0 p1 : Int32) (sz : Nat) (out : (Nat → Int32)) (hf : lf_X3_put i_this_count n_this_bytes t_this_bytes p0 p1 = some out) : gV l G yX3_put cX3_put 3 rm_X3_put [.ref h_this, .int p0, .int p1] sz [(h_this, .inr (2, FX3 r_this q_this_bytes i_this_count)), (q_this_bytes, gA G n_this_bytes t_this_bytes)] [(h_this, .inr (2, FX3 r_this q_this_bytes i_this_count)), (q_this_bytes, gA G n_this_bytes out)] := by
  refine gV_of (by decide +kernel) (Nat.le_of_ble_eq_true rfl) ?_
  intro p e s m args below meth c ls A Q X hK hA hsz hH hl hE
  subst hsz
  have hx := X.1
  have hb := X.2.1
  unfold lf_X3_put at hf
  have hl : lv_has ls 3 [(0, .ref h_this), (1, .int p0), (2, .int p1)] := hl
  have hH : gH G A s.heap s.heap [] [(h_this, .inr (2, FX3 r_this q_this_bytes i_this_count)), (q_this_bytes, gA G n_this_bytes t_this_bytes)] := hH
  refine lv_iload_n hx hb dX3_put_0 rfl (lv_at hl 1 rfl) ?_
  refine lv_if_lt (tgt := 19) hx hb dX3_put_1 (by decide) (fun c1 => ?_) (fun c1 => ?_)
  · have hf := spos hf c1
    obtain rfl := Option.some.inj hf
    exact hE _ _ _ _ hH dX3_put_19
  · have hf := sneg hf c1
    refine lv_iload_n hx hb dX3_put_4 rfl (lv_at hl 1 rfl) ?_
    refine lv_aload_n hx hb dX3_put_5 rfl (lv_at hl 0 rfl) ?_
    refine g_get (T := TX3) (N := 2) (ci := 2) (C := RX3) (v := .int i_this_count) X hK hH in_RX3 0 rfl rfl 1 (by decide) q_68 (fun _ h9 => h9) rfl dX3_put_6 ?_
    refine lv_icmp_ge (tgt := 19) hx hb dX3_put_9 (by decide) (fun c2 => ?_) (fun c2 => ?_)
    · have hf := spos hf c2
      obtain rfl := Option.some.inj hf
      exact hE _ _ _ _ hH dX3_put_19
    · have hf := sneg hf c2
      refine lv_aload_n hx hb dX3_put_12 rfl (lv_at hl 0 rfl) ?_
      refine g_get (T := TX3) (N := 2) (ci := 2) (C := RX3) (v := .ref q_this_bytes) X hK hH in_RX3 0 rfl rfl 0 (by decide) q_66 (fun _ h9 => h9) rfl dX3_put_13 ?_
      refine lv_iload_n hx hb dX3_put_16 rfl (lv_at hl 1 rfl) ?_
      refine lv_iload_n hx hb dX3_put_17 rfl (lv_at hl 2 rfl) ?_
      obtain ⟨g3, hg3, hf⟩ := sbind hf
      refine g_ast (w1 := [(h_this, .inr (2, FX3 r_this q_this_bytes i_this_count)), (q_this_bytes, gA G n_this_bytes g3)]) X hK hH 1 rfl hg3 dX3_put_18 rfl (fun H locs hH => ?_)
      obtain rfl := Option.some.inj hf
      exact hE _ _ _ _ hH dX3_put_19

def lf_X3_clear (i_this_count : Int32) : Option (Int32) :=
some (0 : Int32)
abbrev rm_X3_clear : Room := { frames := 0, cells := 0, slots := 0, locals := 0 }
theorem hd_X3_clear : yX3_clear.cls ≠ "java/lang/invoke/MethodHandle" ∧ yX3_clear.cls ≠ "java/lang/invoke/VarHandle" ∧ (parseMethodDescriptor yX3_clear.desc).map (fun d => d.parameters.length) = some 0 := by decide +kernel
set_option maxHeartbeats 4000000 in
set_option maxRecDepth 100000 in
theorem ct_X3_clear (l : Launch) (G : gG) (h_this : Nat) (r_this : Nat → Nat) (q_this_bytes : Nat) (i_this_count : Int32) (sz : Nat) (out : Int32) (hf : lf_X3_clear i_this_count = some out) : gV l G yX3_clear cX3_clear 1 rm_X3_clear [.ref h_this] sz [(h_this, .inr (2, FX3 r_this q_this_bytes i_this_count))] [(h_this, .inr (2, FX3 r_this q_this_bytes out))] := by
  refine gV_of (by decide +kernel) (Nat.le_of_ble_eq_true rfl) ?_
  intro p e s m args below meth c ls A Q X hK hA hsz hH hl hE
  subst hsz
  have hx := X.1
  have hb := X.2.1
  unfold lf_X3_clear at hf
  have hl : lv_has ls 1 [(0, .ref h_this)] := hl
  have hH : gH G A s.heap s.heap [] [(h_this, .inr (2, FX3 r_this q_this_bytes i_this_count))] := hH
  refine lv_aload_n hx hb dX3_clear_0 rfl (lv_at hl 0 rfl) ?_
  refine lv_iconst (v := (0 : Int32)) hx hb dX3_clear_1 (by decide) ?_
  refine g_put (w1 := [(h_this, .inr (2, FX3 r_this q_this_bytes (0 : Int32)))]) (T := TX3) (N := 2) (ci := 2) (C := RX3) (ty := .int) (v := .int (0 : Int32)) X hK hH in_RX3 tyX3 tyX3_ok nmX3 0 rfl rfl 1 (by decide) q_68 (fun _ h9 => h9) rfl (by decide +kernel) rfl rfl (Nat.le_of_ble_eq_true rfl) dX3_clear_2 FX3_count rfl (fun H locs hH => ?_)
  obtain rfl := Option.some.inj hf
  exact hE _ _ _ _ hH dX3_clear_5

def lf_X8_levelContext (n_p0 : Nat) (t_p0 : Nat → Int32) (p1 : Int32) (p2 : Int32) (p3 : Int32) : Option (Int32) :=
jn (fun (z2 : Unit) => jn (fun (z5 : Int32) => (fun (s4 : Int32) => jn (fun (z8 : Int32) => (fun (s7 : Int32) => some (((5 : Int32) + s4) + s7)) z8) (fun k8 => jn (fun (z9 : Unit) => k8 (0 : Int32)) (fun k9 => (if p2 ≤ (0 : Int32) then k9 () else (rdA n_p0 t_p0 (p1 - (16 : Int32))).bind fun x10 => (if x10 = (0 : Int32) then k9 () else k8 (1 : Int32)))))) z5) (fun k5 => jn (fun (z12 : Unit) => k5 (0 : Int32)) (fun k12 => (if p3 ≤ (0 : Int32) then k12 () else (rdA n_p0 t_p0 (p1 - (1 : Int32))).bind fun x13 => (if x13 = (0 : Int32) then k12 () else k5 (1 : Int32)))))) (fun k2 => (if p2 = (0 : Int32) then (if p3 = (0 : Int32) then some (4 : Int32) else k2 ()) else k2 ()))
abbrev rm_X8_levelContext : Room := { frames := 0, cells := 0, slots := 0, locals := 0 }
theorem hd_X8_levelContext : yX8_levelContext.cls ≠ "java/lang/invoke/MethodHandle" ∧ yX8_levelContext.cls ≠ "java/lang/invoke/VarHandle" ∧ (parseMethodDescriptor yX8_levelContext.desc).map (fun d => d.parameters.length) = some 4 := by decide +kernel
set_option maxHeartbeats 4000000 in
set_option maxRecDepth 100000 in
theorem ct_X8_levelContext (l : Launch) (G : gG) (a_p0 n_p0 : Nat) (t_p0 : Nat → Int32) (p1 p2 p3 : Int32) (sz : Nat) (out : Int32) (hf : lf_X8_levelContext n_p0 t_p0 p1 p2 p3 = some out) : gI l G yX8_levelContext cX8_levelContext 6 .int rm_X8_levelContext [.ref a_p0, .int p1, .int p2, .int p3] sz [(a_p0, gA G n_p0 t_p0)] out [(a_p0, gA G n_p0 t_p0)] := by
  refine gI_of (by decide +kernel) (Nat.le_of_ble_eq_true rfl) ?_
  intro p e s m args below meth c ls A Q X hK hA hsz hH hl hE
  subst hsz
  have hx := X.1
  have hb := X.2.1
  unfold lf_X8_levelContext at hf
  have hl : lv_has ls 6 [(0, .ref a_p0), (1, .int p1), (2, .int p2), (3, .int p3)] := hl
  have hH : gH G A s.heap s.heap [] [(a_p0, gA G n_p0 t_p0)] := hH
  refine lv_iload_n hx hb dX8_levelContext_0 rfl (lv_at hl 2 rfl) ?_
  obtain ⟨k2, hk2, hf⟩ := sjn hf
  have J2 : ∀  (H : Heap) (locs : List Loc) (ls : Array Slot), k2 () = some out → gH G A s.heap H locs [(a_p0, gA G n_p0 t_p0)] → lv_has ls 6 [(0, .ref a_p0), (1, .int p1), (2, .int p2), (3, .int p3)] → W p l e rm_X8_levelContext s m args below meth c H locs 0 0 Q (F0 m 10 ls []) := by
    intro  H locs ls hf hH hl
    have hf := hk2 _ _ hf
    refine lv_iload_n hx hb dX8_levelContext_10 rfl (lv_at hl 3 rfl) ?_
    obtain ⟨k5, hk5, hf⟩ := sjn hf
    have J5 : ∀ (s4 : Int32) (H : Heap) (locs : List Loc) (ls : Array Slot), k5 s4 = some out → gH G A s.heap H locs [(a_p0, gA G n_p0 t_p0)] → lv_has ls 6 [(0, .ref a_p0), (1, .int p1), (2, .int p2)] → W p l e rm_X8_levelContext s m args below meth c H locs 0 0 Q (F0 m 27 ls [.int s4]) := by
      intro s4 H locs ls hf hH hl
      have hf := hk5 _ _ hf
      refine lv_istore (lv' := [(4, .int s4), (0, .ref a_p0), (1, .int p1), (2, .int p2)]) hx hb dX8_levelContext_27 hl (by decide) rfl (fun ls hl => ?_)
      refine lv_iload_n hx hb dX8_levelContext_29 rfl (lv_at hl 3 rfl) ?_
      obtain ⟨k8, hk8, hf⟩ := sjn hf
      have J8 : ∀ (s7 : Int32) (H : Heap) (locs : List Loc) (ls : Array Slot), k8 s7 = some out → gH G A s.heap H locs [(a_p0, gA G n_p0 t_p0)] → lv_has ls 6 [(4, .int s4)] → W p l e rm_X8_levelContext s m args below meth c H locs 0 0 Q (F0 m 47 ls [.int s7]) := by
        intro s7 H locs ls hf hH hl
        have hf := hk8 _ _ hf
        refine lv_istore (lv' := [(5, .int s7), (4, .int s4)]) hx hb dX8_levelContext_47 hl (by decide) rfl (fun ls hl => ?_)
        refine lv_iconst (v := (5 : Int32)) hx hb dX8_levelContext_49 (by decide) ?_
        refine lv_iload hx hb dX8_levelContext_50 (lv_at hl 1 rfl) ?_
        refine lv_iadd hx hb dX8_levelContext_52 ?_
        refine lv_iload hx hb dX8_levelContext_53 (lv_at hl 0 rfl) ?_
        refine lv_iadd hx hb dX8_levelContext_55 ?_
        obtain rfl := Option.some.inj hf
        exact hE _ _ _ _ rfl hH dX8_levelContext_56
      obtain ⟨k9, hk9, hf⟩ := sjn hf
      have J9 : ∀  (H : Heap) (locs : List Loc) (ls : Array Slot), k9 () = some out → gH G A s.heap H locs [(a_p0, gA G n_p0 t_p0)] → lv_has ls 6 [(4, .int s4)] → W p l e rm_X8_levelContext s m args below meth c H locs 0 0 Q (F0 m 46 ls []) := by
        intro  H locs ls hf hH hl
        have hf := hk9 _ _ hf
        refine lv_iconst (v := (0 : Int32)) hx hb dX8_levelContext_46 (by decide) ?_
        exact J8 (0 : Int32) _ _ _ hf hH (lv_sub hl [0] rfl)
      refine lv_if_le (tgt := 46) hx hb dX8_levelContext_30 (by decide) (fun c6 => ?_) (fun c6 => ?_)
      · have hf := spos hf c6
        exact J9  _ _ _ hf hH (lv_sub hl [0] rfl)
      · have hf := sneg hf c6
        refine lv_aload_n hx hb dX8_levelContext_33 rfl (lv_at hl 1 rfl) ?_
        refine lv_iload_n hx hb dX8_levelContext_34 rfl (lv_at hl 2 rfl) ?_
        refine lv_bipush (v := (16 : Int32)) hx hb dX8_levelContext_35 (by decide) ?_
        refine lv_isub hx hb dX8_levelContext_37 ?_
        obtain ⟨x10, hx10, hf⟩ := sbind hf
        refine g_ald X hK hH 0 rfl hx10 dX8_levelContext_38 ?_
        refine lv_if_eq (tgt := 46) hx hb dX8_levelContext_39 (by decide) (fun c11 => ?_) (fun c11 => ?_)
        · have hf := spos hf c11
          exact J9  _ _ _ hf hH (lv_sub hl [0] rfl)
        · have hf := sneg hf c11
          refine lv_iconst (v := (1 : Int32)) hx hb dX8_levelContext_42 (by decide) ?_
          refine lv_goto (tgt := 47) hx hb dX8_levelContext_43 (by decide) ?_
          exact J8 (1 : Int32) _ _ _ hf hH (lv_sub hl [0] rfl)
    obtain ⟨k12, hk12, hf⟩ := sjn hf
    have J12 : ∀  (H : Heap) (locs : List Loc) (ls : Array Slot), k12 () = some out → gH G A s.heap H locs [(a_p0, gA G n_p0 t_p0)] → lv_has ls 6 [(0, .ref a_p0), (1, .int p1), (2, .int p2)] → W p l e rm_X8_levelContext s m args below meth c H locs 0 0 Q (F0 m 26 ls []) := by
      intro  H locs ls hf hH hl
      have hf := hk12 _ _ hf
      refine lv_iconst (v := (0 : Int32)) hx hb dX8_levelContext_26 (by decide) ?_
      exact J5 (0 : Int32) _ _ _ hf hH (lv_sub hl [0, 1, 2] rfl)
    refine lv_if_le (tgt := 26) hx hb dX8_levelContext_11 (by decide) (fun c3 => ?_) (fun c3 => ?_)
    · have hf := spos hf c3
      exact J12  _ _ _ hf hH (lv_sub hl [0, 1, 2] rfl)
    · have hf := sneg hf c3
      refine lv_aload_n hx hb dX8_levelContext_14 rfl (lv_at hl 0 rfl) ?_
      refine lv_iload_n hx hb dX8_levelContext_15 rfl (lv_at hl 1 rfl) ?_
      refine lv_iconst (v := (1 : Int32)) hx hb dX8_levelContext_16 (by decide) ?_
      refine lv_isub hx hb dX8_levelContext_17 ?_
      obtain ⟨x13, hx13, hf⟩ := sbind hf
      refine g_ald X hK hH 0 rfl hx13 dX8_levelContext_18 ?_
      refine lv_if_eq (tgt := 26) hx hb dX8_levelContext_19 (by decide) (fun c14 => ?_) (fun c14 => ?_)
      · have hf := spos hf c14
        exact J12  _ _ _ hf hH (lv_sub hl [0, 1, 2] rfl)
      · have hf := sneg hf c14
        refine lv_iconst (v := (1 : Int32)) hx hb dX8_levelContext_22 (by decide) ?_
        refine lv_goto (tgt := 27) hx hb dX8_levelContext_23 (by decide) ?_
        exact J5 (1 : Int32) _ _ _ hf hH (lv_sub hl [0, 1, 2] rfl)
  refine lv_if_ne (tgt := 10) hx hb dX8_levelContext_1 (by decide) (fun c1 => ?_) (fun c1 => ?_)
  · have hf := sneg hf c1
    exact J2  _ _ _ hf hH (lv_sub hl [0, 1, 2, 3] rfl)
  · have hf := spos hf c1
    refine lv_iload_n hx hb dX8_levelContext_4 rfl (lv_at hl 3 rfl) ?_
    refine lv_if_ne (tgt := 10) hx hb dX8_levelContext_5 (by decide) (fun c15 => ?_) (fun c15 => ?_)
    · have hf := sneg hf c15
      exact J2  _ _ _ hf hH (lv_sub hl [0, 1, 2, 3] rfl)
    · have hf := spos hf c15
      refine lv_iconst (v := (4 : Int32)) hx hb dX8_levelContext_8 (by decide) ?_
      obtain rfl := Option.some.inj hf
      exact hE _ _ _ _ rfl hH dX8_levelContext_9

def lf_X8_codeLevel_X1 (i_p0_code : Int32) (i_p0_end : Int32) (i_p0_high : Int32) (i_p0_low : Int32) (i_p0_position : Int32) (n_p0_bytes : Nat) (t_p0_bytes : Nat → Int32) (t_p0_ones : Nat → Int32) (t_p0_zeros : Nat → Int32) (p1 : Int32) (p2 : Int32) : Option (Int32 × Int32 × Int32 × Int32 × Int32 × (Nat → Int32) × (Nat → Int32)) :=
jn (fun (z3 : Int32) => (fun (s2 : Int32) => (lf_X0_code_X1 i_p0_code i_p0_end i_p0_high i_p0_low i_p0_position n_p0_bytes t_p0_bytes t_p0_ones t_p0_zeros s2 p2).bind fun o4 => (if o4.1 = (0 : Int32) then some ((0 : Int32), o4.2.1, o4.2.2.1, o4.2.2.2.1, o4.2.2.2.2.1, o4.2.2.2.2.2.1, o4.2.2.2.2.2.2) else jn (fun (z8 : Int32) => (fun (s7 : Int32) => (lf_X0_code_X1 o4.2.1 i_p0_end o4.2.2.1 o4.2.2.2.1 o4.2.2.2.2.1 n_p0_bytes t_p0_bytes o4.2.2.2.2.2.1 o4.2.2.2.2.2.2 s7 (8 : Int32)).bind fun o9 => jn (fun (z12 : Int32) => (fun (s11 : Int32) => (lf_X8_digitsOf s11).bind fun o13 => (fixN FUEL (fun (self21 : (Int32 × Int32 × Int32 × Int32 × Int32 × (Nat → Int32) × (Nat → Int32)) → Option (Int32 × Int32 × Int32 × Int32 × Int32 × (Nat → Int32) × (Nat → Int32))) (z21 : Int32 × Int32 × Int32 × Int32 × Int32 × (Nat → Int32) × (Nat → Int32)) => (fun (x14 : Int32) (v15 : Int32) (v16 : Int32) (v17 : Int32) (v18 : Int32) (g19 : (Nat → Int32)) (g20 : (Nat → Int32)) => (if (12 : Int32) ≤ x14 then some (x14, v15, v16, v17, v18, g19, g20) else jn (fun (z25 : Int32) => (fun (s24 : Int32) => (lf_X0_code_X1 v15 i_p0_end v16 v17 v18 n_p0_bytes t_p0_bytes g19 g20 s24 ((8 : Int32) + x14)).bind fun o26 => (if o26.1 = (1 : Int32) then bnd (x14 + (1 : Int32)) fun x28 => self21 (x28, o26.2.1, o26.2.2.1, o26.2.2.2.1, o26.2.2.2.2.1, o26.2.2.2.2.2.1, o26.2.2.2.2.2.2) else some (x14, o26.2.1, o26.2.2.1, o26.2.2.2.1, o26.2.2.2.2.1, o26.2.2.2.2.2.1, o26.2.2.2.2.2.2))) z25) (fun k25 => (if o13 ≤ x14 then k25 (0 : Int32) else k25 (1 : Int32))))) z21.1 z21.2.1 z21.2.2.1 z21.2.2.2.1 z21.2.2.2.2.1 z21.2.2.2.2.2.1 z21.2.2.2.2.2.2) ((1 : Int32), o9.2.1, o9.2.2.1, o9.2.2.2.1, o9.2.2.2.2.1, o9.2.2.2.2.2.1, o9.2.2.2.2.2.2)).bind fun o21 => bnd (o21.1 - (2 : Int32)) fun x29 => (fixN FUEL (fun (self38 : (Int32 × Int32 × Int32 × Int32 × Int32 × Int32 × (Nat → Int32) × (Nat → Int32)) → Option (Int32 × Int32 × Int32 × Int32 × Int32 × (Nat → Int32) × (Nat → Int32))) (z38 : Int32 × Int32 × Int32 × Int32 × Int32 × Int32 × (Nat → Int32) × (Nat → Int32)) => (fun (x30 : Int32) (x31 : Int32) (v32 : Int32) (v33 : Int32) (v34 : Int32) (v35 : Int32) (g36 : (Nat → Int32)) (g37 : (Nat → Int32)) => (if x31 < (0 : Int32) then some (x30, v32, v33, v34, v35, g36, g37) else (lf_X0_code_X1 v32 i_p0_end v33 v34 v35 n_p0_bytes t_p0_bytes g36 g37 ((s11 >>> (x31 &&& 31)) &&& (1 : Int32)) (-1 : Int32)).bind fun o40 => bnd ((x30 * (2 : Int32)) + o40.1) fun x41 => bnd (x31 + (-1 : Int32)) fun x42 => self38 (x41, x42, o40.2.1, o40.2.2.1, o40.2.2.2.1, o40.2.2.2.2.1, o40.2.2.2.2.2.1, o40.2.2.2.2.2.2))) z38.1 z38.2.1 z38.2.2.1 z38.2.2.2.1 z38.2.2.2.2.1 z38.2.2.2.2.2.1 z38.2.2.2.2.2.2.1 z38.2.2.2.2.2.2.2) ((1 : Int32), x29, o21.2.1, o21.2.2.1, o21.2.2.2.1, o21.2.2.2.2.1, o21.2.2.2.2.2.1, o21.2.2.2.2.2.2)).bind fun o38 => (if o9.1 = (1 : Int32) then some ((-o38.1), o38.2.1, o38.2.2.1, o38.2.2.2.1, o38.2.2.2.2.1, o38.2.2.2.2.2.1, o38.2.2.2.2.2.2) else some (o38.1, o38.2.1, o38.2.2.1, o38.2.2.2.1, o38.2.2.2.2.1, o38.2.2.2.2.2.1, o38.2.2.2.2.2.2))) z12) (fun k12 => (if (0 : Int32) ≤ p1 then k12 p1 else k12 (-p1)))) z8) (fun k8 => (if (0 : Int32) ≤ p1 then k8 (0 : Int32) else k8 (1 : Int32))))) z3) (fun k3 => (if p1 = (0 : Int32) then k3 (0 : Int32) else k3 (1 : Int32)))
abbrev rm_X8_codeLevel_X1 : Room := { frames := 2, cells := 0, slots := 0, locals := 50 }
theorem hd_X8_codeLevel_X1 : yX8_codeLevel.cls ≠ "java/lang/invoke/MethodHandle" ∧ yX8_codeLevel.cls ≠ "java/lang/invoke/VarHandle" ∧ (parseMethodDescriptor yX8_codeLevel.desc).map (fun d => d.parameters.length) = some 3 := by decide +kernel
set_option maxHeartbeats 4000000 in
set_option maxRecDepth 100000 in
theorem ct_X8_codeLevel_X1 (l : Launch) (G : gG) (h_p0 : Nat) (r_p0 : Nat → Nat) (q_p0_bytes n_p0_bytes : Nat) (i_p0_low i_p0_high i_p0_position i_p0_end i_p0_code : Int32) (t_p0_bytes t_p0_ones t_p0_zeros : Nat → Int32) (p1 p2 : Int32) (sz : Nat) (out : Int32 × Int32 × Int32 × Int32 × Int32 × (Nat → Int32) × (Nat → Int32)) (hf : lf_X8_codeLevel_X1 i_p0_code i_p0_end i_p0_high i_p0_low i_p0_position n_p0_bytes t_p0_bytes t_p0_ones t_p0_zeros p1 p2 = some out) : gI l G yX8_codeLevel cX8_codeLevel 9 .int rm_X8_codeLevel_X1 [.ref h_p0, .int p1, .int p2] sz [(h_p0, .inr (0, FX1 r_p0 q_p0_bytes i_p0_low i_p0_high i_p0_position i_p0_end i_p0_code)), ((r_p0 2), gA G 20 t_p0_zeros), ((r_p0 3), gA G 20 t_p0_ones), (q_p0_bytes, gA G n_p0_bytes t_p0_bytes)] out.1 [(h_p0, .inr (0, FX1 r_p0 q_p0_bytes out.2.2.2.1 out.2.2.1 out.2.2.2.2.1 i_p0_end out.2.1)), ((r_p0 2), gA G 20 out.2.2.2.2.2.2), ((r_p0 3), gA G 20 out.2.2.2.2.2.1), (q_p0_bytes, gA G n_p0_bytes t_p0_bytes)] := by
  refine gI_of (by decide +kernel) (Nat.le_of_ble_eq_true rfl) ?_
  intro p e s m args below meth c ls A Q X hK hA hsz hH hl hE
  subst hsz
  have hx := X.1
  have hb := X.2.1
  unfold lf_X8_codeLevel_X1 at hf
  have hl : lv_has ls 9 [(0, .ref h_p0), (1, .int p1), (2, .int p2)] := hl
  have hH : gH G A s.heap s.heap [] [(h_p0, .inr (0, FX1 r_p0 q_p0_bytes i_p0_low i_p0_high i_p0_position i_p0_end i_p0_code)), ((r_p0 2), gA G 20 t_p0_zeros), ((r_p0 3), gA G 20 t_p0_ones), (q_p0_bytes, gA G n_p0_bytes t_p0_bytes)] := hH
  refine lv_aload_n hx hb dX8_codeLevel_0 rfl (lv_at hl 0 rfl) ?_
  refine lv_iload_n hx hb dX8_codeLevel_1 rfl (lv_at hl 1 rfl) ?_
  obtain ⟨k3, hk3, hf⟩ := sjn hf
  have J3 : ∀ (s2 : Int32) (H : Heap) (locs : List Loc) (ls : Array Slot), k3 s2 = some out → gH G A s.heap H locs [(h_p0, .inr (0, FX1 r_p0 q_p0_bytes i_p0_low i_p0_high i_p0_position i_p0_end i_p0_code)), ((r_p0 2), gA G 20 t_p0_zeros), ((r_p0 3), gA G 20 t_p0_ones), (q_p0_bytes, gA G n_p0_bytes t_p0_bytes)] → lv_has ls 9 [(0, .ref h_p0), (1, .int p1), (2, .int p2)] → W p l e rm_X8_codeLevel_X1 s m args below meth c H locs 0 0 Q (F0 m 10 ls [.int s2, .ref h_p0]) := by
    intro s2 H locs ls hf hH hl
    have hf := hk3 _ _ hf
    refine lv_iload_n hx hb dX8_codeLevel_10 rfl (lv_at hl 2 rfl) ?_
    obtain ⟨o4, ho4, hf⟩ := sbind hf
    refine g_cVi (isC := [0, 1, 2, 3]) (isR := []) (isP := [0, 1, 2, 3]) (wr := []) (w2 := [(h_p0, .inr (0, FX1 r_p0 q_p0_bytes o4.2.2.2.1 o4.2.2.1 o4.2.2.2.2.1 i_p0_end o4.2.1)), ((r_p0 2), gA G 20 o4.2.2.2.2.2.2), ((r_p0 3), gA G 20 o4.2.2.2.2.2.1), (q_p0_bytes, gA G n_p0_bytes t_p0_bytes)]) (q0 := 0) X hK hA hH hl (ct_X0_code_X1 l G h_p0 r_p0 q_p0_bytes n_p0_bytes i_p0_low i_p0_high i_p0_position i_p0_end i_p0_code t_p0_bytes t_p0_ones t_p0_zeros s2 p2 H.size o4 ho4) ⟨q_7, q_563, hd_X0_code_X1, rfl, rfl, ⟨Nat.le_of_ble_eq_true rfl, Nat.le_of_ble_eq_true rfl⟩, ⟨Nat.zero_le _, Nat.zero_le _⟩⟩ q_558 q_559 q_561 rfl rfl ⟨rfl, rfl, rfl, rfl, by decide, rfl, rfl⟩ rfl rfl (Nat.le_of_ble_eq_true rfl) dX8_codeLevel_11 (fun H locs hH => ?_)
    refine lv_if_ne (tgt := 19) hx hb dX8_codeLevel_14 (by decide) (fun c5 => ?_) (fun c5 => ?_)
    · have hf := sneg hf c5
      refine lv_aload_n hx hb dX8_codeLevel_19 rfl (lv_at hl 0 rfl) ?_
      refine lv_iload_n hx hb dX8_codeLevel_20 rfl (lv_at hl 1 rfl) ?_
      obtain ⟨k8, hk8, hf⟩ := sjn hf
      have J8 : ∀ (s7 : Int32) (H : Heap) (locs : List Loc) (ls : Array Slot), k8 s7 = some out → gH G A s.heap H locs [(h_p0, .inr (0, FX1 r_p0 q_p0_bytes o4.2.2.2.1 o4.2.2.1 o4.2.2.2.2.1 i_p0_end o4.2.1)), ((r_p0 2), gA G 20 o4.2.2.2.2.2.2), ((r_p0 3), gA G 20 o4.2.2.2.2.2.1), (q_p0_bytes, gA G n_p0_bytes t_p0_bytes)] → lv_has ls 9 [(0, .ref h_p0), (1, .int p1)] → W p l e rm_X8_codeLevel_X1 s m args below meth c H locs 0 0 Q (F0 m 29 ls [.int s7, .ref h_p0]) := by
        intro s7 H locs ls hf hH hl
        have hf := hk8 _ _ hf
        refine lv_bipush (v := (8 : Int32)) hx hb dX8_codeLevel_29 (by decide) ?_
        obtain ⟨o9, ho9, hf⟩ := sbind hf
        refine g_cVi (isC := [0, 1, 2, 3]) (isR := []) (isP := [0, 1, 2, 3]) (wr := []) (w2 := [(h_p0, .inr (0, FX1 r_p0 q_p0_bytes o9.2.2.2.1 o9.2.2.1 o9.2.2.2.2.1 i_p0_end o9.2.1)), ((r_p0 2), gA G 20 o9.2.2.2.2.2.2), ((r_p0 3), gA G 20 o9.2.2.2.2.2.1), (q_p0_bytes, gA G n_p0_bytes t_p0_bytes)]) (q0 := 0) X hK hA hH hl (ct_X0_code_X1 l G h_p0 r_p0 q_p0_bytes n_p0_bytes o4.2.2.2.1 o4.2.2.1 o4.2.2.2.2.1 i_p0_end o4.2.1 t_p0_bytes o4.2.2.2.2.2.1 o4.2.2.2.2.2.2 s7 (8 : Int32) H.size o9 ho9) ⟨q_7, q_563, hd_X0_code_X1, rfl, rfl, ⟨Nat.le_of_ble_eq_true rfl, Nat.le_of_ble_eq_true rfl⟩, ⟨Nat.zero_le _, Nat.zero_le _⟩⟩ q_558 q_559 q_561 rfl rfl ⟨rfl, rfl, rfl, rfl, by decide, rfl, rfl⟩ rfl rfl (Nat.le_of_ble_eq_true rfl) dX8_codeLevel_31 (fun H locs hH => ?_)
        refine lv_istore_n (lv' := [(3, .int o9.1), (0, .ref h_p0), (1, .int p1)]) hx hb dX8_codeLevel_34 rfl hl (by decide) rfl (fun ls hl => ?_)
        refine lv_iload_n hx hb dX8_codeLevel_35 rfl (lv_at hl 2 rfl) ?_
        obtain ⟨k12, hk12, hf⟩ := sjn hf
        have J12 : ∀ (s11 : Int32) (H : Heap) (locs : List Loc) (ls : Array Slot), k12 s11 = some out → gH G A s.heap H locs [(h_p0, .inr (0, FX1 r_p0 q_p0_bytes o9.2.2.2.1 o9.2.2.1 o9.2.2.2.2.1 i_p0_end o9.2.1)), ((r_p0 2), gA G 20 o9.2.2.2.2.2.2), ((r_p0 3), gA G 20 o9.2.2.2.2.2.1), (q_p0_bytes, gA G n_p0_bytes t_p0_bytes)] → lv_has ls 9 [(0, .ref h_p0), (3, .int o9.1)] → W p l e rm_X8_codeLevel_X1 s m args below meth c H locs 0 0 Q (F0 m 45 ls [.int s11]) := by
          intro s11 H locs ls hf hH hl
          have hf := hk12 _ _ hf
          refine lv_istore (lv' := [(4, .int s11), (0, .ref h_p0), (3, .int o9.1)]) hx hb dX8_codeLevel_45 hl (by decide) rfl (fun ls hl => ?_)
          refine lv_iload hx hb dX8_codeLevel_47 (lv_at hl 0 rfl) ?_
          obtain ⟨o13, ho13, hf⟩ := sbind hf
          refine g_cSi (isC := []) (isR := [0, 1, 2, 3]) (isP := [0, 1, 2, 3]) (wr := [(h_p0, .inr (0, FX1 r_p0 q_p0_bytes o9.2.2.2.1 o9.2.2.1 o9.2.2.2.2.1 i_p0_end o9.2.1)), ((r_p0 2), gA G 20 o9.2.2.2.2.2.2), ((r_p0 3), gA G 20 o9.2.2.2.2.2.1), (q_p0_bytes, gA G n_p0_bytes t_p0_bytes)]) (w2 := [(h_p0, .inr (0, FX1 r_p0 q_p0_bytes o9.2.2.2.1 o9.2.2.1 o9.2.2.2.2.1 i_p0_end o9.2.1)), ((r_p0 2), gA G 20 o9.2.2.2.2.2.2), ((r_p0 3), gA G 20 o9.2.2.2.2.2.1), (q_p0_bytes, gA G n_p0_bytes t_p0_bytes)]) X hK hA hH hl (ct_X8_digitsOf l G s11 H.size o13 ho13) ⟨q_1, q_615, hd_X8_digitsOf, rfl, rfl, ⟨Nat.le_of_ble_eq_true rfl, Nat.le_of_ble_eq_true rfl⟩, ⟨Nat.zero_le _, Nat.zero_le _⟩⟩ q_613 q_614 ⟨rfl, rfl, rfl, rfl, by decide, rfl, rfl⟩ rfl rfl (Nat.le_of_ble_eq_true rfl) dX8_codeLevel_49 (fun H locs hH => ?_)
          refine lv_istore (lv' := [(5, .int o13), (4, .int s11), (0, .ref h_p0), (3, .int o9.1)]) hx hb dX8_codeLevel_52 hl (by decide) rfl (fun ls hl => ?_)
          refine lv_iconst (v := (1 : Int32)) hx hb dX8_codeLevel_54 (by decide) ?_
          refine lv_istore (lv' := [(6, .int (1 : Int32)), (5, .int o13), (4, .int s11), (0, .ref h_p0), (3, .int o9.1)]) hx hb dX8_codeLevel_55 hl (by decide) rfl (fun ls hl => ?_)
          obtain ⟨o21, ho21, hf⟩ := sbind hf
          obtain ⟨FF21, hFF21, ho21⟩ := sfix ho21
          have L21 : ∀ (n : Nat) (x14 : Int32) (v15 : Int32) (v16 : Int32) (v17 : Int32) (v18 : Int32) (g19 : (Nat → Int32)) (g20 : (Nat → Int32)) (b21 : Int32 × Int32 × Int32 × Int32 × Int32 × (Nat → Int32) × (Nat → Int32)) (H : Heap) (locs : List Loc) (ls : Array Slot), fixN n FF21 (x14, v15, v16, v17, v18, g19, g20) = some b21 → gH G A s.heap H locs [(h_p0, .inr (0, FX1 r_p0 q_p0_bytes v17 v16 v18 i_p0_end v15)), ((r_p0 2), gA G 20 g20), ((r_p0 3), gA G 20 g19), (q_p0_bytes, gA G n_p0_bytes t_p0_bytes)] → lv_has ls 9 [(0, .ref h_p0), (3, .int o9.1), (4, .int s11), (5, .int o13), (6, .int x14)] → (∀ (H : Heap) (locs : List Loc) (ls : Array Slot), gH G A s.heap H locs [(h_p0, .inr (0, FX1 r_p0 q_p0_bytes b21.2.2.2.1 b21.2.2.1 b21.2.2.2.2.1 i_p0_end b21.2.1)), ((r_p0 2), gA G 20 b21.2.2.2.2.2.2), ((r_p0 3), gA G 20 b21.2.2.2.2.2.1), (q_p0_bytes, gA G n_p0_bytes t_p0_bytes)] → lv_has ls 9 [(0, .ref h_p0), (3, .int o9.1), (4, .int s11), (6, .int b21.1)] → W p l e rm_X8_codeLevel_X1 s m args below meth c H locs 0 0 Q (F0 m 95 ls [])) → W p l e rm_X8_codeLevel_X1 s m args below meth c H locs 0 0 Q (F0 m 57 ls []) := by
            intro n
            induction n with
            | zero => intro x14 v15 v16 v17 v18 g19 g20 b21 H locs ls hf; exact sfix0 hf
            | succ n ih =>
              intro x14 v15 v16 v17 v18 g19 g20 b21 H locs ls hf hH hl KK
              obtain ⟨self21, hself21, hf⟩ := sstep hFF21 hf
              refine lv_iload hx hb dX8_codeLevel_57 (lv_at hl 4 rfl) ?_
              refine lv_bipush (v := (12 : Int32)) hx hb dX8_codeLevel_59 (by decide) ?_
              refine lv_icmp_ge (tgt := 95) hx hb dX8_codeLevel_61 (by decide) (fun c22 => ?_) (fun c22 => ?_)
              · have hf := spos hf c22
                obtain rfl := Option.some.inj hf
                exact KK _ _ _ hH (lv_sub hl [0, 1, 2, 4] rfl)
              · have hf := sneg hf c22
                refine lv_aload_n hx hb dX8_codeLevel_64 rfl (lv_at hl 0 rfl) ?_
                refine lv_iload hx hb dX8_codeLevel_65 (lv_at hl 3 rfl) ?_
                refine lv_iload hx hb dX8_codeLevel_67 (lv_at hl 4 rfl) ?_
                obtain ⟨k25, hk25, hf⟩ := sjn hf
                have J25 : ∀ (s24 : Int32) (H : Heap) (locs : List Loc) (ls : Array Slot), k25 s24 = some b21 → gH G A s.heap H locs [(h_p0, .inr (0, FX1 r_p0 q_p0_bytes v17 v16 v18 i_p0_end v15)), ((r_p0 2), gA G 20 g20), ((r_p0 3), gA G 20 g19), (q_p0_bytes, gA G n_p0_bytes t_p0_bytes)] → lv_has ls 9 [(0, .ref h_p0), (3, .int o9.1), (4, .int s11), (5, .int o13), (6, .int x14)] → W p l e rm_X8_codeLevel_X1 s m args below meth c H locs 0 0 Q (F0 m 77 ls [.int s24, .ref h_p0]) := by
                  intro s24 H locs ls hf hH hl
                  have hf := hk25 _ _ hf
                  refine lv_bipush (v := (8 : Int32)) hx hb dX8_codeLevel_77 (by decide) ?_
                  refine lv_iload hx hb dX8_codeLevel_79 (lv_at hl 4 rfl) ?_
                  refine lv_iadd hx hb dX8_codeLevel_81 ?_
                  obtain ⟨o26, ho26, hf⟩ := sbind hf
                  refine g_cVi (isC := [0, 1, 2, 3]) (isR := []) (isP := [0, 1, 2, 3]) (wr := []) (w2 := [(h_p0, .inr (0, FX1 r_p0 q_p0_bytes o26.2.2.2.1 o26.2.2.1 o26.2.2.2.2.1 i_p0_end o26.2.1)), ((r_p0 2), gA G 20 o26.2.2.2.2.2.2), ((r_p0 3), gA G 20 o26.2.2.2.2.2.1), (q_p0_bytes, gA G n_p0_bytes t_p0_bytes)]) (q0 := 0) X hK hA hH hl (ct_X0_code_X1 l G h_p0 r_p0 q_p0_bytes n_p0_bytes v17 v16 v18 i_p0_end v15 t_p0_bytes g19 g20 s24 ((8 : Int32) + x14) H.size o26 ho26) ⟨q_7, q_563, hd_X0_code_X1, rfl, rfl, ⟨Nat.le_of_ble_eq_true rfl, Nat.le_of_ble_eq_true rfl⟩, ⟨Nat.zero_le _, Nat.zero_le _⟩⟩ q_558 q_559 q_561 rfl rfl ⟨rfl, rfl, rfl, rfl, by decide, rfl, rfl⟩ rfl rfl (Nat.le_of_ble_eq_true rfl) dX8_codeLevel_82 (fun H locs hH => ?_)
                  refine lv_iconst (v := (1 : Int32)) hx hb dX8_codeLevel_85 (by decide) ?_
                  refine lv_icmp_ne (tgt := 95) hx hb dX8_codeLevel_86 (by decide) (fun c27 => ?_) (fun c27 => ?_)
                  · have hf := sneg hf c27
                    obtain rfl := Option.some.inj hf
                    exact KK _ _ _ hH (lv_sub hl [0, 1, 2, 4] rfl)
                  · have hf := spos hf c27
                    obtain ⟨x28, ex28⟩ : ∃ y : Int32, y = (x14 + (1 : Int32)) := ⟨_, rfl⟩
                    have hf := sbnd hf x28 ex28
                    refine lv_iinc (v := x28) (lv' := [(6, .int x28), (0, .ref h_p0), (3, .int o9.1), (4, .int s11), (5, .int o13)]) hx hb dX8_codeLevel_89 hl (k := 4) rfl (by rw [ex28]; rfl) (by decide) rfl (fun ls hl => ?_)
                    refine lv_goto (tgt := 57) hx hb dX8_codeLevel_92 (by decide) ?_
                    exact ih x28 o26.2.1 o26.2.2.1 o26.2.2.2.1 o26.2.2.2.2.1 o26.2.2.2.2.2.1 o26.2.2.2.2.2.2 _ _ _ _ (hself21 _ _ hf) hH (lv_sub hl [1, 2, 3, 4, 0] rfl) KK
                refine lv_icmp_le (tgt := 76) hx hb dX8_codeLevel_69 (by decide) (fun c23 => ?_) (fun c23 => ?_)
                · have hf := spos hf c23
                  refine lv_iconst (v := (0 : Int32)) hx hb dX8_codeLevel_76 (by decide) ?_
                  exact J25 (0 : Int32) _ _ _ hf hH (lv_sub hl [0, 1, 2, 3, 4] rfl)
                · have hf := sneg hf c23
                  refine lv_iconst (v := (1 : Int32)) hx hb dX8_codeLevel_72 (by decide) ?_
                  refine lv_goto (tgt := 77) hx hb dX8_codeLevel_73 (by decide) ?_
                  exact J25 (1 : Int32) _ _ _ hf hH (lv_sub hl [0, 1, 2, 3, 4] rfl)
          refine L21 FUEL (1 : Int32) o9.2.1 o9.2.2.1 o9.2.2.2.1 o9.2.2.2.2.1 o9.2.2.2.2.2.1 o9.2.2.2.2.2.2 o21 _ _ _ ho21 hH (lv_sub hl [3, 4, 2, 1, 0] rfl) (fun H locs ls hH hl => ?_)
          refine lv_iconst (v := (1 : Int32)) hx hb dX8_codeLevel_95 (by decide) ?_
          refine lv_istore (lv' := [(7, .int (1 : Int32)), (0, .ref h_p0), (3, .int o9.1), (4, .int s11), (6, .int o21.1)]) hx hb dX8_codeLevel_96 hl (by decide) rfl (fun ls hl => ?_)
          refine lv_iload hx hb dX8_codeLevel_98 (lv_at hl 4 rfl) ?_
          refine lv_iconst (v := (2 : Int32)) hx hb dX8_codeLevel_100 (by decide) ?_
          refine lv_isub hx hb dX8_codeLevel_101 ?_
          refine lv_topi (fun x29 ex29 => ?_)
          have hf := sbnd hf x29 ex29
          refine lv_istore (lv' := [(8, .int x29), (7, .int (1 : Int32)), (0, .ref h_p0), (3, .int o9.1), (4, .int s11), (6, .int o21.1)]) hx hb dX8_codeLevel_102 hl (by decide) rfl (fun ls hl => ?_)
          obtain ⟨o38, ho38, hf⟩ := sbind hf
          obtain ⟨FF38, hFF38, ho38⟩ := sfix ho38
          have L38 : ∀ (n : Nat) (x30 : Int32) (x31 : Int32) (v32 : Int32) (v33 : Int32) (v34 : Int32) (v35 : Int32) (g36 : (Nat → Int32)) (g37 : (Nat → Int32)) (b38 : Int32 × Int32 × Int32 × Int32 × Int32 × (Nat → Int32) × (Nat → Int32)) (H : Heap) (locs : List Loc) (ls : Array Slot), fixN n FF38 (x30, x31, v32, v33, v34, v35, g36, g37) = some b38 → gH G A s.heap H locs [(h_p0, .inr (0, FX1 r_p0 q_p0_bytes v34 v33 v35 i_p0_end v32)), ((r_p0 2), gA G 20 g37), ((r_p0 3), gA G 20 g36), (q_p0_bytes, gA G n_p0_bytes t_p0_bytes)] → lv_has ls 9 [(0, .ref h_p0), (3, .int o9.1), (4, .int s11), (7, .int x30), (8, .int x31)] → (∀ (H : Heap) (locs : List Loc) (ls : Array Slot), gH G A s.heap H locs [(h_p0, .inr (0, FX1 r_p0 q_p0_bytes b38.2.2.2.1 b38.2.2.1 b38.2.2.2.2.1 i_p0_end b38.2.1)), ((r_p0 2), gA G 20 b38.2.2.2.2.2.2), ((r_p0 3), gA G 20 b38.2.2.2.2.2.1), (q_p0_bytes, gA G n_p0_bytes t_p0_bytes)] → lv_has ls 9 [(3, .int o9.1), (7, .int b38.1)] → W p l e rm_X8_codeLevel_X1 s m args below meth c H locs 0 0 Q (F0 m 134 ls [])) → W p l e rm_X8_codeLevel_X1 s m args below meth c H locs 0 0 Q (F0 m 104 ls []) := by
            intro n
            induction n with
            | zero => intro x30 x31 v32 v33 v34 v35 g36 g37 b38 H locs ls hf; exact sfix0 hf
            | succ n ih =>
              intro x30 x31 v32 v33 v34 v35 g36 g37 b38 H locs ls hf hH hl KK
              obtain ⟨self38, hself38, hf⟩ := sstep hFF38 hf
              refine lv_iload hx hb dX8_codeLevel_104 (lv_at hl 4 rfl) ?_
              refine lv_if_lt (tgt := 134) hx hb dX8_codeLevel_106 (by decide) (fun c39 => ?_) (fun c39 => ?_)
              · have hf := spos hf c39
                obtain rfl := Option.some.inj hf
                exact KK _ _ _ hH (lv_sub hl [1, 3] rfl)
              · have hf := sneg hf c39
                refine lv_iload hx hb dX8_codeLevel_109 (lv_at hl 3 rfl) ?_
                refine lv_iconst (v := (2 : Int32)) hx hb dX8_codeLevel_111 (by decide) ?_
                refine lv_imul hx hb dX8_codeLevel_112 ?_
                refine lv_aload_n hx hb dX8_codeLevel_113 rfl (lv_at hl 0 rfl) ?_
                refine lv_iload hx hb dX8_codeLevel_114 (lv_at hl 2 rfl) ?_
                refine lv_iload hx hb dX8_codeLevel_116 (lv_at hl 4 rfl) ?_
                refine lv_ishr hx hb dX8_codeLevel_118 ?_
                refine lv_iconst (v := (1 : Int32)) hx hb dX8_codeLevel_119 (by decide) ?_
                refine lv_iand hx hb dX8_codeLevel_120 ?_
                refine lv_iconst (v := (-1 : Int32)) hx hb dX8_codeLevel_121 (by decide) ?_
                obtain ⟨o40, ho40, hf⟩ := sbind hf
                refine g_cVi (isC := [0, 1, 2, 3]) (isR := []) (isP := [0, 1, 2, 3]) (wr := []) (w2 := [(h_p0, .inr (0, FX1 r_p0 q_p0_bytes o40.2.2.2.1 o40.2.2.1 o40.2.2.2.2.1 i_p0_end o40.2.1)), ((r_p0 2), gA G 20 o40.2.2.2.2.2.2), ((r_p0 3), gA G 20 o40.2.2.2.2.2.1), (q_p0_bytes, gA G n_p0_bytes t_p0_bytes)]) (q0 := 0) X hK hA hH hl (ct_X0_code_X1 l G h_p0 r_p0 q_p0_bytes n_p0_bytes v34 v33 v35 i_p0_end v32 t_p0_bytes g36 g37 ((s11 >>> (x31 &&& 31)) &&& (1 : Int32)) (-1 : Int32) H.size o40 ho40) ⟨q_7, q_563, hd_X0_code_X1, rfl, rfl, ⟨Nat.le_of_ble_eq_true rfl, Nat.le_of_ble_eq_true rfl⟩, ⟨Nat.zero_le _, Nat.zero_le _⟩⟩ q_558 q_559 q_561 rfl rfl ⟨rfl, rfl, rfl, rfl, by decide, rfl, rfl⟩ rfl rfl (Nat.le_of_ble_eq_true rfl) dX8_codeLevel_122 (fun H locs hH => ?_)
                refine lv_iadd hx hb dX8_codeLevel_125 ?_
                refine lv_topi (fun x41 ex41 => ?_)
                have hf := sbnd hf x41 ex41
                refine lv_istore (lv' := [(7, .int x41), (0, .ref h_p0), (3, .int o9.1), (4, .int s11), (8, .int x31)]) hx hb dX8_codeLevel_126 hl (by decide) rfl (fun ls hl => ?_)
                obtain ⟨x42, ex42⟩ : ∃ y : Int32, y = (x31 + (-1 : Int32)) := ⟨_, rfl⟩
                have hf := sbnd hf x42 ex42
                refine lv_iinc (v := x42) (lv' := [(8, .int x42), (7, .int x41), (0, .ref h_p0), (3, .int o9.1), (4, .int s11)]) hx hb dX8_codeLevel_128 hl (k := 4) rfl (by rw [ex42]; rfl) (by decide) rfl (fun ls hl => ?_)
                refine lv_goto (tgt := 104) hx hb dX8_codeLevel_131 (by decide) ?_
                exact ih x41 x42 o40.2.1 o40.2.2.1 o40.2.2.2.1 o40.2.2.2.2.1 o40.2.2.2.2.2.1 o40.2.2.2.2.2.2 _ _ _ _ (hself38 _ _ hf) hH (lv_sub hl [2, 3, 4, 1, 0] rfl) KK
          refine L38 FUEL (1 : Int32) x29 o21.2.1 o21.2.2.1 o21.2.2.2.1 o21.2.2.2.2.1 o21.2.2.2.2.2.1 o21.2.2.2.2.2.2 o38 _ _ _ ho38 hH (lv_sub hl [2, 3, 4, 1, 0] rfl) (fun H locs ls hH hl => ?_)
          refine lv_iload_n hx hb dX8_codeLevel_134 rfl (lv_at hl 0 rfl) ?_
          refine lv_iconst (v := (1 : Int32)) hx hb dX8_codeLevel_135 (by decide) ?_
          refine lv_icmp_ne (tgt := 145) hx hb dX8_codeLevel_136 (by decide) (fun c43 => ?_) (fun c43 => ?_)
          · have hf := sneg hf c43
            refine lv_iload hx hb dX8_codeLevel_145 (lv_at hl 1 rfl) ?_
            obtain rfl := Option.some.inj hf
            exact hE _ _ _ _ rfl hH dX8_codeLevel_147
          · have hf := spos hf c43
            refine lv_iload hx hb dX8_codeLevel_139 (lv_at hl 1 rfl) ?_
            refine lv_ineg hx hb dX8_codeLevel_141 ?_
            refine lv_goto (tgt := 147) hx hb dX8_codeLevel_142 (by decide) ?_
            obtain rfl := Option.some.inj hf
            exact hE _ _ _ _ rfl hH dX8_codeLevel_147
        refine lv_if_ge (tgt := 44) hx hb dX8_codeLevel_36 (by decide) (fun c10 => ?_) (fun c10 => ?_)
        · have hf := spos hf c10
          refine lv_iload_n hx hb dX8_codeLevel_44 rfl (lv_at hl 2 rfl) ?_
          exact J12 p1 _ _ _ hf hH (lv_sub hl [1, 0] rfl)
        · have hf := sneg hf c10
          refine lv_iload_n hx hb dX8_codeLevel_39 rfl (lv_at hl 2 rfl) ?_
          refine lv_ineg hx hb dX8_codeLevel_40 ?_
          refine lv_goto (tgt := 45) hx hb dX8_codeLevel_41 (by decide) ?_
          exact J12 (-p1) _ _ _ hf hH (lv_sub hl [1, 0] rfl)
      refine lv_if_ge (tgt := 28) hx hb dX8_codeLevel_21 (by decide) (fun c6 => ?_) (fun c6 => ?_)
      · have hf := spos hf c6
        refine lv_iconst (v := (0 : Int32)) hx hb dX8_codeLevel_28 (by decide) ?_
        exact J8 (0 : Int32) _ _ _ hf hH (lv_sub hl [0, 1] rfl)
      · have hf := sneg hf c6
        refine lv_iconst (v := (1 : Int32)) hx hb dX8_codeLevel_24 (by decide) ?_
        refine lv_goto (tgt := 29) hx hb dX8_codeLevel_25 (by decide) ?_
        exact J8 (1 : Int32) _ _ _ hf hH (lv_sub hl [0, 1] rfl)
    · have hf := spos hf c5
      refine lv_iconst (v := (0 : Int32)) hx hb dX8_codeLevel_17 (by decide) ?_
      obtain rfl := Option.some.inj hf
      exact hE _ _ _ _ rfl hH dX8_codeLevel_18
  refine lv_if_eq (tgt := 9) hx hb dX8_codeLevel_2 (by decide) (fun c1 => ?_) (fun c1 => ?_)
  · have hf := spos hf c1
    refine lv_iconst (v := (0 : Int32)) hx hb dX8_codeLevel_9 (by decide) ?_
    exact J3 (0 : Int32) _ _ _ hf hH (lv_sub hl [0, 1, 2] rfl)
  · have hf := sneg hf c1
    refine lv_iconst (v := (1 : Int32)) hx hb dX8_codeLevel_5 (by decide) ?_
    refine lv_goto (tgt := 10) hx hb dX8_codeLevel_6 (by decide) ?_
    exact J3 (1 : Int32) _ _ _ hf hH (lv_sub hl [0, 1, 2] rfl)

def lf_X8_codeBlock_X1 (i_p0_code : Int32) (i_p0_end : Int32) (i_p0_high : Int32) (i_p0_low : Int32) (i_p0_position : Int32) (n_p0_bytes : Nat) (t_p0_bytes : Nat → Int32) (t_p0_ones : Nat → Int32) (t_p0_zeros : Nat → Int32) (t_p1_levels : Nat → Int32) (t_p1_modes : Nat → Int32) (t_p1_sizes : Nat → Int32) (p2 : Int32) (p3 : Int32) (p4 : Int32) : Option (Int32 × Int32 × Int32 × Int32 × (Nat → Int32) × (Nat → Int32) × (Nat → Int32) × (Nat → Int32)) :=
(lf_X4_firstCell t_p1_sizes p2 p3).bind fun o1 => (rdA 24 t_p1_modes o1).bind fun x2 => (lf_X0_code_X1 i_p0_code i_p0_end i_p0_high i_p0_low i_p0_position n_p0_bytes t_p0_bytes t_p0_ones t_p0_zeros (x2 / (2 : Int32)) (1 : Int32)).bind fun o3 => (rdA 24 t_p1_modes o1).bind fun x4 => (lf_X0_code_X1 o3.2.1 i_p0_end o3.2.2.1 o3.2.2.2.1 o3.2.2.2.2.1 n_p0_bytes t_p0_bytes o3.2.2.2.2.2.1 o3.2.2.2.2.2.2 (x4 - x4 / (2 : Int32) * (2 : Int32)) ((2 : Int32) + o3.1)).bind fun o5 => (wrA 24 t_p1_modes o1 ((o3.1 * (2 : Int32)) + o5.1)).bind fun g6 => (fixN FUEL (fun (self15 : (Int32 × Int32 × Int32 × Int32 × Int32 × (Nat → Int32) × (Nat → Int32) × (Nat → Int32)) → Option (Int32 × Int32 × Int32 × Int32 × (Nat → Int32) × (Nat → Int32) × (Nat → Int32))) (z15 : Int32 × Int32 × Int32 × Int32 × Int32 × (Nat → Int32) × (Nat → Int32) × (Nat → Int32)) => (fun (x7 : Int32) (v8 : Int32) (v9 : Int32) (v10 : Int32) (v11 : Int32) (g12 : (Nat → Int32)) (g13 : (Nat → Int32)) (g14 : (Nat → Int32)) => (if p4 ≤ x7 then some (v8, v9, v10, v11, g12, g13, g14) else (fixN FUEL (fun (self25 : (Int32 × Int32 × Int32 × Int32 × Int32 × (Nat → Int32) × (Nat → Int32) × (Nat → Int32)) → Option (Int32 × Int32 × Int32 × Int32 × (Nat → Int32) × (Nat → Int32) × (Nat → Int32))) (z25 : Int32 × Int32 × Int32 × Int32 × Int32 × (Nat → Int32) × (Nat → Int32) × (Nat → Int32)) => (fun (x17 : Int32) (v18 : Int32) (v19 : Int32) (v20 : Int32) (v21 : Int32) (g22 : (Nat → Int32)) (g23 : (Nat → Int32)) (g24 : (Nat → Int32)) => (if p4 ≤ x17 then some (v18, v19, v20, v21, g22, g23, g24) else bnd ((((p3 + x7) * (16 : Int32)) + p2) + x17) fun x27 => (lf_X8_levelContext 384 g24 x27 x7 x17).bind fun o28 => (rdA 384 g24 x27).bind fun x29 => (lf_X8_codeLevel_X1 v18 i_p0_end v19 v20 v21 n_p0_bytes t_p0_bytes g22 g23 x29 o28).bind fun o30 => (wrA 384 g24 x27 o30.1).bind fun g31 => bnd (x17 + (1 : Int32)) fun x32 => self25 (x32, o30.2.1, o30.2.2.1, o30.2.2.2.1, o30.2.2.2.2.1, o30.2.2.2.2.2.1, o30.2.2.2.2.2.2, g31))) z25.1 z25.2.1 z25.2.2.1 z25.2.2.2.1 z25.2.2.2.2.1 z25.2.2.2.2.2.1 z25.2.2.2.2.2.2.1 z25.2.2.2.2.2.2.2) ((0 : Int32), v8, v9, v10, v11, g12, g13, g14)).bind fun o25 => bnd (x7 + (1 : Int32)) fun x33 => self15 (x33, o25.1, o25.2.1, o25.2.2.1, o25.2.2.2.1, o25.2.2.2.2.1, o25.2.2.2.2.2.1, o25.2.2.2.2.2.2))) z15.1 z15.2.1 z15.2.2.1 z15.2.2.2.1 z15.2.2.2.2.1 z15.2.2.2.2.2.1 z15.2.2.2.2.2.2.1 z15.2.2.2.2.2.2.2) ((0 : Int32), o5.2.1, o5.2.2.1, o5.2.2.2.1, o5.2.2.2.2.1, o5.2.2.2.2.2.1, o5.2.2.2.2.2.2, t_p1_levels)).bind fun o15 => some (o15.1, o15.2.1, o15.2.2.1, o15.2.2.2.1, o15.2.2.2.2.1, o15.2.2.2.2.2.1, o15.2.2.2.2.2.2, g6)
abbrev rm_X8_codeBlock_X1 : Room := { frames := 3, cells := 0, slots := 0, locals := 78 }
theorem hd_X8_codeBlock_X1 : yX8_codeBlock.cls ≠ "java/lang/invoke/MethodHandle" ∧ yX8_codeBlock.cls ≠ "java/lang/invoke/VarHandle" ∧ (parseMethodDescriptor yX8_codeBlock.desc).map (fun d => d.parameters.length) = some 5 := by decide +kernel
set_option maxHeartbeats 4000000 in
set_option maxRecDepth 100000 in
theorem ct_X8_codeBlock_X1 (l : Launch) (G : gG) (h_p0 h_p1 : Nat) (r_p0 r_p1 : Nat → Nat) (q_p0_bytes n_p0_bytes : Nat) (i_p0_low i_p0_high i_p0_position i_p0_end i_p0_code i_p1_step i_p1_blockCount : Int32) (t_p0_bytes t_p0_ones t_p0_zeros t_p1_levels t_p1_modes t_p1_sizes : Nat → Int32) (p2 p3 p4 : Int32) (sz : Nat) (out : Int32 × Int32 × Int32 × Int32 × (Nat → Int32) × (Nat → Int32) × (Nat → Int32) × (Nat → Int32)) (hf : lf_X8_codeBlock_X1 i_p0_code i_p0_end i_p0_high i_p0_low i_p0_position n_p0_bytes t_p0_bytes t_p0_ones t_p0_zeros t_p1_levels t_p1_modes t_p1_sizes p2 p3 p4 = some out) : gV l G yX8_codeBlock cX8_codeBlock 12 rm_X8_codeBlock_X1 [.ref h_p0, .ref h_p1, .int p2, .int p3, .int p4] sz [(h_p0, .inr (0, FX1 r_p0 q_p0_bytes i_p0_low i_p0_high i_p0_position i_p0_end i_p0_code)), ((r_p0 2), gA G 20 t_p0_zeros), ((r_p0 3), gA G 20 t_p0_ones), (q_p0_bytes, gA G n_p0_bytes t_p0_bytes), (h_p1, .inr (3, FX4 r_p1 i_p1_step i_p1_blockCount)), ((r_p1 3), gA G 6 t_p1_sizes), ((r_p1 4), gA G 24 t_p1_modes), ((r_p1 6), gA G 384 t_p1_levels)] [(h_p0, .inr (0, FX1 r_p0 q_p0_bytes out.2.2.1 out.2.1 out.2.2.2.1 i_p0_end out.1)), ((r_p0 2), gA G 20 out.2.2.2.2.2.1), ((r_p0 3), gA G 20 out.2.2.2.2.1), (q_p0_bytes, gA G n_p0_bytes t_p0_bytes), (h_p1, .inr (3, FX4 r_p1 i_p1_step i_p1_blockCount)), ((r_p1 3), gA G 6 t_p1_sizes), ((r_p1 4), gA G 24 out.2.2.2.2.2.2.2), ((r_p1 6), gA G 384 out.2.2.2.2.2.2.1)] := by
  refine gV_of (by decide +kernel) (Nat.le_of_ble_eq_true rfl) ?_
  intro p e s m args below meth c ls A Q X hK hA hsz hH hl hE
  subst hsz
  have hx := X.1
  have hb := X.2.1
  unfold lf_X8_codeBlock_X1 at hf
  have hl : lv_has ls 12 [(0, .ref h_p0), (1, .ref h_p1), (2, .int p2), (3, .int p3), (4, .int p4)] := hl
  have hH : gH G A s.heap s.heap [] [(h_p0, .inr (0, FX1 r_p0 q_p0_bytes i_p0_low i_p0_high i_p0_position i_p0_end i_p0_code)), ((r_p0 2), gA G 20 t_p0_zeros), ((r_p0 3), gA G 20 t_p0_ones), (q_p0_bytes, gA G n_p0_bytes t_p0_bytes), (h_p1, .inr (3, FX4 r_p1 i_p1_step i_p1_blockCount)), ((r_p1 3), gA G 6 t_p1_sizes), ((r_p1 4), gA G 24 t_p1_modes), ((r_p1 6), gA G 384 t_p1_levels)] := hH
  refine lv_aload_n hx hb dX8_codeBlock_0 rfl (lv_at hl 1 rfl) ?_
  refine lv_iload_n hx hb dX8_codeBlock_1 rfl (lv_at hl 2 rfl) ?_
  refine lv_iload_n hx hb dX8_codeBlock_2 rfl (lv_at hl 3 rfl) ?_
  obtain ⟨o1, ho1, hf⟩ := sbind hf
  refine g_cVi (isC := [4, 5]) (isR := [0, 1, 2, 3, 6, 7]) (isP := [0, 1, 2, 3, 6, 7, 4, 5]) (wr := [(h_p0, .inr (0, FX1 r_p0 q_p0_bytes i_p0_low i_p0_high i_p0_position i_p0_end i_p0_code)), ((r_p0 2), gA G 20 t_p0_zeros), ((r_p0 3), gA G 20 t_p0_ones), (q_p0_bytes, gA G n_p0_bytes t_p0_bytes), ((r_p1 4), gA G 24 t_p1_modes), ((r_p1 6), gA G 384 t_p1_levels)]) (w2 := [(h_p0, .inr (0, FX1 r_p0 q_p0_bytes i_p0_low i_p0_high i_p0_position i_p0_end i_p0_code)), ((r_p0 2), gA G 20 t_p0_zeros), ((r_p0 3), gA G 20 t_p0_ones), (q_p0_bytes, gA G n_p0_bytes t_p0_bytes), (h_p1, .inr (3, FX4 r_p1 i_p1_step i_p1_blockCount)), ((r_p1 3), gA G 6 t_p1_sizes), ((r_p1 4), gA G 24 t_p1_modes), ((r_p1 6), gA G 384 t_p1_levels)]) (q0 := 4) X hK hA hH hl (ct_X4_firstCell l G h_p1 r_p1 i_p1_step i_p1_blockCount t_p1_sizes p2 p3 s.heap.size o1 ho1) ⟨q_4, q_605, hd_X4_firstCell, rfl, rfl, ⟨Nat.le_of_ble_eq_true rfl, Nat.le_of_ble_eq_true rfl⟩, ⟨Nat.zero_le _, Nat.zero_le _⟩⟩ q_602 q_603 q_604 rfl rfl ⟨rfl, rfl, rfl, rfl, by decide, rfl, rfl⟩ rfl rfl (Nat.le_of_ble_eq_true rfl) dX8_codeBlock_3 (fun H locs hH => ?_)
  refine lv_istore (lv' := [(5, .int o1), (0, .ref h_p0), (1, .ref h_p1), (2, .int p2), (3, .int p3), (4, .int p4)]) hx hb dX8_codeBlock_6 hl (by decide) rfl (fun ls hl => ?_)
  refine lv_aload_n hx hb dX8_codeBlock_8 rfl (lv_at hl 1 rfl) ?_
  refine lv_aload_n hx hb dX8_codeBlock_9 rfl (lv_at hl 2 rfl) ?_
  refine g_getN (T := TX4) (N := 10) (ci := 3) (C := RX4) (v := .ref (r_p1 4)) X hK hH in_RX4 4 rfl rfl 4 (by decide) qn_124 (fun _ h9 => h9) rfl dX8_codeBlock_10 ?_
  refine lv_iload hx hb dX8_codeBlock_13 (lv_at hl 0 rfl) ?_
  obtain ⟨x2, hx2, hf⟩ := sbind hf
  refine g_ald X hK hH 6 rfl hx2 dX8_codeBlock_15 ?_
  refine lv_iconst (v := (2 : Int32)) hx hb dX8_codeBlock_16 (by decide) ?_
  refine lv_idiv hx hb dX8_codeBlock_17 (by decide) ?_
  refine lv_iconst (v := (1 : Int32)) hx hb dX8_codeBlock_18 (by decide) ?_
  obtain ⟨o3, ho3, hf⟩ := sbind hf
  refine g_cVi (isC := [0, 1, 2, 3]) (isR := [4, 5, 6, 7]) (isP := [4, 5, 6, 7, 0, 1, 2, 3]) (wr := [(h_p1, .inr (3, FX4 r_p1 i_p1_step i_p1_blockCount)), ((r_p1 3), gA G 6 t_p1_sizes), ((r_p1 4), gA G 24 t_p1_modes), ((r_p1 6), gA G 384 t_p1_levels)]) (w2 := [(h_p0, .inr (0, FX1 r_p0 q_p0_bytes o3.2.2.2.1 o3.2.2.1 o3.2.2.2.2.1 i_p0_end o3.2.1)), ((r_p0 2), gA G 20 o3.2.2.2.2.2.2), ((r_p0 3), gA G 20 o3.2.2.2.2.2.1), (q_p0_bytes, gA G n_p0_bytes t_p0_bytes), (h_p1, .inr (3, FX4 r_p1 i_p1_step i_p1_blockCount)), ((r_p1 3), gA G 6 t_p1_sizes), ((r_p1 4), gA G 24 t_p1_modes), ((r_p1 6), gA G 384 t_p1_levels)]) (q0 := 0) X hK hA hH hl (ct_X0_code_X1 l G h_p0 r_p0 q_p0_bytes n_p0_bytes i_p0_low i_p0_high i_p0_position i_p0_end i_p0_code t_p0_bytes t_p0_ones t_p0_zeros (x2 / (2 : Int32)) (1 : Int32) H.size o3 ho3) ⟨q_7, q_563, hd_X0_code_X1, rfl, rfl, ⟨Nat.le_of_ble_eq_true rfl, Nat.le_of_ble_eq_true rfl⟩, ⟨Nat.zero_le _, Nat.zero_le _⟩⟩ q_558 q_559 q_561 rfl rfl ⟨rfl, rfl, rfl, rfl, by decide, rfl, rfl⟩ rfl rfl (Nat.le_of_ble_eq_true rfl) dX8_codeBlock_19 (fun H locs hH => ?_)
  refine lv_istore (lv' := [(6, .int o3.1), (5, .int o1), (0, .ref h_p0), (1, .ref h_p1), (2, .int p2), (3, .int p3), (4, .int p4)]) hx hb dX8_codeBlock_22 hl (by decide) rfl (fun ls hl => ?_)
  refine lv_aload_n hx hb dX8_codeBlock_24 rfl (lv_at hl 2 rfl) ?_
  refine lv_aload_n hx hb dX8_codeBlock_25 rfl (lv_at hl 3 rfl) ?_
  refine g_getN (T := TX4) (N := 10) (ci := 3) (C := RX4) (v := .ref (r_p1 4)) X hK hH in_RX4 4 rfl rfl 4 (by decide) qn_124 (fun _ h9 => h9) rfl dX8_codeBlock_26 ?_
  refine lv_iload hx hb dX8_codeBlock_29 (lv_at hl 1 rfl) ?_
  obtain ⟨x4, hx4, hf⟩ := sbind hf
  refine g_ald X hK hH 6 rfl hx4 dX8_codeBlock_31 ?_
  refine lv_iconst (v := (2 : Int32)) hx hb dX8_codeBlock_32 (by decide) ?_
  refine lv_irem hx hb dX8_codeBlock_33 (by decide) ?_
  refine lv_iconst (v := (2 : Int32)) hx hb dX8_codeBlock_34 (by decide) ?_
  refine lv_iload hx hb dX8_codeBlock_35 (lv_at hl 0 rfl) ?_
  refine lv_iadd hx hb dX8_codeBlock_37 ?_
  obtain ⟨o5, ho5, hf⟩ := sbind hf
  refine g_cVi (isC := [0, 1, 2, 3]) (isR := [4, 5, 6, 7]) (isP := [4, 5, 6, 7, 0, 1, 2, 3]) (wr := [(h_p1, .inr (3, FX4 r_p1 i_p1_step i_p1_blockCount)), ((r_p1 3), gA G 6 t_p1_sizes), ((r_p1 4), gA G 24 t_p1_modes), ((r_p1 6), gA G 384 t_p1_levels)]) (w2 := [(h_p0, .inr (0, FX1 r_p0 q_p0_bytes o5.2.2.2.1 o5.2.2.1 o5.2.2.2.2.1 i_p0_end o5.2.1)), ((r_p0 2), gA G 20 o5.2.2.2.2.2.2), ((r_p0 3), gA G 20 o5.2.2.2.2.2.1), (q_p0_bytes, gA G n_p0_bytes t_p0_bytes), (h_p1, .inr (3, FX4 r_p1 i_p1_step i_p1_blockCount)), ((r_p1 3), gA G 6 t_p1_sizes), ((r_p1 4), gA G 24 t_p1_modes), ((r_p1 6), gA G 384 t_p1_levels)]) (q0 := 0) X hK hA hH hl (ct_X0_code_X1 l G h_p0 r_p0 q_p0_bytes n_p0_bytes o3.2.2.2.1 o3.2.2.1 o3.2.2.2.2.1 i_p0_end o3.2.1 t_p0_bytes o3.2.2.2.2.2.1 o3.2.2.2.2.2.2 (x4 - x4 / (2 : Int32) * (2 : Int32)) ((2 : Int32) + o3.1) H.size o5 ho5) ⟨q_7, q_563, hd_X0_code_X1, rfl, rfl, ⟨Nat.le_of_ble_eq_true rfl, Nat.le_of_ble_eq_true rfl⟩, ⟨Nat.zero_le _, Nat.zero_le _⟩⟩ q_558 q_559 q_561 rfl rfl ⟨rfl, rfl, rfl, rfl, by decide, rfl, rfl⟩ rfl rfl (Nat.le_of_ble_eq_true rfl) dX8_codeBlock_38 (fun H locs hH => ?_)
  refine lv_istore (lv' := [(7, .int o5.1), (6, .int o3.1), (5, .int o1), (0, .ref h_p0), (1, .ref h_p1), (2, .int p2), (3, .int p3), (4, .int p4)]) hx hb dX8_codeBlock_41 hl (by decide) rfl (fun ls hl => ?_)
  refine lv_aload_n hx hb dX8_codeBlock_43 rfl (lv_at hl 4 rfl) ?_
  refine g_getN (T := TX4) (N := 10) (ci := 3) (C := RX4) (v := .ref (r_p1 4)) X hK hH in_RX4 4 rfl rfl 4 (by decide) qn_124 (fun _ h9 => h9) rfl dX8_codeBlock_44 ?_
  refine lv_iload hx hb dX8_codeBlock_47 (lv_at hl 2 rfl) ?_
  refine lv_iload hx hb dX8_codeBlock_49 (lv_at hl 1 rfl) ?_
  refine lv_iconst (v := (2 : Int32)) hx hb dX8_codeBlock_51 (by decide) ?_
  refine lv_imul hx hb dX8_codeBlock_52 ?_
  refine lv_iload hx hb dX8_codeBlock_53 (lv_at hl 0 rfl) ?_
  refine lv_iadd hx hb dX8_codeBlock_55 ?_
  obtain ⟨g6, hg6, hf⟩ := sbind hf
  refine g_ast (w1 := [(h_p0, .inr (0, FX1 r_p0 q_p0_bytes o5.2.2.2.1 o5.2.2.1 o5.2.2.2.2.1 i_p0_end o5.2.1)), ((r_p0 2), gA G 20 o5.2.2.2.2.2.2), ((r_p0 3), gA G 20 o5.2.2.2.2.2.1), (q_p0_bytes, gA G n_p0_bytes t_p0_bytes), (h_p1, .inr (3, FX4 r_p1 i_p1_step i_p1_blockCount)), ((r_p1 3), gA G 6 t_p1_sizes), ((r_p1 4), gA G 24 g6), ((r_p1 6), gA G 384 t_p1_levels)]) X hK hH 6 rfl hg6 dX8_codeBlock_56 rfl (fun H locs hH => ?_)
  refine lv_iconst (v := (0 : Int32)) hx hb dX8_codeBlock_57 (by decide) ?_
  refine lv_istore (lv' := [(8, .int (0 : Int32)), (7, .int o5.1), (6, .int o3.1), (5, .int o1), (0, .ref h_p0), (1, .ref h_p1), (2, .int p2), (3, .int p3), (4, .int p4)]) hx hb dX8_codeBlock_58 hl (by decide) rfl (fun ls hl => ?_)
  obtain ⟨o15, ho15, hf⟩ := sbind hf
  obtain ⟨FF15, hFF15, ho15⟩ := sfix ho15
  have L15 : ∀ (n : Nat) (x7 : Int32) (v8 : Int32) (v9 : Int32) (v10 : Int32) (v11 : Int32) (g12 : (Nat → Int32)) (g13 : (Nat → Int32)) (g14 : (Nat → Int32)) (b15 : Int32 × Int32 × Int32 × Int32 × (Nat → Int32) × (Nat → Int32) × (Nat → Int32)) (H : Heap) (locs : List Loc) (ls : Array Slot), fixN n FF15 (x7, v8, v9, v10, v11, g12, g13, g14) = some b15 → gH G A s.heap H locs [(h_p0, .inr (0, FX1 r_p0 q_p0_bytes v10 v9 v11 i_p0_end v8)), ((r_p0 2), gA G 20 g13), ((r_p0 3), gA G 20 g12), (q_p0_bytes, gA G n_p0_bytes t_p0_bytes), (h_p1, .inr (3, FX4 r_p1 i_p1_step i_p1_blockCount)), ((r_p1 3), gA G 6 t_p1_sizes), ((r_p1 4), gA G 24 g6), ((r_p1 6), gA G 384 g14)] → lv_has ls 12 [(0, .ref h_p0), (1, .ref h_p1), (2, .int p2), (3, .int p3), (4, .int p4), (8, .int x7)] → (∀ (H : Heap) (locs : List Loc) (ls : Array Slot), gH G A s.heap H locs [(h_p0, .inr (0, FX1 r_p0 q_p0_bytes b15.2.2.1 b15.2.1 b15.2.2.2.1 i_p0_end b15.1)), ((r_p0 2), gA G 20 b15.2.2.2.2.2.1), ((r_p0 3), gA G 20 b15.2.2.2.2.1), (q_p0_bytes, gA G n_p0_bytes t_p0_bytes), (h_p1, .inr (3, FX4 r_p1 i_p1_step i_p1_blockCount)), ((r_p1 3), gA G 6 t_p1_sizes), ((r_p1 4), gA G 24 g6), ((r_p1 6), gA G 384 b15.2.2.2.2.2.2)] → lv_has ls 12 [] → W p l e rm_X8_codeBlock_X1 s m args below meth c H locs 0 0 Q (F0 m 138 ls [])) → W p l e rm_X8_codeBlock_X1 s m args below meth c H locs 0 0 Q (F0 m 60 ls []) := by
    intro n
    induction n with
    | zero => intro x7 v8 v9 v10 v11 g12 g13 g14 b15 H locs ls hf; exact sfix0 hf
    | succ n ih =>
      intro x7 v8 v9 v10 v11 g12 g13 g14 b15 H locs ls hf hH hl KK
      obtain ⟨self15, hself15, hf⟩ := sstep hFF15 hf
      refine lv_iload hx hb dX8_codeBlock_60 (lv_at hl 5 rfl) ?_
      refine lv_iload hx hb dX8_codeBlock_62 (lv_at hl 4 rfl) ?_
      refine lv_icmp_ge (tgt := 138) hx hb dX8_codeBlock_64 (by decide) (fun c16 => ?_) (fun c16 => ?_)
      · have hf := spos hf c16
        obtain rfl := Option.some.inj hf
        exact KK _ _ _ hH (lv_sub hl [] rfl)
      · have hf := sneg hf c16
        refine lv_iconst (v := (0 : Int32)) hx hb dX8_codeBlock_67 (by decide) ?_
        refine lv_istore (lv' := [(9, .int (0 : Int32)), (0, .ref h_p0), (1, .ref h_p1), (2, .int p2), (3, .int p3), (4, .int p4), (8, .int x7)]) hx hb dX8_codeBlock_68 hl (by decide) rfl (fun ls hl => ?_)
        obtain ⟨o25, ho25, hf⟩ := sbind hf
        obtain ⟨FF25, hFF25, ho25⟩ := sfix ho25
        have L25 : ∀ (n : Nat) (x17 : Int32) (v18 : Int32) (v19 : Int32) (v20 : Int32) (v21 : Int32) (g22 : (Nat → Int32)) (g23 : (Nat → Int32)) (g24 : (Nat → Int32)) (b25 : Int32 × Int32 × Int32 × Int32 × (Nat → Int32) × (Nat → Int32) × (Nat → Int32)) (H : Heap) (locs : List Loc) (ls : Array Slot), fixN n FF25 (x17, v18, v19, v20, v21, g22, g23, g24) = some b25 → gH G A s.heap H locs [(h_p0, .inr (0, FX1 r_p0 q_p0_bytes v20 v19 v21 i_p0_end v18)), ((r_p0 2), gA G 20 g23), ((r_p0 3), gA G 20 g22), (q_p0_bytes, gA G n_p0_bytes t_p0_bytes), (h_p1, .inr (3, FX4 r_p1 i_p1_step i_p1_blockCount)), ((r_p1 3), gA G 6 t_p1_sizes), ((r_p1 4), gA G 24 g6), ((r_p1 6), gA G 384 g24)] → lv_has ls 12 [(0, .ref h_p0), (1, .ref h_p1), (2, .int p2), (3, .int p3), (4, .int p4), (8, .int x7), (9, .int x17)] → (∀ (H : Heap) (locs : List Loc) (ls : Array Slot), gH G A s.heap H locs [(h_p0, .inr (0, FX1 r_p0 q_p0_bytes b25.2.2.1 b25.2.1 b25.2.2.2.1 i_p0_end b25.1)), ((r_p0 2), gA G 20 b25.2.2.2.2.2.1), ((r_p0 3), gA G 20 b25.2.2.2.2.1), (q_p0_bytes, gA G n_p0_bytes t_p0_bytes), (h_p1, .inr (3, FX4 r_p1 i_p1_step i_p1_blockCount)), ((r_p1 3), gA G 6 t_p1_sizes), ((r_p1 4), gA G 24 g6), ((r_p1 6), gA G 384 b25.2.2.2.2.2.2)] → lv_has ls 12 [(0, .ref h_p0), (1, .ref h_p1), (2, .int p2), (3, .int p3), (4, .int p4), (8, .int x7)] → W p l e rm_X8_codeBlock_X1 s m args below meth c H locs 0 0 Q (F0 m 132 ls [])) → W p l e rm_X8_codeBlock_X1 s m args below meth c H locs 0 0 Q (F0 m 70 ls []) := by
          intro n
          induction n with
          | zero => intro x17 v18 v19 v20 v21 g22 g23 g24 b25 H locs ls hf; exact sfix0 hf
          | succ n ih =>
            intro x17 v18 v19 v20 v21 g22 g23 g24 b25 H locs ls hf hH hl KK
            obtain ⟨self25, hself25, hf⟩ := sstep hFF25 hf
            refine lv_iload hx hb dX8_codeBlock_70 (lv_at hl 6 rfl) ?_
            refine lv_iload hx hb dX8_codeBlock_72 (lv_at hl 4 rfl) ?_
            refine lv_icmp_ge (tgt := 132) hx hb dX8_codeBlock_74 (by decide) (fun c26 => ?_) (fun c26 => ?_)
            · have hf := spos hf c26
              obtain rfl := Option.some.inj hf
              exact KK _ _ _ hH (lv_sub hl [0, 1, 2, 3, 4, 5] rfl)
            · have hf := sneg hf c26
              refine lv_iload_n hx hb dX8_codeBlock_77 rfl (lv_at hl 3 rfl) ?_
              refine lv_iload hx hb dX8_codeBlock_78 (lv_at hl 5 rfl) ?_
              refine lv_iadd hx hb dX8_codeBlock_80 ?_
              refine lv_bipush (v := (16 : Int32)) hx hb dX8_codeBlock_81 (by decide) ?_
              refine lv_imul hx hb dX8_codeBlock_83 ?_
              refine lv_iload_n hx hb dX8_codeBlock_84 rfl (lv_at hl 2 rfl) ?_
              refine lv_iadd hx hb dX8_codeBlock_85 ?_
              refine lv_iload hx hb dX8_codeBlock_86 (lv_at hl 6 rfl) ?_
              refine lv_iadd hx hb dX8_codeBlock_88 ?_
              refine lv_topi (fun x27 ex27 => ?_)
              have hf := sbnd hf x27 ex27
              refine lv_istore (lv' := [(10, .int x27), (0, .ref h_p0), (1, .ref h_p1), (2, .int p2), (3, .int p3), (4, .int p4), (8, .int x7), (9, .int x17)]) hx hb dX8_codeBlock_89 hl (by decide) rfl (fun ls hl => ?_)
              refine lv_aload_n hx hb dX8_codeBlock_91 rfl (lv_at hl 2 rfl) ?_
              refine g_getN (T := TX4) (N := 10) (ci := 3) (C := RX4) (v := .ref (r_p1 6)) X hK hH in_RX4 4 rfl rfl 6 (by decide) qn_128 (fun _ h9 => h9) rfl dX8_codeBlock_92 ?_
              refine lv_iload hx hb dX8_codeBlock_95 (lv_at hl 0 rfl) ?_
              refine lv_iload hx hb dX8_codeBlock_97 (lv_at hl 6 rfl) ?_
              refine lv_iload hx hb dX8_codeBlock_99 (lv_at hl 7 rfl) ?_
              obtain ⟨o28, ho28, hf⟩ := sbind hf
              refine g_cSi (isC := [7]) (isR := [0, 1, 2, 3, 4, 5, 6]) (isP := [0, 1, 2, 3, 4, 5, 6, 7]) (wr := [(h_p0, .inr (0, FX1 r_p0 q_p0_bytes v20 v19 v21 i_p0_end v18)), ((r_p0 2), gA G 20 g23), ((r_p0 3), gA G 20 g22), (q_p0_bytes, gA G n_p0_bytes t_p0_bytes), (h_p1, .inr (3, FX4 r_p1 i_p1_step i_p1_blockCount)), ((r_p1 3), gA G 6 t_p1_sizes), ((r_p1 4), gA G 24 g6)]) (w2 := [(h_p0, .inr (0, FX1 r_p0 q_p0_bytes v20 v19 v21 i_p0_end v18)), ((r_p0 2), gA G 20 g23), ((r_p0 3), gA G 20 g22), (q_p0_bytes, gA G n_p0_bytes t_p0_bytes), (h_p1, .inr (3, FX4 r_p1 i_p1_step i_p1_blockCount)), ((r_p1 3), gA G 6 t_p1_sizes), ((r_p1 4), gA G 24 g6), ((r_p1 6), gA G 384 g24)]) X hK hA hH hl (ct_X8_levelContext l G (r_p1 6) 384 g24 x27 x7 x17 H.size o28 ho28) ⟨q_1, q_609, hd_X8_levelContext, rfl, rfl, ⟨Nat.le_of_ble_eq_true rfl, Nat.le_of_ble_eq_true rfl⟩, ⟨Nat.zero_le _, Nat.zero_le _⟩⟩ q_607 q_608 ⟨rfl, rfl, rfl, rfl, by decide, rfl, rfl⟩ rfl rfl (Nat.le_of_ble_eq_true rfl) dX8_codeBlock_101 (fun H locs hH => ?_)
              refine lv_istore (lv' := [(11, .int o28), (10, .int x27), (0, .ref h_p0), (1, .ref h_p1), (2, .int p2), (3, .int p3), (4, .int p4), (8, .int x7), (9, .int x17)]) hx hb dX8_codeBlock_104 hl (by decide) rfl (fun ls hl => ?_)
              refine lv_aload_n hx hb dX8_codeBlock_106 rfl (lv_at hl 3 rfl) ?_
              refine g_getN (T := TX4) (N := 10) (ci := 3) (C := RX4) (v := .ref (r_p1 6)) X hK hH in_RX4 4 rfl rfl 6 (by decide) qn_128 (fun _ h9 => h9) rfl dX8_codeBlock_107 ?_
              refine lv_iload hx hb dX8_codeBlock_110 (lv_at hl 1 rfl) ?_
              refine lv_aload_n hx hb dX8_codeBlock_112 rfl (lv_at hl 2 rfl) ?_
              refine lv_aload_n hx hb dX8_codeBlock_113 rfl (lv_at hl 3 rfl) ?_
              refine g_getN (T := TX4) (N := 10) (ci := 3) (C := RX4) (v := .ref (r_p1 6)) X hK hH in_RX4 4 rfl rfl 6 (by decide) qn_128 (fun _ h9 => h9) rfl dX8_codeBlock_114 ?_
              refine lv_iload hx hb dX8_codeBlock_117 (lv_at hl 1 rfl) ?_
              obtain ⟨x29, hx29, hf⟩ := sbind hf
              refine g_ald X hK hH 7 rfl hx29 dX8_codeBlock_119 ?_
              refine lv_iload hx hb dX8_codeBlock_120 (lv_at hl 0 rfl) ?_
              obtain ⟨o30, ho30, hf⟩ := sbind hf
              refine g_cSi (isC := [0, 1, 2, 3]) (isR := [4, 5, 6, 7]) (isP := [4, 5, 6, 7, 0, 1, 2, 3]) (wr := [(h_p1, .inr (3, FX4 r_p1 i_p1_step i_p1_blockCount)), ((r_p1 3), gA G 6 t_p1_sizes), ((r_p1 4), gA G 24 g6), ((r_p1 6), gA G 384 g24)]) (w2 := [(h_p0, .inr (0, FX1 r_p0 q_p0_bytes o30.2.2.2.1 o30.2.2.1 o30.2.2.2.2.1 i_p0_end o30.2.1)), ((r_p0 2), gA G 20 o30.2.2.2.2.2.2), ((r_p0 3), gA G 20 o30.2.2.2.2.2.1), (q_p0_bytes, gA G n_p0_bytes t_p0_bytes), (h_p1, .inr (3, FX4 r_p1 i_p1_step i_p1_blockCount)), ((r_p1 3), gA G 6 t_p1_sizes), ((r_p1 4), gA G 24 g6), ((r_p1 6), gA G 384 g24)]) X hK hA hH hl (ct_X8_codeLevel_X1 l G h_p0 r_p0 q_p0_bytes n_p0_bytes v20 v19 v21 i_p0_end v18 t_p0_bytes g22 g23 x29 o28 H.size o30 ho30) ⟨q_1, q_612, hd_X8_codeLevel_X1, rfl, rfl, ⟨Nat.le_of_ble_eq_true rfl, Nat.le_of_ble_eq_true rfl⟩, ⟨Nat.zero_le _, Nat.zero_le _⟩⟩ q_610 q_611 ⟨rfl, rfl, rfl, rfl, by decide, rfl, rfl⟩ rfl rfl (Nat.le_of_ble_eq_true rfl) dX8_codeBlock_122 (fun H locs hH => ?_)
              obtain ⟨g31, hg31, hf⟩ := sbind hf
              refine g_ast (w1 := [(h_p0, .inr (0, FX1 r_p0 q_p0_bytes o30.2.2.2.1 o30.2.2.1 o30.2.2.2.2.1 i_p0_end o30.2.1)), ((r_p0 2), gA G 20 o30.2.2.2.2.2.2), ((r_p0 3), gA G 20 o30.2.2.2.2.2.1), (q_p0_bytes, gA G n_p0_bytes t_p0_bytes), (h_p1, .inr (3, FX4 r_p1 i_p1_step i_p1_blockCount)), ((r_p1 3), gA G 6 t_p1_sizes), ((r_p1 4), gA G 24 g6), ((r_p1 6), gA G 384 g31)]) X hK hH 7 rfl hg31 dX8_codeBlock_125 rfl (fun H locs hH => ?_)
              obtain ⟨x32, ex32⟩ : ∃ y : Int32, y = (x17 + (1 : Int32)) := ⟨_, rfl⟩
              have hf := sbnd hf x32 ex32
              refine lv_iinc (v := x32) (lv' := [(9, .int x32), (11, .int o28), (10, .int x27), (0, .ref h_p0), (1, .ref h_p1), (2, .int p2), (3, .int p3), (4, .int p4), (8, .int x7)]) hx hb dX8_codeBlock_126 hl (k := 8) rfl (by rw [ex32]; rfl) (by decide) rfl (fun ls hl => ?_)
              refine lv_goto (tgt := 70) hx hb dX8_codeBlock_129 (by decide) ?_
              exact ih x32 o30.2.1 o30.2.2.1 o30.2.2.2.1 o30.2.2.2.2.1 o30.2.2.2.2.2.1 o30.2.2.2.2.2.2 g31 _ _ _ _ (hself25 _ _ hf) hH (lv_sub hl [3, 4, 5, 6, 7, 8, 0] rfl) KK
        refine L25 FUEL (0 : Int32) v8 v9 v10 v11 g12 g13 g14 o25 _ _ _ ho25 hH (lv_sub hl [1, 2, 3, 4, 5, 6, 0] rfl) (fun H locs ls hH hl => ?_)
        obtain ⟨x33, ex33⟩ : ∃ y : Int32, y = (x7 + (1 : Int32)) := ⟨_, rfl⟩
        have hf := sbnd hf x33 ex33
        refine lv_iinc (v := x33) (lv' := [(8, .int x33), (0, .ref h_p0), (1, .ref h_p1), (2, .int p2), (3, .int p3), (4, .int p4)]) hx hb dX8_codeBlock_132 hl (k := 5) rfl (by rw [ex33]; rfl) (by decide) rfl (fun ls hl => ?_)
        refine lv_goto (tgt := 60) hx hb dX8_codeBlock_135 (by decide) ?_
        exact ih x33 o25.1 o25.2.1 o25.2.2.1 o25.2.2.2.1 o25.2.2.2.2.1 o25.2.2.2.2.2.1 o25.2.2.2.2.2.2 _ _ _ _ (hself15 _ _ hf) hH (lv_sub hl [1, 2, 3, 4, 5, 0] rfl) KK
  refine L15 FUEL (0 : Int32) o5.2.1 o5.2.2.1 o5.2.2.2.1 o5.2.2.2.2.1 o5.2.2.2.2.2.1 o5.2.2.2.2.2.2 t_p1_levels o15 _ _ _ ho15 hH (lv_sub hl [4, 5, 6, 7, 8, 0] rfl) (fun H locs ls hH hl => ?_)
  obtain rfl := Option.some.inj hf
  exact hE _ _ _ _ hH dX8_codeBlock_138

def lf_X8_codePart_X1 (i_p0_code : Int32) (i_p0_end : Int32) (i_p0_high : Int32) (i_p0_low : Int32) (i_p0_position : Int32) (n_p0_bytes : Nat) (t_p0_bytes : Nat → Int32) (t_p0_ones : Nat → Int32) (t_p0_zeros : Nat → Int32) (t_p1_levels : Nat → Int32) (t_p1_modes : Nat → Int32) (t_p1_sizes : Nat → Int32) (p2 : Int32) (p3 : Int32) : Option (Int32 × Int32 × Int32 × Int32 × (Nat → Int32) × (Nat → Int32) × (Nat → Int32) × (Nat → Int32) × (Nat → Int32)) :=
bnd (p2 * (8 : Int32)) fun x1 => (fixN FUEL (fun (self12 : (Int32 × Int32 × Int32 × Int32 × Int32 × (Nat → Int32) × (Nat → Int32) × (Nat → Int32) × (Nat → Int32) × (Nat → Int32)) → Option (Int32 × Int32 × Int32 × Int32 × (Nat → Int32) × (Nat → Int32) × (Nat → Int32) × (Nat → Int32) × (Nat → Int32))) (z12 : Int32 × Int32 × Int32 × Int32 × Int32 × (Nat → Int32) × (Nat → Int32) × (Nat → Int32) × (Nat → Int32) × (Nat → Int32)) => (fun (x2 : Int32) (v3 : Int32) (v4 : Int32) (v5 : Int32) (v6 : Int32) (g7 : (Nat → Int32)) (g8 : (Nat → Int32)) (g9 : (Nat → Int32)) (g10 : (Nat → Int32)) (g11 : (Nat → Int32)) => (if p3 ≤ x2 then some (v3, v4, v5, v6, g7, g8, g9, g10, g11) else bnd (x2 * (8 : Int32)) fun x14 => (lf_X4_sizeAt g11 x14 x1).bind fun o15 => jn (fun (z18 : Int32) => (fun (s17 : Int32) => (lf_X0_code_X1 v3 i_p0_end v4 v5 v6 n_p0_bytes t_p0_bytes g7 g8 s17 (0 : Int32)).bind fun o19 => jn (fun (z22 : Int32) => (fun (s21 : Int32) => (lf_X4_setSizeAt g11 x14 x1 s21).bind fun o23 => (fixN FUEL (fun (self33 : (Int32 × Int32 × Int32 × Int32 × Int32 × (Nat → Int32) × (Nat → Int32) × (Nat → Int32) × (Nat → Int32)) → Option (Int32 × Int32 × Int32 × Int32 × (Nat → Int32) × (Nat → Int32) × (Nat → Int32) × (Nat → Int32))) (z33 : Int32 × Int32 × Int32 × Int32 × Int32 × (Nat → Int32) × (Nat → Int32) × (Nat → Int32) × (Nat → Int32)) => (fun (x24 : Int32) (v25 : Int32) (v26 : Int32) (v27 : Int32) (v28 : Int32) (g29 : (Nat → Int32)) (g30 : (Nat → Int32)) (g31 : (Nat → Int32)) (g32 : (Nat → Int32)) => (if (8 : Int32) ≤ x24 then some (v25, v26, v27, v28, g29, g30, g31, g32) else (fixN FUEL (fun (self44 : (Int32 × Int32 × Int32 × Int32 × Int32 × (Nat → Int32) × (Nat → Int32) × (Nat → Int32) × (Nat → Int32)) → Option (Int32 × Int32 × Int32 × Int32 × (Nat → Int32) × (Nat → Int32) × (Nat → Int32) × (Nat → Int32))) (z44 : Int32 × Int32 × Int32 × Int32 × Int32 × (Nat → Int32) × (Nat → Int32) × (Nat → Int32) × (Nat → Int32)) => (fun (x35 : Int32) (v36 : Int32) (v37 : Int32) (v38 : Int32) (v39 : Int32) (g40 : (Nat → Int32)) (g41 : (Nat → Int32)) (g42 : (Nat → Int32)) (g43 : (Nat → Int32)) => (if (8 : Int32) ≤ x35 then some (v36, v37, v38, v39, g40, g41, g42, g43) else (lf_X8_codeBlock_X1 v36 i_p0_end v37 v38 v39 n_p0_bytes t_p0_bytes g40 g41 g42 g43 o23 (x14 + x35) (x1 + x24) s21).bind fun o46 => bnd (x35 + s21) fun x47 => self44 (x47, o46.1, o46.2.1, o46.2.2.1, o46.2.2.2.1, o46.2.2.2.2.1, o46.2.2.2.2.2.1, o46.2.2.2.2.2.2.1, o46.2.2.2.2.2.2.2))) z44.1 z44.2.1 z44.2.2.1 z44.2.2.2.1 z44.2.2.2.2.1 z44.2.2.2.2.2.1 z44.2.2.2.2.2.2.1 z44.2.2.2.2.2.2.2.1 z44.2.2.2.2.2.2.2.2) ((0 : Int32), v25, v26, v27, v28, g29, g30, g31, g32)).bind fun o44 => bnd (x24 + s21) fun x48 => self33 (x48, o44.1, o44.2.1, o44.2.2.1, o44.2.2.2.1, o44.2.2.2.2.1, o44.2.2.2.2.2.1, o44.2.2.2.2.2.2.1, o44.2.2.2.2.2.2.2))) z33.1 z33.2.1 z33.2.2.1 z33.2.2.2.1 z33.2.2.2.2.1 z33.2.2.2.2.2.1 z33.2.2.2.2.2.2.1 z33.2.2.2.2.2.2.2.1 z33.2.2.2.2.2.2.2.2) ((0 : Int32), o19.2.1, o19.2.2.1, o19.2.2.2.1, o19.2.2.2.2.1, o19.2.2.2.2.2.1, o19.2.2.2.2.2.2, g9, g10)).bind fun o33 => bnd (x2 + (1 : Int32)) fun x49 => self12 (x49, o33.1, o33.2.1, o33.2.2.1, o33.2.2.2.1, o33.2.2.2.2.1, o33.2.2.2.2.2.1, o33.2.2.2.2.2.2.1, o33.2.2.2.2.2.2.2, o23)) z22) (fun k22 => (if o19.1 = (1 : Int32) then k22 (4 : Int32) else k22 (8 : Int32)))) z18) (fun k18 => (if o15 = (4 : Int32) then k18 (1 : Int32) else k18 (0 : Int32))))) z12.1 z12.2.1 z12.2.2.1 z12.2.2.2.1 z12.2.2.2.2.1 z12.2.2.2.2.2.1 z12.2.2.2.2.2.2.1 z12.2.2.2.2.2.2.2.1 z12.2.2.2.2.2.2.2.2.1 z12.2.2.2.2.2.2.2.2.2) ((0 : Int32), i_p0_code, i_p0_high, i_p0_low, i_p0_position, t_p0_ones, t_p0_zeros, t_p1_levels, t_p1_modes, t_p1_sizes)).bind fun o12 => some (o12.1, o12.2.1, o12.2.2.1, o12.2.2.2.1, o12.2.2.2.2.1, o12.2.2.2.2.2.1, o12.2.2.2.2.2.2.1, o12.2.2.2.2.2.2.2.1, o12.2.2.2.2.2.2.2.2)
abbrev rm_X8_codePart_X1 : Room := { frames := 4, cells := 0, slots := 0, locals := 109 }
theorem hd_X8_codePart_X1 : yX8_codePart.cls ≠ "java/lang/invoke/MethodHandle" ∧ yX8_codePart.cls ≠ "java/lang/invoke/VarHandle" ∧ (parseMethodDescriptor yX8_codePart.desc).map (fun d => d.parameters.length) = some 4 := by decide +kernel
set_option maxHeartbeats 4000000 in
set_option maxRecDepth 100000 in
theorem ct_X8_codePart_X1 (l : Launch) (G : gG) (h_p0 h_p1 : Nat) (r_p0 r_p1 : Nat → Nat) (q_p0_bytes n_p0_bytes : Nat) (i_p0_low i_p0_high i_p0_position i_p0_end i_p0_code i_p1_step i_p1_blockCount : Int32) (t_p0_bytes t_p0_ones t_p0_zeros t_p1_levels t_p1_modes t_p1_sizes : Nat → Int32) (p2 p3 : Int32) (sz : Nat) (out : Int32 × Int32 × Int32 × Int32 × (Nat → Int32) × (Nat → Int32) × (Nat → Int32) × (Nat → Int32) × (Nat → Int32)) (hf : lf_X8_codePart_X1 i_p0_code i_p0_end i_p0_high i_p0_low i_p0_position n_p0_bytes t_p0_bytes t_p0_ones t_p0_zeros t_p1_levels t_p1_modes t_p1_sizes p2 p3 = some out) : gV l G yX8_codePart cX8_codePart 11 rm_X8_codePart_X1 [.ref h_p0, .ref h_p1, .int p2, .int p3] sz [(h_p0, .inr (0, FX1 r_p0 q_p0_bytes i_p0_low i_p0_high i_p0_position i_p0_end i_p0_code)), ((r_p0 2), gA G 20 t_p0_zeros), ((r_p0 3), gA G 20 t_p0_ones), (q_p0_bytes, gA G n_p0_bytes t_p0_bytes), (h_p1, .inr (3, FX4 r_p1 i_p1_step i_p1_blockCount)), ((r_p1 3), gA G 6 t_p1_sizes), ((r_p1 4), gA G 24 t_p1_modes), ((r_p1 6), gA G 384 t_p1_levels)] [(h_p0, .inr (0, FX1 r_p0 q_p0_bytes out.2.2.1 out.2.1 out.2.2.2.1 i_p0_end out.1)), ((r_p0 2), gA G 20 out.2.2.2.2.2.1), ((r_p0 3), gA G 20 out.2.2.2.2.1), (q_p0_bytes, gA G n_p0_bytes t_p0_bytes), (h_p1, .inr (3, FX4 r_p1 i_p1_step i_p1_blockCount)), ((r_p1 3), gA G 6 out.2.2.2.2.2.2.2.2), ((r_p1 4), gA G 24 out.2.2.2.2.2.2.2.1), ((r_p1 6), gA G 384 out.2.2.2.2.2.2.1)] := by
  refine gV_of (by decide +kernel) (Nat.le_of_ble_eq_true rfl) ?_
  intro p e s m args below meth c ls A Q X hK hA hsz hH hl hE
  subst hsz
  have hx := X.1
  have hb := X.2.1
  unfold lf_X8_codePart_X1 at hf
  have hl : lv_has ls 11 [(0, .ref h_p0), (1, .ref h_p1), (2, .int p2), (3, .int p3)] := hl
  have hH : gH G A s.heap s.heap [] [(h_p0, .inr (0, FX1 r_p0 q_p0_bytes i_p0_low i_p0_high i_p0_position i_p0_end i_p0_code)), ((r_p0 2), gA G 20 t_p0_zeros), ((r_p0 3), gA G 20 t_p0_ones), (q_p0_bytes, gA G n_p0_bytes t_p0_bytes), (h_p1, .inr (3, FX4 r_p1 i_p1_step i_p1_blockCount)), ((r_p1 3), gA G 6 t_p1_sizes), ((r_p1 4), gA G 24 t_p1_modes), ((r_p1 6), gA G 384 t_p1_levels)] := hH
  refine lv_iload_n hx hb dX8_codePart_0 rfl (lv_at hl 2 rfl) ?_
  refine lv_bipush (v := (8 : Int32)) hx hb dX8_codePart_1 (by decide) ?_
  refine lv_imul hx hb dX8_codePart_3 ?_
  refine lv_topi (fun x1 ex1 => ?_)
  have hf := sbnd hf x1 ex1
  refine lv_istore (lv' := [(4, .int x1), (0, .ref h_p0), (1, .ref h_p1), (2, .int p2), (3, .int p3)]) hx hb dX8_codePart_4 hl (by decide) rfl (fun ls hl => ?_)
  refine lv_iconst (v := (0 : Int32)) hx hb dX8_codePart_6 (by decide) ?_
  refine lv_istore (lv' := [(5, .int (0 : Int32)), (4, .int x1), (0, .ref h_p0), (1, .ref h_p1), (2, .int p2), (3, .int p3)]) hx hb dX8_codePart_7 hl (by decide) rfl (fun ls hl => ?_)
  obtain ⟨o12, ho12, hf⟩ := sbind hf
  obtain ⟨FF12, hFF12, ho12⟩ := sfix ho12
  have L12 : ∀ (n : Nat) (x2 : Int32) (v3 : Int32) (v4 : Int32) (v5 : Int32) (v6 : Int32) (g7 : (Nat → Int32)) (g8 : (Nat → Int32)) (g9 : (Nat → Int32)) (g10 : (Nat → Int32)) (g11 : (Nat → Int32)) (b12 : Int32 × Int32 × Int32 × Int32 × (Nat → Int32) × (Nat → Int32) × (Nat → Int32) × (Nat → Int32) × (Nat → Int32)) (H : Heap) (locs : List Loc) (ls : Array Slot), fixN n FF12 (x2, v3, v4, v5, v6, g7, g8, g9, g10, g11) = some b12 → gH G A s.heap H locs [(h_p0, .inr (0, FX1 r_p0 q_p0_bytes v5 v4 v6 i_p0_end v3)), ((r_p0 2), gA G 20 g8), ((r_p0 3), gA G 20 g7), (q_p0_bytes, gA G n_p0_bytes t_p0_bytes), (h_p1, .inr (3, FX4 r_p1 i_p1_step i_p1_blockCount)), ((r_p1 3), gA G 6 g11), ((r_p1 4), gA G 24 g10), ((r_p1 6), gA G 384 g9)] → lv_has ls 11 [(0, .ref h_p0), (1, .ref h_p1), (3, .int p3), (4, .int x1), (5, .int x2)] → (∀ (H : Heap) (locs : List Loc) (ls : Array Slot), gH G A s.heap H locs [(h_p0, .inr (0, FX1 r_p0 q_p0_bytes b12.2.2.1 b12.2.1 b12.2.2.2.1 i_p0_end b12.1)), ((r_p0 2), gA G 20 b12.2.2.2.2.2.1), ((r_p0 3), gA G 20 b12.2.2.2.2.1), (q_p0_bytes, gA G n_p0_bytes t_p0_bytes), (h_p1, .inr (3, FX4 r_p1 i_p1_step i_p1_blockCount)), ((r_p1 3), gA G 6 b12.2.2.2.2.2.2.2.2), ((r_p1 4), gA G 24 b12.2.2.2.2.2.2.2.1), ((r_p1 6), gA G 384 b12.2.2.2.2.2.2.1)] → lv_has ls 11 [] → W p l e rm_X8_codePart_X1 s m args below meth c H locs 0 0 Q (F0 m 133 ls [])) → W p l e rm_X8_codePart_X1 s m args below meth c H locs 0 0 Q (F0 m 9 ls []) := by
    intro n
    induction n with
    | zero => intro x2 v3 v4 v5 v6 g7 g8 g9 g10 g11 b12 H locs ls hf; exact sfix0 hf
    | succ n ih =>
      intro x2 v3 v4 v5 v6 g7 g8 g9 g10 g11 b12 H locs ls hf hH hl KK
      obtain ⟨self12, hself12, hf⟩ := sstep hFF12 hf
      refine lv_iload hx hb dX8_codePart_9 (lv_at hl 4 rfl) ?_
      refine lv_iload_n hx hb dX8_codePart_11 rfl (lv_at hl 2 rfl) ?_
      refine lv_icmp_ge (tgt := 133) hx hb dX8_codePart_12 (by decide) (fun c13 => ?_) (fun c13 => ?_)
      · have hf := spos hf c13
        obtain rfl := Option.some.inj hf
        exact KK _ _ _ hH (lv_sub hl [] rfl)
      · have hf := sneg hf c13
        refine lv_iload hx hb dX8_codePart_15 (lv_at hl 4 rfl) ?_
        refine lv_bipush (v := (8 : Int32)) hx hb dX8_codePart_17 (by decide) ?_
        refine lv_imul hx hb dX8_codePart_19 ?_
        refine lv_topi (fun x14 ex14 => ?_)
        have hf := sbnd hf x14 ex14
        refine lv_istore (lv' := [(6, .int x14), (0, .ref h_p0), (1, .ref h_p1), (3, .int p3), (4, .int x1), (5, .int x2)]) hx hb dX8_codePart_20 hl (by decide) rfl (fun ls hl => ?_)
        refine lv_aload_n hx hb dX8_codePart_22 rfl (lv_at hl 1 rfl) ?_
        refine lv_aload_n hx hb dX8_codePart_23 rfl (lv_at hl 2 rfl) ?_
        refine lv_iload hx hb dX8_codePart_24 (lv_at hl 0 rfl) ?_
        refine lv_iload hx hb dX8_codePart_26 (lv_at hl 4 rfl) ?_
        obtain ⟨o15, ho15, hf⟩ := sbind hf
        refine g_cVi (isC := [4, 5]) (isR := [0, 1, 2, 3, 6, 7]) (isP := [0, 1, 2, 3, 6, 7, 4, 5]) (wr := [(h_p0, .inr (0, FX1 r_p0 q_p0_bytes v5 v4 v6 i_p0_end v3)), ((r_p0 2), gA G 20 g8), ((r_p0 3), gA G 20 g7), (q_p0_bytes, gA G n_p0_bytes t_p0_bytes), ((r_p1 4), gA G 24 g10), ((r_p1 6), gA G 384 g9)]) (w2 := [(h_p0, .inr (0, FX1 r_p0 q_p0_bytes v5 v4 v6 i_p0_end v3)), ((r_p0 2), gA G 20 g8), ((r_p0 3), gA G 20 g7), (q_p0_bytes, gA G n_p0_bytes t_p0_bytes), (h_p1, .inr (3, FX4 r_p1 i_p1_step i_p1_blockCount)), ((r_p1 3), gA G 6 g11), ((r_p1 4), gA G 24 g10), ((r_p1 6), gA G 384 g9)]) (q0 := 4) X hK hA hH hl (ct_X4_sizeAt l G h_p1 r_p1 i_p1_step i_p1_blockCount g11 x14 x1 H.size o15 ho15) ⟨q_4, q_557, hd_X4_sizeAt, rfl, rfl, ⟨Nat.le_of_ble_eq_true rfl, Nat.le_of_ble_eq_true rfl⟩, ⟨Nat.zero_le _, Nat.zero_le _⟩⟩ q_554 q_555 q_556 rfl rfl ⟨rfl, rfl, rfl, rfl, by decide, rfl, rfl⟩ rfl rfl (Nat.le_of_ble_eq_true rfl) dX8_codePart_28 (fun H locs hH => ?_)
        refine lv_iconst (v := (4 : Int32)) hx hb dX8_codePart_31 (by decide) ?_
        obtain ⟨k18, hk18, hf⟩ := sjn hf
        have J18 : ∀ (s17 : Int32) (H : Heap) (locs : List Loc) (ls : Array Slot), k18 s17 = some b12 → gH G A s.heap H locs [(h_p0, .inr (0, FX1 r_p0 q_p0_bytes v5 v4 v6 i_p0_end v3)), ((r_p0 2), gA G 20 g8), ((r_p0 3), gA G 20 g7), (q_p0_bytes, gA G n_p0_bytes t_p0_bytes), (h_p1, .inr (3, FX4 r_p1 i_p1_step i_p1_blockCount)), ((r_p1 3), gA G 6 g11), ((r_p1 4), gA G 24 g10), ((r_p1 6), gA G 384 g9)] → lv_has ls 11 [(0, .ref h_p0), (1, .ref h_p1), (3, .int p3), (4, .int x1), (5, .int x2), (6, .int x14)] → W p l e rm_X8_codePart_X1 s m args below meth c H locs 0 0 Q (F0 m 40 ls [.int s17, .ref h_p0]) := by
          intro s17 H locs ls hf hH hl
          have hf := hk18 _ _ hf
          refine lv_iconst (v := (0 : Int32)) hx hb dX8_codePart_40 (by decide) ?_
          obtain ⟨o19, ho19, hf⟩ := sbind hf
          refine g_cVi (isC := [0, 1, 2, 3]) (isR := [4, 5, 6, 7]) (isP := [4, 5, 6, 7, 0, 1, 2, 3]) (wr := [(h_p1, .inr (3, FX4 r_p1 i_p1_step i_p1_blockCount)), ((r_p1 3), gA G 6 g11), ((r_p1 4), gA G 24 g10), ((r_p1 6), gA G 384 g9)]) (w2 := [(h_p0, .inr (0, FX1 r_p0 q_p0_bytes o19.2.2.2.1 o19.2.2.1 o19.2.2.2.2.1 i_p0_end o19.2.1)), ((r_p0 2), gA G 20 o19.2.2.2.2.2.2), ((r_p0 3), gA G 20 o19.2.2.2.2.2.1), (q_p0_bytes, gA G n_p0_bytes t_p0_bytes), (h_p1, .inr (3, FX4 r_p1 i_p1_step i_p1_blockCount)), ((r_p1 3), gA G 6 g11), ((r_p1 4), gA G 24 g10), ((r_p1 6), gA G 384 g9)]) (q0 := 0) X hK hA hH hl (ct_X0_code_X1 l G h_p0 r_p0 q_p0_bytes n_p0_bytes v5 v4 v6 i_p0_end v3 t_p0_bytes g7 g8 s17 (0 : Int32) H.size o19 ho19) ⟨q_7, q_563, hd_X0_code_X1, rfl, rfl, ⟨Nat.le_of_ble_eq_true rfl, Nat.le_of_ble_eq_true rfl⟩, ⟨Nat.zero_le _, Nat.zero_le _⟩⟩ q_558 q_559 q_561 rfl rfl ⟨rfl, rfl, rfl, rfl, by decide, rfl, rfl⟩ rfl rfl (Nat.le_of_ble_eq_true rfl) dX8_codePart_41 (fun H locs hH => ?_)
          refine lv_istore (lv' := [(7, .int o19.1), (0, .ref h_p0), (1, .ref h_p1), (3, .int p3), (4, .int x1), (5, .int x2), (6, .int x14)]) hx hb dX8_codePart_44 hl (by decide) rfl (fun ls hl => ?_)
          refine lv_iload hx hb dX8_codePart_46 (lv_at hl 0 rfl) ?_
          refine lv_iconst (v := (1 : Int32)) hx hb dX8_codePart_48 (by decide) ?_
          obtain ⟨k22, hk22, hf⟩ := sjn hf
          have J22 : ∀ (s21 : Int32) (H : Heap) (locs : List Loc) (ls : Array Slot), k22 s21 = some b12 → gH G A s.heap H locs [(h_p0, .inr (0, FX1 r_p0 q_p0_bytes o19.2.2.2.1 o19.2.2.1 o19.2.2.2.2.1 i_p0_end o19.2.1)), ((r_p0 2), gA G 20 o19.2.2.2.2.2.2), ((r_p0 3), gA G 20 o19.2.2.2.2.2.1), (q_p0_bytes, gA G n_p0_bytes t_p0_bytes), (h_p1, .inr (3, FX4 r_p1 i_p1_step i_p1_blockCount)), ((r_p1 3), gA G 6 g11), ((r_p1 4), gA G 24 g10), ((r_p1 6), gA G 384 g9)] → lv_has ls 11 [(0, .ref h_p0), (1, .ref h_p1), (3, .int p3), (4, .int x1), (5, .int x2), (6, .int x14)] → W p l e rm_X8_codePart_X1 s m args below meth c H locs 0 0 Q (F0 m 58 ls [.int s21]) := by
            intro s21 H locs ls hf hH hl
            have hf := hk22 _ _ hf
            refine lv_istore (lv' := [(8, .int s21), (0, .ref h_p0), (1, .ref h_p1), (3, .int p3), (4, .int x1), (5, .int x2), (6, .int x14)]) hx hb dX8_codePart_58 hl (by decide) rfl (fun ls hl => ?_)
            refine lv_aload_n hx hb dX8_codePart_60 rfl (lv_at hl 2 rfl) ?_
            refine lv_iload hx hb dX8_codePart_61 (lv_at hl 6 rfl) ?_
            refine lv_iload hx hb dX8_codePart_63 (lv_at hl 4 rfl) ?_
            refine lv_iload hx hb dX8_codePart_65 (lv_at hl 0 rfl) ?_
            obtain ⟨o23, ho23, hf⟩ := sbind hf
            refine g_cVv (isC := [4, 5]) (isR := [0, 1, 2, 3, 6, 7]) (isP := [0, 1, 2, 3, 6, 7, 4, 5]) (wr := [(h_p0, .inr (0, FX1 r_p0 q_p0_bytes o19.2.2.2.1 o19.2.2.1 o19.2.2.2.2.1 i_p0_end o19.2.1)), ((r_p0 2), gA G 20 o19.2.2.2.2.2.2), ((r_p0 3), gA G 20 o19.2.2.2.2.2.1), (q_p0_bytes, gA G n_p0_bytes t_p0_bytes), ((r_p1 4), gA G 24 g10), ((r_p1 6), gA G 384 g9)]) (w2 := [(h_p0, .inr (0, FX1 r_p0 q_p0_bytes o19.2.2.2.1 o19.2.2.1 o19.2.2.2.2.1 i_p0_end o19.2.1)), ((r_p0 2), gA G 20 o19.2.2.2.2.2.2), ((r_p0 3), gA G 20 o19.2.2.2.2.2.1), (q_p0_bytes, gA G n_p0_bytes t_p0_bytes), (h_p1, .inr (3, FX4 r_p1 i_p1_step i_p1_blockCount)), ((r_p1 3), gA G 6 o23), ((r_p1 4), gA G 24 g10), ((r_p1 6), gA G 384 g9)]) (q0 := 4) X hK hA hH hl (ct_X4_setSizeAt l G h_p1 r_p1 i_p1_step i_p1_blockCount g11 x14 x1 s21 H.size o23 ho23) ⟨q_4, q_598, hd_X4_setSizeAt, rfl, rfl, ⟨Nat.le_of_ble_eq_true rfl, Nat.le_of_ble_eq_true rfl⟩, ⟨Nat.zero_le _, Nat.zero_le _⟩⟩ q_595 q_596 q_597 rfl rfl ⟨rfl, rfl, rfl, rfl, by decide, rfl, rfl⟩ rfl rfl (Nat.le_of_ble_eq_true rfl) dX8_codePart_67 (fun H locs hH => ?_)
            refine lv_iconst (v := (0 : Int32)) hx hb dX8_codePart_70 (by decide) ?_
            refine lv_istore (lv' := [(9, .int (0 : Int32)), (8, .int s21), (0, .ref h_p0), (1, .ref h_p1), (3, .int p3), (4, .int x1), (5, .int x2), (6, .int x14)]) hx hb dX8_codePart_71 hl (by decide) rfl (fun ls hl => ?_)
            obtain ⟨o33, ho33, hf⟩ := sbind hf
            obtain ⟨FF33, hFF33, ho33⟩ := sfix ho33
            have L33 : ∀ (n : Nat) (x24 : Int32) (v25 : Int32) (v26 : Int32) (v27 : Int32) (v28 : Int32) (g29 : (Nat → Int32)) (g30 : (Nat → Int32)) (g31 : (Nat → Int32)) (g32 : (Nat → Int32)) (b33 : Int32 × Int32 × Int32 × Int32 × (Nat → Int32) × (Nat → Int32) × (Nat → Int32) × (Nat → Int32)) (H : Heap) (locs : List Loc) (ls : Array Slot), fixN n FF33 (x24, v25, v26, v27, v28, g29, g30, g31, g32) = some b33 → gH G A s.heap H locs [(h_p0, .inr (0, FX1 r_p0 q_p0_bytes v27 v26 v28 i_p0_end v25)), ((r_p0 2), gA G 20 g30), ((r_p0 3), gA G 20 g29), (q_p0_bytes, gA G n_p0_bytes t_p0_bytes), (h_p1, .inr (3, FX4 r_p1 i_p1_step i_p1_blockCount)), ((r_p1 3), gA G 6 o23), ((r_p1 4), gA G 24 g32), ((r_p1 6), gA G 384 g31)] → lv_has ls 11 [(0, .ref h_p0), (1, .ref h_p1), (3, .int p3), (4, .int x1), (5, .int x2), (6, .int x14), (8, .int s21), (9, .int x24)] → (∀ (H : Heap) (locs : List Loc) (ls : Array Slot), gH G A s.heap H locs [(h_p0, .inr (0, FX1 r_p0 q_p0_bytes b33.2.2.1 b33.2.1 b33.2.2.2.1 i_p0_end b33.1)), ((r_p0 2), gA G 20 b33.2.2.2.2.2.1), ((r_p0 3), gA G 20 b33.2.2.2.2.1), (q_p0_bytes, gA G n_p0_bytes t_p0_bytes), (h_p1, .inr (3, FX4 r_p1 i_p1_step i_p1_blockCount)), ((r_p1 3), gA G 6 o23), ((r_p1 4), gA G 24 b33.2.2.2.2.2.2.2), ((r_p1 6), gA G 384 b33.2.2.2.2.2.2.1)] → lv_has ls 11 [(0, .ref h_p0), (1, .ref h_p1), (3, .int p3), (4, .int x1), (5, .int x2)] → W p l e rm_X8_codePart_X1 s m args below meth c H locs 0 0 Q (F0 m 127 ls [])) → W p l e rm_X8_codePart_X1 s m args below meth c H locs 0 0 Q (F0 m 73 ls []) := by
              intro n
              induction n with
              | zero => intro x24 v25 v26 v27 v28 g29 g30 g31 g32 b33 H locs ls hf; exact sfix0 hf
              | succ n ih =>
                intro x24 v25 v26 v27 v28 g29 g30 g31 g32 b33 H locs ls hf hH hl KK
                obtain ⟨self33, hself33, hf⟩ := sstep hFF33 hf
                refine lv_iload hx hb dX8_codePart_73 (lv_at hl 7 rfl) ?_
                refine lv_bipush (v := (8 : Int32)) hx hb dX8_codePart_75 (by decide) ?_
                refine lv_icmp_ge (tgt := 127) hx hb dX8_codePart_77 (by decide) (fun c34 => ?_) (fun c34 => ?_)
                · have hf := spos hf c34
                  obtain rfl := Option.some.inj hf
                  exact KK _ _ _ hH (lv_sub hl [0, 1, 2, 3, 4] rfl)
                · have hf := sneg hf c34
                  refine lv_iconst (v := (0 : Int32)) hx hb dX8_codePart_80 (by decide) ?_
                  refine lv_istore (lv' := [(10, .int (0 : Int32)), (0, .ref h_p0), (1, .ref h_p1), (3, .int p3), (4, .int x1), (5, .int x2), (6, .int x14), (8, .int s21), (9, .int x24)]) hx hb dX8_codePart_81 hl (by decide) rfl (fun ls hl => ?_)
                  obtain ⟨o44, ho44, hf⟩ := sbind hf
                  obtain ⟨FF44, hFF44, ho44⟩ := sfix ho44
                  have L44 : ∀ (n : Nat) (x35 : Int32) (v36 : Int32) (v37 : Int32) (v38 : Int32) (v39 : Int32) (g40 : (Nat → Int32)) (g41 : (Nat → Int32)) (g42 : (Nat → Int32)) (g43 : (Nat → Int32)) (b44 : Int32 × Int32 × Int32 × Int32 × (Nat → Int32) × (Nat → Int32) × (Nat → Int32) × (Nat → Int32)) (H : Heap) (locs : List Loc) (ls : Array Slot), fixN n FF44 (x35, v36, v37, v38, v39, g40, g41, g42, g43) = some b44 → gH G A s.heap H locs [(h_p0, .inr (0, FX1 r_p0 q_p0_bytes v38 v37 v39 i_p0_end v36)), ((r_p0 2), gA G 20 g41), ((r_p0 3), gA G 20 g40), (q_p0_bytes, gA G n_p0_bytes t_p0_bytes), (h_p1, .inr (3, FX4 r_p1 i_p1_step i_p1_blockCount)), ((r_p1 3), gA G 6 o23), ((r_p1 4), gA G 24 g43), ((r_p1 6), gA G 384 g42)] → lv_has ls 11 [(0, .ref h_p0), (1, .ref h_p1), (3, .int p3), (4, .int x1), (5, .int x2), (6, .int x14), (8, .int s21), (9, .int x24), (10, .int x35)] → (∀ (H : Heap) (locs : List Loc) (ls : Array Slot), gH G A s.heap H locs [(h_p0, .inr (0, FX1 r_p0 q_p0_bytes b44.2.2.1 b44.2.1 b44.2.2.2.1 i_p0_end b44.1)), ((r_p0 2), gA G 20 b44.2.2.2.2.2.1), ((r_p0 3), gA G 20 b44.2.2.2.2.1), (q_p0_bytes, gA G n_p0_bytes t_p0_bytes), (h_p1, .inr (3, FX4 r_p1 i_p1_step i_p1_blockCount)), ((r_p1 3), gA G 6 o23), ((r_p1 4), gA G 24 b44.2.2.2.2.2.2.2), ((r_p1 6), gA G 384 b44.2.2.2.2.2.2.1)] → lv_has ls 11 [(0, .ref h_p0), (1, .ref h_p1), (3, .int p3), (4, .int x1), (5, .int x2), (6, .int x14), (8, .int s21), (9, .int x24)] → W p l e rm_X8_codePart_X1 s m args below meth c H locs 0 0 Q (F0 m 117 ls [])) → W p l e rm_X8_codePart_X1 s m args below meth c H locs 0 0 Q (F0 m 83 ls []) := by
                    intro n
                    induction n with
                    | zero => intro x35 v36 v37 v38 v39 g40 g41 g42 g43 b44 H locs ls hf; exact sfix0 hf
                    | succ n ih =>
                      intro x35 v36 v37 v38 v39 g40 g41 g42 g43 b44 H locs ls hf hH hl KK
                      obtain ⟨self44, hself44, hf⟩ := sstep hFF44 hf
                      refine lv_iload hx hb dX8_codePart_83 (lv_at hl 8 rfl) ?_
                      refine lv_bipush (v := (8 : Int32)) hx hb dX8_codePart_85 (by decide) ?_
                      refine lv_icmp_ge (tgt := 117) hx hb dX8_codePart_87 (by decide) (fun c45 => ?_) (fun c45 => ?_)
                      · have hf := spos hf c45
                        obtain rfl := Option.some.inj hf
                        exact KK _ _ _ hH (lv_sub hl [0, 1, 2, 3, 4, 5, 6, 7] rfl)
                      · have hf := sneg hf c45
                        refine lv_aload_n hx hb dX8_codePart_90 rfl (lv_at hl 0 rfl) ?_
                        refine lv_aload_n hx hb dX8_codePart_91 rfl (lv_at hl 1 rfl) ?_
                        refine lv_iload hx hb dX8_codePart_92 (lv_at hl 5 rfl) ?_
                        refine lv_iload hx hb dX8_codePart_94 (lv_at hl 8 rfl) ?_
                        refine lv_iadd hx hb dX8_codePart_96 ?_
                        refine lv_iload hx hb dX8_codePart_97 (lv_at hl 3 rfl) ?_
                        refine lv_iload hx hb dX8_codePart_99 (lv_at hl 7 rfl) ?_
                        refine lv_iadd hx hb dX8_codePart_101 ?_
                        refine lv_iload hx hb dX8_codePart_102 (lv_at hl 6 rfl) ?_
                        obtain ⟨o46, ho46, hf⟩ := sbind hf
                        refine g_cSv (isC := [0, 1, 2, 3, 4, 5, 6, 7]) (isR := []) (isP := [0, 1, 2, 3, 4, 5, 6, 7]) (wr := []) (w2 := [(h_p0, .inr (0, FX1 r_p0 q_p0_bytes o46.2.2.1 o46.2.1 o46.2.2.2.1 i_p0_end o46.1)), ((r_p0 2), gA G 20 o46.2.2.2.2.2.1), ((r_p0 3), gA G 20 o46.2.2.2.2.1), (q_p0_bytes, gA G n_p0_bytes t_p0_bytes), (h_p1, .inr (3, FX4 r_p1 i_p1_step i_p1_blockCount)), ((r_p1 3), gA G 6 o23), ((r_p1 4), gA G 24 o46.2.2.2.2.2.2.2), ((r_p1 6), gA G 384 o46.2.2.2.2.2.2.1)]) X hK hA hH hl (ct_X8_codeBlock_X1 l G h_p0 h_p1 r_p0 r_p1 q_p0_bytes n_p0_bytes v38 v37 v39 i_p0_end v36 i_p1_step i_p1_blockCount t_p0_bytes g40 g41 g42 g43 o23 (x14 + x35) (x1 + x24) s21 H.size o46 ho46) ⟨q_1, q_601, hd_X8_codeBlock_X1, rfl, rfl, ⟨Nat.le_of_ble_eq_true rfl, Nat.le_of_ble_eq_true rfl⟩, ⟨Nat.zero_le _, Nat.zero_le _⟩⟩ q_599 q_600 ⟨rfl, rfl, rfl, rfl, by decide, rfl, rfl⟩ rfl rfl (Nat.le_of_ble_eq_true rfl) dX8_codePart_104 (fun H locs hH => ?_)
                        refine lv_iload hx hb dX8_codePart_107 (lv_at hl 8 rfl) ?_
                        refine lv_iload hx hb dX8_codePart_109 (lv_at hl 6 rfl) ?_
                        refine lv_iadd hx hb dX8_codePart_111 ?_
                        refine lv_topi (fun x47 ex47 => ?_)
                        have hf := sbnd hf x47 ex47
                        refine lv_istore (lv' := [(10, .int x47), (0, .ref h_p0), (1, .ref h_p1), (3, .int p3), (4, .int x1), (5, .int x2), (6, .int x14), (8, .int s21), (9, .int x24)]) hx hb dX8_codePart_112 hl (by decide) rfl (fun ls hl => ?_)
                        refine lv_goto (tgt := 83) hx hb dX8_codePart_114 (by decide) ?_
                        exact ih x47 o46.1 o46.2.1 o46.2.2.1 o46.2.2.2.1 o46.2.2.2.2.1 o46.2.2.2.2.2.1 o46.2.2.2.2.2.2.1 o46.2.2.2.2.2.2.2 _ _ _ _ (hself44 _ _ hf) hH (lv_sub hl [1, 2, 3, 4, 5, 6, 7, 8, 0] rfl) KK
                  refine L44 FUEL (0 : Int32) v25 v26 v27 v28 g29 g30 g31 g32 o44 _ _ _ ho44 hH (lv_sub hl [1, 2, 3, 4, 5, 6, 7, 8, 0] rfl) (fun H locs ls hH hl => ?_)
                  refine lv_iload hx hb dX8_codePart_117 (lv_at hl 7 rfl) ?_
                  refine lv_iload hx hb dX8_codePart_119 (lv_at hl 6 rfl) ?_
                  refine lv_iadd hx hb dX8_codePart_121 ?_
                  refine lv_topi (fun x48 ex48 => ?_)
                  have hf := sbnd hf x48 ex48
                  refine lv_istore (lv' := [(9, .int x48), (0, .ref h_p0), (1, .ref h_p1), (3, .int p3), (4, .int x1), (5, .int x2), (6, .int x14), (8, .int s21)]) hx hb dX8_codePart_122 hl (by decide) rfl (fun ls hl => ?_)
                  refine lv_goto (tgt := 73) hx hb dX8_codePart_124 (by decide) ?_
                  exact ih x48 o44.1 o44.2.1 o44.2.2.1 o44.2.2.2.1 o44.2.2.2.2.1 o44.2.2.2.2.2.1 o44.2.2.2.2.2.2.1 o44.2.2.2.2.2.2.2 _ _ _ _ (hself33 _ _ hf) hH (lv_sub hl [1, 2, 3, 4, 5, 6, 7, 0] rfl) KK
            refine L33 FUEL (0 : Int32) o19.2.1 o19.2.2.1 o19.2.2.2.1 o19.2.2.2.2.1 o19.2.2.2.2.2.1 o19.2.2.2.2.2.2 g9 g10 o33 _ _ _ ho33 hH (lv_sub hl [2, 3, 4, 5, 6, 7, 1, 0] rfl) (fun H locs ls hH hl => ?_)
            obtain ⟨x49, ex49⟩ : ∃ y : Int32, y = (x2 + (1 : Int32)) := ⟨_, rfl⟩
            have hf := sbnd hf x49 ex49
            refine lv_iinc (v := x49) (lv' := [(5, .int x49), (0, .ref h_p0), (1, .ref h_p1), (3, .int p3), (4, .int x1)]) hx hb dX8_codePart_127 hl (k := 4) rfl (by rw [ex49]; rfl) (by decide) rfl (fun ls hl => ?_)
            refine lv_goto (tgt := 9) hx hb dX8_codePart_130 (by decide) ?_
            exact ih x49 o33.1 o33.2.1 o33.2.2.1 o33.2.2.2.1 o33.2.2.2.2.1 o33.2.2.2.2.2.1 o33.2.2.2.2.2.2.1 o33.2.2.2.2.2.2.2 o23 _ _ _ _ (hself12 _ _ hf) hH (lv_sub hl [1, 2, 3, 4, 0] rfl) KK
          refine lv_icmp_ne (tgt := 56) hx hb dX8_codePart_49 (by decide) (fun c20 => ?_) (fun c20 => ?_)
          · have hf := sneg hf c20
            refine lv_bipush (v := (8 : Int32)) hx hb dX8_codePart_56 (by decide) ?_
            exact J22 (8 : Int32) _ _ _ hf hH (lv_sub hl [1, 2, 3, 4, 5, 6] rfl)
          · have hf := spos hf c20
            refine lv_iconst (v := (4 : Int32)) hx hb dX8_codePart_52 (by decide) ?_
            refine lv_goto (tgt := 58) hx hb dX8_codePart_53 (by decide) ?_
            exact J22 (4 : Int32) _ _ _ hf hH (lv_sub hl [1, 2, 3, 4, 5, 6] rfl)
        refine lv_icmp_ne (tgt := 39) hx hb dX8_codePart_32 (by decide) (fun c16 => ?_) (fun c16 => ?_)
        · have hf := sneg hf c16
          refine lv_iconst (v := (0 : Int32)) hx hb dX8_codePart_39 (by decide) ?_
          exact J18 (0 : Int32) _ _ _ hf hH (lv_sub hl [1, 2, 3, 4, 5, 0] rfl)
        · have hf := spos hf c16
          refine lv_iconst (v := (1 : Int32)) hx hb dX8_codePart_35 (by decide) ?_
          refine lv_goto (tgt := 40) hx hb dX8_codePart_36 (by decide) ?_
          exact J18 (1 : Int32) _ _ _ hf hH (lv_sub hl [1, 2, 3, 4, 5, 0] rfl)
  refine L12 FUEL (0 : Int32) i_p0_code i_p0_high i_p0_low i_p0_position t_p0_ones t_p0_zeros t_p1_levels t_p1_modes t_p1_sizes o12 _ _ _ ho12 hH (lv_sub hl [2, 3, 5, 1, 0] rfl) (fun H locs ls hH hl => ?_)
  obtain rfl := Option.some.inj hf
  exact hE _ _ _ _ hH dX8_codePart_133

def lf_X8_codeLevel_X2 (i_p0_bitCount : Int32) (i_p0_high : Int32) (i_p0_low : Int32) (i_p0_pending : Int32) (t_p0_bytes : Nat → Int32) (t_p0_ones : Nat → Int32) (t_p0_zeros : Nat → Int32) (p1 : Int32) (p2 : Int32) : Option (Int32 × Int32 × Int32 × Int32 × Int32 × (Nat → Int32) × (Nat → Int32) × (Nat → Int32)) :=
jn (fun (z3 : Int32) => (fun (s2 : Int32) => (lf_X0_code_X2 i_p0_bitCount i_p0_high i_p0_low i_p0_pending t_p0_bytes t_p0_ones t_p0_zeros s2 p2).bind fun o4 => (if o4.1 = (0 : Int32) then some ((0 : Int32), o4.2.1, o4.2.2.1, o4.2.2.2.1, o4.2.2.2.2.1, o4.2.2.2.2.2.1, o4.2.2.2.2.2.2.1, o4.2.2.2.2.2.2.2) else jn (fun (z8 : Int32) => (fun (s7 : Int32) => (lf_X0_code_X2 o4.2.1 o4.2.2.1 o4.2.2.2.1 o4.2.2.2.2.1 o4.2.2.2.2.2.1 o4.2.2.2.2.2.2.1 o4.2.2.2.2.2.2.2 s7 (8 : Int32)).bind fun o9 => jn (fun (z12 : Int32) => (fun (s11 : Int32) => (lf_X8_digitsOf s11).bind fun o13 => (fixN FUEL (fun (self22 : (Int32 × Int32 × Int32 × Int32 × Int32 × (Nat → Int32) × (Nat → Int32) × (Nat → Int32)) → Option (Int32 × Int32 × Int32 × Int32 × Int32 × (Nat → Int32) × (Nat → Int32) × (Nat → Int32))) (z22 : Int32 × Int32 × Int32 × Int32 × Int32 × (Nat → Int32) × (Nat → Int32) × (Nat → Int32)) => (fun (x14 : Int32) (v15 : Int32) (v16 : Int32) (v17 : Int32) (v18 : Int32) (g19 : (Nat → Int32)) (g20 : (Nat → Int32)) (g21 : (Nat → Int32)) => (if (12 : Int32) ≤ x14 then some (x14, v15, v16, v17, v18, g19, g20, g21) else jn (fun (z26 : Int32) => (fun (s25 : Int32) => (lf_X0_code_X2 v15 v16 v17 v18 g19 g20 g21 s25 ((8 : Int32) + x14)).bind fun o27 => (if o27.1 = (1 : Int32) then bnd (x14 + (1 : Int32)) fun x29 => self22 (x29, o27.2.1, o27.2.2.1, o27.2.2.2.1, o27.2.2.2.2.1, o27.2.2.2.2.2.1, o27.2.2.2.2.2.2.1, o27.2.2.2.2.2.2.2) else some (x14, o27.2.1, o27.2.2.1, o27.2.2.2.1, o27.2.2.2.2.1, o27.2.2.2.2.2.1, o27.2.2.2.2.2.2.1, o27.2.2.2.2.2.2.2))) z26) (fun k26 => (if o13 ≤ x14 then k26 (0 : Int32) else k26 (1 : Int32))))) z22.1 z22.2.1 z22.2.2.1 z22.2.2.2.1 z22.2.2.2.2.1 z22.2.2.2.2.2.1 z22.2.2.2.2.2.2.1 z22.2.2.2.2.2.2.2) ((1 : Int32), o9.2.1, o9.2.2.1, o9.2.2.2.1, o9.2.2.2.2.1, o9.2.2.2.2.2.1, o9.2.2.2.2.2.2.1, o9.2.2.2.2.2.2.2)).bind fun o22 => bnd (o22.1 - (2 : Int32)) fun x30 => (fixN FUEL (fun (self40 : (Int32 × Int32 × Int32 × Int32 × Int32 × Int32 × (Nat → Int32) × (Nat → Int32) × (Nat → Int32)) → Option (Int32 × Int32 × Int32 × Int32 × Int32 × (Nat → Int32) × (Nat → Int32) × (Nat → Int32))) (z40 : Int32 × Int32 × Int32 × Int32 × Int32 × Int32 × (Nat → Int32) × (Nat → Int32) × (Nat → Int32)) => (fun (x31 : Int32) (x32 : Int32) (v33 : Int32) (v34 : Int32) (v35 : Int32) (v36 : Int32) (g37 : (Nat → Int32)) (g38 : (Nat → Int32)) (g39 : (Nat → Int32)) => (if x32 < (0 : Int32) then some (x31, v33, v34, v35, v36, g37, g38, g39) else (lf_X0_code_X2 v33 v34 v35 v36 g37 g38 g39 ((s11 >>> (x32 &&& 31)) &&& (1 : Int32)) (-1 : Int32)).bind fun o42 => bnd ((x31 * (2 : Int32)) + o42.1) fun x43 => bnd (x32 + (-1 : Int32)) fun x44 => self40 (x43, x44, o42.2.1, o42.2.2.1, o42.2.2.2.1, o42.2.2.2.2.1, o42.2.2.2.2.2.1, o42.2.2.2.2.2.2.1, o42.2.2.2.2.2.2.2))) z40.1 z40.2.1 z40.2.2.1 z40.2.2.2.1 z40.2.2.2.2.1 z40.2.2.2.2.2.1 z40.2.2.2.2.2.2.1 z40.2.2.2.2.2.2.2.1 z40.2.2.2.2.2.2.2.2) ((1 : Int32), x30, o22.2.1, o22.2.2.1, o22.2.2.2.1, o22.2.2.2.2.1, o22.2.2.2.2.2.1, o22.2.2.2.2.2.2.1, o22.2.2.2.2.2.2.2)).bind fun o40 => (if o9.1 = (1 : Int32) then some ((-o40.1), o40.2.1, o40.2.2.1, o40.2.2.2.1, o40.2.2.2.2.1, o40.2.2.2.2.2.1, o40.2.2.2.2.2.2.1, o40.2.2.2.2.2.2.2) else some (o40.1, o40.2.1, o40.2.2.1, o40.2.2.2.1, o40.2.2.2.2.1, o40.2.2.2.2.2.1, o40.2.2.2.2.2.2.1, o40.2.2.2.2.2.2.2))) z12) (fun k12 => (if (0 : Int32) ≤ p1 then k12 p1 else k12 (-p1)))) z8) (fun k8 => (if (0 : Int32) ≤ p1 then k8 (0 : Int32) else k8 (1 : Int32))))) z3) (fun k3 => (if p1 = (0 : Int32) then k3 (0 : Int32) else k3 (1 : Int32)))
abbrev rm_X8_codeLevel_X2 : Room := { frames := 2, cells := 0, slots := 0, locals := 53 }
theorem hd_X8_codeLevel_X2 : yX8_codeLevel.cls ≠ "java/lang/invoke/MethodHandle" ∧ yX8_codeLevel.cls ≠ "java/lang/invoke/VarHandle" ∧ (parseMethodDescriptor yX8_codeLevel.desc).map (fun d => d.parameters.length) = some 3 := by decide +kernel
set_option maxHeartbeats 4000000 in
set_option maxRecDepth 100000 in
theorem ct_X8_codeLevel_X2 (l : Launch) (G : gG) (h_p0 : Nat) (r_p0 : Nat → Nat) (i_p0_low i_p0_high i_p0_bitCount i_p0_pending : Int32) (t_p0_bytes t_p0_ones t_p0_zeros : Nat → Int32) (p1 p2 : Int32) (sz : Nat) (out : Int32 × Int32 × Int32 × Int32 × Int32 × (Nat → Int32) × (Nat → Int32) × (Nat → Int32)) (hf : lf_X8_codeLevel_X2 i_p0_bitCount i_p0_high i_p0_low i_p0_pending t_p0_bytes t_p0_ones t_p0_zeros p1 p2 = some out) : gI l G yX8_codeLevel cX8_codeLevel 9 .int rm_X8_codeLevel_X2 [.ref h_p0, .int p1, .int p2] sz [(h_p0, .inr (1, FX2 r_p0 i_p0_low i_p0_high i_p0_bitCount i_p0_pending)), ((r_p0 2), gA G 20 t_p0_zeros), ((r_p0 3), gA G 20 t_p0_ones), ((r_p0 4), gA G 2048 t_p0_bytes)] out.1 [(h_p0, .inr (1, FX2 r_p0 out.2.2.2.1 out.2.2.1 out.2.1 out.2.2.2.2.1)), ((r_p0 2), gA G 20 out.2.2.2.2.2.2.2), ((r_p0 3), gA G 20 out.2.2.2.2.2.2.1), ((r_p0 4), gA G 2048 out.2.2.2.2.2.1)] := by
  refine gI_of (by decide +kernel) (Nat.le_of_ble_eq_true rfl) ?_
  intro p e s m args below meth c ls A Q X hK hA hsz hH hl hE
  subst hsz
  have hx := X.1
  have hb := X.2.1
  unfold lf_X8_codeLevel_X2 at hf
  have hl : lv_has ls 9 [(0, .ref h_p0), (1, .int p1), (2, .int p2)] := hl
  have hH : gH G A s.heap s.heap [] [(h_p0, .inr (1, FX2 r_p0 i_p0_low i_p0_high i_p0_bitCount i_p0_pending)), ((r_p0 2), gA G 20 t_p0_zeros), ((r_p0 3), gA G 20 t_p0_ones), ((r_p0 4), gA G 2048 t_p0_bytes)] := hH
  refine lv_aload_n hx hb dX8_codeLevel_0 rfl (lv_at hl 0 rfl) ?_
  refine lv_iload_n hx hb dX8_codeLevel_1 rfl (lv_at hl 1 rfl) ?_
  obtain ⟨k3, hk3, hf⟩ := sjn hf
  have J3 : ∀ (s2 : Int32) (H : Heap) (locs : List Loc) (ls : Array Slot), k3 s2 = some out → gH G A s.heap H locs [(h_p0, .inr (1, FX2 r_p0 i_p0_low i_p0_high i_p0_bitCount i_p0_pending)), ((r_p0 2), gA G 20 t_p0_zeros), ((r_p0 3), gA G 20 t_p0_ones), ((r_p0 4), gA G 2048 t_p0_bytes)] → lv_has ls 9 [(0, .ref h_p0), (1, .int p1), (2, .int p2)] → W p l e rm_X8_codeLevel_X2 s m args below meth c H locs 0 0 Q (F0 m 10 ls [.int s2, .ref h_p0]) := by
    intro s2 H locs ls hf hH hl
    have hf := hk3 _ _ hf
    refine lv_iload_n hx hb dX8_codeLevel_10 rfl (lv_at hl 2 rfl) ?_
    obtain ⟨o4, ho4, hf⟩ := sbind hf
    refine g_cVi (isC := [0, 1, 2, 3]) (isR := []) (isP := [0, 1, 2, 3]) (wr := []) (w2 := [(h_p0, .inr (1, FX2 r_p0 o4.2.2.2.1 o4.2.2.1 o4.2.1 o4.2.2.2.2.1)), ((r_p0 2), gA G 20 o4.2.2.2.2.2.2.2), ((r_p0 3), gA G 20 o4.2.2.2.2.2.2.1), ((r_p0 4), gA G 2048 o4.2.2.2.2.2.1)]) (q0 := 0) X hK hA hH hl (ct_X0_code_X2 l G h_p0 r_p0 i_p0_low i_p0_high i_p0_bitCount i_p0_pending t_p0_bytes t_p0_ones t_p0_zeros s2 p2 H.size o4 ho4) ⟨q_7, q_563, hd_X0_code_X2, rfl, rfl, ⟨Nat.le_of_ble_eq_true rfl, Nat.le_of_ble_eq_true rfl⟩, ⟨Nat.zero_le _, Nat.zero_le _⟩⟩ q_558 q_559 q_562 rfl rfl ⟨rfl, rfl, rfl, rfl, by decide, rfl, rfl⟩ rfl rfl (Nat.le_of_ble_eq_true rfl) dX8_codeLevel_11 (fun H locs hH => ?_)
    refine lv_if_ne (tgt := 19) hx hb dX8_codeLevel_14 (by decide) (fun c5 => ?_) (fun c5 => ?_)
    · have hf := sneg hf c5
      refine lv_aload_n hx hb dX8_codeLevel_19 rfl (lv_at hl 0 rfl) ?_
      refine lv_iload_n hx hb dX8_codeLevel_20 rfl (lv_at hl 1 rfl) ?_
      obtain ⟨k8, hk8, hf⟩ := sjn hf
      have J8 : ∀ (s7 : Int32) (H : Heap) (locs : List Loc) (ls : Array Slot), k8 s7 = some out → gH G A s.heap H locs [(h_p0, .inr (1, FX2 r_p0 o4.2.2.2.1 o4.2.2.1 o4.2.1 o4.2.2.2.2.1)), ((r_p0 2), gA G 20 o4.2.2.2.2.2.2.2), ((r_p0 3), gA G 20 o4.2.2.2.2.2.2.1), ((r_p0 4), gA G 2048 o4.2.2.2.2.2.1)] → lv_has ls 9 [(0, .ref h_p0), (1, .int p1)] → W p l e rm_X8_codeLevel_X2 s m args below meth c H locs 0 0 Q (F0 m 29 ls [.int s7, .ref h_p0]) := by
        intro s7 H locs ls hf hH hl
        have hf := hk8 _ _ hf
        refine lv_bipush (v := (8 : Int32)) hx hb dX8_codeLevel_29 (by decide) ?_
        obtain ⟨o9, ho9, hf⟩ := sbind hf
        refine g_cVi (isC := [0, 1, 2, 3]) (isR := []) (isP := [0, 1, 2, 3]) (wr := []) (w2 := [(h_p0, .inr (1, FX2 r_p0 o9.2.2.2.1 o9.2.2.1 o9.2.1 o9.2.2.2.2.1)), ((r_p0 2), gA G 20 o9.2.2.2.2.2.2.2), ((r_p0 3), gA G 20 o9.2.2.2.2.2.2.1), ((r_p0 4), gA G 2048 o9.2.2.2.2.2.1)]) (q0 := 0) X hK hA hH hl (ct_X0_code_X2 l G h_p0 r_p0 o4.2.2.2.1 o4.2.2.1 o4.2.1 o4.2.2.2.2.1 o4.2.2.2.2.2.1 o4.2.2.2.2.2.2.1 o4.2.2.2.2.2.2.2 s7 (8 : Int32) H.size o9 ho9) ⟨q_7, q_563, hd_X0_code_X2, rfl, rfl, ⟨Nat.le_of_ble_eq_true rfl, Nat.le_of_ble_eq_true rfl⟩, ⟨Nat.zero_le _, Nat.zero_le _⟩⟩ q_558 q_559 q_562 rfl rfl ⟨rfl, rfl, rfl, rfl, by decide, rfl, rfl⟩ rfl rfl (Nat.le_of_ble_eq_true rfl) dX8_codeLevel_31 (fun H locs hH => ?_)
        refine lv_istore_n (lv' := [(3, .int o9.1), (0, .ref h_p0), (1, .int p1)]) hx hb dX8_codeLevel_34 rfl hl (by decide) rfl (fun ls hl => ?_)
        refine lv_iload_n hx hb dX8_codeLevel_35 rfl (lv_at hl 2 rfl) ?_
        obtain ⟨k12, hk12, hf⟩ := sjn hf
        have J12 : ∀ (s11 : Int32) (H : Heap) (locs : List Loc) (ls : Array Slot), k12 s11 = some out → gH G A s.heap H locs [(h_p0, .inr (1, FX2 r_p0 o9.2.2.2.1 o9.2.2.1 o9.2.1 o9.2.2.2.2.1)), ((r_p0 2), gA G 20 o9.2.2.2.2.2.2.2), ((r_p0 3), gA G 20 o9.2.2.2.2.2.2.1), ((r_p0 4), gA G 2048 o9.2.2.2.2.2.1)] → lv_has ls 9 [(0, .ref h_p0), (3, .int o9.1)] → W p l e rm_X8_codeLevel_X2 s m args below meth c H locs 0 0 Q (F0 m 45 ls [.int s11]) := by
          intro s11 H locs ls hf hH hl
          have hf := hk12 _ _ hf
          refine lv_istore (lv' := [(4, .int s11), (0, .ref h_p0), (3, .int o9.1)]) hx hb dX8_codeLevel_45 hl (by decide) rfl (fun ls hl => ?_)
          refine lv_iload hx hb dX8_codeLevel_47 (lv_at hl 0 rfl) ?_
          obtain ⟨o13, ho13, hf⟩ := sbind hf
          refine g_cSi (isC := []) (isR := [0, 1, 2, 3]) (isP := [0, 1, 2, 3]) (wr := [(h_p0, .inr (1, FX2 r_p0 o9.2.2.2.1 o9.2.2.1 o9.2.1 o9.2.2.2.2.1)), ((r_p0 2), gA G 20 o9.2.2.2.2.2.2.2), ((r_p0 3), gA G 20 o9.2.2.2.2.2.2.1), ((r_p0 4), gA G 2048 o9.2.2.2.2.2.1)]) (w2 := [(h_p0, .inr (1, FX2 r_p0 o9.2.2.2.1 o9.2.2.1 o9.2.1 o9.2.2.2.2.1)), ((r_p0 2), gA G 20 o9.2.2.2.2.2.2.2), ((r_p0 3), gA G 20 o9.2.2.2.2.2.2.1), ((r_p0 4), gA G 2048 o9.2.2.2.2.2.1)]) X hK hA hH hl (ct_X8_digitsOf l G s11 H.size o13 ho13) ⟨q_1, q_615, hd_X8_digitsOf, rfl, rfl, ⟨Nat.le_of_ble_eq_true rfl, Nat.le_of_ble_eq_true rfl⟩, ⟨Nat.zero_le _, Nat.zero_le _⟩⟩ q_613 q_614 ⟨rfl, rfl, rfl, rfl, by decide, rfl, rfl⟩ rfl rfl (Nat.le_of_ble_eq_true rfl) dX8_codeLevel_49 (fun H locs hH => ?_)
          refine lv_istore (lv' := [(5, .int o13), (4, .int s11), (0, .ref h_p0), (3, .int o9.1)]) hx hb dX8_codeLevel_52 hl (by decide) rfl (fun ls hl => ?_)
          refine lv_iconst (v := (1 : Int32)) hx hb dX8_codeLevel_54 (by decide) ?_
          refine lv_istore (lv' := [(6, .int (1 : Int32)), (5, .int o13), (4, .int s11), (0, .ref h_p0), (3, .int o9.1)]) hx hb dX8_codeLevel_55 hl (by decide) rfl (fun ls hl => ?_)
          obtain ⟨o22, ho22, hf⟩ := sbind hf
          obtain ⟨FF22, hFF22, ho22⟩ := sfix ho22
          have L22 : ∀ (n : Nat) (x14 : Int32) (v15 : Int32) (v16 : Int32) (v17 : Int32) (v18 : Int32) (g19 : (Nat → Int32)) (g20 : (Nat → Int32)) (g21 : (Nat → Int32)) (b22 : Int32 × Int32 × Int32 × Int32 × Int32 × (Nat → Int32) × (Nat → Int32) × (Nat → Int32)) (H : Heap) (locs : List Loc) (ls : Array Slot), fixN n FF22 (x14, v15, v16, v17, v18, g19, g20, g21) = some b22 → gH G A s.heap H locs [(h_p0, .inr (1, FX2 r_p0 v17 v16 v15 v18)), ((r_p0 2), gA G 20 g21), ((r_p0 3), gA G 20 g20), ((r_p0 4), gA G 2048 g19)] → lv_has ls 9 [(0, .ref h_p0), (3, .int o9.1), (4, .int s11), (5, .int o13), (6, .int x14)] → (∀ (H : Heap) (locs : List Loc) (ls : Array Slot), gH G A s.heap H locs [(h_p0, .inr (1, FX2 r_p0 b22.2.2.2.1 b22.2.2.1 b22.2.1 b22.2.2.2.2.1)), ((r_p0 2), gA G 20 b22.2.2.2.2.2.2.2), ((r_p0 3), gA G 20 b22.2.2.2.2.2.2.1), ((r_p0 4), gA G 2048 b22.2.2.2.2.2.1)] → lv_has ls 9 [(0, .ref h_p0), (3, .int o9.1), (4, .int s11), (6, .int b22.1)] → W p l e rm_X8_codeLevel_X2 s m args below meth c H locs 0 0 Q (F0 m 95 ls [])) → W p l e rm_X8_codeLevel_X2 s m args below meth c H locs 0 0 Q (F0 m 57 ls []) := by
            intro n
            induction n with
            | zero => intro x14 v15 v16 v17 v18 g19 g20 g21 b22 H locs ls hf; exact sfix0 hf
            | succ n ih =>
              intro x14 v15 v16 v17 v18 g19 g20 g21 b22 H locs ls hf hH hl KK
              obtain ⟨self22, hself22, hf⟩ := sstep hFF22 hf
              refine lv_iload hx hb dX8_codeLevel_57 (lv_at hl 4 rfl) ?_
              refine lv_bipush (v := (12 : Int32)) hx hb dX8_codeLevel_59 (by decide) ?_
              refine lv_icmp_ge (tgt := 95) hx hb dX8_codeLevel_61 (by decide) (fun c23 => ?_) (fun c23 => ?_)
              · have hf := spos hf c23
                obtain rfl := Option.some.inj hf
                exact KK _ _ _ hH (lv_sub hl [0, 1, 2, 4] rfl)
              · have hf := sneg hf c23
                refine lv_aload_n hx hb dX8_codeLevel_64 rfl (lv_at hl 0 rfl) ?_
                refine lv_iload hx hb dX8_codeLevel_65 (lv_at hl 3 rfl) ?_
                refine lv_iload hx hb dX8_codeLevel_67 (lv_at hl 4 rfl) ?_
                obtain ⟨k26, hk26, hf⟩ := sjn hf
                have J26 : ∀ (s25 : Int32) (H : Heap) (locs : List Loc) (ls : Array Slot), k26 s25 = some b22 → gH G A s.heap H locs [(h_p0, .inr (1, FX2 r_p0 v17 v16 v15 v18)), ((r_p0 2), gA G 20 g21), ((r_p0 3), gA G 20 g20), ((r_p0 4), gA G 2048 g19)] → lv_has ls 9 [(0, .ref h_p0), (3, .int o9.1), (4, .int s11), (5, .int o13), (6, .int x14)] → W p l e rm_X8_codeLevel_X2 s m args below meth c H locs 0 0 Q (F0 m 77 ls [.int s25, .ref h_p0]) := by
                  intro s25 H locs ls hf hH hl
                  have hf := hk26 _ _ hf
                  refine lv_bipush (v := (8 : Int32)) hx hb dX8_codeLevel_77 (by decide) ?_
                  refine lv_iload hx hb dX8_codeLevel_79 (lv_at hl 4 rfl) ?_
                  refine lv_iadd hx hb dX8_codeLevel_81 ?_
                  obtain ⟨o27, ho27, hf⟩ := sbind hf
                  refine g_cVi (isC := [0, 1, 2, 3]) (isR := []) (isP := [0, 1, 2, 3]) (wr := []) (w2 := [(h_p0, .inr (1, FX2 r_p0 o27.2.2.2.1 o27.2.2.1 o27.2.1 o27.2.2.2.2.1)), ((r_p0 2), gA G 20 o27.2.2.2.2.2.2.2), ((r_p0 3), gA G 20 o27.2.2.2.2.2.2.1), ((r_p0 4), gA G 2048 o27.2.2.2.2.2.1)]) (q0 := 0) X hK hA hH hl (ct_X0_code_X2 l G h_p0 r_p0 v17 v16 v15 v18 g19 g20 g21 s25 ((8 : Int32) + x14) H.size o27 ho27) ⟨q_7, q_563, hd_X0_code_X2, rfl, rfl, ⟨Nat.le_of_ble_eq_true rfl, Nat.le_of_ble_eq_true rfl⟩, ⟨Nat.zero_le _, Nat.zero_le _⟩⟩ q_558 q_559 q_562 rfl rfl ⟨rfl, rfl, rfl, rfl, by decide, rfl, rfl⟩ rfl rfl (Nat.le_of_ble_eq_true rfl) dX8_codeLevel_82 (fun H locs hH => ?_)
                  refine lv_iconst (v := (1 : Int32)) hx hb dX8_codeLevel_85 (by decide) ?_
                  refine lv_icmp_ne (tgt := 95) hx hb dX8_codeLevel_86 (by decide) (fun c28 => ?_) (fun c28 => ?_)
                  · have hf := sneg hf c28
                    obtain rfl := Option.some.inj hf
                    exact KK _ _ _ hH (lv_sub hl [0, 1, 2, 4] rfl)
                  · have hf := spos hf c28
                    obtain ⟨x29, ex29⟩ : ∃ y : Int32, y = (x14 + (1 : Int32)) := ⟨_, rfl⟩
                    have hf := sbnd hf x29 ex29
                    refine lv_iinc (v := x29) (lv' := [(6, .int x29), (0, .ref h_p0), (3, .int o9.1), (4, .int s11), (5, .int o13)]) hx hb dX8_codeLevel_89 hl (k := 4) rfl (by rw [ex29]; rfl) (by decide) rfl (fun ls hl => ?_)
                    refine lv_goto (tgt := 57) hx hb dX8_codeLevel_92 (by decide) ?_
                    exact ih x29 o27.2.1 o27.2.2.1 o27.2.2.2.1 o27.2.2.2.2.1 o27.2.2.2.2.2.1 o27.2.2.2.2.2.2.1 o27.2.2.2.2.2.2.2 _ _ _ _ (hself22 _ _ hf) hH (lv_sub hl [1, 2, 3, 4, 0] rfl) KK
                refine lv_icmp_le (tgt := 76) hx hb dX8_codeLevel_69 (by decide) (fun c24 => ?_) (fun c24 => ?_)
                · have hf := spos hf c24
                  refine lv_iconst (v := (0 : Int32)) hx hb dX8_codeLevel_76 (by decide) ?_
                  exact J26 (0 : Int32) _ _ _ hf hH (lv_sub hl [0, 1, 2, 3, 4] rfl)
                · have hf := sneg hf c24
                  refine lv_iconst (v := (1 : Int32)) hx hb dX8_codeLevel_72 (by decide) ?_
                  refine lv_goto (tgt := 77) hx hb dX8_codeLevel_73 (by decide) ?_
                  exact J26 (1 : Int32) _ _ _ hf hH (lv_sub hl [0, 1, 2, 3, 4] rfl)
          refine L22 FUEL (1 : Int32) o9.2.1 o9.2.2.1 o9.2.2.2.1 o9.2.2.2.2.1 o9.2.2.2.2.2.1 o9.2.2.2.2.2.2.1 o9.2.2.2.2.2.2.2 o22 _ _ _ ho22 hH (lv_sub hl [3, 4, 2, 1, 0] rfl) (fun H locs ls hH hl => ?_)
          refine lv_iconst (v := (1 : Int32)) hx hb dX8_codeLevel_95 (by decide) ?_
          refine lv_istore (lv' := [(7, .int (1 : Int32)), (0, .ref h_p0), (3, .int o9.1), (4, .int s11), (6, .int o22.1)]) hx hb dX8_codeLevel_96 hl (by decide) rfl (fun ls hl => ?_)
          refine lv_iload hx hb dX8_codeLevel_98 (lv_at hl 4 rfl) ?_
          refine lv_iconst (v := (2 : Int32)) hx hb dX8_codeLevel_100 (by decide) ?_
          refine lv_isub hx hb dX8_codeLevel_101 ?_
          refine lv_topi (fun x30 ex30 => ?_)
          have hf := sbnd hf x30 ex30
          refine lv_istore (lv' := [(8, .int x30), (7, .int (1 : Int32)), (0, .ref h_p0), (3, .int o9.1), (4, .int s11), (6, .int o22.1)]) hx hb dX8_codeLevel_102 hl (by decide) rfl (fun ls hl => ?_)
          obtain ⟨o40, ho40, hf⟩ := sbind hf
          obtain ⟨FF40, hFF40, ho40⟩ := sfix ho40
          have L40 : ∀ (n : Nat) (x31 : Int32) (x32 : Int32) (v33 : Int32) (v34 : Int32) (v35 : Int32) (v36 : Int32) (g37 : (Nat → Int32)) (g38 : (Nat → Int32)) (g39 : (Nat → Int32)) (b40 : Int32 × Int32 × Int32 × Int32 × Int32 × (Nat → Int32) × (Nat → Int32) × (Nat → Int32)) (H : Heap) (locs : List Loc) (ls : Array Slot), fixN n FF40 (x31, x32, v33, v34, v35, v36, g37, g38, g39) = some b40 → gH G A s.heap H locs [(h_p0, .inr (1, FX2 r_p0 v35 v34 v33 v36)), ((r_p0 2), gA G 20 g39), ((r_p0 3), gA G 20 g38), ((r_p0 4), gA G 2048 g37)] → lv_has ls 9 [(0, .ref h_p0), (3, .int o9.1), (4, .int s11), (7, .int x31), (8, .int x32)] → (∀ (H : Heap) (locs : List Loc) (ls : Array Slot), gH G A s.heap H locs [(h_p0, .inr (1, FX2 r_p0 b40.2.2.2.1 b40.2.2.1 b40.2.1 b40.2.2.2.2.1)), ((r_p0 2), gA G 20 b40.2.2.2.2.2.2.2), ((r_p0 3), gA G 20 b40.2.2.2.2.2.2.1), ((r_p0 4), gA G 2048 b40.2.2.2.2.2.1)] → lv_has ls 9 [(3, .int o9.1), (7, .int b40.1)] → W p l e rm_X8_codeLevel_X2 s m args below meth c H locs 0 0 Q (F0 m 134 ls [])) → W p l e rm_X8_codeLevel_X2 s m args below meth c H locs 0 0 Q (F0 m 104 ls []) := by
            intro n
            induction n with
            | zero => intro x31 x32 v33 v34 v35 v36 g37 g38 g39 b40 H locs ls hf; exact sfix0 hf
            | succ n ih =>
              intro x31 x32 v33 v34 v35 v36 g37 g38 g39 b40 H locs ls hf hH hl KK
              obtain ⟨self40, hself40, hf⟩ := sstep hFF40 hf
              refine lv_iload hx hb dX8_codeLevel_104 (lv_at hl 4 rfl) ?_
              refine lv_if_lt (tgt := 134) hx hb dX8_codeLevel_106 (by decide) (fun c41 => ?_) (fun c41 => ?_)
              · have hf := spos hf c41
                obtain rfl := Option.some.inj hf
                exact KK _ _ _ hH (lv_sub hl [1, 3] rfl)
              · have hf := sneg hf c41
                refine lv_iload hx hb dX8_codeLevel_109 (lv_at hl 3 rfl) ?_
                refine lv_iconst (v := (2 : Int32)) hx hb dX8_codeLevel_111 (by decide) ?_
                refine lv_imul hx hb dX8_codeLevel_112 ?_
                refine lv_aload_n hx hb dX8_codeLevel_113 rfl (lv_at hl 0 rfl) ?_
                refine lv_iload hx hb dX8_codeLevel_114 (lv_at hl 2 rfl) ?_
                refine lv_iload hx hb dX8_codeLevel_116 (lv_at hl 4 rfl) ?_
                refine lv_ishr hx hb dX8_codeLevel_118 ?_
                refine lv_iconst (v := (1 : Int32)) hx hb dX8_codeLevel_119 (by decide) ?_
                refine lv_iand hx hb dX8_codeLevel_120 ?_
                refine lv_iconst (v := (-1 : Int32)) hx hb dX8_codeLevel_121 (by decide) ?_
                obtain ⟨o42, ho42, hf⟩ := sbind hf
                refine g_cVi (isC := [0, 1, 2, 3]) (isR := []) (isP := [0, 1, 2, 3]) (wr := []) (w2 := [(h_p0, .inr (1, FX2 r_p0 o42.2.2.2.1 o42.2.2.1 o42.2.1 o42.2.2.2.2.1)), ((r_p0 2), gA G 20 o42.2.2.2.2.2.2.2), ((r_p0 3), gA G 20 o42.2.2.2.2.2.2.1), ((r_p0 4), gA G 2048 o42.2.2.2.2.2.1)]) (q0 := 0) X hK hA hH hl (ct_X0_code_X2 l G h_p0 r_p0 v35 v34 v33 v36 g37 g38 g39 ((s11 >>> (x32 &&& 31)) &&& (1 : Int32)) (-1 : Int32) H.size o42 ho42) ⟨q_7, q_563, hd_X0_code_X2, rfl, rfl, ⟨Nat.le_of_ble_eq_true rfl, Nat.le_of_ble_eq_true rfl⟩, ⟨Nat.zero_le _, Nat.zero_le _⟩⟩ q_558 q_559 q_562 rfl rfl ⟨rfl, rfl, rfl, rfl, by decide, rfl, rfl⟩ rfl rfl (Nat.le_of_ble_eq_true rfl) dX8_codeLevel_122 (fun H locs hH => ?_)
                refine lv_iadd hx hb dX8_codeLevel_125 ?_
                refine lv_topi (fun x43 ex43 => ?_)
                have hf := sbnd hf x43 ex43
                refine lv_istore (lv' := [(7, .int x43), (0, .ref h_p0), (3, .int o9.1), (4, .int s11), (8, .int x32)]) hx hb dX8_codeLevel_126 hl (by decide) rfl (fun ls hl => ?_)
                obtain ⟨x44, ex44⟩ : ∃ y : Int32, y = (x32 + (-1 : Int32)) := ⟨_, rfl⟩
                have hf := sbnd hf x44 ex44
                refine lv_iinc (v := x44) (lv' := [(8, .int x44), (7, .int x43), (0, .ref h_p0), (3, .int o9.1), (4, .int s11)]) hx hb dX8_codeLevel_128 hl (k := 4) rfl (by rw [ex44]; rfl) (by decide) rfl (fun ls hl => ?_)
                refine lv_goto (tgt := 104) hx hb dX8_codeLevel_131 (by decide) ?_
                exact ih x43 x44 o42.2.1 o42.2.2.1 o42.2.2.2.1 o42.2.2.2.2.1 o42.2.2.2.2.2.1 o42.2.2.2.2.2.2.1 o42.2.2.2.2.2.2.2 _ _ _ _ (hself40 _ _ hf) hH (lv_sub hl [2, 3, 4, 1, 0] rfl) KK
          refine L40 FUEL (1 : Int32) x30 o22.2.1 o22.2.2.1 o22.2.2.2.1 o22.2.2.2.2.1 o22.2.2.2.2.2.1 o22.2.2.2.2.2.2.1 o22.2.2.2.2.2.2.2 o40 _ _ _ ho40 hH (lv_sub hl [2, 3, 4, 1, 0] rfl) (fun H locs ls hH hl => ?_)
          refine lv_iload_n hx hb dX8_codeLevel_134 rfl (lv_at hl 0 rfl) ?_
          refine lv_iconst (v := (1 : Int32)) hx hb dX8_codeLevel_135 (by decide) ?_
          refine lv_icmp_ne (tgt := 145) hx hb dX8_codeLevel_136 (by decide) (fun c45 => ?_) (fun c45 => ?_)
          · have hf := sneg hf c45
            refine lv_iload hx hb dX8_codeLevel_145 (lv_at hl 1 rfl) ?_
            obtain rfl := Option.some.inj hf
            exact hE _ _ _ _ rfl hH dX8_codeLevel_147
          · have hf := spos hf c45
            refine lv_iload hx hb dX8_codeLevel_139 (lv_at hl 1 rfl) ?_
            refine lv_ineg hx hb dX8_codeLevel_141 ?_
            refine lv_goto (tgt := 147) hx hb dX8_codeLevel_142 (by decide) ?_
            obtain rfl := Option.some.inj hf
            exact hE _ _ _ _ rfl hH dX8_codeLevel_147
        refine lv_if_ge (tgt := 44) hx hb dX8_codeLevel_36 (by decide) (fun c10 => ?_) (fun c10 => ?_)
        · have hf := spos hf c10
          refine lv_iload_n hx hb dX8_codeLevel_44 rfl (lv_at hl 2 rfl) ?_
          exact J12 p1 _ _ _ hf hH (lv_sub hl [1, 0] rfl)
        · have hf := sneg hf c10
          refine lv_iload_n hx hb dX8_codeLevel_39 rfl (lv_at hl 2 rfl) ?_
          refine lv_ineg hx hb dX8_codeLevel_40 ?_
          refine lv_goto (tgt := 45) hx hb dX8_codeLevel_41 (by decide) ?_
          exact J12 (-p1) _ _ _ hf hH (lv_sub hl [1, 0] rfl)
      refine lv_if_ge (tgt := 28) hx hb dX8_codeLevel_21 (by decide) (fun c6 => ?_) (fun c6 => ?_)
      · have hf := spos hf c6
        refine lv_iconst (v := (0 : Int32)) hx hb dX8_codeLevel_28 (by decide) ?_
        exact J8 (0 : Int32) _ _ _ hf hH (lv_sub hl [0, 1] rfl)
      · have hf := sneg hf c6
        refine lv_iconst (v := (1 : Int32)) hx hb dX8_codeLevel_24 (by decide) ?_
        refine lv_goto (tgt := 29) hx hb dX8_codeLevel_25 (by decide) ?_
        exact J8 (1 : Int32) _ _ _ hf hH (lv_sub hl [0, 1] rfl)
    · have hf := spos hf c5
      refine lv_iconst (v := (0 : Int32)) hx hb dX8_codeLevel_17 (by decide) ?_
      obtain rfl := Option.some.inj hf
      exact hE _ _ _ _ rfl hH dX8_codeLevel_18
  refine lv_if_eq (tgt := 9) hx hb dX8_codeLevel_2 (by decide) (fun c1 => ?_) (fun c1 => ?_)
  · have hf := spos hf c1
    refine lv_iconst (v := (0 : Int32)) hx hb dX8_codeLevel_9 (by decide) ?_
    exact J3 (0 : Int32) _ _ _ hf hH (lv_sub hl [0, 1, 2] rfl)
  · have hf := sneg hf c1
    refine lv_iconst (v := (1 : Int32)) hx hb dX8_codeLevel_5 (by decide) ?_
    refine lv_goto (tgt := 10) hx hb dX8_codeLevel_6 (by decide) ?_
    exact J3 (1 : Int32) _ _ _ hf hH (lv_sub hl [0, 1, 2] rfl)

def lf_X8_codeBlock_X2 (i_p0_bitCount : Int32) (i_p0_high : Int32) (i_p0_low : Int32) (i_p0_pending : Int32) (t_p0_bytes : Nat → Int32) (t_p0_ones : Nat → Int32) (t_p0_zeros : Nat → Int32) (t_p1_levels : Nat → Int32) (t_p1_modes : Nat → Int32) (t_p1_sizes : Nat → Int32) (p2 : Int32) (p3 : Int32) (p4 : Int32) : Option (Int32 × Int32 × Int32 × Int32 × (Nat → Int32) × (Nat → Int32) × (Nat → Int32) × (Nat → Int32) × (Nat → Int32)) :=
(lf_X4_firstCell t_p1_sizes p2 p3).bind fun o1 => (rdA 24 t_p1_modes o1).bind fun x2 => (lf_X0_code_X2 i_p0_bitCount i_p0_high i_p0_low i_p0_pending t_p0_bytes t_p0_ones t_p0_zeros (x2 / (2 : Int32)) (1 : Int32)).bind fun o3 => (rdA 24 t_p1_modes o1).bind fun x4 => (lf_X0_code_X2 o3.2.1 o3.2.2.1 o3.2.2.2.1 o3.2.2.2.2.1 o3.2.2.2.2.2.1 o3.2.2.2.2.2.2.1 o3.2.2.2.2.2.2.2 (x4 - x4 / (2 : Int32) * (2 : Int32)) ((2 : Int32) + o3.1)).bind fun o5 => (wrA 24 t_p1_modes o1 ((o3.1 * (2 : Int32)) + o5.1)).bind fun g6 => (fixN FUEL (fun (self16 : (Int32 × Int32 × Int32 × Int32 × Int32 × (Nat → Int32) × (Nat → Int32) × (Nat → Int32) × (Nat → Int32)) → Option (Int32 × Int32 × Int32 × Int32 × (Nat → Int32) × (Nat → Int32) × (Nat → Int32) × (Nat → Int32))) (z16 : Int32 × Int32 × Int32 × Int32 × Int32 × (Nat → Int32) × (Nat → Int32) × (Nat → Int32) × (Nat → Int32)) => (fun (x7 : Int32) (v8 : Int32) (v9 : Int32) (v10 : Int32) (v11 : Int32) (g12 : (Nat → Int32)) (g13 : (Nat → Int32)) (g14 : (Nat → Int32)) (g15 : (Nat → Int32)) => (if p4 ≤ x7 then some (v8, v9, v10, v11, g12, g13, g14, g15) else (fixN FUEL (fun (self27 : (Int32 × Int32 × Int32 × Int32 × Int32 × (Nat → Int32) × (Nat → Int32) × (Nat → Int32) × (Nat → Int32)) → Option (Int32 × Int32 × Int32 × Int32 × (Nat → Int32) × (Nat → Int32) × (Nat → Int32) × (Nat → Int32))) (z27 : Int32 × Int32 × Int32 × Int32 × Int32 × (Nat → Int32) × (Nat → Int32) × (Nat → Int32) × (Nat → Int32)) => (fun (x18 : Int32) (v19 : Int32) (v20 : Int32) (v21 : Int32) (v22 : Int32) (g23 : (Nat → Int32)) (g24 : (Nat → Int32)) (g25 : (Nat → Int32)) (g26 : (Nat → Int32)) => (if p4 ≤ x18 then some (v19, v20, v21, v22, g23, g24, g25, g26) else bnd ((((p3 + x7) * (16 : Int32)) + p2) + x18) fun x29 => (lf_X8_levelContext 384 g26 x29 x7 x18).bind fun o30 => (rdA 384 g26 x29).bind fun x31 => (lf_X8_codeLevel_X2 v19 v20 v21 v22 g23 g24 g25 x31 o30).bind fun o32 => (wrA 384 g26 x29 o32.1).bind fun g33 => bnd (x18 + (1 : Int32)) fun x34 => self27 (x34, o32.2.1, o32.2.2.1, o32.2.2.2.1, o32.2.2.2.2.1, o32.2.2.2.2.2.1, o32.2.2.2.2.2.2.1, o32.2.2.2.2.2.2.2, g33))) z27.1 z27.2.1 z27.2.2.1 z27.2.2.2.1 z27.2.2.2.2.1 z27.2.2.2.2.2.1 z27.2.2.2.2.2.2.1 z27.2.2.2.2.2.2.2.1 z27.2.2.2.2.2.2.2.2) ((0 : Int32), v8, v9, v10, v11, g12, g13, g14, g15)).bind fun o27 => bnd (x7 + (1 : Int32)) fun x35 => self16 (x35, o27.1, o27.2.1, o27.2.2.1, o27.2.2.2.1, o27.2.2.2.2.1, o27.2.2.2.2.2.1, o27.2.2.2.2.2.2.1, o27.2.2.2.2.2.2.2))) z16.1 z16.2.1 z16.2.2.1 z16.2.2.2.1 z16.2.2.2.2.1 z16.2.2.2.2.2.1 z16.2.2.2.2.2.2.1 z16.2.2.2.2.2.2.2.1 z16.2.2.2.2.2.2.2.2) ((0 : Int32), o5.2.1, o5.2.2.1, o5.2.2.2.1, o5.2.2.2.2.1, o5.2.2.2.2.2.1, o5.2.2.2.2.2.2.1, o5.2.2.2.2.2.2.2, t_p1_levels)).bind fun o16 => some (o16.1, o16.2.1, o16.2.2.1, o16.2.2.2.1, o16.2.2.2.2.1, o16.2.2.2.2.2.1, o16.2.2.2.2.2.2.1, o16.2.2.2.2.2.2.2, g6)
abbrev rm_X8_codeBlock_X2 : Room := { frames := 3, cells := 0, slots := 0, locals := 81 }
theorem hd_X8_codeBlock_X2 : yX8_codeBlock.cls ≠ "java/lang/invoke/MethodHandle" ∧ yX8_codeBlock.cls ≠ "java/lang/invoke/VarHandle" ∧ (parseMethodDescriptor yX8_codeBlock.desc).map (fun d => d.parameters.length) = some 5 := by decide +kernel
set_option maxHeartbeats 4000000 in
set_option maxRecDepth 100000 in
theorem ct_X8_codeBlock_X2 (l : Launch) (G : gG) (h_p0 h_p1 : Nat) (r_p0 r_p1 : Nat → Nat) (i_p0_low i_p0_high i_p0_bitCount i_p0_pending i_p1_step i_p1_blockCount : Int32) (t_p0_bytes t_p0_ones t_p0_zeros t_p1_levels t_p1_modes t_p1_sizes : Nat → Int32) (p2 p3 p4 : Int32) (sz : Nat) (out : Int32 × Int32 × Int32 × Int32 × (Nat → Int32) × (Nat → Int32) × (Nat → Int32) × (Nat → Int32) × (Nat → Int32)) (hf : lf_X8_codeBlock_X2 i_p0_bitCount i_p0_high i_p0_low i_p0_pending t_p0_bytes t_p0_ones t_p0_zeros t_p1_levels t_p1_modes t_p1_sizes p2 p3 p4 = some out) : gV l G yX8_codeBlock cX8_codeBlock 12 rm_X8_codeBlock_X2 [.ref h_p0, .ref h_p1, .int p2, .int p3, .int p4] sz [(h_p0, .inr (1, FX2 r_p0 i_p0_low i_p0_high i_p0_bitCount i_p0_pending)), ((r_p0 2), gA G 20 t_p0_zeros), ((r_p0 3), gA G 20 t_p0_ones), ((r_p0 4), gA G 2048 t_p0_bytes), (h_p1, .inr (3, FX4 r_p1 i_p1_step i_p1_blockCount)), ((r_p1 3), gA G 6 t_p1_sizes), ((r_p1 4), gA G 24 t_p1_modes), ((r_p1 6), gA G 384 t_p1_levels)] [(h_p0, .inr (1, FX2 r_p0 out.2.2.1 out.2.1 out.1 out.2.2.2.1)), ((r_p0 2), gA G 20 out.2.2.2.2.2.2.1), ((r_p0 3), gA G 20 out.2.2.2.2.2.1), ((r_p0 4), gA G 2048 out.2.2.2.2.1), (h_p1, .inr (3, FX4 r_p1 i_p1_step i_p1_blockCount)), ((r_p1 3), gA G 6 t_p1_sizes), ((r_p1 4), gA G 24 out.2.2.2.2.2.2.2.2), ((r_p1 6), gA G 384 out.2.2.2.2.2.2.2.1)] := by
  refine gV_of (by decide +kernel) (Nat.le_of_ble_eq_true rfl) ?_
  intro p e s m args below meth c ls A Q X hK hA hsz hH hl hE
  subst hsz
  have hx := X.1
  have hb := X.2.1
  unfold lf_X8_codeBlock_X2 at hf
  have hl : lv_has ls 12 [(0, .ref h_p0), (1, .ref h_p1), (2, .int p2), (3, .int p3), (4, .int p4)] := hl
  have hH : gH G A s.heap s.heap [] [(h_p0, .inr (1, FX2 r_p0 i_p0_low i_p0_high i_p0_bitCount i_p0_pending)), ((r_p0 2), gA G 20 t_p0_zeros), ((r_p0 3), gA G 20 t_p0_ones), ((r_p0 4), gA G 2048 t_p0_bytes), (h_p1, .inr (3, FX4 r_p1 i_p1_step i_p1_blockCount)), ((r_p1 3), gA G 6 t_p1_sizes), ((r_p1 4), gA G 24 t_p1_modes), ((r_p1 6), gA G 384 t_p1_levels)] := hH
  refine lv_aload_n hx hb dX8_codeBlock_0 rfl (lv_at hl 1 rfl) ?_
  refine lv_iload_n hx hb dX8_codeBlock_1 rfl (lv_at hl 2 rfl) ?_
  refine lv_iload_n hx hb dX8_codeBlock_2 rfl (lv_at hl 3 rfl) ?_
  obtain ⟨o1, ho1, hf⟩ := sbind hf
  refine g_cVi (isC := [4, 5]) (isR := [0, 1, 2, 3, 6, 7]) (isP := [0, 1, 2, 3, 6, 7, 4, 5]) (wr := [(h_p0, .inr (1, FX2 r_p0 i_p0_low i_p0_high i_p0_bitCount i_p0_pending)), ((r_p0 2), gA G 20 t_p0_zeros), ((r_p0 3), gA G 20 t_p0_ones), ((r_p0 4), gA G 2048 t_p0_bytes), ((r_p1 4), gA G 24 t_p1_modes), ((r_p1 6), gA G 384 t_p1_levels)]) (w2 := [(h_p0, .inr (1, FX2 r_p0 i_p0_low i_p0_high i_p0_bitCount i_p0_pending)), ((r_p0 2), gA G 20 t_p0_zeros), ((r_p0 3), gA G 20 t_p0_ones), ((r_p0 4), gA G 2048 t_p0_bytes), (h_p1, .inr (3, FX4 r_p1 i_p1_step i_p1_blockCount)), ((r_p1 3), gA G 6 t_p1_sizes), ((r_p1 4), gA G 24 t_p1_modes), ((r_p1 6), gA G 384 t_p1_levels)]) (q0 := 4) X hK hA hH hl (ct_X4_firstCell l G h_p1 r_p1 i_p1_step i_p1_blockCount t_p1_sizes p2 p3 s.heap.size o1 ho1) ⟨q_4, q_605, hd_X4_firstCell, rfl, rfl, ⟨Nat.le_of_ble_eq_true rfl, Nat.le_of_ble_eq_true rfl⟩, ⟨Nat.zero_le _, Nat.zero_le _⟩⟩ q_602 q_603 q_604 rfl rfl ⟨rfl, rfl, rfl, rfl, by decide, rfl, rfl⟩ rfl rfl (Nat.le_of_ble_eq_true rfl) dX8_codeBlock_3 (fun H locs hH => ?_)
  refine lv_istore (lv' := [(5, .int o1), (0, .ref h_p0), (1, .ref h_p1), (2, .int p2), (3, .int p3), (4, .int p4)]) hx hb dX8_codeBlock_6 hl (by decide) rfl (fun ls hl => ?_)
  refine lv_aload_n hx hb dX8_codeBlock_8 rfl (lv_at hl 1 rfl) ?_
  refine lv_aload_n hx hb dX8_codeBlock_9 rfl (lv_at hl 2 rfl) ?_
  refine g_getN (T := TX4) (N := 10) (ci := 3) (C := RX4) (v := .ref (r_p1 4)) X hK hH in_RX4 4 rfl rfl 4 (by decide) qn_124 (fun _ h9 => h9) rfl dX8_codeBlock_10 ?_
  refine lv_iload hx hb dX8_codeBlock_13 (lv_at hl 0 rfl) ?_
  obtain ⟨x2, hx2, hf⟩ := sbind hf
  refine g_ald X hK hH 6 rfl hx2 dX8_codeBlock_15 ?_
  refine lv_iconst (v := (2 : Int32)) hx hb dX8_codeBlock_16 (by decide) ?_
  refine lv_idiv hx hb dX8_codeBlock_17 (by decide) ?_
  refine lv_iconst (v := (1 : Int32)) hx hb dX8_codeBlock_18 (by decide) ?_
  obtain ⟨o3, ho3, hf⟩ := sbind hf
  refine g_cVi (isC := [0, 1, 2, 3]) (isR := [4, 5, 6, 7]) (isP := [4, 5, 6, 7, 0, 1, 2, 3]) (wr := [(h_p1, .inr (3, FX4 r_p1 i_p1_step i_p1_blockCount)), ((r_p1 3), gA G 6 t_p1_sizes), ((r_p1 4), gA G 24 t_p1_modes), ((r_p1 6), gA G 384 t_p1_levels)]) (w2 := [(h_p0, .inr (1, FX2 r_p0 o3.2.2.2.1 o3.2.2.1 o3.2.1 o3.2.2.2.2.1)), ((r_p0 2), gA G 20 o3.2.2.2.2.2.2.2), ((r_p0 3), gA G 20 o3.2.2.2.2.2.2.1), ((r_p0 4), gA G 2048 o3.2.2.2.2.2.1), (h_p1, .inr (3, FX4 r_p1 i_p1_step i_p1_blockCount)), ((r_p1 3), gA G 6 t_p1_sizes), ((r_p1 4), gA G 24 t_p1_modes), ((r_p1 6), gA G 384 t_p1_levels)]) (q0 := 0) X hK hA hH hl (ct_X0_code_X2 l G h_p0 r_p0 i_p0_low i_p0_high i_p0_bitCount i_p0_pending t_p0_bytes t_p0_ones t_p0_zeros (x2 / (2 : Int32)) (1 : Int32) H.size o3 ho3) ⟨q_7, q_563, hd_X0_code_X2, rfl, rfl, ⟨Nat.le_of_ble_eq_true rfl, Nat.le_of_ble_eq_true rfl⟩, ⟨Nat.zero_le _, Nat.zero_le _⟩⟩ q_558 q_559 q_562 rfl rfl ⟨rfl, rfl, rfl, rfl, by decide, rfl, rfl⟩ rfl rfl (Nat.le_of_ble_eq_true rfl) dX8_codeBlock_19 (fun H locs hH => ?_)
  refine lv_istore (lv' := [(6, .int o3.1), (5, .int o1), (0, .ref h_p0), (1, .ref h_p1), (2, .int p2), (3, .int p3), (4, .int p4)]) hx hb dX8_codeBlock_22 hl (by decide) rfl (fun ls hl => ?_)
  refine lv_aload_n hx hb dX8_codeBlock_24 rfl (lv_at hl 2 rfl) ?_
  refine lv_aload_n hx hb dX8_codeBlock_25 rfl (lv_at hl 3 rfl) ?_
  refine g_getN (T := TX4) (N := 10) (ci := 3) (C := RX4) (v := .ref (r_p1 4)) X hK hH in_RX4 4 rfl rfl 4 (by decide) qn_124 (fun _ h9 => h9) rfl dX8_codeBlock_26 ?_
  refine lv_iload hx hb dX8_codeBlock_29 (lv_at hl 1 rfl) ?_
  obtain ⟨x4, hx4, hf⟩ := sbind hf
  refine g_ald X hK hH 6 rfl hx4 dX8_codeBlock_31 ?_
  refine lv_iconst (v := (2 : Int32)) hx hb dX8_codeBlock_32 (by decide) ?_
  refine lv_irem hx hb dX8_codeBlock_33 (by decide) ?_
  refine lv_iconst (v := (2 : Int32)) hx hb dX8_codeBlock_34 (by decide) ?_
  refine lv_iload hx hb dX8_codeBlock_35 (lv_at hl 0 rfl) ?_
  refine lv_iadd hx hb dX8_codeBlock_37 ?_
  obtain ⟨o5, ho5, hf⟩ := sbind hf
  refine g_cVi (isC := [0, 1, 2, 3]) (isR := [4, 5, 6, 7]) (isP := [4, 5, 6, 7, 0, 1, 2, 3]) (wr := [(h_p1, .inr (3, FX4 r_p1 i_p1_step i_p1_blockCount)), ((r_p1 3), gA G 6 t_p1_sizes), ((r_p1 4), gA G 24 t_p1_modes), ((r_p1 6), gA G 384 t_p1_levels)]) (w2 := [(h_p0, .inr (1, FX2 r_p0 o5.2.2.2.1 o5.2.2.1 o5.2.1 o5.2.2.2.2.1)), ((r_p0 2), gA G 20 o5.2.2.2.2.2.2.2), ((r_p0 3), gA G 20 o5.2.2.2.2.2.2.1), ((r_p0 4), gA G 2048 o5.2.2.2.2.2.1), (h_p1, .inr (3, FX4 r_p1 i_p1_step i_p1_blockCount)), ((r_p1 3), gA G 6 t_p1_sizes), ((r_p1 4), gA G 24 t_p1_modes), ((r_p1 6), gA G 384 t_p1_levels)]) (q0 := 0) X hK hA hH hl (ct_X0_code_X2 l G h_p0 r_p0 o3.2.2.2.1 o3.2.2.1 o3.2.1 o3.2.2.2.2.1 o3.2.2.2.2.2.1 o3.2.2.2.2.2.2.1 o3.2.2.2.2.2.2.2 (x4 - x4 / (2 : Int32) * (2 : Int32)) ((2 : Int32) + o3.1) H.size o5 ho5) ⟨q_7, q_563, hd_X0_code_X2, rfl, rfl, ⟨Nat.le_of_ble_eq_true rfl, Nat.le_of_ble_eq_true rfl⟩, ⟨Nat.zero_le _, Nat.zero_le _⟩⟩ q_558 q_559 q_562 rfl rfl ⟨rfl, rfl, rfl, rfl, by decide, rfl, rfl⟩ rfl rfl (Nat.le_of_ble_eq_true rfl) dX8_codeBlock_38 (fun H locs hH => ?_)
  refine lv_istore (lv' := [(7, .int o5.1), (6, .int o3.1), (5, .int o1), (0, .ref h_p0), (1, .ref h_p1), (2, .int p2), (3, .int p3), (4, .int p4)]) hx hb dX8_codeBlock_41 hl (by decide) rfl (fun ls hl => ?_)
  refine lv_aload_n hx hb dX8_codeBlock_43 rfl (lv_at hl 4 rfl) ?_
  refine g_getN (T := TX4) (N := 10) (ci := 3) (C := RX4) (v := .ref (r_p1 4)) X hK hH in_RX4 4 rfl rfl 4 (by decide) qn_124 (fun _ h9 => h9) rfl dX8_codeBlock_44 ?_
  refine lv_iload hx hb dX8_codeBlock_47 (lv_at hl 2 rfl) ?_
  refine lv_iload hx hb dX8_codeBlock_49 (lv_at hl 1 rfl) ?_
  refine lv_iconst (v := (2 : Int32)) hx hb dX8_codeBlock_51 (by decide) ?_
  refine lv_imul hx hb dX8_codeBlock_52 ?_
  refine lv_iload hx hb dX8_codeBlock_53 (lv_at hl 0 rfl) ?_
  refine lv_iadd hx hb dX8_codeBlock_55 ?_
  obtain ⟨g6, hg6, hf⟩ := sbind hf
  refine g_ast (w1 := [(h_p0, .inr (1, FX2 r_p0 o5.2.2.2.1 o5.2.2.1 o5.2.1 o5.2.2.2.2.1)), ((r_p0 2), gA G 20 o5.2.2.2.2.2.2.2), ((r_p0 3), gA G 20 o5.2.2.2.2.2.2.1), ((r_p0 4), gA G 2048 o5.2.2.2.2.2.1), (h_p1, .inr (3, FX4 r_p1 i_p1_step i_p1_blockCount)), ((r_p1 3), gA G 6 t_p1_sizes), ((r_p1 4), gA G 24 g6), ((r_p1 6), gA G 384 t_p1_levels)]) X hK hH 6 rfl hg6 dX8_codeBlock_56 rfl (fun H locs hH => ?_)
  refine lv_iconst (v := (0 : Int32)) hx hb dX8_codeBlock_57 (by decide) ?_
  refine lv_istore (lv' := [(8, .int (0 : Int32)), (7, .int o5.1), (6, .int o3.1), (5, .int o1), (0, .ref h_p0), (1, .ref h_p1), (2, .int p2), (3, .int p3), (4, .int p4)]) hx hb dX8_codeBlock_58 hl (by decide) rfl (fun ls hl => ?_)
  obtain ⟨o16, ho16, hf⟩ := sbind hf
  obtain ⟨FF16, hFF16, ho16⟩ := sfix ho16
  have L16 : ∀ (n : Nat) (x7 : Int32) (v8 : Int32) (v9 : Int32) (v10 : Int32) (v11 : Int32) (g12 : (Nat → Int32)) (g13 : (Nat → Int32)) (g14 : (Nat → Int32)) (g15 : (Nat → Int32)) (b16 : Int32 × Int32 × Int32 × Int32 × (Nat → Int32) × (Nat → Int32) × (Nat → Int32) × (Nat → Int32)) (H : Heap) (locs : List Loc) (ls : Array Slot), fixN n FF16 (x7, v8, v9, v10, v11, g12, g13, g14, g15) = some b16 → gH G A s.heap H locs [(h_p0, .inr (1, FX2 r_p0 v10 v9 v8 v11)), ((r_p0 2), gA G 20 g14), ((r_p0 3), gA G 20 g13), ((r_p0 4), gA G 2048 g12), (h_p1, .inr (3, FX4 r_p1 i_p1_step i_p1_blockCount)), ((r_p1 3), gA G 6 t_p1_sizes), ((r_p1 4), gA G 24 g6), ((r_p1 6), gA G 384 g15)] → lv_has ls 12 [(0, .ref h_p0), (1, .ref h_p1), (2, .int p2), (3, .int p3), (4, .int p4), (8, .int x7)] → (∀ (H : Heap) (locs : List Loc) (ls : Array Slot), gH G A s.heap H locs [(h_p0, .inr (1, FX2 r_p0 b16.2.2.1 b16.2.1 b16.1 b16.2.2.2.1)), ((r_p0 2), gA G 20 b16.2.2.2.2.2.2.1), ((r_p0 3), gA G 20 b16.2.2.2.2.2.1), ((r_p0 4), gA G 2048 b16.2.2.2.2.1), (h_p1, .inr (3, FX4 r_p1 i_p1_step i_p1_blockCount)), ((r_p1 3), gA G 6 t_p1_sizes), ((r_p1 4), gA G 24 g6), ((r_p1 6), gA G 384 b16.2.2.2.2.2.2.2)] → lv_has ls 12 [] → W p l e rm_X8_codeBlock_X2 s m args below meth c H locs 0 0 Q (F0 m 138 ls [])) → W p l e rm_X8_codeBlock_X2 s m args below meth c H locs 0 0 Q (F0 m 60 ls []) := by
    intro n
    induction n with
    | zero => intro x7 v8 v9 v10 v11 g12 g13 g14 g15 b16 H locs ls hf; exact sfix0 hf
    | succ n ih =>
      intro x7 v8 v9 v10 v11 g12 g13 g14 g15 b16 H locs ls hf hH hl KK
      obtain ⟨self16, hself16, hf⟩ := sstep hFF16 hf
      refine lv_iload hx hb dX8_codeBlock_60 (lv_at hl 5 rfl) ?_
      refine lv_iload hx hb dX8_codeBlock_62 (lv_at hl 4 rfl) ?_
      refine lv_icmp_ge (tgt := 138) hx hb dX8_codeBlock_64 (by decide) (fun c17 => ?_) (fun c17 => ?_)
      · have hf := spos hf c17
        obtain rfl := Option.some.inj hf
        exact KK _ _ _ hH (lv_sub hl [] rfl)
      · have hf := sneg hf c17
        refine lv_iconst (v := (0 : Int32)) hx hb dX8_codeBlock_67 (by decide) ?_
        refine lv_istore (lv' := [(9, .int (0 : Int32)), (0, .ref h_p0), (1, .ref h_p1), (2, .int p2), (3, .int p3), (4, .int p4), (8, .int x7)]) hx hb dX8_codeBlock_68 hl (by decide) rfl (fun ls hl => ?_)
        obtain ⟨o27, ho27, hf⟩ := sbind hf
        obtain ⟨FF27, hFF27, ho27⟩ := sfix ho27
        have L27 : ∀ (n : Nat) (x18 : Int32) (v19 : Int32) (v20 : Int32) (v21 : Int32) (v22 : Int32) (g23 : (Nat → Int32)) (g24 : (Nat → Int32)) (g25 : (Nat → Int32)) (g26 : (Nat → Int32)) (b27 : Int32 × Int32 × Int32 × Int32 × (Nat → Int32) × (Nat → Int32) × (Nat → Int32) × (Nat → Int32)) (H : Heap) (locs : List Loc) (ls : Array Slot), fixN n FF27 (x18, v19, v20, v21, v22, g23, g24, g25, g26) = some b27 → gH G A s.heap H locs [(h_p0, .inr (1, FX2 r_p0 v21 v20 v19 v22)), ((r_p0 2), gA G 20 g25), ((r_p0 3), gA G 20 g24), ((r_p0 4), gA G 2048 g23), (h_p1, .inr (3, FX4 r_p1 i_p1_step i_p1_blockCount)), ((r_p1 3), gA G 6 t_p1_sizes), ((r_p1 4), gA G 24 g6), ((r_p1 6), gA G 384 g26)] → lv_has ls 12 [(0, .ref h_p0), (1, .ref h_p1), (2, .int p2), (3, .int p3), (4, .int p4), (8, .int x7), (9, .int x18)] → (∀ (H : Heap) (locs : List Loc) (ls : Array Slot), gH G A s.heap H locs [(h_p0, .inr (1, FX2 r_p0 b27.2.2.1 b27.2.1 b27.1 b27.2.2.2.1)), ((r_p0 2), gA G 20 b27.2.2.2.2.2.2.1), ((r_p0 3), gA G 20 b27.2.2.2.2.2.1), ((r_p0 4), gA G 2048 b27.2.2.2.2.1), (h_p1, .inr (3, FX4 r_p1 i_p1_step i_p1_blockCount)), ((r_p1 3), gA G 6 t_p1_sizes), ((r_p1 4), gA G 24 g6), ((r_p1 6), gA G 384 b27.2.2.2.2.2.2.2)] → lv_has ls 12 [(0, .ref h_p0), (1, .ref h_p1), (2, .int p2), (3, .int p3), (4, .int p4), (8, .int x7)] → W p l e rm_X8_codeBlock_X2 s m args below meth c H locs 0 0 Q (F0 m 132 ls [])) → W p l e rm_X8_codeBlock_X2 s m args below meth c H locs 0 0 Q (F0 m 70 ls []) := by
          intro n
          induction n with
          | zero => intro x18 v19 v20 v21 v22 g23 g24 g25 g26 b27 H locs ls hf; exact sfix0 hf
          | succ n ih =>
            intro x18 v19 v20 v21 v22 g23 g24 g25 g26 b27 H locs ls hf hH hl KK
            obtain ⟨self27, hself27, hf⟩ := sstep hFF27 hf
            refine lv_iload hx hb dX8_codeBlock_70 (lv_at hl 6 rfl) ?_
            refine lv_iload hx hb dX8_codeBlock_72 (lv_at hl 4 rfl) ?_
            refine lv_icmp_ge (tgt := 132) hx hb dX8_codeBlock_74 (by decide) (fun c28 => ?_) (fun c28 => ?_)
            · have hf := spos hf c28
              obtain rfl := Option.some.inj hf
              exact KK _ _ _ hH (lv_sub hl [0, 1, 2, 3, 4, 5] rfl)
            · have hf := sneg hf c28
              refine lv_iload_n hx hb dX8_codeBlock_77 rfl (lv_at hl 3 rfl) ?_
              refine lv_iload hx hb dX8_codeBlock_78 (lv_at hl 5 rfl) ?_
              refine lv_iadd hx hb dX8_codeBlock_80 ?_
              refine lv_bipush (v := (16 : Int32)) hx hb dX8_codeBlock_81 (by decide) ?_
              refine lv_imul hx hb dX8_codeBlock_83 ?_
              refine lv_iload_n hx hb dX8_codeBlock_84 rfl (lv_at hl 2 rfl) ?_
              refine lv_iadd hx hb dX8_codeBlock_85 ?_
              refine lv_iload hx hb dX8_codeBlock_86 (lv_at hl 6 rfl) ?_
              refine lv_iadd hx hb dX8_codeBlock_88 ?_
              refine lv_topi (fun x29 ex29 => ?_)
              have hf := sbnd hf x29 ex29
              refine lv_istore (lv' := [(10, .int x29), (0, .ref h_p0), (1, .ref h_p1), (2, .int p2), (3, .int p3), (4, .int p4), (8, .int x7), (9, .int x18)]) hx hb dX8_codeBlock_89 hl (by decide) rfl (fun ls hl => ?_)
              refine lv_aload_n hx hb dX8_codeBlock_91 rfl (lv_at hl 2 rfl) ?_
              refine g_getN (T := TX4) (N := 10) (ci := 3) (C := RX4) (v := .ref (r_p1 6)) X hK hH in_RX4 4 rfl rfl 6 (by decide) qn_128 (fun _ h9 => h9) rfl dX8_codeBlock_92 ?_
              refine lv_iload hx hb dX8_codeBlock_95 (lv_at hl 0 rfl) ?_
              refine lv_iload hx hb dX8_codeBlock_97 (lv_at hl 6 rfl) ?_
              refine lv_iload hx hb dX8_codeBlock_99 (lv_at hl 7 rfl) ?_
              obtain ⟨o30, ho30, hf⟩ := sbind hf
              refine g_cSi (isC := [7]) (isR := [0, 1, 2, 3, 4, 5, 6]) (isP := [0, 1, 2, 3, 4, 5, 6, 7]) (wr := [(h_p0, .inr (1, FX2 r_p0 v21 v20 v19 v22)), ((r_p0 2), gA G 20 g25), ((r_p0 3), gA G 20 g24), ((r_p0 4), gA G 2048 g23), (h_p1, .inr (3, FX4 r_p1 i_p1_step i_p1_blockCount)), ((r_p1 3), gA G 6 t_p1_sizes), ((r_p1 4), gA G 24 g6)]) (w2 := [(h_p0, .inr (1, FX2 r_p0 v21 v20 v19 v22)), ((r_p0 2), gA G 20 g25), ((r_p0 3), gA G 20 g24), ((r_p0 4), gA G 2048 g23), (h_p1, .inr (3, FX4 r_p1 i_p1_step i_p1_blockCount)), ((r_p1 3), gA G 6 t_p1_sizes), ((r_p1 4), gA G 24 g6), ((r_p1 6), gA G 384 g26)]) X hK hA hH hl (ct_X8_levelContext l G (r_p1 6) 384 g26 x29 x7 x18 H.size o30 ho30) ⟨q_1, q_609, hd_X8_levelContext, rfl, rfl, ⟨Nat.le_of_ble_eq_true rfl, Nat.le_of_ble_eq_true rfl⟩, ⟨Nat.zero_le _, Nat.zero_le _⟩⟩ q_607 q_608 ⟨rfl, rfl, rfl, rfl, by decide, rfl, rfl⟩ rfl rfl (Nat.le_of_ble_eq_true rfl) dX8_codeBlock_101 (fun H locs hH => ?_)
              refine lv_istore (lv' := [(11, .int o30), (10, .int x29), (0, .ref h_p0), (1, .ref h_p1), (2, .int p2), (3, .int p3), (4, .int p4), (8, .int x7), (9, .int x18)]) hx hb dX8_codeBlock_104 hl (by decide) rfl (fun ls hl => ?_)
              refine lv_aload_n hx hb dX8_codeBlock_106 rfl (lv_at hl 3 rfl) ?_
              refine g_getN (T := TX4) (N := 10) (ci := 3) (C := RX4) (v := .ref (r_p1 6)) X hK hH in_RX4 4 rfl rfl 6 (by decide) qn_128 (fun _ h9 => h9) rfl dX8_codeBlock_107 ?_
              refine lv_iload hx hb dX8_codeBlock_110 (lv_at hl 1 rfl) ?_
              refine lv_aload_n hx hb dX8_codeBlock_112 rfl (lv_at hl 2 rfl) ?_
              refine lv_aload_n hx hb dX8_codeBlock_113 rfl (lv_at hl 3 rfl) ?_
              refine g_getN (T := TX4) (N := 10) (ci := 3) (C := RX4) (v := .ref (r_p1 6)) X hK hH in_RX4 4 rfl rfl 6 (by decide) qn_128 (fun _ h9 => h9) rfl dX8_codeBlock_114 ?_
              refine lv_iload hx hb dX8_codeBlock_117 (lv_at hl 1 rfl) ?_
              obtain ⟨x31, hx31, hf⟩ := sbind hf
              refine g_ald X hK hH 7 rfl hx31 dX8_codeBlock_119 ?_
              refine lv_iload hx hb dX8_codeBlock_120 (lv_at hl 0 rfl) ?_
              obtain ⟨o32, ho32, hf⟩ := sbind hf
              refine g_cSi (isC := [0, 1, 2, 3]) (isR := [4, 5, 6, 7]) (isP := [4, 5, 6, 7, 0, 1, 2, 3]) (wr := [(h_p1, .inr (3, FX4 r_p1 i_p1_step i_p1_blockCount)), ((r_p1 3), gA G 6 t_p1_sizes), ((r_p1 4), gA G 24 g6), ((r_p1 6), gA G 384 g26)]) (w2 := [(h_p0, .inr (1, FX2 r_p0 o32.2.2.2.1 o32.2.2.1 o32.2.1 o32.2.2.2.2.1)), ((r_p0 2), gA G 20 o32.2.2.2.2.2.2.2), ((r_p0 3), gA G 20 o32.2.2.2.2.2.2.1), ((r_p0 4), gA G 2048 o32.2.2.2.2.2.1), (h_p1, .inr (3, FX4 r_p1 i_p1_step i_p1_blockCount)), ((r_p1 3), gA G 6 t_p1_sizes), ((r_p1 4), gA G 24 g6), ((r_p1 6), gA G 384 g26)]) X hK hA hH hl (ct_X8_codeLevel_X2 l G h_p0 r_p0 v21 v20 v19 v22 g23 g24 g25 x31 o30 H.size o32 ho32) ⟨q_1, q_612, hd_X8_codeLevel_X2, rfl, rfl, ⟨Nat.le_of_ble_eq_true rfl, Nat.le_of_ble_eq_true rfl⟩, ⟨Nat.zero_le _, Nat.zero_le _⟩⟩ q_610 q_611 ⟨rfl, rfl, rfl, rfl, by decide, rfl, rfl⟩ rfl rfl (Nat.le_of_ble_eq_true rfl) dX8_codeBlock_122 (fun H locs hH => ?_)
              obtain ⟨g33, hg33, hf⟩ := sbind hf
              refine g_ast (w1 := [(h_p0, .inr (1, FX2 r_p0 o32.2.2.2.1 o32.2.2.1 o32.2.1 o32.2.2.2.2.1)), ((r_p0 2), gA G 20 o32.2.2.2.2.2.2.2), ((r_p0 3), gA G 20 o32.2.2.2.2.2.2.1), ((r_p0 4), gA G 2048 o32.2.2.2.2.2.1), (h_p1, .inr (3, FX4 r_p1 i_p1_step i_p1_blockCount)), ((r_p1 3), gA G 6 t_p1_sizes), ((r_p1 4), gA G 24 g6), ((r_p1 6), gA G 384 g33)]) X hK hH 7 rfl hg33 dX8_codeBlock_125 rfl (fun H locs hH => ?_)
              obtain ⟨x34, ex34⟩ : ∃ y : Int32, y = (x18 + (1 : Int32)) := ⟨_, rfl⟩
              have hf := sbnd hf x34 ex34
              refine lv_iinc (v := x34) (lv' := [(9, .int x34), (11, .int o30), (10, .int x29), (0, .ref h_p0), (1, .ref h_p1), (2, .int p2), (3, .int p3), (4, .int p4), (8, .int x7)]) hx hb dX8_codeBlock_126 hl (k := 8) rfl (by rw [ex34]; rfl) (by decide) rfl (fun ls hl => ?_)
              refine lv_goto (tgt := 70) hx hb dX8_codeBlock_129 (by decide) ?_
              exact ih x34 o32.2.1 o32.2.2.1 o32.2.2.2.1 o32.2.2.2.2.1 o32.2.2.2.2.2.1 o32.2.2.2.2.2.2.1 o32.2.2.2.2.2.2.2 g33 _ _ _ _ (hself27 _ _ hf) hH (lv_sub hl [3, 4, 5, 6, 7, 8, 0] rfl) KK
        refine L27 FUEL (0 : Int32) v8 v9 v10 v11 g12 g13 g14 g15 o27 _ _ _ ho27 hH (lv_sub hl [1, 2, 3, 4, 5, 6, 0] rfl) (fun H locs ls hH hl => ?_)
        obtain ⟨x35, ex35⟩ : ∃ y : Int32, y = (x7 + (1 : Int32)) := ⟨_, rfl⟩
        have hf := sbnd hf x35 ex35
        refine lv_iinc (v := x35) (lv' := [(8, .int x35), (0, .ref h_p0), (1, .ref h_p1), (2, .int p2), (3, .int p3), (4, .int p4)]) hx hb dX8_codeBlock_132 hl (k := 5) rfl (by rw [ex35]; rfl) (by decide) rfl (fun ls hl => ?_)
        refine lv_goto (tgt := 60) hx hb dX8_codeBlock_135 (by decide) ?_
        exact ih x35 o27.1 o27.2.1 o27.2.2.1 o27.2.2.2.1 o27.2.2.2.2.1 o27.2.2.2.2.2.1 o27.2.2.2.2.2.2.1 o27.2.2.2.2.2.2.2 _ _ _ _ (hself16 _ _ hf) hH (lv_sub hl [1, 2, 3, 4, 5, 0] rfl) KK
  refine L16 FUEL (0 : Int32) o5.2.1 o5.2.2.1 o5.2.2.2.1 o5.2.2.2.2.1 o5.2.2.2.2.2.1 o5.2.2.2.2.2.2.1 o5.2.2.2.2.2.2.2 t_p1_levels o16 _ _ _ ho16 hH (lv_sub hl [4, 5, 6, 7, 8, 0] rfl) (fun H locs ls hH hl => ?_)
  obtain rfl := Option.some.inj hf
  exact hE _ _ _ _ hH dX8_codeBlock_138

def lf_X8_codePart_X2 (i_p0_bitCount : Int32) (i_p0_high : Int32) (i_p0_low : Int32) (i_p0_pending : Int32) (t_p0_bytes : Nat → Int32) (t_p0_ones : Nat → Int32) (t_p0_zeros : Nat → Int32) (t_p1_levels : Nat → Int32) (t_p1_modes : Nat → Int32) (t_p1_sizes : Nat → Int32) (p2 : Int32) (p3 : Int32) : Option (Int32 × Int32 × Int32 × Int32 × (Nat → Int32) × (Nat → Int32) × (Nat → Int32) × (Nat → Int32) × (Nat → Int32) × (Nat → Int32)) :=
bnd (p2 * (8 : Int32)) fun x1 => (fixN FUEL (fun (self13 : (Int32 × Int32 × Int32 × Int32 × Int32 × (Nat → Int32) × (Nat → Int32) × (Nat → Int32) × (Nat → Int32) × (Nat → Int32) × (Nat → Int32)) → Option (Int32 × Int32 × Int32 × Int32 × (Nat → Int32) × (Nat → Int32) × (Nat → Int32) × (Nat → Int32) × (Nat → Int32) × (Nat → Int32))) (z13 : Int32 × Int32 × Int32 × Int32 × Int32 × (Nat → Int32) × (Nat → Int32) × (Nat → Int32) × (Nat → Int32) × (Nat → Int32) × (Nat → Int32)) => (fun (x2 : Int32) (v3 : Int32) (v4 : Int32) (v5 : Int32) (v6 : Int32) (g7 : (Nat → Int32)) (g8 : (Nat → Int32)) (g9 : (Nat → Int32)) (g10 : (Nat → Int32)) (g11 : (Nat → Int32)) (g12 : (Nat → Int32)) => (if p3 ≤ x2 then some (v3, v4, v5, v6, g7, g8, g9, g10, g11, g12) else bnd (x2 * (8 : Int32)) fun x15 => (lf_X4_sizeAt g12 x15 x1).bind fun o16 => jn (fun (z19 : Int32) => (fun (s18 : Int32) => (lf_X0_code_X2 v3 v4 v5 v6 g7 g8 g9 s18 (0 : Int32)).bind fun o20 => jn (fun (z23 : Int32) => (fun (s22 : Int32) => (lf_X4_setSizeAt g12 x15 x1 s22).bind fun o24 => (fixN FUEL (fun (self35 : (Int32 × Int32 × Int32 × Int32 × Int32 × (Nat → Int32) × (Nat → Int32) × (Nat → Int32) × (Nat → Int32) × (Nat → Int32)) → Option (Int32 × Int32 × Int32 × Int32 × (Nat → Int32) × (Nat → Int32) × (Nat → Int32) × (Nat → Int32) × (Nat → Int32))) (z35 : Int32 × Int32 × Int32 × Int32 × Int32 × (Nat → Int32) × (Nat → Int32) × (Nat → Int32) × (Nat → Int32) × (Nat → Int32)) => (fun (x25 : Int32) (v26 : Int32) (v27 : Int32) (v28 : Int32) (v29 : Int32) (g30 : (Nat → Int32)) (g31 : (Nat → Int32)) (g32 : (Nat → Int32)) (g33 : (Nat → Int32)) (g34 : (Nat → Int32)) => (if (8 : Int32) ≤ x25 then some (v26, v27, v28, v29, g30, g31, g32, g33, g34) else (fixN FUEL (fun (self47 : (Int32 × Int32 × Int32 × Int32 × Int32 × (Nat → Int32) × (Nat → Int32) × (Nat → Int32) × (Nat → Int32) × (Nat → Int32)) → Option (Int32 × Int32 × Int32 × Int32 × (Nat → Int32) × (Nat → Int32) × (Nat → Int32) × (Nat → Int32) × (Nat → Int32))) (z47 : Int32 × Int32 × Int32 × Int32 × Int32 × (Nat → Int32) × (Nat → Int32) × (Nat → Int32) × (Nat → Int32) × (Nat → Int32)) => (fun (x37 : Int32) (v38 : Int32) (v39 : Int32) (v40 : Int32) (v41 : Int32) (g42 : (Nat → Int32)) (g43 : (Nat → Int32)) (g44 : (Nat → Int32)) (g45 : (Nat → Int32)) (g46 : (Nat → Int32)) => (if (8 : Int32) ≤ x37 then some (v38, v39, v40, v41, g42, g43, g44, g45, g46) else (lf_X8_codeBlock_X2 v38 v39 v40 v41 g42 g43 g44 g45 g46 o24 (x15 + x37) (x1 + x25) s22).bind fun o49 => bnd (x37 + s22) fun x50 => self47 (x50, o49.1, o49.2.1, o49.2.2.1, o49.2.2.2.1, o49.2.2.2.2.1, o49.2.2.2.2.2.1, o49.2.2.2.2.2.2.1, o49.2.2.2.2.2.2.2.1, o49.2.2.2.2.2.2.2.2))) z47.1 z47.2.1 z47.2.2.1 z47.2.2.2.1 z47.2.2.2.2.1 z47.2.2.2.2.2.1 z47.2.2.2.2.2.2.1 z47.2.2.2.2.2.2.2.1 z47.2.2.2.2.2.2.2.2.1 z47.2.2.2.2.2.2.2.2.2) ((0 : Int32), v26, v27, v28, v29, g30, g31, g32, g33, g34)).bind fun o47 => bnd (x25 + s22) fun x51 => self35 (x51, o47.1, o47.2.1, o47.2.2.1, o47.2.2.2.1, o47.2.2.2.2.1, o47.2.2.2.2.2.1, o47.2.2.2.2.2.2.1, o47.2.2.2.2.2.2.2.1, o47.2.2.2.2.2.2.2.2))) z35.1 z35.2.1 z35.2.2.1 z35.2.2.2.1 z35.2.2.2.2.1 z35.2.2.2.2.2.1 z35.2.2.2.2.2.2.1 z35.2.2.2.2.2.2.2.1 z35.2.2.2.2.2.2.2.2.1 z35.2.2.2.2.2.2.2.2.2) ((0 : Int32), o20.2.1, o20.2.2.1, o20.2.2.2.1, o20.2.2.2.2.1, o20.2.2.2.2.2.1, o20.2.2.2.2.2.2.1, o20.2.2.2.2.2.2.2, g10, g11)).bind fun o35 => bnd (x2 + (1 : Int32)) fun x52 => self13 (x52, o35.1, o35.2.1, o35.2.2.1, o35.2.2.2.1, o35.2.2.2.2.1, o35.2.2.2.2.2.1, o35.2.2.2.2.2.2.1, o35.2.2.2.2.2.2.2.1, o35.2.2.2.2.2.2.2.2, o24)) z23) (fun k23 => (if o20.1 = (1 : Int32) then k23 (4 : Int32) else k23 (8 : Int32)))) z19) (fun k19 => (if o16 = (4 : Int32) then k19 (1 : Int32) else k19 (0 : Int32))))) z13.1 z13.2.1 z13.2.2.1 z13.2.2.2.1 z13.2.2.2.2.1 z13.2.2.2.2.2.1 z13.2.2.2.2.2.2.1 z13.2.2.2.2.2.2.2.1 z13.2.2.2.2.2.2.2.2.1 z13.2.2.2.2.2.2.2.2.2.1 z13.2.2.2.2.2.2.2.2.2.2) ((0 : Int32), i_p0_bitCount, i_p0_high, i_p0_low, i_p0_pending, t_p0_bytes, t_p0_ones, t_p0_zeros, t_p1_levels, t_p1_modes, t_p1_sizes)).bind fun o13 => some (o13.1, o13.2.1, o13.2.2.1, o13.2.2.2.1, o13.2.2.2.2.1, o13.2.2.2.2.2.1, o13.2.2.2.2.2.2.1, o13.2.2.2.2.2.2.2.1, o13.2.2.2.2.2.2.2.2.1, o13.2.2.2.2.2.2.2.2.2)
abbrev rm_X8_codePart_X2 : Room := { frames := 4, cells := 0, slots := 0, locals := 112 }
theorem hd_X8_codePart_X2 : yX8_codePart.cls ≠ "java/lang/invoke/MethodHandle" ∧ yX8_codePart.cls ≠ "java/lang/invoke/VarHandle" ∧ (parseMethodDescriptor yX8_codePart.desc).map (fun d => d.parameters.length) = some 4 := by decide +kernel
set_option maxHeartbeats 4000000 in
set_option maxRecDepth 100000 in
theorem ct_X8_codePart_X2 (l : Launch) (G : gG) (h_p0 h_p1 : Nat) (r_p0 r_p1 : Nat → Nat) (i_p0_low i_p0_high i_p0_bitCount i_p0_pending i_p1_step i_p1_blockCount : Int32) (t_p0_bytes t_p0_ones t_p0_zeros t_p1_levels t_p1_modes t_p1_sizes : Nat → Int32) (p2 p3 : Int32) (sz : Nat) (out : Int32 × Int32 × Int32 × Int32 × (Nat → Int32) × (Nat → Int32) × (Nat → Int32) × (Nat → Int32) × (Nat → Int32) × (Nat → Int32)) (hf : lf_X8_codePart_X2 i_p0_bitCount i_p0_high i_p0_low i_p0_pending t_p0_bytes t_p0_ones t_p0_zeros t_p1_levels t_p1_modes t_p1_sizes p2 p3 = some out) : gV l G yX8_codePart cX8_codePart 11 rm_X8_codePart_X2 [.ref h_p0, .ref h_p1, .int p2, .int p3] sz [(h_p0, .inr (1, FX2 r_p0 i_p0_low i_p0_high i_p0_bitCount i_p0_pending)), ((r_p0 2), gA G 20 t_p0_zeros), ((r_p0 3), gA G 20 t_p0_ones), ((r_p0 4), gA G 2048 t_p0_bytes), (h_p1, .inr (3, FX4 r_p1 i_p1_step i_p1_blockCount)), ((r_p1 3), gA G 6 t_p1_sizes), ((r_p1 4), gA G 24 t_p1_modes), ((r_p1 6), gA G 384 t_p1_levels)] [(h_p0, .inr (1, FX2 r_p0 out.2.2.1 out.2.1 out.1 out.2.2.2.1)), ((r_p0 2), gA G 20 out.2.2.2.2.2.2.1), ((r_p0 3), gA G 20 out.2.2.2.2.2.1), ((r_p0 4), gA G 2048 out.2.2.2.2.1), (h_p1, .inr (3, FX4 r_p1 i_p1_step i_p1_blockCount)), ((r_p1 3), gA G 6 out.2.2.2.2.2.2.2.2.2), ((r_p1 4), gA G 24 out.2.2.2.2.2.2.2.2.1), ((r_p1 6), gA G 384 out.2.2.2.2.2.2.2.1)] := by
  refine gV_of (by decide +kernel) (Nat.le_of_ble_eq_true rfl) ?_
  intro p e s m args below meth c ls A Q X hK hA hsz hH hl hE
  subst hsz
  have hx := X.1
  have hb := X.2.1
  unfold lf_X8_codePart_X2 at hf
  have hl : lv_has ls 11 [(0, .ref h_p0), (1, .ref h_p1), (2, .int p2), (3, .int p3)] := hl
  have hH : gH G A s.heap s.heap [] [(h_p0, .inr (1, FX2 r_p0 i_p0_low i_p0_high i_p0_bitCount i_p0_pending)), ((r_p0 2), gA G 20 t_p0_zeros), ((r_p0 3), gA G 20 t_p0_ones), ((r_p0 4), gA G 2048 t_p0_bytes), (h_p1, .inr (3, FX4 r_p1 i_p1_step i_p1_blockCount)), ((r_p1 3), gA G 6 t_p1_sizes), ((r_p1 4), gA G 24 t_p1_modes), ((r_p1 6), gA G 384 t_p1_levels)] := hH
  refine lv_iload_n hx hb dX8_codePart_0 rfl (lv_at hl 2 rfl) ?_
  refine lv_bipush (v := (8 : Int32)) hx hb dX8_codePart_1 (by decide) ?_
  refine lv_imul hx hb dX8_codePart_3 ?_
  refine lv_topi (fun x1 ex1 => ?_)
  have hf := sbnd hf x1 ex1
  refine lv_istore (lv' := [(4, .int x1), (0, .ref h_p0), (1, .ref h_p1), (2, .int p2), (3, .int p3)]) hx hb dX8_codePart_4 hl (by decide) rfl (fun ls hl => ?_)
  refine lv_iconst (v := (0 : Int32)) hx hb dX8_codePart_6 (by decide) ?_
  refine lv_istore (lv' := [(5, .int (0 : Int32)), (4, .int x1), (0, .ref h_p0), (1, .ref h_p1), (2, .int p2), (3, .int p3)]) hx hb dX8_codePart_7 hl (by decide) rfl (fun ls hl => ?_)
  obtain ⟨o13, ho13, hf⟩ := sbind hf
  obtain ⟨FF13, hFF13, ho13⟩ := sfix ho13
  have L13 : ∀ (n : Nat) (x2 : Int32) (v3 : Int32) (v4 : Int32) (v5 : Int32) (v6 : Int32) (g7 : (Nat → Int32)) (g8 : (Nat → Int32)) (g9 : (Nat → Int32)) (g10 : (Nat → Int32)) (g11 : (Nat → Int32)) (g12 : (Nat → Int32)) (b13 : Int32 × Int32 × Int32 × Int32 × (Nat → Int32) × (Nat → Int32) × (Nat → Int32) × (Nat → Int32) × (Nat → Int32) × (Nat → Int32)) (H : Heap) (locs : List Loc) (ls : Array Slot), fixN n FF13 (x2, v3, v4, v5, v6, g7, g8, g9, g10, g11, g12) = some b13 → gH G A s.heap H locs [(h_p0, .inr (1, FX2 r_p0 v5 v4 v3 v6)), ((r_p0 2), gA G 20 g9), ((r_p0 3), gA G 20 g8), ((r_p0 4), gA G 2048 g7), (h_p1, .inr (3, FX4 r_p1 i_p1_step i_p1_blockCount)), ((r_p1 3), gA G 6 g12), ((r_p1 4), gA G 24 g11), ((r_p1 6), gA G 384 g10)] → lv_has ls 11 [(0, .ref h_p0), (1, .ref h_p1), (3, .int p3), (4, .int x1), (5, .int x2)] → (∀ (H : Heap) (locs : List Loc) (ls : Array Slot), gH G A s.heap H locs [(h_p0, .inr (1, FX2 r_p0 b13.2.2.1 b13.2.1 b13.1 b13.2.2.2.1)), ((r_p0 2), gA G 20 b13.2.2.2.2.2.2.1), ((r_p0 3), gA G 20 b13.2.2.2.2.2.1), ((r_p0 4), gA G 2048 b13.2.2.2.2.1), (h_p1, .inr (3, FX4 r_p1 i_p1_step i_p1_blockCount)), ((r_p1 3), gA G 6 b13.2.2.2.2.2.2.2.2.2), ((r_p1 4), gA G 24 b13.2.2.2.2.2.2.2.2.1), ((r_p1 6), gA G 384 b13.2.2.2.2.2.2.2.1)] → lv_has ls 11 [] → W p l e rm_X8_codePart_X2 s m args below meth c H locs 0 0 Q (F0 m 133 ls [])) → W p l e rm_X8_codePart_X2 s m args below meth c H locs 0 0 Q (F0 m 9 ls []) := by
    intro n
    induction n with
    | zero => intro x2 v3 v4 v5 v6 g7 g8 g9 g10 g11 g12 b13 H locs ls hf; exact sfix0 hf
    | succ n ih =>
      intro x2 v3 v4 v5 v6 g7 g8 g9 g10 g11 g12 b13 H locs ls hf hH hl KK
      obtain ⟨self13, hself13, hf⟩ := sstep hFF13 hf
      refine lv_iload hx hb dX8_codePart_9 (lv_at hl 4 rfl) ?_
      refine lv_iload_n hx hb dX8_codePart_11 rfl (lv_at hl 2 rfl) ?_
      refine lv_icmp_ge (tgt := 133) hx hb dX8_codePart_12 (by decide) (fun c14 => ?_) (fun c14 => ?_)
      · have hf := spos hf c14
        obtain rfl := Option.some.inj hf
        exact KK _ _ _ hH (lv_sub hl [] rfl)
      · have hf := sneg hf c14
        refine lv_iload hx hb dX8_codePart_15 (lv_at hl 4 rfl) ?_
        refine lv_bipush (v := (8 : Int32)) hx hb dX8_codePart_17 (by decide) ?_
        refine lv_imul hx hb dX8_codePart_19 ?_
        refine lv_topi (fun x15 ex15 => ?_)
        have hf := sbnd hf x15 ex15
        refine lv_istore (lv' := [(6, .int x15), (0, .ref h_p0), (1, .ref h_p1), (3, .int p3), (4, .int x1), (5, .int x2)]) hx hb dX8_codePart_20 hl (by decide) rfl (fun ls hl => ?_)
        refine lv_aload_n hx hb dX8_codePart_22 rfl (lv_at hl 1 rfl) ?_
        refine lv_aload_n hx hb dX8_codePart_23 rfl (lv_at hl 2 rfl) ?_
        refine lv_iload hx hb dX8_codePart_24 (lv_at hl 0 rfl) ?_
        refine lv_iload hx hb dX8_codePart_26 (lv_at hl 4 rfl) ?_
        obtain ⟨o16, ho16, hf⟩ := sbind hf
        refine g_cVi (isC := [4, 5]) (isR := [0, 1, 2, 3, 6, 7]) (isP := [0, 1, 2, 3, 6, 7, 4, 5]) (wr := [(h_p0, .inr (1, FX2 r_p0 v5 v4 v3 v6)), ((r_p0 2), gA G 20 g9), ((r_p0 3), gA G 20 g8), ((r_p0 4), gA G 2048 g7), ((r_p1 4), gA G 24 g11), ((r_p1 6), gA G 384 g10)]) (w2 := [(h_p0, .inr (1, FX2 r_p0 v5 v4 v3 v6)), ((r_p0 2), gA G 20 g9), ((r_p0 3), gA G 20 g8), ((r_p0 4), gA G 2048 g7), (h_p1, .inr (3, FX4 r_p1 i_p1_step i_p1_blockCount)), ((r_p1 3), gA G 6 g12), ((r_p1 4), gA G 24 g11), ((r_p1 6), gA G 384 g10)]) (q0 := 4) X hK hA hH hl (ct_X4_sizeAt l G h_p1 r_p1 i_p1_step i_p1_blockCount g12 x15 x1 H.size o16 ho16) ⟨q_4, q_557, hd_X4_sizeAt, rfl, rfl, ⟨Nat.le_of_ble_eq_true rfl, Nat.le_of_ble_eq_true rfl⟩, ⟨Nat.zero_le _, Nat.zero_le _⟩⟩ q_554 q_555 q_556 rfl rfl ⟨rfl, rfl, rfl, rfl, by decide, rfl, rfl⟩ rfl rfl (Nat.le_of_ble_eq_true rfl) dX8_codePart_28 (fun H locs hH => ?_)
        refine lv_iconst (v := (4 : Int32)) hx hb dX8_codePart_31 (by decide) ?_
        obtain ⟨k19, hk19, hf⟩ := sjn hf
        have J19 : ∀ (s18 : Int32) (H : Heap) (locs : List Loc) (ls : Array Slot), k19 s18 = some b13 → gH G A s.heap H locs [(h_p0, .inr (1, FX2 r_p0 v5 v4 v3 v6)), ((r_p0 2), gA G 20 g9), ((r_p0 3), gA G 20 g8), ((r_p0 4), gA G 2048 g7), (h_p1, .inr (3, FX4 r_p1 i_p1_step i_p1_blockCount)), ((r_p1 3), gA G 6 g12), ((r_p1 4), gA G 24 g11), ((r_p1 6), gA G 384 g10)] → lv_has ls 11 [(0, .ref h_p0), (1, .ref h_p1), (3, .int p3), (4, .int x1), (5, .int x2), (6, .int x15)] → W p l e rm_X8_codePart_X2 s m args below meth c H locs 0 0 Q (F0 m 40 ls [.int s18, .ref h_p0]) := by
          intro s18 H locs ls hf hH hl
          have hf := hk19 _ _ hf
          refine lv_iconst (v := (0 : Int32)) hx hb dX8_codePart_40 (by decide) ?_
          obtain ⟨o20, ho20, hf⟩ := sbind hf
          refine g_cVi (isC := [0, 1, 2, 3]) (isR := [4, 5, 6, 7]) (isP := [4, 5, 6, 7, 0, 1, 2, 3]) (wr := [(h_p1, .inr (3, FX4 r_p1 i_p1_step i_p1_blockCount)), ((r_p1 3), gA G 6 g12), ((r_p1 4), gA G 24 g11), ((r_p1 6), gA G 384 g10)]) (w2 := [(h_p0, .inr (1, FX2 r_p0 o20.2.2.2.1 o20.2.2.1 o20.2.1 o20.2.2.2.2.1)), ((r_p0 2), gA G 20 o20.2.2.2.2.2.2.2), ((r_p0 3), gA G 20 o20.2.2.2.2.2.2.1), ((r_p0 4), gA G 2048 o20.2.2.2.2.2.1), (h_p1, .inr (3, FX4 r_p1 i_p1_step i_p1_blockCount)), ((r_p1 3), gA G 6 g12), ((r_p1 4), gA G 24 g11), ((r_p1 6), gA G 384 g10)]) (q0 := 0) X hK hA hH hl (ct_X0_code_X2 l G h_p0 r_p0 v5 v4 v3 v6 g7 g8 g9 s18 (0 : Int32) H.size o20 ho20) ⟨q_7, q_563, hd_X0_code_X2, rfl, rfl, ⟨Nat.le_of_ble_eq_true rfl, Nat.le_of_ble_eq_true rfl⟩, ⟨Nat.zero_le _, Nat.zero_le _⟩⟩ q_558 q_559 q_562 rfl rfl ⟨rfl, rfl, rfl, rfl, by decide, rfl, rfl⟩ rfl rfl (Nat.le_of_ble_eq_true rfl) dX8_codePart_41 (fun H locs hH => ?_)
          refine lv_istore (lv' := [(7, .int o20.1), (0, .ref h_p0), (1, .ref h_p1), (3, .int p3), (4, .int x1), (5, .int x2), (6, .int x15)]) hx hb dX8_codePart_44 hl (by decide) rfl (fun ls hl => ?_)
          refine lv_iload hx hb dX8_codePart_46 (lv_at hl 0 rfl) ?_
          refine lv_iconst (v := (1 : Int32)) hx hb dX8_codePart_48 (by decide) ?_
          obtain ⟨k23, hk23, hf⟩ := sjn hf
          have J23 : ∀ (s22 : Int32) (H : Heap) (locs : List Loc) (ls : Array Slot), k23 s22 = some b13 → gH G A s.heap H locs [(h_p0, .inr (1, FX2 r_p0 o20.2.2.2.1 o20.2.2.1 o20.2.1 o20.2.2.2.2.1)), ((r_p0 2), gA G 20 o20.2.2.2.2.2.2.2), ((r_p0 3), gA G 20 o20.2.2.2.2.2.2.1), ((r_p0 4), gA G 2048 o20.2.2.2.2.2.1), (h_p1, .inr (3, FX4 r_p1 i_p1_step i_p1_blockCount)), ((r_p1 3), gA G 6 g12), ((r_p1 4), gA G 24 g11), ((r_p1 6), gA G 384 g10)] → lv_has ls 11 [(0, .ref h_p0), (1, .ref h_p1), (3, .int p3), (4, .int x1), (5, .int x2), (6, .int x15)] → W p l e rm_X8_codePart_X2 s m args below meth c H locs 0 0 Q (F0 m 58 ls [.int s22]) := by
            intro s22 H locs ls hf hH hl
            have hf := hk23 _ _ hf
            refine lv_istore (lv' := [(8, .int s22), (0, .ref h_p0), (1, .ref h_p1), (3, .int p3), (4, .int x1), (5, .int x2), (6, .int x15)]) hx hb dX8_codePart_58 hl (by decide) rfl (fun ls hl => ?_)
            refine lv_aload_n hx hb dX8_codePart_60 rfl (lv_at hl 2 rfl) ?_
            refine lv_iload hx hb dX8_codePart_61 (lv_at hl 6 rfl) ?_
            refine lv_iload hx hb dX8_codePart_63 (lv_at hl 4 rfl) ?_
            refine lv_iload hx hb dX8_codePart_65 (lv_at hl 0 rfl) ?_
            obtain ⟨o24, ho24, hf⟩ := sbind hf
            refine g_cVv (isC := [4, 5]) (isR := [0, 1, 2, 3, 6, 7]) (isP := [0, 1, 2, 3, 6, 7, 4, 5]) (wr := [(h_p0, .inr (1, FX2 r_p0 o20.2.2.2.1 o20.2.2.1 o20.2.1 o20.2.2.2.2.1)), ((r_p0 2), gA G 20 o20.2.2.2.2.2.2.2), ((r_p0 3), gA G 20 o20.2.2.2.2.2.2.1), ((r_p0 4), gA G 2048 o20.2.2.2.2.2.1), ((r_p1 4), gA G 24 g11), ((r_p1 6), gA G 384 g10)]) (w2 := [(h_p0, .inr (1, FX2 r_p0 o20.2.2.2.1 o20.2.2.1 o20.2.1 o20.2.2.2.2.1)), ((r_p0 2), gA G 20 o20.2.2.2.2.2.2.2), ((r_p0 3), gA G 20 o20.2.2.2.2.2.2.1), ((r_p0 4), gA G 2048 o20.2.2.2.2.2.1), (h_p1, .inr (3, FX4 r_p1 i_p1_step i_p1_blockCount)), ((r_p1 3), gA G 6 o24), ((r_p1 4), gA G 24 g11), ((r_p1 6), gA G 384 g10)]) (q0 := 4) X hK hA hH hl (ct_X4_setSizeAt l G h_p1 r_p1 i_p1_step i_p1_blockCount g12 x15 x1 s22 H.size o24 ho24) ⟨q_4, q_598, hd_X4_setSizeAt, rfl, rfl, ⟨Nat.le_of_ble_eq_true rfl, Nat.le_of_ble_eq_true rfl⟩, ⟨Nat.zero_le _, Nat.zero_le _⟩⟩ q_595 q_596 q_597 rfl rfl ⟨rfl, rfl, rfl, rfl, by decide, rfl, rfl⟩ rfl rfl (Nat.le_of_ble_eq_true rfl) dX8_codePart_67 (fun H locs hH => ?_)
            refine lv_iconst (v := (0 : Int32)) hx hb dX8_codePart_70 (by decide) ?_
            refine lv_istore (lv' := [(9, .int (0 : Int32)), (8, .int s22), (0, .ref h_p0), (1, .ref h_p1), (3, .int p3), (4, .int x1), (5, .int x2), (6, .int x15)]) hx hb dX8_codePart_71 hl (by decide) rfl (fun ls hl => ?_)
            obtain ⟨o35, ho35, hf⟩ := sbind hf
            obtain ⟨FF35, hFF35, ho35⟩ := sfix ho35
            have L35 : ∀ (n : Nat) (x25 : Int32) (v26 : Int32) (v27 : Int32) (v28 : Int32) (v29 : Int32) (g30 : (Nat → Int32)) (g31 : (Nat → Int32)) (g32 : (Nat → Int32)) (g33 : (Nat → Int32)) (g34 : (Nat → Int32)) (b35 : Int32 × Int32 × Int32 × Int32 × (Nat → Int32) × (Nat → Int32) × (Nat → Int32) × (Nat → Int32) × (Nat → Int32)) (H : Heap) (locs : List Loc) (ls : Array Slot), fixN n FF35 (x25, v26, v27, v28, v29, g30, g31, g32, g33, g34) = some b35 → gH G A s.heap H locs [(h_p0, .inr (1, FX2 r_p0 v28 v27 v26 v29)), ((r_p0 2), gA G 20 g32), ((r_p0 3), gA G 20 g31), ((r_p0 4), gA G 2048 g30), (h_p1, .inr (3, FX4 r_p1 i_p1_step i_p1_blockCount)), ((r_p1 3), gA G 6 o24), ((r_p1 4), gA G 24 g34), ((r_p1 6), gA G 384 g33)] → lv_has ls 11 [(0, .ref h_p0), (1, .ref h_p1), (3, .int p3), (4, .int x1), (5, .int x2), (6, .int x15), (8, .int s22), (9, .int x25)] → (∀ (H : Heap) (locs : List Loc) (ls : Array Slot), gH G A s.heap H locs [(h_p0, .inr (1, FX2 r_p0 b35.2.2.1 b35.2.1 b35.1 b35.2.2.2.1)), ((r_p0 2), gA G 20 b35.2.2.2.2.2.2.1), ((r_p0 3), gA G 20 b35.2.2.2.2.2.1), ((r_p0 4), gA G 2048 b35.2.2.2.2.1), (h_p1, .inr (3, FX4 r_p1 i_p1_step i_p1_blockCount)), ((r_p1 3), gA G 6 o24), ((r_p1 4), gA G 24 b35.2.2.2.2.2.2.2.2), ((r_p1 6), gA G 384 b35.2.2.2.2.2.2.2.1)] → lv_has ls 11 [(0, .ref h_p0), (1, .ref h_p1), (3, .int p3), (4, .int x1), (5, .int x2)] → W p l e rm_X8_codePart_X2 s m args below meth c H locs 0 0 Q (F0 m 127 ls [])) → W p l e rm_X8_codePart_X2 s m args below meth c H locs 0 0 Q (F0 m 73 ls []) := by
              intro n
              induction n with
              | zero => intro x25 v26 v27 v28 v29 g30 g31 g32 g33 g34 b35 H locs ls hf; exact sfix0 hf
              | succ n ih =>
                intro x25 v26 v27 v28 v29 g30 g31 g32 g33 g34 b35 H locs ls hf hH hl KK
                obtain ⟨self35, hself35, hf⟩ := sstep hFF35 hf
                refine lv_iload hx hb dX8_codePart_73 (lv_at hl 7 rfl) ?_
                refine lv_bipush (v := (8 : Int32)) hx hb dX8_codePart_75 (by decide) ?_
                refine lv_icmp_ge (tgt := 127) hx hb dX8_codePart_77 (by decide) (fun c36 => ?_) (fun c36 => ?_)
                · have hf := spos hf c36
                  obtain rfl := Option.some.inj hf
                  exact KK _ _ _ hH (lv_sub hl [0, 1, 2, 3, 4] rfl)
                · have hf := sneg hf c36
                  refine lv_iconst (v := (0 : Int32)) hx hb dX8_codePart_80 (by decide) ?_
                  refine lv_istore (lv' := [(10, .int (0 : Int32)), (0, .ref h_p0), (1, .ref h_p1), (3, .int p3), (4, .int x1), (5, .int x2), (6, .int x15), (8, .int s22), (9, .int x25)]) hx hb dX8_codePart_81 hl (by decide) rfl (fun ls hl => ?_)
                  obtain ⟨o47, ho47, hf⟩ := sbind hf
                  obtain ⟨FF47, hFF47, ho47⟩ := sfix ho47
                  have L47 : ∀ (n : Nat) (x37 : Int32) (v38 : Int32) (v39 : Int32) (v40 : Int32) (v41 : Int32) (g42 : (Nat → Int32)) (g43 : (Nat → Int32)) (g44 : (Nat → Int32)) (g45 : (Nat → Int32)) (g46 : (Nat → Int32)) (b47 : Int32 × Int32 × Int32 × Int32 × (Nat → Int32) × (Nat → Int32) × (Nat → Int32) × (Nat → Int32) × (Nat → Int32)) (H : Heap) (locs : List Loc) (ls : Array Slot), fixN n FF47 (x37, v38, v39, v40, v41, g42, g43, g44, g45, g46) = some b47 → gH G A s.heap H locs [(h_p0, .inr (1, FX2 r_p0 v40 v39 v38 v41)), ((r_p0 2), gA G 20 g44), ((r_p0 3), gA G 20 g43), ((r_p0 4), gA G 2048 g42), (h_p1, .inr (3, FX4 r_p1 i_p1_step i_p1_blockCount)), ((r_p1 3), gA G 6 o24), ((r_p1 4), gA G 24 g46), ((r_p1 6), gA G 384 g45)] → lv_has ls 11 [(0, .ref h_p0), (1, .ref h_p1), (3, .int p3), (4, .int x1), (5, .int x2), (6, .int x15), (8, .int s22), (9, .int x25), (10, .int x37)] → (∀ (H : Heap) (locs : List Loc) (ls : Array Slot), gH G A s.heap H locs [(h_p0, .inr (1, FX2 r_p0 b47.2.2.1 b47.2.1 b47.1 b47.2.2.2.1)), ((r_p0 2), gA G 20 b47.2.2.2.2.2.2.1), ((r_p0 3), gA G 20 b47.2.2.2.2.2.1), ((r_p0 4), gA G 2048 b47.2.2.2.2.1), (h_p1, .inr (3, FX4 r_p1 i_p1_step i_p1_blockCount)), ((r_p1 3), gA G 6 o24), ((r_p1 4), gA G 24 b47.2.2.2.2.2.2.2.2), ((r_p1 6), gA G 384 b47.2.2.2.2.2.2.2.1)] → lv_has ls 11 [(0, .ref h_p0), (1, .ref h_p1), (3, .int p3), (4, .int x1), (5, .int x2), (6, .int x15), (8, .int s22), (9, .int x25)] → W p l e rm_X8_codePart_X2 s m args below meth c H locs 0 0 Q (F0 m 117 ls [])) → W p l e rm_X8_codePart_X2 s m args below meth c H locs 0 0 Q (F0 m 83 ls []) := by
                    intro n
                    induction n with
                    | zero => intro x37 v38 v39 v40 v41 g42 g43 g44 g45 g46 b47 H locs ls hf; exact sfix0 hf
                    | succ n ih =>
                      intro x37 v38 v39 v40 v41 g42 g43 g44 g45 g46 b47 H locs ls hf hH hl KK
                      obtain ⟨self47, hself47, hf⟩ := sstep hFF47 hf
                      refine lv_iload hx hb dX8_codePart_83 (lv_at hl 8 rfl) ?_
                      refine lv_bipush (v := (8 : Int32)) hx hb dX8_codePart_85 (by decide) ?_
                      refine lv_icmp_ge (tgt := 117) hx hb dX8_codePart_87 (by decide) (fun c48 => ?_) (fun c48 => ?_)
                      · have hf := spos hf c48
                        obtain rfl := Option.some.inj hf
                        exact KK _ _ _ hH (lv_sub hl [0, 1, 2, 3, 4, 5, 6, 7] rfl)
                      · have hf := sneg hf c48
                        refine lv_aload_n hx hb dX8_codePart_90 rfl (lv_at hl 0 rfl) ?_
                        refine lv_aload_n hx hb dX8_codePart_91 rfl (lv_at hl 1 rfl) ?_
                        refine lv_iload hx hb dX8_codePart_92 (lv_at hl 5 rfl) ?_
                        refine lv_iload hx hb dX8_codePart_94 (lv_at hl 8 rfl) ?_
                        refine lv_iadd hx hb dX8_codePart_96 ?_
                        refine lv_iload hx hb dX8_codePart_97 (lv_at hl 3 rfl) ?_
                        refine lv_iload hx hb dX8_codePart_99 (lv_at hl 7 rfl) ?_
                        refine lv_iadd hx hb dX8_codePart_101 ?_
                        refine lv_iload hx hb dX8_codePart_102 (lv_at hl 6 rfl) ?_
                        obtain ⟨o49, ho49, hf⟩ := sbind hf
                        refine g_cSv (isC := [0, 1, 2, 3, 4, 5, 6, 7]) (isR := []) (isP := [0, 1, 2, 3, 4, 5, 6, 7]) (wr := []) (w2 := [(h_p0, .inr (1, FX2 r_p0 o49.2.2.1 o49.2.1 o49.1 o49.2.2.2.1)), ((r_p0 2), gA G 20 o49.2.2.2.2.2.2.1), ((r_p0 3), gA G 20 o49.2.2.2.2.2.1), ((r_p0 4), gA G 2048 o49.2.2.2.2.1), (h_p1, .inr (3, FX4 r_p1 i_p1_step i_p1_blockCount)), ((r_p1 3), gA G 6 o24), ((r_p1 4), gA G 24 o49.2.2.2.2.2.2.2.2), ((r_p1 6), gA G 384 o49.2.2.2.2.2.2.2.1)]) X hK hA hH hl (ct_X8_codeBlock_X2 l G h_p0 h_p1 r_p0 r_p1 v40 v39 v38 v41 i_p1_step i_p1_blockCount g42 g43 g44 g45 g46 o24 (x15 + x37) (x1 + x25) s22 H.size o49 ho49) ⟨q_1, q_601, hd_X8_codeBlock_X2, rfl, rfl, ⟨Nat.le_of_ble_eq_true rfl, Nat.le_of_ble_eq_true rfl⟩, ⟨Nat.zero_le _, Nat.zero_le _⟩⟩ q_599 q_600 ⟨rfl, rfl, rfl, rfl, by decide, rfl, rfl⟩ rfl rfl (Nat.le_of_ble_eq_true rfl) dX8_codePart_104 (fun H locs hH => ?_)
                        refine lv_iload hx hb dX8_codePart_107 (lv_at hl 8 rfl) ?_
                        refine lv_iload hx hb dX8_codePart_109 (lv_at hl 6 rfl) ?_
                        refine lv_iadd hx hb dX8_codePart_111 ?_
                        refine lv_topi (fun x50 ex50 => ?_)
                        have hf := sbnd hf x50 ex50
                        refine lv_istore (lv' := [(10, .int x50), (0, .ref h_p0), (1, .ref h_p1), (3, .int p3), (4, .int x1), (5, .int x2), (6, .int x15), (8, .int s22), (9, .int x25)]) hx hb dX8_codePart_112 hl (by decide) rfl (fun ls hl => ?_)
                        refine lv_goto (tgt := 83) hx hb dX8_codePart_114 (by decide) ?_
                        exact ih x50 o49.1 o49.2.1 o49.2.2.1 o49.2.2.2.1 o49.2.2.2.2.1 o49.2.2.2.2.2.1 o49.2.2.2.2.2.2.1 o49.2.2.2.2.2.2.2.1 o49.2.2.2.2.2.2.2.2 _ _ _ _ (hself47 _ _ hf) hH (lv_sub hl [1, 2, 3, 4, 5, 6, 7, 8, 0] rfl) KK
                  refine L47 FUEL (0 : Int32) v26 v27 v28 v29 g30 g31 g32 g33 g34 o47 _ _ _ ho47 hH (lv_sub hl [1, 2, 3, 4, 5, 6, 7, 8, 0] rfl) (fun H locs ls hH hl => ?_)
                  refine lv_iload hx hb dX8_codePart_117 (lv_at hl 7 rfl) ?_
                  refine lv_iload hx hb dX8_codePart_119 (lv_at hl 6 rfl) ?_
                  refine lv_iadd hx hb dX8_codePart_121 ?_
                  refine lv_topi (fun x51 ex51 => ?_)
                  have hf := sbnd hf x51 ex51
                  refine lv_istore (lv' := [(9, .int x51), (0, .ref h_p0), (1, .ref h_p1), (3, .int p3), (4, .int x1), (5, .int x2), (6, .int x15), (8, .int s22)]) hx hb dX8_codePart_122 hl (by decide) rfl (fun ls hl => ?_)
                  refine lv_goto (tgt := 73) hx hb dX8_codePart_124 (by decide) ?_
                  exact ih x51 o47.1 o47.2.1 o47.2.2.1 o47.2.2.2.1 o47.2.2.2.2.1 o47.2.2.2.2.2.1 o47.2.2.2.2.2.2.1 o47.2.2.2.2.2.2.2.1 o47.2.2.2.2.2.2.2.2 _ _ _ _ (hself35 _ _ hf) hH (lv_sub hl [1, 2, 3, 4, 5, 6, 7, 0] rfl) KK
            refine L35 FUEL (0 : Int32) o20.2.1 o20.2.2.1 o20.2.2.2.1 o20.2.2.2.2.1 o20.2.2.2.2.2.1 o20.2.2.2.2.2.2.1 o20.2.2.2.2.2.2.2 g10 g11 o35 _ _ _ ho35 hH (lv_sub hl [2, 3, 4, 5, 6, 7, 1, 0] rfl) (fun H locs ls hH hl => ?_)
            obtain ⟨x52, ex52⟩ : ∃ y : Int32, y = (x2 + (1 : Int32)) := ⟨_, rfl⟩
            have hf := sbnd hf x52 ex52
            refine lv_iinc (v := x52) (lv' := [(5, .int x52), (0, .ref h_p0), (1, .ref h_p1), (3, .int p3), (4, .int x1)]) hx hb dX8_codePart_127 hl (k := 4) rfl (by rw [ex52]; rfl) (by decide) rfl (fun ls hl => ?_)
            refine lv_goto (tgt := 9) hx hb dX8_codePart_130 (by decide) ?_
            exact ih x52 o35.1 o35.2.1 o35.2.2.1 o35.2.2.2.1 o35.2.2.2.2.1 o35.2.2.2.2.2.1 o35.2.2.2.2.2.2.1 o35.2.2.2.2.2.2.2.1 o35.2.2.2.2.2.2.2.2 o24 _ _ _ _ (hself13 _ _ hf) hH (lv_sub hl [1, 2, 3, 4, 0] rfl) KK
          refine lv_icmp_ne (tgt := 56) hx hb dX8_codePart_49 (by decide) (fun c21 => ?_) (fun c21 => ?_)
          · have hf := sneg hf c21
            refine lv_bipush (v := (8 : Int32)) hx hb dX8_codePart_56 (by decide) ?_
            exact J23 (8 : Int32) _ _ _ hf hH (lv_sub hl [1, 2, 3, 4, 5, 6] rfl)
          · have hf := spos hf c21
            refine lv_iconst (v := (4 : Int32)) hx hb dX8_codePart_52 (by decide) ?_
            refine lv_goto (tgt := 58) hx hb dX8_codePart_53 (by decide) ?_
            exact J23 (4 : Int32) _ _ _ hf hH (lv_sub hl [1, 2, 3, 4, 5, 6] rfl)
        refine lv_icmp_ne (tgt := 39) hx hb dX8_codePart_32 (by decide) (fun c17 => ?_) (fun c17 => ?_)
        · have hf := sneg hf c17
          refine lv_iconst (v := (0 : Int32)) hx hb dX8_codePart_39 (by decide) ?_
          exact J19 (0 : Int32) _ _ _ hf hH (lv_sub hl [1, 2, 3, 4, 5, 0] rfl)
        · have hf := spos hf c17
          refine lv_iconst (v := (1 : Int32)) hx hb dX8_codePart_35 (by decide) ?_
          refine lv_goto (tgt := 40) hx hb dX8_codePart_36 (by decide) ?_
          exact J19 (1 : Int32) _ _ _ hf hH (lv_sub hl [1, 2, 3, 4, 5, 0] rfl)
  refine L13 FUEL (0 : Int32) i_p0_bitCount i_p0_high i_p0_low i_p0_pending t_p0_bytes t_p0_ones t_p0_zeros t_p1_levels t_p1_modes t_p1_sizes o13 _ _ _ ho13 hH (lv_sub hl [2, 3, 5, 1, 0] rfl) (fun H locs ls hH hl => ?_)
  obtain rfl := Option.some.inj hf
  exact hE _ _ _ _ hH dX8_codePart_133
