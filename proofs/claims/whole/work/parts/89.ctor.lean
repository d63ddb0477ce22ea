/-! ===== the constructors ===== -/
theorem dvX1 : ∀ j, j < 8 → defaultValue (tyX1 j) = vp_V [.int 0, .int 0, .null, .null, .null, .int 0, .int 0, .int 0] j := lt_s (lt_s (lt_s (lt_s (lt_s (lt_s (lt_s (lt_s lt_0 rfl) rfl) rfl) rfl) rfl) rfl) rfl) rfl
theorem dvX2 : ∀ j, j < 7 → defaultValue (tyX2 j) = vp_V [.int 0, .int 0, .null, .null, .null, .int 0, .int 0] j := lt_s (lt_s (lt_s (lt_s (lt_s (lt_s (lt_s lt_0 rfl) rfl) rfl) rfl) rfl) rfl) rfl
theorem dvX3 : ∀ j, j < 2 → defaultValue (tyX3 j) = vp_V [.null, .int 0] j := lt_s (lt_s lt_0 rfl) rfl
theorem dvX4 : ∀ j, j < 10 → defaultValue (tyX4 j) = vp_V [.int 0, .int 0, .null, .null, .null, .null, .null, .null, .null, .null] j := lt_s (lt_s (lt_s (lt_s (lt_s (lt_s (lt_s (lt_s (lt_s (lt_s lt_0 rfl) rfl) rfl) rfl) rfl) rfl) rfl) rfl) rfl) rfl
theorem dvX5 : ∀ j, j < 3 → defaultValue (tyX5 j) = vp_V [.int 0, .int 0, .null] j := lt_s (lt_s (lt_s lt_0 rfl) rfl) rfl
theorem dvX6 : ∀ j, j < 4 → defaultValue (tyX6 j) = vp_V [.int 0, .int 0, .null, .null] j := lt_s (lt_s (lt_s (lt_s lt_0 rfl) rfl) rfl) rfl
theorem dvX7 : ∀ j, j < 2 → defaultValue (tyX7 j) = vp_V [.null, .null] j := lt_s (lt_s lt_0 rfl) rfl
theorem dvX8 : ∀ j, j < 18 → defaultValue (tyX8 j) = vp_V [.null, .null, .int 0, .null, .null, .int 0, .null, .null, .null, .int 0, .int 0, .int 0, .int 0, .int 0, .null, .null, .null, .null] j := lt_s (lt_s (lt_s (lt_s (lt_s (lt_s (lt_s (lt_s (lt_s (lt_s (lt_s (lt_s (lt_s (lt_s (lt_s (lt_s (lt_s (lt_s lt_0 rfl) rfl) rfl) rfl) rfl) rfl) rfl) rfl) rfl) rfl) rfl) rfl) rfl) rfl) rfl) rfl) rfl) rfl
theorem dvX9 : ∀ j, j < 42 → defaultValue (tyX9 j) = vp_V [.int 0, .int 0, .int 0, .int 0, .int 0, .int 0, .int 0, .int 0, .int 0, .int 0, .int 0, .int 0, .int 0, .null, .null, .null, .null, .null, .null, .null, .null, .null, .null, .null, .null, .null, .null, .null, .null, .null, .null, .null, .int 0, .int 0, .int 0, .int 0, .int 0, .int 0, .int 0, .int 0, .int 0, .null] j := lt_s (lt_s (lt_s (lt_s (lt_s (lt_s (lt_s (lt_s (lt_s (lt_s (lt_s (lt_s (lt_s (lt_s (lt_s (lt_s (lt_s (lt_s (lt_s (lt_s (lt_s (lt_s (lt_s (lt_s (lt_s (lt_s (lt_s (lt_s (lt_s (lt_s (lt_s (lt_s (lt_s (lt_s (lt_s (lt_s (lt_s (lt_s (lt_s (lt_s (lt_s (lt_s lt_0 rfl) rfl) rfl) rfl) rfl) rfl) rfl) rfl) rfl) rfl) rfl) rfl) rfl) rfl) rfl) rfl) rfl) rfl) rfl) rfl) rfl) rfl) rfl) rfl) rfl) rfl) rfl) rfl) rfl) rfl) rfl) rfl) rfl) rfl) rfl) rfl) rfl) rfl) rfl) rfl) rfl) rfl
abbrev rmn_X5 : Room := { frames := 1, cells := 1, slots := 384, locals := 12 }
theorem hdn_X5 : yX5_init.cls ≠ "java/lang/invoke/MethodHandle" ∧ yX5_init.cls ≠ "java/lang/invoke/VarHandle" ∧ (parseMethodDescriptor yX5_init.desc).map (fun d => d.parameters.length) = some 0 := by decide +kernel
set_option maxHeartbeats 4000000 in
set_option maxRecDepth 100000 in
theorem ctn_X5 (l : Launch) (G : gG) (h sz : Nat) : gN l G yX5_init cX5_init 1 rmn_X5 [.ref h] sz [(h, .inr (4, [.int 0, .int 0, .null]))] (fun u => [(h, .inr (4, FX5 (u 0) (8 : Int32) (8 : Int32))), ((u 0 2), gA G 384 (fun _ => 0))]) 1 384 := by
  refine gN_of (by decide) rfl (Nat.le_of_ble_eq_true rfl) ?_
  intro p e s m args below meth c ls A Q X hin hO hK hA hsz hH hl hE
  subst hsz
  have hx := X.1
  have hb := X.2.1
  have hl : lv_has ls 1 [(0, .ref h)] := hl
  have hH : gH G A s.heap s.heap [] [(h, .inr (4, [.int 0, .int 0, .null]))] := hH
  refine lv_aload_n hx hb dX5_init_0 rfl (lv_at hl 0 rfl) ?_
  refine g_objI X hl q_34 ⟨Nat.le_of_ble_eq_true rfl, Nat.le_of_ble_eq_true rfl⟩ dX5_init_1 ?_
  refine lv_aload_n hx hb dX5_init_4 rfl (lv_at hl 0 rfl) ?_
  refine lv_bipush (v := (8 : Int32)) hx hb dX5_init_5 (by decide) ?_
  refine g_put (w1 := [(h, .inr (4, [.int (8 : Int32), .int 0, .null]))]) (T := TX5) (N := 3) (ci := 4) (C := RX5) (ty := .int) (v := .int (8 : Int32)) X hK hH in_RX5 tyX5 tyX5_ok nmX5 0 rfl rfl 0 (by decide) q_35 (fun _ h9 => h9) rfl (by decide +kernel) rfl rfl (Nat.le_of_ble_eq_true rfl) dX5_init_7 rfl rfl (fun H locs hH => ?_)
  refine lv_aload_n hx hb dX5_init_10 rfl (lv_at hl 0 rfl) ?_
  refine lv_bipush (v := (8 : Int32)) hx hb dX5_init_11 (by decide) ?_
  refine g_put (w1 := [(h, .inr (4, [.int (8 : Int32), .int (8 : Int32), .null]))]) (T := TX5) (N := 3) (ci := 4) (C := RX5) (ty := .int) (v := .int (8 : Int32)) X hK hH in_RX5 tyX5 tyX5_ok nmX5 0 rfl rfl 1 (by decide) q_37 (fun _ h9 => h9) rfl (by decide +kernel) rfl rfl (Nat.le_of_ble_eq_true rfl) dX5_init_13 rfl rfl (fun H locs hH => ?_)
  refine lv_aload_n hx hb dX5_init_16 rfl (lv_at hl 0 rfl) ?_
  refine lv_sipush (v := (384 : Int32)) hx hb dX5_init_17 (by decide) ?_
  refine g_newI X hK hA hH q_47 (N := 384) (by decide) (by decide) (Nat.le_of_ble_eq_true rfl) (Nat.le_of_ble_eq_true rfl) (Nat.le_of_ble_eq_true rfl) dX5_init_20 (fun q1 H hH => ?_)
  have hH : gH G A s.heap H _ [(h, .inr (4, [.int (8 : Int32), .int (8 : Int32), .null])), (q1, gA G 384 (fun _ => 0))] := hH
  refine g_putF (w1 := [(h, .inr (4, [.int (8 : Int32), .int (8 : Int32), .ref q1])), (q1, gA G 384 (fun _ => 0))]) (T := TX5) (N := 3) (ci := 4) (C := RX5) (ty := .array .int) (v := .ref q1) X hin hK hH in_RX5 tyX5 tyX5_ok nmX5 0 rfl rfl 2 (by decide) q_39 (fun _ h9 => h9) rfl rfl (by decide +kernel) rfl rfl (Nat.le_of_ble_eq_true rfl) dX5_init_22 rfl rfl (fun H locs hH => ?_)
  exact hE (fun a => [(fun k => [0, 0, q1].getD k 0)].getD a (fun _ => 0)) _ _ _ _ _ _ (Nat.le_of_ble_eq_true rfl) (Nat.le_of_ble_eq_true rfl) hH dX5_init_25

abbrev rmn_X3 : Room := { frames := 1, cells := 1, slots := 512, locals := 12 }
theorem hdn_X3 : yX3_init.cls ≠ "java/lang/invoke/MethodHandle" ∧ yX3_init.cls ≠ "java/lang/invoke/VarHandle" ∧ (parseMethodDescriptor yX3_init.desc).map (fun d => d.parameters.length) = some 0 := by decide +kernel
set_option maxHeartbeats 4000000 in
set_option maxRecDepth 100000 in
theorem ctn_X3 (l : Launch) (G : gG) (h sz : Nat) : gN l G yX3_init cX3_init 1 rmn_X3 [.ref h] sz [(h, .inr (2, [.null, .int 0]))] (fun u => [(h, .inr (2, FX3 (u 0) (u 0 0) (0 : Int32))), ((u 0 0), gA G 512 (fun _ => 0))]) 1 512 := by
  refine gN_of (by decide) rfl (Nat.le_of_ble_eq_true rfl) ?_
  intro p e s m args below meth c ls A Q X hin hO hK hA hsz hH hl hE
  subst hsz
  have hx := X.1
  have hb := X.2.1
  have hl : lv_has ls 1 [(0, .ref h)] := hl
  have hH : gH G A s.heap s.heap [] [(h, .inr (2, [.null, .int 0]))] := hH
  refine lv_aload_n hx hb dX3_init_0 rfl (lv_at hl 0 rfl) ?_
  refine g_objI X hl q_53 ⟨Nat.le_of_ble_eq_true rfl, Nat.le_of_ble_eq_true rfl⟩ dX3_init_1 ?_
  refine lv_aload_n hx hb dX3_init_4 rfl (lv_at hl 0 rfl) ?_
  refine lv_sipush (v := (512 : Int32)) hx hb dX3_init_5 (by decide) ?_
  refine g_newI X hK hA hH q_47 (N := 512) (by decide) (by decide) (Nat.le_of_ble_eq_true rfl) (Nat.le_of_ble_eq_true rfl) (Nat.le_of_ble_eq_true rfl) dX3_init_8 (fun q1 H hH => ?_)
  have hH : gH G A s.heap H _ [(h, .inr (2, [.null, .int 0])), (q1, gA G 512 (fun _ => 0))] := hH
  refine g_put (w1 := [(h, .inr (2, [.ref q1, .int 0])), (q1, gA G 512 (fun _ => 0))]) (T := TX3) (N := 2) (ci := 2) (C := RX3) (ty := .array .int) (v := .ref q1) X hK hH in_RX3 tyX3 tyX3_ok nmX3 0 rfl rfl 0 (by decide) q_54 (fun _ h9 => h9) rfl (by decide +kernel) rfl rfl (Nat.le_of_ble_eq_true rfl) dX3_init_10 rfl rfl (fun H locs hH => ?_)
  refine lv_aload_n hx hb dX3_init_13 rfl (lv_at hl 0 rfl) ?_
  refine lv_iconst (v := (0 : Int32)) hx hb dX3_init_14 (by decide) ?_
  refine g_put (w1 := [(h, .inr (2, [.ref q1, .int (0 : Int32)])), (q1, gA G 512 (fun _ => 0))]) (T := TX3) (N := 2) (ci := 2) (C := RX3) (ty := .int) (v := .int (0 : Int32)) X hK hH in_RX3 tyX3 tyX3_ok nmX3 0 rfl rfl 1 (by decide) q_56 (fun _ h9 => h9) rfl (by decide +kernel) rfl rfl (Nat.le_of_ble_eq_true rfl) dX3_init_15 rfl rfl (fun H locs hH => ?_)
  exact hE (fun a => [(fun k => [q1, 0].getD k 0)].getD a (fun _ => 0)) _ _ _ _ _ _ (Nat.le_of_ble_eq_true rfl) (Nat.le_of_ble_eq_true rfl) hH dX3_init_18

abbrev rmn_X6 : Room := { frames := 1, cells := 2, slots := 16, locals := 12 }
theorem hdn_X6 : yX6_init.cls ≠ "java/lang/invoke/MethodHandle" ∧ yX6_init.cls ≠ "java/lang/invoke/VarHandle" ∧ (parseMethodDescriptor yX6_init.desc).map (fun d => d.parameters.length) = some 0 := by decide +kernel
set_option maxHeartbeats 4000000 in
set_option maxRecDepth 100000 in
theorem ctn_X6 (l : Launch) (G : gG) (h sz : Nat) : gN l G yX6_init cX6_init 1 rmn_X6 [.ref h] sz [(h, .inr (5, [.int 0, .int 0, .null, .null]))] (fun u => [(h, .inr (5, FX6 (u 0) (8 : Int32) (0 : Int32))), ((u 0 2), gA G 8 (fun _ => 0)), ((u 0 3), gA G 8 (fun _ => 0))]) 2 16 := by
  refine gN_of (by decide) rfl (Nat.le_of_ble_eq_true rfl) ?_
  intro p e s m args below meth c ls A Q X hin hO hK hA hsz hH hl hE
  subst hsz
  have hx := X.1
  have hb := X.2.1
  have hl : lv_has ls 1 [(0, .ref h)] := hl
  have hH : gH G A s.heap s.heap [] [(h, .inr (5, [.int 0, .int 0, .null, .null]))] := hH
  refine lv_aload_n hx hb dX6_init_0 rfl (lv_at hl 0 rfl) ?_
  refine g_objI X hl q_75 ⟨Nat.le_of_ble_eq_true rfl, Nat.le_of_ble_eq_true rfl⟩ dX6_init_1 ?_
  refine lv_aload_n hx hb dX6_init_4 rfl (lv_at hl 0 rfl) ?_
  refine lv_bipush (v := (8 : Int32)) hx hb dX6_init_5 (by decide) ?_
  refine g_put (w1 := [(h, .inr (5, [.int (8 : Int32), .int 0, .null, .null]))]) (T := TX6) (N := 4) (ci := 5) (C := RX6) (ty := .int) (v := .int (8 : Int32)) X hK hH in_RX6 tyX6 tyX6_ok nmX6 0 rfl rfl 0 (by decide) q_76 (fun _ h9 => h9) rfl (by decide +kernel) rfl rfl (Nat.le_of_ble_eq_true rfl) dX6_init_7 rfl rfl (fun H locs hH => ?_)
  refine lv_aload_n hx hb dX6_init_10 rfl (lv_at hl 0 rfl) ?_
  refine lv_iconst (v := (0 : Int32)) hx hb dX6_init_11 (by decide) ?_
  refine g_put (w1 := [(h, .inr (5, [.int (8 : Int32), .int (0 : Int32), .null, .null]))]) (T := TX6) (N := 4) (ci := 5) (C := RX6) (ty := .int) (v := .int (0 : Int32)) X hK hH in_RX6 tyX6 tyX6_ok nmX6 0 rfl rfl 1 (by decide) q_77 (fun _ h9 => h9) rfl (by decide +kernel) rfl rfl (Nat.le_of_ble_eq_true rfl) dX6_init_12 rfl rfl (fun H locs hH => ?_)
  refine lv_aload_n hx hb dX6_init_15 rfl (lv_at hl 0 rfl) ?_
  refine lv_bipush (v := (8 : Int32)) hx hb dX6_init_16 (by decide) ?_
  refine g_newI X hK hA hH q_47 (N := 8) (by decide) (by decide) (Nat.le_of_ble_eq_true rfl) (Nat.le_of_ble_eq_true rfl) (Nat.le_of_ble_eq_true rfl) dX6_init_18 (fun q1 H hH => ?_)
  have hH : gH G A s.heap H _ [(h, .inr (5, [.int (8 : Int32), .int (0 : Int32), .null, .null])), (q1, gA G 8 (fun _ => 0))] := hH
  refine g_putF (w1 := [(h, .inr (5, [.int (8 : Int32), .int (0 : Int32), .ref q1, .null])), (q1, gA G 8 (fun _ => 0))]) (T := TX6) (N := 4) (ci := 5) (C := RX6) (ty := .array .int) (v := .ref q1) X hin hK hH in_RX6 tyX6 tyX6_ok nmX6 0 rfl rfl 2 (by decide) q_78 (fun _ h9 => h9) rfl rfl (by decide +kernel) rfl rfl (Nat.le_of_ble_eq_true rfl) dX6_init_20 rfl rfl (fun H locs hH => ?_)
  refine lv_aload_n hx hb dX6_init_23 rfl (lv_at hl 0 rfl) ?_
  refine lv_bipush (v := (8 : Int32)) hx hb dX6_init_24 (by decide) ?_
  refine g_newI X hK hA hH q_47 (N := 8) (by decide) (by decide) (Nat.le_of_ble_eq_true rfl) (Nat.le_of_ble_eq_true rfl) (Nat.le_of_ble_eq_true rfl) dX6_init_26 (fun q2 H hH => ?_)
  have hH : gH G A s.heap H _ [(h, .inr (5, [.int (8 : Int32), .int (0 : Int32), .ref q1, .null])), (q1, gA G 8 (fun _ => 0)), (q2, gA G 8 (fun _ => 0))] := hH
  refine g_putF (w1 := [(h, .inr (5, [.int (8 : Int32), .int (0 : Int32), .ref q1, .ref q2])), (q1, gA G 8 (fun _ => 0)), (q2, gA G 8 (fun _ => 0))]) (T := TX6) (N := 4) (ci := 5) (C := RX6) (ty := .array .int) (v := .ref q2) X hin hK hH in_RX6 tyX6 tyX6_ok nmX6 0 rfl rfl 3 (by decide) q_79 (fun _ h9 => h9) rfl rfl (by decide +kernel) rfl rfl (Nat.le_of_ble_eq_true rfl) dX6_init_28 rfl rfl (fun H locs hH => ?_)
  exact hE (fun a => [(fun k => [0, 0, q1, q2].getD k 0)].getD a (fun _ => 0)) _ _ _ _ _ _ (Nat.le_of_ble_eq_true rfl) (Nat.le_of_ble_eq_true rfl) hH dX6_init_31

abbrev rmn_X7 : Room := { frames := 1, cells := 2, slots := 72, locals := 12 }
theorem hdn_X7 : yX7_init.cls ≠ "java/lang/invoke/MethodHandle" ∧ yX7_init.cls ≠ "java/lang/invoke/VarHandle" ∧ (parseMethodDescriptor yX7_init.desc).map (fun d => d.parameters.length) = some 0 := by decide +kernel
set_option maxHeartbeats 4000000 in
set_option maxRecDepth 100000 in
theorem ctn_X7 (l : Launch) (G : gG) (h sz : Nat) : gN l G yX7_init cX7_init 1 rmn_X7 [.ref h] sz [(h, .inr (6, [.null, .null]))] (fun u => [(h, .inr (6, FX7 (u 0))), ((u 0 0), gA G 64 (fun _ => 0)), ((u 0 1), gA G 8 (fun _ => 0))]) 2 72 := by
  refine gN_of (by decide) rfl (Nat.le_of_ble_eq_true rfl) ?_
  intro p e s m args below meth c ls A Q X hin hO hK hA hsz hH hl hE
  subst hsz
  have hx := X.1
  have hb := X.2.1
  have hl : lv_has ls 1 [(0, .ref h)] := hl
  have hH : gH G A s.heap s.heap [] [(h, .inr (6, [.null, .null]))] := hH
  refine lv_aload_n hx hb dX7_init_0 rfl (lv_at hl 0 rfl) ?_
  refine g_objI X hl q_95 ⟨Nat.le_of_ble_eq_true rfl, Nat.le_of_ble_eq_true rfl⟩ dX7_init_1 ?_
  refine lv_aload_n hx hb dX7_init_4 rfl (lv_at hl 0 rfl) ?_
  refine lv_bipush (v := (64 : Int32)) hx hb dX7_init_5 (by decide) ?_
  refine g_newI X hK hA hH q_47 (N := 64) (by decide) (by decide) (Nat.le_of_ble_eq_true rfl) (Nat.le_of_ble_eq_true rfl) (Nat.le_of_ble_eq_true rfl) dX7_init_7 (fun q1 H hH => ?_)
  have hH : gH G A s.heap H _ [(h, .inr (6, [.null, .null])), (q1, gA G 64 (fun _ => 0))] := hH
  refine g_putF (w1 := [(h, .inr (6, [.ref q1, .null])), (q1, gA G 64 (fun _ => 0))]) (T := TX7) (N := 2) (ci := 6) (C := RX7) (ty := .array .int) (v := .ref q1) X hin hK hH in_RX7 tyX7 tyX7_ok nmX7 0 rfl rfl 0 (by decide) q_96 (fun _ h9 => h9) rfl rfl (by decide +kernel) rfl rfl (Nat.le_of_ble_eq_true rfl) dX7_init_9 rfl rfl (fun H locs hH => ?_)
  refine lv_aload_n hx hb dX7_init_12 rfl (lv_at hl 0 rfl) ?_
  refine lv_bipush (v := (8 : Int32)) hx hb dX7_init_13 (by decide) ?_
  refine g_newI X hK hA hH q_47 (N := 8) (by decide) (by decide) (Nat.le_of_ble_eq_true rfl) (Nat.le_of_ble_eq_true rfl) (Nat.le_of_ble_eq_true rfl) dX7_init_15 (fun q2 H hH => ?_)
  have hH : gH G A s.heap H _ [(h, .inr (6, [.ref q1, .null])), (q1, gA G 64 (fun _ => 0)), (q2, gA G 8 (fun _ => 0))] := hH
  refine g_putF (w1 := [(h, .inr (6, [.ref q1, .ref q2])), (q1, gA G 64 (fun _ => 0)), (q2, gA G 8 (fun _ => 0))]) (T := TX7) (N := 2) (ci := 6) (C := RX7) (ty := .array .int) (v := .ref q2) X hin hK hH in_RX7 tyX7 tyX7_ok nmX7 0 rfl rfl 1 (by decide) q_98 (fun _ h9 => h9) rfl rfl (by decide +kernel) rfl rfl (Nat.le_of_ble_eq_true rfl) dX7_init_17 rfl rfl (fun H locs hH => ?_)
  exact hE (fun a => [(fun k => [q1, q2].getD k 0)].getD a (fun _ => 0)) _ _ _ _ _ _ (Nat.le_of_ble_eq_true rfl) (Nat.le_of_ble_eq_true rfl) hH dX7_init_20

abbrev rmn_X0_X2 : Room := { frames := 1, cells := 2, slots := 40, locals := 12 }
theorem hdn_X0 : yX0_init.cls ≠ "java/lang/invoke/MethodHandle" ∧ yX0_init.cls ≠ "java/lang/invoke/VarHandle" ∧ (parseMethodDescriptor yX0_init.desc).map (fun d => d.parameters.length) = some 0 := by decide +kernel
set_option maxHeartbeats 4000000 in
set_option maxRecDepth 100000 in
theorem ctn_X0_X2 (l : Launch) (G : gG) (h sz : Nat) : gN l G yX0_init cX0_init 1 rmn_X0_X2 [.ref h] sz [(h, .inr (1, [.int 0, .int 0, .null, .null, .null, .int 0, .int 0]))] (fun u => [(h, .inr (1, [.int (0 : Int32), .int (65535 : Int32), .ref (u 0 2), .ref (u 0 3), .null, .int 0, .int 0])), ((u 0 2), gA G 20 (fun _ => 0)), ((u 0 3), gA G 20 (fun _ => 0))]) 2 40 := by
  refine gN_of (by decide) rfl (Nat.le_of_ble_eq_true rfl) ?_
  intro p e s m args below meth c ls A Q X hin hO hK hA hsz hH hl hE
  subst hsz
  have hx := X.1
  have hb := X.2.1
  have hl : lv_has ls 1 [(0, .ref h)] := hl
  have hH : gH G A s.heap s.heap [] [(h, .inr (1, [.int 0, .int 0, .null, .null, .null, .int 0, .int 0]))] := hH
  refine lv_aload_n hx hb dX0_init_0 rfl (lv_at hl 0 rfl) ?_
  refine g_objI X hl q_150 ⟨Nat.le_of_ble_eq_true rfl, Nat.le_of_ble_eq_true rfl⟩ dX0_init_1 ?_
  refine lv_aload_n hx hb dX0_init_4 rfl (lv_at hl 0 rfl) ?_
  refine lv_iconst (v := (0 : Int32)) hx hb dX0_init_5 (by decide) ?_
  refine g_put (w1 := [(h, .inr (1, [.int (0 : Int32), .int 0, .null, .null, .null, .int 0, .int 0]))]) (T := TX2) (N := 7) (ci := 1) (C := RX2) (ty := .int) (v := .int (0 : Int32)) X hK hH in_RX2 tyX2 tyX2_ok nmX2 0 rfl rfl 0 (by decide) q_156 (fun _ h9 => h9) rfl (by decide +kernel) rfl rfl (Nat.le_of_ble_eq_true rfl) dX0_init_6 rfl rfl (fun H locs hH => ?_)
  refine lv_aload_n hx hb dX0_init_9 rfl (lv_at hl 0 rfl) ?_
  refine lv_ldc (v := (65535 : Int32)) hx hb X.2.2.2.2.2.1 (X.2.2.2.2.1 _ q_151) dX0_init_10 ?_
  refine g_put (w1 := [(h, .inr (1, [.int (0 : Int32), .int (65535 : Int32), .null, .null, .null, .int 0, .int 0]))]) (T := TX2) (N := 7) (ci := 1) (C := RX2) (ty := .int) (v := .int (65535 : Int32)) X hK hH in_RX2 tyX2 tyX2_ok nmX2 0 rfl rfl 1 (by decide) q_159 (fun _ h9 => h9) rfl (by decide +kernel) rfl rfl (Nat.le_of_ble_eq_true rfl) dX0_init_12 rfl rfl (fun H locs hH => ?_)
  refine lv_aload_n hx hb dX0_init_15 rfl (lv_at hl 0 rfl) ?_
  refine lv_bipush (v := (20 : Int32)) hx hb dX0_init_16 (by decide) ?_
  refine g_newI X hK hA hH q_47 (N := 20) (by decide) (by decide) (Nat.le_of_ble_eq_true rfl) (Nat.le_of_ble_eq_true rfl) (Nat.le_of_ble_eq_true rfl) dX0_init_18 (fun q1 H hH => ?_)
  have hH : gH G A s.heap H _ [(h, .inr (1, [.int (0 : Int32), .int (65535 : Int32), .null, .null, .null, .int 0, .int 0])), (q1, gA G 20 (fun _ => 0))] := hH
  refine g_putF (w1 := [(h, .inr (1, [.int (0 : Int32), .int (65535 : Int32), .ref q1, .null, .null, .int 0, .int 0])), (q1, gA G 20 (fun _ => 0))]) (T := TX2) (N := 7) (ci := 1) (C := RX2) (ty := .array .int) (v := .ref q1) X hin hK hH in_RX2 tyX2 tyX2_ok nmX2 0 rfl rfl 2 (by decide) q_160 (fun _ h9 => h9) rfl rfl (by decide +kernel) rfl rfl (Nat.le_of_ble_eq_true rfl) dX0_init_20 rfl rfl (fun H locs hH => ?_)
  refine lv_aload_n hx hb dX0_init_23 rfl (lv_at hl 0 rfl) ?_
  refine lv_bipush (v := (20 : Int32)) hx hb dX0_init_24 (by decide) ?_
  refine g_newI X hK hA hH q_47 (N := 20) (by decide) (by decide) (Nat.le_of_ble_eq_true rfl) (Nat.le_of_ble_eq_true rfl) (Nat.le_of_ble_eq_true rfl) dX0_init_26 (fun q2 H hH => ?_)
  have hH : gH G A s.heap H _ [(h, .inr (1, [.int (0 : Int32), .int (65535 : Int32), .ref q1, .null, .null, .int 0, .int 0])), (q1, gA G 20 (fun _ => 0)), (q2, gA G 20 (fun _ => 0))] := hH
  refine g_putF (w1 := [(h, .inr (1, [.int (0 : Int32), .int (65535 : Int32), .ref q1, .ref q2, .null, .int 0, .int 0])), (q1, gA G 20 (fun _ => 0)), (q2, gA G 20 (fun _ => 0))]) (T := TX2) (N := 7) (ci := 1) (C := RX2) (ty := .array .int) (v := .ref q2) X hin hK hH in_RX2 tyX2 tyX2_ok nmX2 0 rfl rfl 3 (by decide) q_161 (fun _ h9 => h9) rfl rfl (by decide +kernel) rfl rfl (Nat.le_of_ble_eq_true rfl) dX0_init_28 rfl rfl (fun H locs hH => ?_)
  exact hE (fun a => [(fun k => [0, 0, q1, q2, 0, 0, 0].getD k 0)].getD a (fun _ => 0)) _ _ _ _ _ _ (Nat.le_of_ble_eq_true rfl) (Nat.le_of_ble_eq_true rfl) hH dX0_init_31

abbrev rmn_X2 : Room := { frames := 2, cells := 3, slots := 2088, locals := 32 }
theorem hdn_X2 : yX2_init.cls ≠ "java/lang/invoke/MethodHandle" ∧ yX2_init.cls ≠ "java/lang/invoke/VarHandle" ∧ (parseMethodDescriptor yX2_init.desc).map (fun d => d.parameters.length) = some 0 := by decide +kernel
set_option maxHeartbeats 4000000 in
set_option maxRecDepth 100000 in
theorem ctn_X2 (l : Launch) (G : gG) (h sz : Nat) : gN l G yX2_init cX2_init 1 rmn_X2 [.ref h] sz [(h, .inr (1, [.int 0, .int 0, .null, .null, .null, .int 0, .int 0]))] (fun u => [(h, .inr (1, FX2 (u 0) (0 : Int32) (65535 : Int32) (0 : Int32) (0 : Int32))), ((u 0 2), gA G 20 (fun _ => 0)), ((u 0 3), gA G 20 (fun _ => 0)), ((u 0 4), gA G 2048 (fun _ => 0))]) 3 2088 := by
  refine gN_of (by decide) rfl (Nat.le_of_ble_eq_true rfl) ?_
  intro p e s m args below meth c ls A Q X hin hO hK hA hsz hH hl hE
  subst hsz
  have hx := X.1
  have hb := X.2.1
  have hl : lv_has ls 1 [(0, .ref h)] := hl
  have hH : gH G A s.heap s.heap [] [(h, .inr (1, [.int 0, .int 0, .null, .null, .null, .int 0, .int 0]))] := hH
  refine lv_aload_n hx hb dX2_init_0 rfl (lv_at hl 0 rfl) ?_
  refine g_cIN (ww := ([] : va_W)) X hO hK hA hH hl (ctn_X0_X2 l G h _) ⟨q_7, q_149, hdn_X0, rfl, rfl, ⟨Nat.le_of_ble_eq_true rfl, Nat.le_of_ble_eq_true rfl⟩, ⟨Nat.le_of_ble_eq_true rfl, Nat.le_of_ble_eq_true rfl⟩⟩ qn_147 q_148 rfl rfl (Nat.le_of_ble_eq_true rfl) dX2_init_1 (fun u1 H locs hH => ?_)
  have hH : gH G A s.heap H _ [(h, .inr (1, [.int (0 : Int32), .int (65535 : Int32), .ref (u1 0 2), .ref (u1 0 3), .null, .int 0, .int 0])), ((u1 0 2), gA G 20 (fun _ => 0)), ((u1 0 3), gA G 20 (fun _ => 0))] := hH
  refine lv_aload_n hx hb dX2_init_4 rfl (lv_at hl 0 rfl) ?_
  refine lv_sipush (v := (2048 : Int32)) hx hb dX2_init_5 (by decide) ?_
  refine g_newI X hK hA hH q_47 (N := 2048) (by decide) (by decide) (Nat.le_of_ble_eq_true rfl) (Nat.le_of_ble_eq_true rfl) (Nat.le_of_ble_eq_true rfl) dX2_init_8 (fun q2 H hH => ?_)
  have hH : gH G A s.heap H _ [(h, .inr (1, [.int (0 : Int32), .int (65535 : Int32), .ref (u1 0 2), .ref (u1 0 3), .null, .int 0, .int 0])), ((u1 0 2), gA G 20 (fun _ => 0)), ((u1 0 3), gA G 20 (fun _ => 0)), (q2, gA G 2048 (fun _ => 0))] := hH
  refine g_putF (w1 := [(h, .inr (1, [.int (0 : Int32), .int (65535 : Int32), .ref (u1 0 2), .ref (u1 0 3), .ref q2, .int 0, .int 0])), ((u1 0 2), gA G 20 (fun _ => 0)), ((u1 0 3), gA G 20 (fun _ => 0)), (q2, gA G 2048 (fun _ => 0))]) (T := TX2) (N := 7) (ci := 1) (C := RX2) (ty := .array .int) (v := .ref q2) X hin hK hH in_RX2 tyX2 tyX2_ok nmX2 0 rfl rfl 4 (by decide) q_152 (fun _ h9 => h9) rfl rfl (by decide +kernel) rfl rfl (Nat.le_of_ble_eq_true rfl) dX2_init_10 rfl rfl (fun H locs hH => ?_)
  refine lv_aload_n hx hb dX2_init_13 rfl (lv_at hl 0 rfl) ?_
  refine lv_iconst (v := (0 : Int32)) hx hb dX2_init_14 (by decide) ?_
  refine g_put (w1 := [(h, .inr (1, [.int (0 : Int32), .int (65535 : Int32), .ref (u1 0 2), .ref (u1 0 3), .ref q2, .int (0 : Int32), .int 0])), ((u1 0 2), gA G 20 (fun _ => 0)), ((u1 0 3), gA G 20 (fun _ => 0)), (q2, gA G 2048 (fun _ => 0))]) (T := TX2) (N := 7) (ci := 1) (C := RX2) (ty := .int) (v := .int (0 : Int32)) X hK hH in_RX2 tyX2 tyX2_ok nmX2 0 rfl rfl 5 (by decide) q_154 (fun _ h9 => h9) rfl (by decide +kernel) rfl rfl (Nat.le_of_ble_eq_true rfl) dX2_init_15 rfl rfl (fun H locs hH => ?_)
  refine lv_aload_n hx hb dX2_init_18 rfl (lv_at hl 0 rfl) ?_
  refine lv_iconst (v := (0 : Int32)) hx hb dX2_init_19 (by decide) ?_
  refine g_put (w1 := [(h, .inr (1, [.int (0 : Int32), .int (65535 : Int32), .ref (u1 0 2), .ref (u1 0 3), .ref q2, .int (0 : Int32), .int (0 : Int32)])), ((u1 0 2), gA G 20 (fun _ => 0)), ((u1 0 3), gA G 20 (fun _ => 0)), (q2, gA G 2048 (fun _ => 0))]) (T := TX2) (N := 7) (ci := 1) (C := RX2) (ty := .int) (v := .int (0 : Int32)) X hK hH in_RX2 tyX2 tyX2_ok nmX2 0 rfl rfl 6 (by decide) q_155 (fun _ h9 => h9) rfl (by decide +kernel) rfl rfl (Nat.le_of_ble_eq_true rfl) dX2_init_20 rfl rfl (fun H locs hH => ?_)
  exact hE (fun a => [(fun k => [0, 0, (u1 0 2), (u1 0 3), q2, 0, 0].getD k 0)].getD a (fun _ => 0)) _ _ _ _ _ _ (Nat.le_of_ble_eq_true rfl) (Nat.le_of_ble_eq_true rfl) hH dX2_init_23

abbrev rmn_X0_X1 : Room := { frames := 1, cells := 2, slots := 40, locals := 12 }
set_option maxHeartbeats 4000000 in
set_option maxRecDepth 100000 in
theorem ctn_X0_X1 (l : Launch) (G : gG) (h sz : Nat) : gN l G yX0_init cX0_init 1 rmn_X0_X1 [.ref h] sz [(h, .inr (0, [.int 0, .int 0, .null, .null, .null, .int 0, .int 0, .int 0]))] (fun u => [(h, .inr (0, [.int (0 : Int32), .int (65535 : Int32), .ref (u 0 2), .ref (u 0 3), .null, .int 0, .int 0, .int 0])), ((u 0 2), gA G 20 (fun _ => 0)), ((u 0 3), gA G 20 (fun _ => 0))]) 2 40 := by
  refine gN_of (by decide) rfl (Nat.le_of_ble_eq_true rfl) ?_
  intro p e s m args below meth c ls A Q X hin hO hK hA hsz hH hl hE
  subst hsz
  have hx := X.1
  have hb := X.2.1
  have hl : lv_has ls 1 [(0, .ref h)] := hl
  have hH : gH G A s.heap s.heap [] [(h, .inr (0, [.int 0, .int 0, .null, .null, .null, .int 0, .int 0, .int 0]))] := hH
  refine lv_aload_n hx hb dX0_init_0 rfl (lv_at hl 0 rfl) ?_
  refine g_objI X hl q_150 ⟨Nat.le_of_ble_eq_true rfl, Nat.le_of_ble_eq_true rfl⟩ dX0_init_1 ?_
  refine lv_aload_n hx hb dX0_init_4 rfl (lv_at hl 0 rfl) ?_
  refine lv_iconst (v := (0 : Int32)) hx hb dX0_init_5 (by decide) ?_
  refine g_put (w1 := [(h, .inr (0, [.int (0 : Int32), .int 0, .null, .null, .null, .int 0, .int 0, .int 0]))]) (T := TX1) (N := 8) (ci := 0) (C := RX1) (ty := .int) (v := .int (0 : Int32)) X hK hH in_RX1 tyX1 tyX1_ok nmX1 0 rfl rfl 0 (by decide) q_156 (fun _ h9 => h9) rfl (by decide +kernel) rfl rfl (Nat.le_of_ble_eq_true rfl) dX0_init_6 rfl rfl (fun H locs hH => ?_)
  refine lv_aload_n hx hb dX0_init_9 rfl (lv_at hl 0 rfl) ?_
  refine lv_ldc (v := (65535 : Int32)) hx hb X.2.2.2.2.2.1 (X.2.2.2.2.1 _ q_151) dX0_init_10 ?_
  refine g_put (w1 := [(h, .inr (0, [.int (0 : Int32), .int (65535 : Int32), .null, .null, .null, .int 0, .int 0, .int 0]))]) (T := TX1) (N := 8) (ci := 0) (C := RX1) (ty := .int) (v := .int (65535 : Int32)) X hK hH in_RX1 tyX1 tyX1_ok nmX1 0 rfl rfl 1 (by decide) q_159 (fun _ h9 => h9) rfl (by decide +kernel) rfl rfl (Nat.le_of_ble_eq_true rfl) dX0_init_12 rfl rfl (fun H locs hH => ?_)
  refine lv_aload_n hx hb dX0_init_15 rfl (lv_at hl 0 rfl) ?_
  refine lv_bipush (v := (20 : Int32)) hx hb dX0_init_16 (by decide) ?_
  refine g_newI X hK hA hH q_47 (N := 20) (by decide) (by decide) (Nat.le_of_ble_eq_true rfl) (Nat.le_of_ble_eq_true rfl) (Nat.le_of_ble_eq_true rfl) dX0_init_18 (fun q1 H hH => ?_)
  have hH : gH G A s.heap H _ [(h, .inr (0, [.int (0 : Int32), .int (65535 : Int32), .null, .null, .null, .int 0, .int 0, .int 0])), (q1, gA G 20 (fun _ => 0))] := hH
  refine g_putF (w1 := [(h, .inr (0, [.int (0 : Int32), .int (65535 : Int32), .ref q1, .null, .null, .int 0, .int 0, .int 0])), (q1, gA G 20 (fun _ => 0))]) (T := TX1) (N := 8) (ci := 0) (C := RX1) (ty := .array .int) (v := .ref q1) X hin hK hH in_RX1 tyX1 tyX1_ok nmX1 0 rfl rfl 2 (by decide) q_160 (fun _ h9 => h9) rfl rfl (by decide +kernel) rfl rfl (Nat.le_of_ble_eq_true rfl) dX0_init_20 rfl rfl (fun H locs hH => ?_)
  refine lv_aload_n hx hb dX0_init_23 rfl (lv_at hl 0 rfl) ?_
  refine lv_bipush (v := (20 : Int32)) hx hb dX0_init_24 (by decide) ?_
  refine g_newI X hK hA hH q_47 (N := 20) (by decide) (by decide) (Nat.le_of_ble_eq_true rfl) (Nat.le_of_ble_eq_true rfl) (Nat.le_of_ble_eq_true rfl) dX0_init_26 (fun q2 H hH => ?_)
  have hH : gH G A s.heap H _ [(h, .inr (0, [.int (0 : Int32), .int (65535 : Int32), .ref q1, .null, .null, .int 0, .int 0, .int 0])), (q1, gA G 20 (fun _ => 0)), (q2, gA G 20 (fun _ => 0))] := hH
  refine g_putF (w1 := [(h, .inr (0, [.int (0 : Int32), .int (65535 : Int32), .ref q1, .ref q2, .null, .int 0, .int 0, .int 0])), (q1, gA G 20 (fun _ => 0)), (q2, gA G 20 (fun _ => 0))]) (T := TX1) (N := 8) (ci := 0) (C := RX1) (ty := .array .int) (v := .ref q2) X hin hK hH in_RX1 tyX1 tyX1_ok nmX1 0 rfl rfl 3 (by decide) q_161 (fun _ h9 => h9) rfl rfl (by decide +kernel) rfl rfl (Nat.le_of_ble_eq_true rfl) dX0_init_28 rfl rfl (fun H locs hH => ?_)
  exact hE (fun a => [(fun k => [0, 0, q1, q2, 0, 0, 0, 0].getD k 0)].getD a (fun _ => 0)) _ _ _ _ _ _ (Nat.le_of_ble_eq_true rfl) (Nat.le_of_ble_eq_true rfl) hH dX0_init_31

abbrev rmn_X1 : Room := { frames := 2, cells := 3, slots := 40, locals := 32 }
theorem hdn_X1 : yX1_init.cls ≠ "java/lang/invoke/MethodHandle" ∧ yX1_init.cls ≠ "java/lang/invoke/VarHandle" ∧ (parseMethodDescriptor yX1_init.desc).map (fun d => d.parameters.length) = some 0 := by decide +kernel
set_option maxHeartbeats 4000000 in
set_option maxRecDepth 100000 in
theorem ctn_X1 (l : Launch) (G : gG) (h sz : Nat) : gN l G yX1_init cX1_init 1 rmn_X1 [.ref h] sz [(h, .inr (0, [.int 0, .int 0, .null, .null, .null, .int 0, .int 0, .int 0]))] (fun u => [(h, .inr (0, FX1 (u 0) (u 0 4) (0 : Int32) (65535 : Int32) (0 : Int32) (0 : Int32) (0 : Int32))), ((u 0 2), gA G 20 (fun _ => 0)), ((u 0 3), gA G 20 (fun _ => 0)), ((u 0 4), gA G 0 (fun _ => 0))]) 3 40 := by
  refine gN_of (by decide) rfl (Nat.le_of_ble_eq_true rfl) ?_
  intro p e s m args below meth c ls A Q X hin hO hK hA hsz hH hl hE
  subst hsz
  have hx := X.1
  have hb := X.2.1
  have hl : lv_has ls 1 [(0, .ref h)] := hl
  have hH : gH G A s.heap s.heap [] [(h, .inr (0, [.int 0, .int 0, .null, .null, .null, .int 0, .int 0, .int 0]))] := hH
  refine lv_aload_n hx hb dX1_init_0 rfl (lv_at hl 0 rfl) ?_
  refine g_cIN (ww := ([] : va_W)) X hO hK hA hH hl (ctn_X0_X1 l G h _) ⟨q_7, q_149, hdn_X0, rfl, rfl, ⟨Nat.le_of_ble_eq_true rfl, Nat.le_of_ble_eq_true rfl⟩, ⟨Nat.le_of_ble_eq_true rfl, Nat.le_of_ble_eq_true rfl⟩⟩ qn_182 q_148 rfl rfl (Nat.le_of_ble_eq_true rfl) dX1_init_1 (fun u1 H locs hH => ?_)
  have hH : gH G A s.heap H _ [(h, .inr (0, [.int (0 : Int32), .int (65535 : Int32), .ref (u1 0 2), .ref (u1 0 3), .null, .int 0, .int 0, .int 0])), ((u1 0 2), gA G 20 (fun _ => 0)), ((u1 0 3), gA G 20 (fun _ => 0))] := hH
  refine lv_aload_n hx hb dX1_init_4 rfl (lv_at hl 0 rfl) ?_
  refine lv_iconst (v := (0 : Int32)) hx hb dX1_init_5 (by decide) ?_
  refine g_newI X hK hA hH q_47 (N := 0) (by decide) (by decide) (Nat.le_of_ble_eq_true rfl) (Nat.le_of_ble_eq_true rfl) (Nat.le_of_ble_eq_true rfl) dX1_init_6 (fun q2 H hH => ?_)
  have hH : gH G A s.heap H _ [(h, .inr (0, [.int (0 : Int32), .int (65535 : Int32), .ref (u1 0 2), .ref (u1 0 3), .null, .int 0, .int 0, .int 0])), ((u1 0 2), gA G 20 (fun _ => 0)), ((u1 0 3), gA G 20 (fun _ => 0)), (q2, gA G 0 (fun _ => 0))] := hH
  refine g_put (w1 := [(h, .inr (0, [.int (0 : Int32), .int (65535 : Int32), .ref (u1 0 2), .ref (u1 0 3), .ref q2, .int 0, .int 0, .int 0])), ((u1 0 2), gA G 20 (fun _ => 0)), ((u1 0 3), gA G 20 (fun _ => 0)), (q2, gA G 0 (fun _ => 0))]) (T := TX1) (N := 8) (ci := 0) (C := RX1) (ty := .array .int) (v := .ref q2) X hK hH in_RX1 tyX1 tyX1_ok nmX1 0 rfl rfl 4 (by decide) q_183 (fun _ h9 => h9) rfl (by decide +kernel) rfl rfl (Nat.le_of_ble_eq_true rfl) dX1_init_8 rfl rfl (fun H locs hH => ?_)
  refine lv_aload_n hx hb dX1_init_11 rfl (lv_at hl 0 rfl) ?_
  refine lv_iconst (v := (0 : Int32)) hx hb dX1_init_12 (by decide) ?_
  refine g_put (w1 := [(h, .inr (0, [.int (0 : Int32), .int (65535 : Int32), .ref (u1 0 2), .ref (u1 0 3), .ref q2, .int (0 : Int32), .int 0, .int 0])), ((u1 0 2), gA G 20 (fun _ => 0)), ((u1 0 3), gA G 20 (fun _ => 0)), (q2, gA G 0 (fun _ => 0))]) (T := TX1) (N := 8) (ci := 0) (C := RX1) (ty := .int) (v := .int (0 : Int32)) X hK hH in_RX1 tyX1 tyX1_ok nmX1 0 rfl rfl 5 (by decide) q_184 (fun _ h9 => h9) rfl (by decide +kernel) rfl rfl (Nat.le_of_ble_eq_true rfl) dX1_init_13 rfl rfl (fun H locs hH => ?_)
  refine lv_aload_n hx hb dX1_init_16 rfl (lv_at hl 0 rfl) ?_
  refine lv_iconst (v := (0 : Int32)) hx hb dX1_init_17 (by decide) ?_
  refine g_put (w1 := [(h, .inr (0, [.int (0 : Int32), .int (65535 : Int32), .ref (u1 0 2), .ref (u1 0 3), .ref q2, .int (0 : Int32), .int (0 : Int32), .int 0])), ((u1 0 2), gA G 20 (fun _ => 0)), ((u1 0 3), gA G 20 (fun _ => 0)), (q2, gA G 0 (fun _ => 0))]) (T := TX1) (N := 8) (ci := 0) (C := RX1) (ty := .int) (v := .int (0 : Int32)) X hK hH in_RX1 tyX1 tyX1_ok nmX1 0 rfl rfl 6 (by decide) q_185 (fun _ h9 => h9) rfl (by decide +kernel) rfl rfl (Nat.le_of_ble_eq_true rfl) dX1_init_18 rfl rfl (fun H locs hH => ?_)
  refine lv_aload_n hx hb dX1_init_21 rfl (lv_at hl 0 rfl) ?_
  refine lv_iconst (v := (0 : Int32)) hx hb dX1_init_22 (by decide) ?_
  refine g_put (w1 := [(h, .inr (0, [.int (0 : Int32), .int (65535 : Int32), .ref (u1 0 2), .ref (u1 0 3), .ref q2, .int (0 : Int32), .int (0 : Int32), .int (0 : Int32)])), ((u1 0 2), gA G 20 (fun _ => 0)), ((u1 0 3), gA G 20 (fun _ => 0)), (q2, gA G 0 (fun _ => 0))]) (T := TX1) (N := 8) (ci := 0) (C := RX1) (ty := .int) (v := .int (0 : Int32)) X hK hH in_RX1 tyX1 tyX1_ok nmX1 0 rfl rfl 7 (by decide) q_186 (fun _ h9 => h9) rfl (by decide +kernel) rfl rfl (Nat.le_of_ble_eq_true rfl) dX1_init_23 rfl rfl (fun H locs hH => ?_)
  exact hE (fun a => [(fun k => [0, 0, (u1 0 2), (u1 0 3), q2, 0, 0, 0].getD k 0)].getD a (fun _ => 0)) _ _ _ _ _ _ (Nat.le_of_ble_eq_true rfl) (Nat.le_of_ble_eq_true rfl) hH dX1_init_26
