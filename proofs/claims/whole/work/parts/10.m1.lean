def lf_X9_left (t_this_result : Nat → Int32) (p0 : Int32) (p1 : Int32) : Option (Int32) :=
(if p0 = (0 : Int32) then some (0 : Int32) else (rdA 384 t_this_result ((((16 : Int32) * p1) + p0) - (1 : Int32))).bind fun x2 => some x2)
abbrev rm_X9_left : Room := { frames := 0, cells := 0, slots := 0, locals := 0 }
theorem hd_X9_left : yX9_left.cls ≠ "java/lang/invoke/MethodHandle" ∧ yX9_left.cls ≠ "java/lang/invoke/VarHandle" ∧ (parseMethodDescriptor yX9_left.desc).map (fun d => d.parameters.length) = some 2 := by decide +kernel
set_option maxHeartbeats 4000000 in
set_option maxRecDepth 100000 in
theorem ct_X9_left (l : Launch) (G : gG) (h_this : Nat) (r_this : Nat → Nat) (i_this_thrown i_this_w i_this_h i_this_layers i_this_size i_this_kind i_this_firstSize i_this_codedW i_this_codedH i_this_codedLayers i_this_isDecoded i_this_decodedW i_this_decodedH i_this_low i_this_high i_this_pending i_this_code i_this_bits i_this_start i_this_end i_this_bestMode i_this_mean : Int32) (t_this_result : Nat → Int32) (p0 p1 : Int32) (sz : Nat) (out : Int32) (hf : lf_X9_left t_this_result p0 p1 = some out) : gI l G yX9_left cX9_left 3 .int rm_X9_left [.ref h_this, .int p0, .int p1] sz [(h_this, .inr (8, FX9 r_this i_this_thrown i_this_w i_this_h i_this_layers i_this_size i_this_kind i_this_firstSize i_this_codedW i_this_codedH i_this_codedLayers i_this_isDecoded i_this_decodedW i_this_decodedH i_this_low i_this_high i_this_pending i_this_code i_this_bits i_this_start i_this_end i_this_bestMode i_this_mean)), ((r_this 17), gA G 384 t_this_result)] out [(h_this, .inr (8, FX9 r_this i_this_thrown i_this_w i_this_h i_this_layers i_this_size i_this_kind i_this_firstSize i_this_codedW i_this_codedH i_this_codedLayers i_this_isDecoded i_this_decodedW i_this_decodedH i_this_low i_this_high i_this_pending i_this_code i_this_bits i_this_start i_this_end i_this_bestMode i_this_mean)), ((r_this 17), gA G 384 t_this_result)] := by
  refine gI_of (by decide +kernel) (Nat.le_of_ble_eq_true rfl) ?_
  intro p e s m args below meth c ls A Q X hK hA hsz hH hl hE
  subst hsz
  have hx := X.1
  have hb := X.2.1
  unfold lf_X9_left at hf
  have hl : lv_has ls 3 [(0, .ref h_this), (1, .int p0), (2, .int p1)] := hl
  have hH : gH G A s.heap s.heap [] [(h_this, .inr (8, FX9 r_this i_this_thrown i_this_w i_this_h i_this_layers i_this_size i_this_kind i_this_firstSize i_this_codedW i_this_codedH i_this_codedLayers i_this_isDecoded i_this_decodedW i_this_decodedH i_this_low i_this_high i_this_pending i_this_code i_this_bits i_this_start i_this_end i_this_bestMode i_this_mean)), ((r_this 17), gA G 384 t_this_result)] := hH
  refine lv_iload_n hx hb dX9_left_0 rfl (lv_at hl 1 rfl) ?_
  refine lv_if_ne (tgt := 8) hx hb dX9_left_1 (by decide) (fun c1 => ?_) (fun c1 => ?_)
  · have hf := sneg hf c1
    refine lv_aload_n hx hb dX9_left_8 rfl (lv_at hl 0 rfl) ?_
    refine g_get (T := TX9) (N := 42) (ci := 8) (C := RX9) (v := .ref (r_this 17)) X hK hH in_RX9 0 rfl rfl 17 (by decide) q_951 (fun _ h9 => h9) rfl dX9_left_9 ?_
    refine lv_bipush (v := (16 : Int32)) hx hb dX9_left_12 (by decide) ?_
    refine lv_iload_n hx hb dX9_left_14 rfl (lv_at hl 2 rfl) ?_
    refine lv_imul hx hb dX9_left_15 ?_
    refine lv_iload_n hx hb dX9_left_16 rfl (lv_at hl 1 rfl) ?_
    refine lv_iadd hx hb dX9_left_17 ?_
    refine lv_iconst (v := (1 : Int32)) hx hb dX9_left_18 (by decide) ?_
    refine lv_isub hx hb dX9_left_19 ?_
    obtain ⟨x2, hx2, hf⟩ := sbind hf
    refine g_ald X hK hH 1 rfl hx2 dX9_left_20 ?_
    obtain rfl := Option.some.inj hf
    exact hE _ _ _ _ rfl hH dX9_left_21
  · have hf := spos hf c1
    refine lv_iconst (v := (0 : Int32)) hx hb dX9_left_4 (by decide) ?_
    refine lv_goto (tgt := 21) hx hb dX9_left_5 (by decide) ?_
    obtain rfl := Option.some.inj hf
    exact hE _ _ _ _ rfl hH dX9_left_21

def lf_X9_digits (p0 : Int32) : Option (Int32) :=
jn (fun (z3 : Int32) => (fun (s2 : Int32) => (fixN FUEL (fun (self6 : (Int32 × Int32) → Option (Int32)) (z6 : Int32 × Int32) => (fun (x4 : Int32) (x5 : Int32) => (if x4 ≤ (0 : Int32) then some x5 else bnd (x4 / (2 : Int32)) fun x8 => bnd (x5 + (1 : Int32)) fun x9 => self6 (x8, x9))) z6.1 z6.2) (s2, (0 : Int32))).bind fun o6 => some o6) z3) (fun k3 => (if (0 : Int32) ≤ p0 then k3 p0 else k3 (-p0)))
abbrev rm_X9_digits : Room := { frames := 0, cells := 0, slots := 0, locals := 0 }
theorem hd_X9_digits : yX9_digits.cls ≠ "java/lang/invoke/MethodHandle" ∧ yX9_digits.cls ≠ "java/lang/invoke/VarHandle" ∧ (parseMethodDescriptor yX9_digits.desc).map (fun d => d.parameters.length) = some 1 := by decide +kernel
set_option maxHeartbeats 4000000 in
set_option maxRecDepth 100000 in
theorem ct_X9_digits (l : Launch) (G : gG) (p0 : Int32) (sz : Nat) (out : Int32) (hf : lf_X9_digits p0 = some out) : gI l G yX9_digits cX9_digits 3 .int rm_X9_digits [.int p0] sz [] out [] := by
  refine gI_of (by decide +kernel) (Nat.le_of_ble_eq_true rfl) ?_
  intro p e s m args below meth c ls A Q X hK hA hsz hH hl hE
  subst hsz
  have hx := X.1
  have hb := X.2.1
  unfold lf_X9_digits at hf
  have hl : lv_has ls 3 [(0, .int p0)] := hl
  have hH : gH G A s.heap s.heap [] [] := hH
  refine lv_iload_n hx hb dX9_digits_0 rfl (lv_at hl 0 rfl) ?_
  obtain ⟨k3, hk3, hf⟩ := sjn hf
  have J3 : ∀ (s2 : Int32) (H : Heap) (locs : List Loc) (ls : Array Slot), k3 s2 = some out → gH G A s.heap H locs [] → lv_has ls 3 [] → W p l e rm_X9_digits s m args below meth c H locs 0 0 Q (F0 m 10 ls [.int s2]) := by
    intro s2 H locs ls hf hH hl
    have hf := hk3 _ _ hf
    refine lv_istore_n (lv' := [(1, .int s2)]) hx hb dX9_digits_10 rfl hl (by decide) rfl (fun ls hl => ?_)
    refine lv_iconst (v := (0 : Int32)) hx hb dX9_digits_11 (by decide) ?_
    refine lv_istore_n (lv' := [(2, .int (0 : Int32)), (1, .int s2)]) hx hb dX9_digits_12 rfl hl (by decide) rfl (fun ls hl => ?_)
    obtain ⟨o6, ho6, hf⟩ := sbind hf
    obtain ⟨FF6, hFF6, ho6⟩ := sfix ho6
    have L6 : ∀ (n : Nat) (x4 : Int32) (x5 : Int32) (b6 : Int32) (H : Heap) (locs : List Loc) (ls : Array Slot), fixN n FF6 (x4, x5) = some b6 → gH G A s.heap H locs [] → lv_has ls 3 [(1, .int x4), (2, .int x5)] → (∀ (H : Heap) (locs : List Loc) (ls : Array Slot), gH G A s.heap H locs [] → lv_has ls 3 [(2, .int b6)] → W p l e rm_X9_digits s m args below meth c H locs 0 0 Q (F0 m 27 ls [])) → W p l e rm_X9_digits s m args below meth c H locs 0 0 Q (F0 m 13 ls []) := by
      intro n
      induction n with
      | zero => intro x4 x5 b6 H locs ls hf; exact sfix0 hf
      | succ n ih =>
        intro x4 x5 b6 H locs ls hf hH hl KK
        obtain ⟨self6, hself6, hf⟩ := sstep hFF6 hf
        refine lv_iload_n hx hb dX9_digits_13 rfl (lv_at hl 0 rfl) ?_
        refine lv_if_le (tgt := 27) hx hb dX9_digits_14 (by decide) (fun c7 => ?_) (fun c7 => ?_)
        · have hf := spos hf c7
          obtain rfl := Option.some.inj hf
          exact KK _ _ _ hH (lv_sub hl [1] rfl)
        · have hf := sneg hf c7
          refine lv_iload_n hx hb dX9_digits_17 rfl (lv_at hl 0 rfl) ?_
          refine lv_iconst (v := (2 : Int32)) hx hb dX9_digits_18 (by decide) ?_
          refine lv_idiv hx hb dX9_digits_19 (by decide) ?_
          refine lv_topi (fun x8 ex8 => ?_)
          have hf := sbnd hf x8 ex8
          refine lv_istore_n (lv' := [(1, .int x8), (2, .int x5)]) hx hb dX9_digits_20 rfl hl (by decide) rfl (fun ls hl => ?_)
          obtain ⟨x9, ex9⟩ : ∃ y : Int32, y = (x5 + (1 : Int32)) := ⟨_, rfl⟩
          have hf := sbnd hf x9 ex9
          refine lv_iinc (v := x9) (lv' := [(2, .int x9), (1, .int x8)]) hx hb dX9_digits_21 hl (k := 1) rfl (by rw [ex9]; rfl) (by decide) rfl (fun ls hl => ?_)
          refine lv_goto (tgt := 13) hx hb dX9_digits_24 (by decide) ?_
          exact ih x8 x9 _ _ _ _ (hself6 _ _ hf) hH (lv_sub hl [1, 0] rfl) KK
    refine L6 FUEL s2 (0 : Int32) o6 _ _ _ ho6 hH (lv_sub hl [1, 0] rfl) (fun H locs ls hH hl => ?_)
    refine lv_iload_n hx hb dX9_digits_27 rfl (lv_at hl 0 rfl) ?_
    obtain rfl := Option.some.inj hf
    exact hE _ _ _ _ rfl hH dX9_digits_28
  refine lv_if_ge (tgt := 9) hx hb dX9_digits_1 (by decide) (fun c1 => ?_) (fun c1 => ?_)
  · have hf := spos hf c1
    refine lv_iload_n hx hb dX9_digits_9 rfl (lv_at hl 0 rfl) ?_
    exact J3 p0 _ _ _ hf hH (lv_sub hl [] rfl)
  · have hf := sneg hf c1
    refine lv_iload_n hx hb dX9_digits_4 rfl (lv_at hl 0 rfl) ?_
    refine lv_ineg hx hb dX9_digits_5 ?_
    refine lv_goto (tgt := 10) hx hb dX9_digits_6 (by decide) ?_
    exact J3 (-p0) _ _ _ hf hH (lv_sub hl [] rfl)

def lf_X9_splitPlace (i_this_high : Int32) (i_this_low : Int32) (t_this_counts : Nat → Int32) (p0 : Int32) : Option (Int32) :=
jn (fun (z3 : Int32) => (fun (s2 : Int32) => jn (fun (z6 : Int32) => (fun (s5 : Int32) => (dvO (((i_this_high - i_this_low) + (1 : Int32)) * s2) (s2 + s5)).bind fun x7 => some ((i_this_low - (1 : Int32)) + x7)) z6) (fun k6 => (if (0 : Int32) ≤ p0 then (rdA 40 t_this_counts (((2 : Int32) * p0) + (1 : Int32))).bind fun x8 => k6 x8 else k6 (1 : Int32)))) z3) (fun k3 => (if (0 : Int32) ≤ p0 then (rdA 40 t_this_counts ((2 : Int32) * p0)).bind fun x9 => k3 x9 else k3 (1 : Int32)))
abbrev rm_X9_splitPlace : Room := { frames := 0, cells := 0, slots := 0, locals := 0 }
theorem hd_X9_splitPlace : yX9_splitPlace.cls ≠ "java/lang/invoke/MethodHandle" ∧ yX9_splitPlace.cls ≠ "java/lang/invoke/VarHandle" ∧ (parseMethodDescriptor yX9_splitPlace.desc).map (fun d => d.parameters.length) = some 1 := by decide +kernel
set_option maxHeartbeats 4000000 in
set_option maxRecDepth 100000 in
theorem ct_X9_splitPlace (l : Launch) (G : gG) (h_this : Nat) (r_this : Nat → Nat) (i_this_thrown i_this_w i_this_h i_this_layers i_this_size i_this_kind i_this_firstSize i_this_codedW i_this_codedH i_this_codedLayers i_this_isDecoded i_this_decodedW i_this_decodedH i_this_low i_this_high i_this_pending i_this_code i_this_bits i_this_start i_this_end i_this_bestMode i_this_mean : Int32) (t_this_counts : Nat → Int32) (p0 : Int32) (sz : Nat) (out : Int32) (hf : lf_X9_splitPlace i_this_high i_this_low t_this_counts p0 = some out) : gI l G yX9_splitPlace cX9_splitPlace 4 .int rm_X9_splitPlace [.ref h_this, .int p0] sz [(h_this, .inr (8, FX9 r_this i_this_thrown i_this_w i_this_h i_this_layers i_this_size i_this_kind i_this_firstSize i_this_codedW i_this_codedH i_this_codedLayers i_this_isDecoded i_this_decodedW i_this_decodedH i_this_low i_this_high i_this_pending i_this_code i_this_bits i_this_start i_this_end i_this_bestMode i_this_mean)), ((r_this 41), gA G 40 t_this_counts)] out [(h_this, .inr (8, FX9 r_this i_this_thrown i_this_w i_this_h i_this_layers i_this_size i_this_kind i_this_firstSize i_this_codedW i_this_codedH i_this_codedLayers i_this_isDecoded i_this_decodedW i_this_decodedH i_this_low i_this_high i_this_pending i_this_code i_this_bits i_this_start i_this_end i_this_bestMode i_this_mean)), ((r_this 41), gA G 40 t_this_counts)] := by
  refine gI_of (by decide +kernel) (Nat.le_of_ble_eq_true rfl) ?_
  intro p e s m args below meth c ls A Q X hK hA hsz hH hl hE
  subst hsz
  have hx := X.1
  have hb := X.2.1
  unfold lf_X9_splitPlace at hf
  have hl : lv_has ls 4 [(0, .ref h_this), (1, .int p0)] := hl
  have hH : gH G A s.heap s.heap [] [(h_this, .inr (8, FX9 r_this i_this_thrown i_this_w i_this_h i_this_layers i_this_size i_this_kind i_this_firstSize i_this_codedW i_this_codedH i_this_codedLayers i_this_isDecoded i_this_decodedW i_this_decodedH i_this_low i_this_high i_this_pending i_this_code i_this_bits i_this_start i_this_end i_this_bestMode i_this_mean)), ((r_this 41), gA G 40 t_this_counts)] := hH
  refine lv_iload_n hx hb dX9_splitPlace_0 rfl (lv_at hl 1 rfl) ?_
  obtain ⟨k3, hk3, hf⟩ := sjn hf
  have J3 : ∀ (s2 : Int32) (H : Heap) (locs : List Loc) (ls : Array Slot), k3 s2 = some out → gH G A s.heap H locs [(h_this, .inr (8, FX9 r_this i_this_thrown i_this_w i_this_h i_this_layers i_this_size i_this_kind i_this_firstSize i_this_codedW i_this_codedH i_this_codedLayers i_this_isDecoded i_this_decodedW i_this_decodedH i_this_low i_this_high i_this_pending i_this_code i_this_bits i_this_start i_this_end i_this_bestMode i_this_mean)), ((r_this 41), gA G 40 t_this_counts)] → lv_has ls 4 [(0, .ref h_this), (1, .int p0)] → W p l e rm_X9_splitPlace s m args below meth c H locs 0 0 Q (F0 m 16 ls [.int s2]) := by
    intro s2 H locs ls hf hH hl
    have hf := hk3 _ _ hf
    refine lv_istore_n (lv' := [(2, .int s2), (0, .ref h_this), (1, .int p0)]) hx hb dX9_splitPlace_16 rfl hl (by decide) rfl (fun ls hl => ?_)
    refine lv_iload_n hx hb dX9_splitPlace_17 rfl (lv_at hl 2 rfl) ?_
    obtain ⟨k6, hk6, hf⟩ := sjn hf
    have J6 : ∀ (s5 : Int32) (H : Heap) (locs : List Loc) (ls : Array Slot), k6 s5 = some out → gH G A s.heap H locs [(h_this, .inr (8, FX9 r_this i_this_thrown i_this_w i_this_h i_this_layers i_this_size i_this_kind i_this_firstSize i_this_codedW i_this_codedH i_this_codedLayers i_this_isDecoded i_this_decodedW i_this_decodedH i_this_low i_this_high i_this_pending i_this_code i_this_bits i_this_start i_this_end i_this_bestMode i_this_mean)), ((r_this 41), gA G 40 t_this_counts)] → lv_has ls 4 [(0, .ref h_this), (2, .int s2)] → W p l e rm_X9_splitPlace s m args below meth c H locs 0 0 Q (F0 m 35 ls [.int s5]) := by
      intro s5 H locs ls hf hH hl
      have hf := hk6 _ _ hf
      refine lv_istore_n (lv' := [(3, .int s5), (0, .ref h_this), (2, .int s2)]) hx hb dX9_splitPlace_35 rfl hl (by decide) rfl (fun ls hl => ?_)
      refine lv_aload_n hx hb dX9_splitPlace_36 rfl (lv_at hl 1 rfl) ?_
      refine g_get (T := TX9) (N := 42) (ci := 8) (C := RX9) (v := .int i_this_low) X hK hH in_RX9 0 rfl rfl 32 (by decide) q_966 (fun _ h9 => h9) rfl dX9_splitPlace_37 ?_
      refine lv_iconst (v := (1 : Int32)) hx hb dX9_splitPlace_40 (by decide) ?_
      refine lv_isub hx hb dX9_splitPlace_41 ?_
      refine lv_aload_n hx hb dX9_splitPlace_42 rfl (lv_at hl 1 rfl) ?_
      refine g_get (T := TX9) (N := 42) (ci := 8) (C := RX9) (v := .int i_this_high) X hK hH in_RX9 0 rfl rfl 33 (by decide) q_967 (fun _ h9 => h9) rfl dX9_splitPlace_43 ?_
      refine lv_aload_n hx hb dX9_splitPlace_46 rfl (lv_at hl 1 rfl) ?_
      refine g_get (T := TX9) (N := 42) (ci := 8) (C := RX9) (v := .int i_this_low) X hK hH in_RX9 0 rfl rfl 32 (by decide) q_966 (fun _ h9 => h9) rfl dX9_splitPlace_47 ?_
      refine lv_isub hx hb dX9_splitPlace_50 ?_
      refine lv_iconst (v := (1 : Int32)) hx hb dX9_splitPlace_51 (by decide) ?_
      refine lv_iadd hx hb dX9_splitPlace_52 ?_
      refine lv_iload_n hx hb dX9_splitPlace_53 rfl (lv_at hl 2 rfl) ?_
      refine lv_imul hx hb dX9_splitPlace_54 ?_
      refine lv_iload_n hx hb dX9_splitPlace_55 rfl (lv_at hl 2 rfl) ?_
      refine lv_iload_n hx hb dX9_splitPlace_56 rfl (lv_at hl 0 rfl) ?_
      refine lv_iadd hx hb dX9_splitPlace_57 ?_
      obtain ⟨x7, hx7, hf⟩ := sbind hf
      refine g_div X hx7 dX9_splitPlace_58 ?_
      refine lv_iadd hx hb dX9_splitPlace_59 ?_
      obtain rfl := Option.some.inj hf
      exact hE _ _ _ _ rfl hH dX9_splitPlace_60
    refine lv_if_ge (tgt := 25) hx hb dX9_splitPlace_18 (by decide) (fun c4 => ?_) (fun c4 => ?_)
    · have hf := spos hf c4
      refine lv_aload_n hx hb dX9_splitPlace_25 rfl (lv_at hl 1 rfl) ?_
      refine g_get (T := TX9) (N := 42) (ci := 8) (C := RX9) (v := .ref (r_this 41)) X hK hH in_RX9 0 rfl rfl 41 (by decide) q_975 (fun _ h9 => h9) rfl dX9_splitPlace_26 ?_
      refine lv_iconst (v := (2 : Int32)) hx hb dX9_splitPlace_29 (by decide) ?_
      refine lv_iload_n hx hb dX9_splitPlace_30 rfl (lv_at hl 2 rfl) ?_
      refine lv_imul hx hb dX9_splitPlace_31 ?_
      refine lv_iconst (v := (1 : Int32)) hx hb dX9_splitPlace_32 (by decide) ?_
      refine lv_iadd hx hb dX9_splitPlace_33 ?_
      obtain ⟨x8, hx8, hf⟩ := sbind hf
      refine g_ald X hK hH 1 rfl hx8 dX9_splitPlace_34 ?_
      exact J6 x8 _ _ _ hf hH (lv_sub hl [1, 0] rfl)
    · have hf := sneg hf c4
      refine lv_iconst (v := (1 : Int32)) hx hb dX9_splitPlace_21 (by decide) ?_
      refine lv_goto (tgt := 35) hx hb dX9_splitPlace_22 (by decide) ?_
      exact J6 (1 : Int32) _ _ _ hf hH (lv_sub hl [1, 0] rfl)
  refine lv_if_ge (tgt := 8) hx hb dX9_splitPlace_1 (by decide) (fun c1 => ?_) (fun c1 => ?_)
  · have hf := spos hf c1
    refine lv_aload_n hx hb dX9_splitPlace_8 rfl (lv_at hl 0 rfl) ?_
    refine g_get (T := TX9) (N := 42) (ci := 8) (C := RX9) (v := .ref (r_this 41)) X hK hH in_RX9 0 rfl rfl 41 (by decide) q_975 (fun _ h9 => h9) rfl dX9_splitPlace_9 ?_
    refine lv_iconst (v := (2 : Int32)) hx hb dX9_splitPlace_12 (by decide) ?_
    refine lv_iload_n hx hb dX9_splitPlace_13 rfl (lv_at hl 1 rfl) ?_
    refine lv_imul hx hb dX9_splitPlace_14 ?_
    obtain ⟨x9, hx9, hf⟩ := sbind hf
    refine g_ald X hK hH 1 rfl hx9 dX9_splitPlace_15 ?_
    exact J3 x9 _ _ _ hf hH (lv_sub hl [0, 1] rfl)
  · have hf := sneg hf c1
    refine lv_iconst (v := (1 : Int32)) hx hb dX9_splitPlace_4 (by decide) ?_
    refine lv_goto (tgt := 16) hx hb dX9_splitPlace_5 (by decide) ?_
    exact J3 (1 : Int32) _ _ _ hf hH (lv_sub hl [0, 1] rfl)

def lf_X9_half (p0 : Int32) : Option (Int32) :=
some (p0 >>> ((1 : Int32) &&& 31))
abbrev rm_X9_half : Room := { frames := 0, cells := 0, slots := 0, locals := 0 }
theorem hd_X9_half : yX9_half.cls ≠ "java/lang/invoke/MethodHandle" ∧ yX9_half.cls ≠ "java/lang/invoke/VarHandle" ∧ (parseMethodDescriptor yX9_half.desc).map (fun d => d.parameters.length) = some 1 := by decide +kernel
set_option maxHeartbeats 4000000 in
set_option maxRecDepth 100000 in
theorem ct_X9_half (l : Launch) (G : gG) (p0 : Int32) (sz : Nat) (out : Int32) (hf : lf_X9_half p0 = some out) : gI l G yX9_half cX9_half 1 .int rm_X9_half [.int p0] sz [] out [] := by
  refine gI_of (by decide +kernel) (Nat.le_of_ble_eq_true rfl) ?_
  intro p e s m args below meth c ls A Q X hK hA hsz hH hl hE
  subst hsz
  have hx := X.1
  have hb := X.2.1
  unfold lf_X9_half at hf
  have hl : lv_has ls 1 [(0, .int p0)] := hl
  have hH : gH G A s.heap s.heap [] [] := hH
  refine lv_iload_n hx hb dX9_half_0 rfl (lv_at hl 0 rfl) ?_
  refine lv_iconst (v := (1 : Int32)) hx hb dX9_half_1 (by decide) ?_
  refine lv_ishr hx hb dX9_half_2 ?_
  obtain rfl := Option.some.inj hf
  exact hE _ _ _ _ rfl hH dX9_half_3

def lf_X9_isIn (p0 : Int32) (p1 : Int32) (p2 : Int32) : Option (Int32) :=
jn (fun (z2 : Unit) => some (0 : Int32)) (fun k2 => (if p0 < p1 then k2 () else (if p2 < p0 then k2 () else some (1 : Int32))))
abbrev rm_X9_isIn : Room := { frames := 0, cells := 0, slots := 0, locals := 0 }
theorem hd_X9_isIn : yX9_isIn.cls ≠ "java/lang/invoke/MethodHandle" ∧ yX9_isIn.cls ≠ "java/lang/invoke/VarHandle" ∧ (parseMethodDescriptor yX9_isIn.desc).map (fun d => d.parameters.length) = some 3 := by decide +kernel
set_option maxHeartbeats 4000000 in
set_option maxRecDepth 100000 in
theorem ct_X9_isIn (l : Launch) (G : gG) (p0 p1 p2 : Int32) (sz : Nat) (out : Int32) (hf : lf_X9_isIn p0 p1 p2 = some out) : gI l G yX9_isIn cX9_isIn 3 .boolean rm_X9_isIn [.int p0, .int p1, .int p2] sz [] out [] := by
  refine gI_of (by decide +kernel) (Nat.le_of_ble_eq_true rfl) ?_
  intro p e s m args below meth c ls A Q X hK hA hsz hH hl hE
  subst hsz
  have hx := X.1
  have hb := X.2.1
  unfold lf_X9_isIn at hf
  have hl : lv_has ls 3 [(0, .int p0), (1, .int p1), (2, .int p2)] := hl
  have hH : gH G A s.heap s.heap [] [] := hH
  refine lv_iload_n hx hb dX9_isIn_0 rfl (lv_at hl 0 rfl) ?_
  refine lv_iload_n hx hb dX9_isIn_1 rfl (lv_at hl 1 rfl) ?_
  obtain ⟨k2, hk2, hf⟩ := sjn hf
  have J2 : ∀  (H : Heap) (locs : List Loc) (ls : Array Slot), k2 () = some out → gH G A s.heap H locs [] → lv_has ls 3 [] → W p l e rm_X9_isIn s m args below meth c H locs 0 0 Q (F0 m 14 ls []) := by
    intro  H locs ls hf hH hl
    have hf := hk2 _ _ hf
    refine lv_iconst (v := (0 : Int32)) hx hb dX9_isIn_14 (by decide) ?_
    obtain rfl := Option.some.inj hf
    exact hE _ _ _ _ rfl hH dX9_isIn_15
  refine lv_icmp_lt (tgt := 14) hx hb dX9_isIn_2 (by decide) (fun c1 => ?_) (fun c1 => ?_)
  · have hf := spos hf c1
    exact J2  _ _ _ hf hH (lv_sub hl [] rfl)
  · have hf := sneg hf c1
    refine lv_iload_n hx hb dX9_isIn_5 rfl (lv_at hl 0 rfl) ?_
    refine lv_iload_n hx hb dX9_isIn_6 rfl (lv_at hl 2 rfl) ?_
    refine lv_icmp_gt (tgt := 14) hx hb dX9_isIn_7 (by decide) (fun c3 => ?_) (fun c3 => ?_)
    · have hf := spos hf c3
      exact J2  _ _ _ hf hH (lv_sub hl [] rfl)
    · have hf := sneg hf c3
      refine lv_iconst (v := (1 : Int32)) hx hb dX9_isIn_10 (by decide) ?_
      refine lv_goto (tgt := 15) hx hb dX9_isIn_11 (by decide) ?_
      obtain rfl := Option.some.inj hf
      exact hE _ _ _ _ rfl hH dX9_isIn_15

def lf_X9_split (t_this_line : Nat → Int32) (t_this_work : Nat → Int32) (p0 : Int32) (p1 : Int32) (p2 : Int32) : Option ((Nat → Int32) × (Nat → Int32)) :=
(fixN FUEL (fun (self3 : (Int32 × (Nat → Int32)) → Option ((Nat → Int32))) (z3 : Int32 × (Nat → Int32)) => (fun (x1 : Int32) (g2 : (Nat → Int32)) => (if (p2 / (2 : Int32)) ≤ x1 then some g2 else (rdA 64 t_this_work (p0 + (((2 : Int32) * x1) * p1))).bind fun x5 => (rdA 64 t_this_work (p0 + ((((2 : Int32) * x1) + (1 : Int32)) * p1))).bind fun x6 => (lf_X9_half (x5 + x6)).bind fun o7 => (wrA 8 g2 x1 o7).bind fun g8 => (wrA 8 g8 ((p2 / (2 : Int32)) + x1) (x5 - x6)).bind fun g9 => bnd (x1 + (1 : Int32)) fun x10 => self3 (x10, g9))) z3.1 z3.2) ((0 : Int32), t_this_line)).bind fun o3 => (fixN FUEL (fun (self13 : (Int32 × (Nat → Int32)) → Option ((Nat → Int32))) (z13 : Int32 × (Nat → Int32)) => (fun (x11 : Int32) (g12 : (Nat → Int32)) => (if p2 ≤ x11 then some g12 else (rdA 8 o3 x11).bind fun x15 => (wrA 64 g12 (p0 + (x11 * p1)) x15).bind fun g16 => bnd (x11 + (1 : Int32)) fun x17 => self13 (x17, g16))) z13.1 z13.2) ((0 : Int32), t_this_work)).bind fun o13 => some (o3, o13)
abbrev rm_X9_split : Room := { frames := 1, cells := 0, slots := 0, locals := 20 }
theorem hd_X9_split : yX9_split.cls ≠ "java/lang/invoke/MethodHandle" ∧ yX9_split.cls ≠ "java/lang/invoke/VarHandle" ∧ (parseMethodDescriptor yX9_split.desc).map (fun d => d.parameters.length) = some 3 := by decide +kernel
set_option maxHeartbeats 4000000 in
set_option maxRecDepth 100000 in
theorem ct_X9_split (l : Launch) (G : gG) (h_this : Nat) (r_this : Nat → Nat) (i_this_thrown i_this_w i_this_h i_this_layers i_this_size i_this_kind i_this_firstSize i_this_codedW i_this_codedH i_this_codedLayers i_this_isDecoded i_this_decodedW i_this_decodedH i_this_low i_this_high i_this_pending i_this_code i_this_bits i_this_start i_this_end i_this_bestMode i_this_mean : Int32) (t_this_line t_this_work : Nat → Int32) (p0 p1 p2 : Int32) (sz : Nat) (out : (Nat → Int32) × (Nat → Int32)) (hf : lf_X9_split t_this_line t_this_work p0 p1 p2 = some out) : gV l G yX9_split cX9_split 7 rm_X9_split [.ref h_this, .int p0, .int p1, .int p2] sz [(h_this, .inr (8, FX9 r_this i_this_thrown i_this_w i_this_h i_this_layers i_this_size i_this_kind i_this_firstSize i_this_codedW i_this_codedH i_this_codedLayers i_this_isDecoded i_this_decodedW i_this_decodedH i_this_low i_this_high i_this_pending i_this_code i_this_bits i_this_start i_this_end i_this_bestMode i_this_mean)), ((r_this 28), gA G 64 t_this_work), ((r_this 29), gA G 8 t_this_line)] [(h_this, .inr (8, FX9 r_this i_this_thrown i_this_w i_this_h i_this_layers i_this_size i_this_kind i_this_firstSize i_this_codedW i_this_codedH i_this_codedLayers i_this_isDecoded i_this_decodedW i_this_decodedH i_this_low i_this_high i_this_pending i_this_code i_this_bits i_this_start i_this_end i_this_bestMode i_this_mean)), ((r_this 28), gA G 64 out.2), ((r_this 29), gA G 8 out.1)] := by
  refine gV_of (by decide +kernel) (Nat.le_of_ble_eq_true rfl) ?_
  intro p e s m args below meth c ls A Q X hK hA hsz hH hl hE
  subst hsz
  have hx := X.1
  have hb := X.2.1
  unfold lf_X9_split at hf
  have hl : lv_has ls 7 [(0, .ref h_this), (1, .int p0), (2, .int p1), (3, .int p2)] := hl
  have hH : gH G A s.heap s.heap [] [(h_this, .inr (8, FX9 r_this i_this_thrown i_this_w i_this_h i_this_layers i_this_size i_this_kind i_this_firstSize i_this_codedW i_this_codedH i_this_codedLayers i_this_isDecoded i_this_decodedW i_this_decodedH i_this_low i_this_high i_this_pending i_this_code i_this_bits i_this_start i_this_end i_this_bestMode i_this_mean)), ((r_this 28), gA G 64 t_this_work), ((r_this 29), gA G 8 t_this_line)] := hH
  refine lv_iconst (v := (0 : Int32)) hx hb dX9_split_0 (by decide) ?_
  refine lv_istore (lv' := [(4, .int (0 : Int32)), (0, .ref h_this), (1, .int p0), (2, .int p1), (3, .int p2)]) hx hb dX9_split_1 hl (by decide) rfl (fun ls hl => ?_)
  obtain ⟨o3, ho3, hf⟩ := sbind hf
  obtain ⟨FF3, hFF3, ho3⟩ := sfix ho3
  have L3 : ∀ (n : Nat) (x1 : Int32) (g2 : (Nat → Int32)) (b3 : (Nat → Int32)) (H : Heap) (locs : List Loc) (ls : Array Slot), fixN n FF3 (x1, g2) = some b3 → gH G A s.heap H locs [(h_this, .inr (8, FX9 r_this i_this_thrown i_this_w i_this_h i_this_layers i_this_size i_this_kind i_this_firstSize i_this_codedW i_this_codedH i_this_codedLayers i_this_isDecoded i_this_decodedW i_this_decodedH i_this_low i_this_high i_this_pending i_this_code i_this_bits i_this_start i_this_end i_this_bestMode i_this_mean)), ((r_this 28), gA G 64 t_this_work), ((r_this 29), gA G 8 g2)] → lv_has ls 7 [(0, .ref h_this), (1, .int p0), (2, .int p1), (3, .int p2), (4, .int x1)] → (∀ (H : Heap) (locs : List Loc) (ls : Array Slot), gH G A s.heap H locs [(h_this, .inr (8, FX9 r_this i_this_thrown i_this_w i_this_h i_this_layers i_this_size i_this_kind i_this_firstSize i_this_codedW i_this_codedH i_this_codedLayers i_this_isDecoded i_this_decodedW i_this_decodedH i_this_low i_this_high i_this_pending i_this_code i_this_bits i_this_start i_this_end i_this_bestMode i_this_mean)), ((r_this 28), gA G 64 t_this_work), ((r_this 29), gA G 8 b3)] → lv_has ls 7 [(0, .ref h_this), (1, .int p0), (2, .int p1), (3, .int p2)] → W p l e rm_X9_split s m args below meth c H locs 0 0 Q (F0 m 80 ls [])) → W p l e rm_X9_split s m args below meth c H locs 0 0 Q (F0 m 3 ls []) := by
    intro n
    induction n with
    | zero => intro x1 g2 b3 H locs ls hf; exact sfix0 hf
    | succ n ih =>
      intro x1 g2 b3 H locs ls hf hH hl KK
      obtain ⟨self3, hself3, hf⟩ := sstep hFF3 hf
      refine lv_iload hx hb dX9_split_3 (lv_at hl 4 rfl) ?_
      refine lv_iload_n hx hb dX9_split_5 rfl (lv_at hl 3 rfl) ?_
      refine lv_iconst (v := (2 : Int32)) hx hb dX9_split_6 (by decide) ?_
      refine lv_idiv hx hb dX9_split_7 (by decide) ?_
      refine lv_icmp_ge (tgt := 80) hx hb dX9_split_8 (by decide) (fun c4 => ?_) (fun c4 => ?_)
      · have hf := spos hf c4
        obtain rfl := Option.some.inj hf
        exact KK _ _ _ hH (lv_sub hl [0, 1, 2, 3] rfl)
      · have hf := sneg hf c4
        refine lv_aload_n hx hb dX9_split_11 rfl (lv_at hl 0 rfl) ?_
        refine g_get (T := TX9) (N := 42) (ci := 8) (C := RX9) (v := .ref (r_this 28)) X hK hH in_RX9 0 rfl rfl 28 (by decide) q_962 (fun _ h9 => h9) rfl dX9_split_12 ?_
        refine lv_iload_n hx hb dX9_split_15 rfl (lv_at hl 1 rfl) ?_
        refine lv_iconst (v := (2 : Int32)) hx hb dX9_split_16 (by decide) ?_
        refine lv_iload hx hb dX9_split_17 (lv_at hl 4 rfl) ?_
        refine lv_imul hx hb dX9_split_19 ?_
        refine lv_iload_n hx hb dX9_split_20 rfl (lv_at hl 2 rfl) ?_
        refine lv_imul hx hb dX9_split_21 ?_
        refine lv_iadd hx hb dX9_split_22 ?_
        obtain ⟨x5, hx5, hf⟩ := sbind hf
        refine g_ald X hK hH 1 rfl hx5 dX9_split_23 ?_
        refine lv_istore (lv' := [(5, .int x5), (0, .ref h_this), (1, .int p0), (2, .int p1), (3, .int p2), (4, .int x1)]) hx hb dX9_split_24 hl (by decide) rfl (fun ls hl => ?_)
        refine lv_aload_n hx hb dX9_split_26 rfl (lv_at hl 1 rfl) ?_
        refine g_get (T := TX9) (N := 42) (ci := 8) (C := RX9) (v := .ref (r_this 28)) X hK hH in_RX9 0 rfl rfl 28 (by decide) q_962 (fun _ h9 => h9) rfl dX9_split_27 ?_
        refine lv_iload_n hx hb dX9_split_30 rfl (lv_at hl 2 rfl) ?_
        refine lv_iconst (v := (2 : Int32)) hx hb dX9_split_31 (by decide) ?_
        refine lv_iload hx hb dX9_split_32 (lv_at hl 5 rfl) ?_
        refine lv_imul hx hb dX9_split_34 ?_
        refine lv_iconst (v := (1 : Int32)) hx hb dX9_split_35 (by decide) ?_
        refine lv_iadd hx hb dX9_split_36 ?_
        refine lv_iload_n hx hb dX9_split_37 rfl (lv_at hl 3 rfl) ?_
        refine lv_imul hx hb dX9_split_38 ?_
        refine lv_iadd hx hb dX9_split_39 ?_
        obtain ⟨x6, hx6, hf⟩ := sbind hf
        refine g_ald X hK hH 1 rfl hx6 dX9_split_40 ?_
        refine lv_istore (lv' := [(6, .int x6), (5, .int x5), (0, .ref h_this), (1, .int p0), (2, .int p1), (3, .int p2), (4, .int x1)]) hx hb dX9_split_41 hl (by decide) rfl (fun ls hl => ?_)
        refine lv_aload_n hx hb dX9_split_43 rfl (lv_at hl 2 rfl) ?_
        refine g_get (T := TX9) (N := 42) (ci := 8) (C := RX9) (v := .ref (r_this 29)) X hK hH in_RX9 0 rfl rfl 29 (by decide) q_963 (fun _ h9 => h9) rfl dX9_split_44 ?_
        refine lv_iload hx hb dX9_split_47 (lv_at hl 6 rfl) ?_
        refine lv_iload hx hb dX9_split_49 (lv_at hl 1 rfl) ?_
        refine lv_iload hx hb dX9_split_51 (lv_at hl 0 rfl) ?_
        refine lv_iadd hx hb dX9_split_53 ?_
        obtain ⟨o7, ho7, hf⟩ := sbind hf
        refine g_cSi (isC := []) (isR := [0, 1, 2]) (isP := [0, 1, 2]) (wr := [(h_this, .inr (8, FX9 r_this i_this_thrown i_this_w i_this_h i_this_layers i_this_size i_this_kind i_this_firstSize i_this_codedW i_this_codedH i_this_codedLayers i_this_isDecoded i_this_decodedW i_this_decodedH i_this_low i_this_high i_this_pending i_this_code i_this_bits i_this_start i_this_end i_this_bestMode i_this_mean)), ((r_this 28), gA G 64 t_this_work), ((r_this 29), gA G 8 g2)]) (w2 := [(h_this, .inr (8, FX9 r_this i_this_thrown i_this_w i_this_h i_this_layers i_this_size i_this_kind i_this_firstSize i_this_codedW i_this_codedH i_this_codedLayers i_this_isDecoded i_this_decodedW i_this_decodedH i_this_low i_this_high i_this_pending i_this_code i_this_bits i_this_start i_this_end i_this_bestMode i_this_mean)), ((r_this 28), gA G 64 t_this_work), ((r_this 29), gA G 8 g2)]) X hK hA hH hl (ct_X9_half l G (x5 + x6) H.size o7 ho7) ⟨q_10, q_1147, hd_X9_half, rfl, rfl, ⟨Nat.le_of_ble_eq_true rfl, Nat.le_of_ble_eq_true rfl⟩, ⟨Nat.zero_le _, Nat.zero_le _⟩⟩ q_1145 q_1146 ⟨rfl, rfl, rfl, rfl, by decide, rfl, rfl⟩ rfl rfl (Nat.le_of_ble_eq_true rfl) dX9_split_54 (fun H locs hH => ?_)
        obtain ⟨g8, hg8, hf⟩ := sbind hf
        refine g_ast (w1 := [(h_this, .inr (8, FX9 r_this i_this_thrown i_this_w i_this_h i_this_layers i_this_size i_this_kind i_this_firstSize i_this_codedW i_this_codedH i_this_codedLayers i_this_isDecoded i_this_decodedW i_this_decodedH i_this_low i_this_high i_this_pending i_this_code i_this_bits i_this_start i_this_end i_this_bestMode i_this_mean)), ((r_this 28), gA G 64 t_this_work), ((r_this 29), gA G 8 g8)]) X hK hH 2 rfl hg8 dX9_split_57 rfl (fun H locs hH => ?_)
        refine lv_aload_n hx hb dX9_split_58 rfl (lv_at hl 2 rfl) ?_
        refine g_get (T := TX9) (N := 42) (ci := 8) (C := RX9) (v := .ref (r_this 29)) X hK hH in_RX9 0 rfl rfl 29 (by decide) q_963 (fun _ h9 => h9) rfl dX9_split_59 ?_
        refine lv_iload_n hx hb dX9_split_62 rfl (lv_at hl 5 rfl) ?_
        refine lv_iconst (v := (2 : Int32)) hx hb dX9_split_63 (by decide) ?_
        refine lv_idiv hx hb dX9_split_64 (by decide) ?_
        refine lv_iload hx hb dX9_split_65 (lv_at hl 6 rfl) ?_
        refine lv_iadd hx hb dX9_split_67 ?_
        refine lv_iload hx hb dX9_split_68 (lv_at hl 1 rfl) ?_
        refine lv_iload hx hb dX9_split_70 (lv_at hl 0 rfl) ?_
        refine lv_isub hx hb dX9_split_72 ?_
        obtain ⟨g9, hg9, hf⟩ := sbind hf
        refine g_ast (w1 := [(h_this, .inr (8, FX9 r_this i_this_thrown i_this_w i_this_h i_this_layers i_this_size i_this_kind i_this_firstSize i_this_codedW i_this_codedH i_this_codedLayers i_this_isDecoded i_this_decodedW i_this_decodedH i_this_low i_this_high i_this_pending i_this_code i_this_bits i_this_start i_this_end i_this_bestMode i_this_mean)), ((r_this 28), gA G 64 t_this_work), ((r_this 29), gA G 8 g9)]) X hK hH 2 rfl hg9 dX9_split_73 rfl (fun H locs hH => ?_)
        obtain ⟨x10, ex10⟩ : ∃ y : Int32, y = (x1 + (1 : Int32)) := ⟨_, rfl⟩
        have hf := sbnd hf x10 ex10
        refine lv_iinc (v := x10) (lv' := [(4, .int x10), (6, .int x6), (5, .int x5), (0, .ref h_this), (1, .int p0), (2, .int p1), (3, .int p2)]) hx hb dX9_split_74 hl (k := 6) rfl (by rw [ex10]; rfl) (by decide) rfl (fun ls hl => ?_)
        refine lv_goto (tgt := 3) hx hb dX9_split_77 (by decide) ?_
        exact ih x10 g9 _ _ _ _ (hself3 _ _ hf) hH (lv_sub hl [3, 4, 5, 6, 0] rfl) KK
  refine L3 FUEL (0 : Int32) t_this_line o3 _ _ _ ho3 hH (lv_sub hl [1, 2, 3, 4, 0] rfl) (fun H locs ls hH hl => ?_)
  refine lv_iconst (v := (0 : Int32)) hx hb dX9_split_80 (by decide) ?_
  refine lv_istore (lv' := [(4, .int (0 : Int32)), (0, .ref h_this), (1, .int p0), (2, .int p1), (3, .int p2)]) hx hb dX9_split_81 hl (by decide) rfl (fun ls hl => ?_)
  obtain ⟨o13, ho13, hf⟩ := sbind hf
  obtain ⟨FF13, hFF13, ho13⟩ := sfix ho13
  have L13 : ∀ (n : Nat) (x11 : Int32) (g12 : (Nat → Int32)) (b13 : (Nat → Int32)) (H : Heap) (locs : List Loc) (ls : Array Slot), fixN n FF13 (x11, g12) = some b13 → gH G A s.heap H locs [(h_this, .inr (8, FX9 r_this i_this_thrown i_this_w i_this_h i_this_layers i_this_size i_this_kind i_this_firstSize i_this_codedW i_this_codedH i_this_codedLayers i_this_isDecoded i_this_decodedW i_this_decodedH i_this_low i_this_high i_this_pending i_this_code i_this_bits i_this_start i_this_end i_this_bestMode i_this_mean)), ((r_this 28), gA G 64 g12), ((r_this 29), gA G 8 o3)] → lv_has ls 7 [(0, .ref h_this), (1, .int p0), (2, .int p1), (3, .int p2), (4, .int x11)] → (∀ (H : Heap) (locs : List Loc) (ls : Array Slot), gH G A s.heap H locs [(h_this, .inr (8, FX9 r_this i_this_thrown i_this_w i_this_h i_this_layers i_this_size i_this_kind i_this_firstSize i_this_codedW i_this_codedH i_this_codedLayers i_this_isDecoded i_this_decodedW i_this_decodedH i_this_low i_this_high i_this_pending i_this_code i_this_bits i_this_start i_this_end i_this_bestMode i_this_mean)), ((r_this 28), gA G 64 b13), ((r_this 29), gA G 8 o3)] → lv_has ls 7 [] → W p l e rm_X9_split s m args below meth c H locs 0 0 Q (F0 m 113 ls [])) → W p l e rm_X9_split s m args below meth c H locs 0 0 Q (F0 m 83 ls []) := by
    intro n
    induction n with
    | zero => intro x11 g12 b13 H locs ls hf; exact sfix0 hf
    | succ n ih =>
      intro x11 g12 b13 H locs ls hf hH hl KK
      obtain ⟨self13, hself13, hf⟩ := sstep hFF13 hf
      refine lv_iload hx hb dX9_split_83 (lv_at hl 4 rfl) ?_
      refine lv_iload_n hx hb dX9_split_85 rfl (lv_at hl 3 rfl) ?_
      refine lv_icmp_ge (tgt := 113) hx hb dX9_split_86 (by decide) (fun c14 => ?_) (fun c14 => ?_)
      · have hf := spos hf c14
        obtain rfl := Option.some.inj hf
        exact KK _ _ _ hH (lv_sub hl [] rfl)
      · have hf := sneg hf c14
        refine lv_aload_n hx hb dX9_split_89 rfl (lv_at hl 0 rfl) ?_
        refine g_get (T := TX9) (N := 42) (ci := 8) (C := RX9) (v := .ref (r_this 28)) X hK hH in_RX9 0 rfl rfl 28 (by decide) q_962 (fun _ h9 => h9) rfl dX9_split_90 ?_
        refine lv_iload_n hx hb dX9_split_93 rfl (lv_at hl 1 rfl) ?_
        refine lv_iload hx hb dX9_split_94 (lv_at hl 4 rfl) ?_
        refine lv_iload_n hx hb dX9_split_96 rfl (lv_at hl 2 rfl) ?_
        refine lv_imul hx hb dX9_split_97 ?_
        refine lv_iadd hx hb dX9_split_98 ?_
        refine lv_aload_n hx hb dX9_split_99 rfl (lv_at hl 0 rfl) ?_
        refine g_get (T := TX9) (N := 42) (ci := 8) (C := RX9) (v := .ref (r_this 29)) X hK hH in_RX9 0 rfl rfl 29 (by decide) q_963 (fun _ h9 => h9) rfl dX9_split_100 ?_
        refine lv_iload hx hb dX9_split_103 (lv_at hl 4 rfl) ?_
        obtain ⟨x15, hx15, hf⟩ := sbind hf
        refine g_ald X hK hH 2 rfl hx15 dX9_split_105 ?_
        obtain ⟨g16, hg16, hf⟩ := sbind hf
        refine g_ast (w1 := [(h_this, .inr (8, FX9 r_this i_this_thrown i_this_w i_this_h i_this_layers i_this_size i_this_kind i_this_firstSize i_this_codedW i_this_codedH i_this_codedLayers i_this_isDecoded i_this_decodedW i_this_decodedH i_this_low i_this_high i_this_pending i_this_code i_this_bits i_this_start i_this_end i_this_bestMode i_this_mean)), ((r_this 28), gA G 64 g16), ((r_this 29), gA G 8 o3)]) X hK hH 1 rfl hg16 dX9_split_106 rfl (fun H locs hH => ?_)
        obtain ⟨x17, ex17⟩ : ∃ y : Int32, y = (x11 + (1 : Int32)) := ⟨_, rfl⟩
        have hf := sbnd hf x17 ex17
        refine lv_iinc (v := x17) (lv' := [(4, .int x17), (0, .ref h_this), (1, .int p0), (2, .int p1), (3, .int p2)]) hx hb dX9_split_107 hl (k := 4) rfl (by rw [ex17]; rfl) (by decide) rfl (fun ls hl => ?_)
        refine lv_goto (tgt := 83) hx hb dX9_split_110 (by decide) ?_
        exact ih x17 g16 _ _ _ _ (hself13 _ _ hf) hH (lv_sub hl [1, 2, 3, 4, 0] rfl) KK
  refine L13 FUEL (0 : Int32) t_this_work o13 _ _ _ ho13 hH (lv_sub hl [1, 2, 3, 4, 0] rfl) (fun H locs ls hH hl => ?_)
  obtain rfl := Option.some.inj hf
  exact hE _ _ _ _ hH dX9_split_113

def lf_X9_narrows (i_this_high : Int32) (i_this_low : Int32) (p0 : Int32) (p1 : Int32) : Option (Int32 × Int32) :=
(if p1 = (0 : Int32) then some (p0, i_this_low) else some (i_this_high, (p0 + (1 : Int32))))
abbrev rm_X9_narrows : Room := { frames := 0, cells := 0, slots := 0, locals := 0 }
theorem hd_X9_narrows : yX9_narrows.cls ≠ "java/lang/invoke/MethodHandle" ∧ yX9_narrows.cls ≠ "java/lang/invoke/VarHandle" ∧ (parseMethodDescriptor yX9_narrows.desc).map (fun d => d.parameters.length) = some 2 := by decide +kernel
set_option maxHeartbeats 4000000 in
set_option maxRecDepth 100000 in
theorem ct_X9_narrows (l : Launch) (G : gG) (h_this : Nat) (r_this : Nat → Nat) (i_this_thrown i_this_w i_this_h i_this_layers i_this_size i_this_kind i_this_firstSize i_this_codedW i_this_codedH i_this_codedLayers i_this_isDecoded i_this_decodedW i_this_decodedH i_this_low i_this_high i_this_pending i_this_code i_this_bits i_this_start i_this_end i_this_bestMode i_this_mean : Int32) (p0 p1 : Int32) (sz : Nat) (out : Int32 × Int32) (hf : lf_X9_narrows i_this_high i_this_low p0 p1 = some out) : gV l G yX9_narrows cX9_narrows 3 rm_X9_narrows [.ref h_this, .int p0, .int p1] sz [(h_this, .inr (8, FX9 r_this i_this_thrown i_this_w i_this_h i_this_layers i_this_size i_this_kind i_this_firstSize i_this_codedW i_this_codedH i_this_codedLayers i_this_isDecoded i_this_decodedW i_this_decodedH i_this_low i_this_high i_this_pending i_this_code i_this_bits i_this_start i_this_end i_this_bestMode i_this_mean))] [(h_this, .inr (8, FX9 r_this i_this_thrown i_this_w i_this_h i_this_layers i_this_size i_this_kind i_this_firstSize i_this_codedW i_this_codedH i_this_codedLayers i_this_isDecoded i_this_decodedW i_this_decodedH out.2 out.1 i_this_pending i_this_code i_this_bits i_this_start i_this_end i_this_bestMode i_this_mean))] := by
  refine gV_of (by decide +kernel) (Nat.le_of_ble_eq_true rfl) ?_
  intro p e s m args below meth c ls A Q X hK hA hsz hH hl hE
  subst hsz
  have hx := X.1
  have hb := X.2.1
  unfold lf_X9_narrows at hf
  have hl : lv_has ls 3 [(0, .ref h_this), (1, .int p0), (2, .int p1)] := hl
  have hH : gH G A s.heap s.heap [] [(h_this, .inr (8, FX9 r_this i_this_thrown i_this_w i_this_h i_this_layers i_this_size i_this_kind i_this_firstSize i_this_codedW i_this_codedH i_this_codedLayers i_this_isDecoded i_this_decodedW i_this_decodedH i_this_low i_this_high i_this_pending i_this_code i_this_bits i_this_start i_this_end i_this_bestMode i_this_mean))] := hH
  refine lv_iload_n hx hb dX9_narrows_0 rfl (lv_at hl 2 rfl) ?_
  refine lv_if_ne (tgt := 12) hx hb dX9_narrows_1 (by decide) (fun c1 => ?_) (fun c1 => ?_)
  · have hf := sneg hf c1
    refine lv_aload_n hx hb dX9_narrows_12 rfl (lv_at hl 0 rfl) ?_
    refine lv_iload_n hx hb dX9_narrows_13 rfl (lv_at hl 1 rfl) ?_
    refine lv_iconst (v := (1 : Int32)) hx hb dX9_narrows_14 (by decide) ?_
    refine lv_iadd hx hb dX9_narrows_15 ?_
    refine g_put (w1 := [(h_this, .inr (8, FX9 r_this i_this_thrown i_this_w i_this_h i_this_layers i_this_size i_this_kind i_this_firstSize i_this_codedW i_this_codedH i_this_codedLayers i_this_isDecoded i_this_decodedW i_this_decodedH (p0 + (1 : Int32)) i_this_high i_this_pending i_this_code i_this_bits i_this_start i_this_end i_this_bestMode i_this_mean))]) (T := TX9) (N := 42) (ci := 8) (C := RX9) (ty := .int) (v := .int (p0 + (1 : Int32))) X hK hH in_RX9 tyX9 tyX9_ok nmX9 0 rfl rfl 32 (by decide) q_966 (fun _ h9 => h9) rfl (by decide +kernel) rfl rfl (Nat.le_of_ble_eq_true rfl) dX9_narrows_16 FX9_low rfl (fun H locs hH => ?_)
    obtain rfl := Option.some.inj hf
    exact hE _ _ _ _ hH dX9_narrows_19
  · have hf := spos hf c1
    refine lv_aload_n hx hb dX9_narrows_4 rfl (lv_at hl 0 rfl) ?_
    refine lv_iload_n hx hb dX9_narrows_5 rfl (lv_at hl 1 rfl) ?_
    refine g_put (w1 := [(h_this, .inr (8, FX9 r_this i_this_thrown i_this_w i_this_h i_this_layers i_this_size i_this_kind i_this_firstSize i_this_codedW i_this_codedH i_this_codedLayers i_this_isDecoded i_this_decodedW i_this_decodedH i_this_low p0 i_this_pending i_this_code i_this_bits i_this_start i_this_end i_this_bestMode i_this_mean))]) (T := TX9) (N := 42) (ci := 8) (C := RX9) (ty := .int) (v := .int p0) X hK hH in_RX9 tyX9 tyX9_ok nmX9 0 rfl rfl 33 (by decide) q_967 (fun _ h9 => h9) rfl (by decide +kernel) rfl rfl (Nat.le_of_ble_eq_true rfl) dX9_narrows_6 FX9_high rfl (fun H locs hH => ?_)
    refine lv_goto (tgt := 19) hx hb dX9_narrows_9 (by decide) ?_
    obtain rfl := Option.some.inj hf
    exact hE _ _ _ _ hH dX9_narrows_19

def lf_X9_learns (t_this_counts : Nat → Int32) (p0 : Int32) (p1 : Int32) : Option ((Nat → Int32)) :=
(if (0 : Int32) ≤ p0 then (rdA 40 t_this_counts (((2 : Int32) * p0) + p1)).bind fun x2 => (wrA 40 t_this_counts (((2 : Int32) * p0) + p1) (x2 + (1 : Int32))).bind fun g3 => (rdA 40 g3 ((2 : Int32) * p0)).bind fun x4 => (rdA 40 g3 (((2 : Int32) * p0) + (1 : Int32))).bind fun x5 => (if (64 : Int32) < (x4 + x5) then (rdA 40 g3 ((2 : Int32) * p0)).bind fun x7 => (wrA 40 g3 ((2 : Int32) * p0) ((x7 + (1 : Int32)) / (2 : Int32))).bind fun g8 => (rdA 40 g8 (((2 : Int32) * p0) + (1 : Int32))).bind fun x9 => (wrA 40 g8 (((2 : Int32) * p0) + (1 : Int32)) ((x9 + (1 : Int32)) / (2 : Int32))).bind fun g10 => some g10 else some g3) else some t_this_counts)
abbrev rm_X9_learns : Room := { frames := 0, cells := 0, slots := 0, locals := 0 }
theorem hd_X9_learns : yX9_learns.cls ≠ "java/lang/invoke/MethodHandle" ∧ yX9_learns.cls ≠ "java/lang/invoke/VarHandle" ∧ (parseMethodDescriptor yX9_learns.desc).map (fun d => d.parameters.length) = some 2 := by decide +kernel
set_option maxHeartbeats 4000000 in
set_option maxRecDepth 100000 in
theorem ct_X9_learns (l : Launch) (G : gG) (h_this : Nat) (r_this : Nat → Nat) (i_this_thrown i_this_w i_this_h i_this_layers i_this_size i_this_kind i_this_firstSize i_this_codedW i_this_codedH i_this_codedLayers i_this_isDecoded i_this_decodedW i_this_decodedH i_this_low i_this_high i_this_pending i_this_code i_this_bits i_this_start i_this_end i_this_bestMode i_this_mean : Int32) (t_this_counts : Nat → Int32) (p0 p1 : Int32) (sz : Nat) (out : (Nat → Int32)) (hf : lf_X9_learns t_this_counts p0 p1 = some out) : gV l G yX9_learns cX9_learns 3 rm_X9_learns [.ref h_this, .int p0, .int p1] sz [(h_this, .inr (8, FX9 r_this i_this_thrown i_this_w i_this_h i_this_layers i_this_size i_this_kind i_this_firstSize i_this_codedW i_this_codedH i_this_codedLayers i_this_isDecoded i_this_decodedW i_this_decodedH i_this_low i_this_high i_this_pending i_this_code i_this_bits i_this_start i_this_end i_this_bestMode i_this_mean)), ((r_this 41), gA G 40 t_this_counts)] [(h_this, .inr (8, FX9 r_this i_this_thrown i_this_w i_this_h i_this_layers i_this_size i_this_kind i_this_firstSize i_this_codedW i_this_codedH i_this_codedLayers i_this_isDecoded i_this_decodedW i_this_decodedH i_this_low i_this_high i_this_pending i_this_code i_this_bits i_this_start i_this_end i_this_bestMode i_this_mean)), ((r_this 41), gA G 40 out)] := by
  refine gV_of (by decide +kernel) (Nat.le_of_ble_eq_true rfl) ?_
  intro p e s m args below meth c ls A Q X hK hA hsz hH hl hE
  subst hsz
  have hx := X.1
  have hb := X.2.1
  unfold lf_X9_learns at hf
  have hl : lv_has ls 3 [(0, .ref h_this), (1, .int p0), (2, .int p1)] := hl
  have hH : gH G A s.heap s.heap [] [(h_this, .inr (8, FX9 r_this i_this_thrown i_this_w i_this_h i_this_layers i_this_size i_this_kind i_this_firstSize i_this_codedW i_this_codedH i_this_codedLayers i_this_isDecoded i_this_decodedW i_this_decodedH i_this_low i_this_high i_this_pending i_this_code i_this_bits i_this_start i_this_end i_this_bestMode i_this_mean)), ((r_this 41), gA G 40 t_this_counts)] := hH
  refine lv_iload_n hx hb dX9_learns_0 rfl (lv_at hl 1 rfl) ?_
  refine lv_if_ge (tgt := 5) hx hb dX9_learns_1 (by decide) (fun c1 => ?_) (fun c1 => ?_)
  · have hf := spos hf c1
    refine lv_aload_n hx hb dX9_learns_5 rfl (lv_at hl 0 rfl) ?_
    refine g_get (T := TX9) (N := 42) (ci := 8) (C := RX9) (v := .ref (r_this 41)) X hK hH in_RX9 0 rfl rfl 41 (by decide) q_975 (fun _ h9 => h9) rfl dX9_learns_6 ?_
    refine lv_iconst (v := (2 : Int32)) hx hb dX9_learns_9 (by decide) ?_
    refine lv_iload_n hx hb dX9_learns_10 rfl (lv_at hl 1 rfl) ?_
    refine lv_imul hx hb dX9_learns_11 ?_
    refine lv_iload_n hx hb dX9_learns_12 rfl (lv_at hl 2 rfl) ?_
    refine lv_iadd hx hb dX9_learns_13 ?_
    refine lv_dup2_11 hx hb dX9_learns_14 rfl rfl ?_
    obtain ⟨x2, hx2, hf⟩ := sbind hf
    refine g_ald X hK hH 1 rfl hx2 dX9_learns_15 ?_
    refine lv_iconst (v := (1 : Int32)) hx hb dX9_learns_16 (by decide) ?_
    refine lv_iadd hx hb dX9_learns_17 ?_
    obtain ⟨g3, hg3, hf⟩ := sbind hf
    refine g_ast (w1 := [(h_this, .inr (8, FX9 r_this i_this_thrown i_this_w i_this_h i_this_layers i_this_size i_this_kind i_this_firstSize i_this_codedW i_this_codedH i_this_codedLayers i_this_isDecoded i_this_decodedW i_this_decodedH i_this_low i_this_high i_this_pending i_this_code i_this_bits i_this_start i_this_end i_this_bestMode i_this_mean)), ((r_this 41), gA G 40 g3)]) X hK hH 1 rfl hg3 dX9_learns_18 rfl (fun H locs hH => ?_)
    refine lv_aload_n hx hb dX9_learns_19 rfl (lv_at hl 0 rfl) ?_
    refine g_get (T := TX9) (N := 42) (ci := 8) (C := RX9) (v := .ref (r_this 41)) X hK hH in_RX9 0 rfl rfl 41 (by decide) q_975 (fun _ h9 => h9) rfl dX9_learns_20 ?_
    refine lv_iconst (v := (2 : Int32)) hx hb dX9_learns_23 (by decide) ?_
    refine lv_iload_n hx hb dX9_learns_24 rfl (lv_at hl 1 rfl) ?_
    refine lv_imul hx hb dX9_learns_25 ?_
    obtain ⟨x4, hx4, hf⟩ := sbind hf
    refine g_ald X hK hH 1 rfl hx4 dX9_learns_26 ?_
    refine lv_aload_n hx hb dX9_learns_27 rfl (lv_at hl 0 rfl) ?_
    refine g_get (T := TX9) (N := 42) (ci := 8) (C := RX9) (v := .ref (r_this 41)) X hK hH in_RX9 0 rfl rfl 41 (by decide) q_975 (fun _ h9 => h9) rfl dX9_learns_28 ?_
    refine lv_iconst (v := (2 : Int32)) hx hb dX9_learns_31 (by decide) ?_
    refine lv_iload_n hx hb dX9_learns_32 rfl (lv_at hl 1 rfl) ?_
    refine lv_imul hx hb dX9_learns_33 ?_
    refine lv_iconst (v := (1 : Int32)) hx hb dX9_learns_34 (by decide) ?_
    refine lv_iadd hx hb dX9_learns_35 ?_
    obtain ⟨x5, hx5, hf⟩ := sbind hf
    refine g_ald X hK hH 1 rfl hx5 dX9_learns_36 ?_
    refine lv_iadd hx hb dX9_learns_37 ?_
    refine lv_bipush (v := (64 : Int32)) hx hb dX9_learns_38 (by decide) ?_
    refine lv_icmp_gt (tgt := 44) hx hb dX9_learns_40 (by decide) (fun c6 => ?_) (fun c6 => ?_)
    · have hf := spos hf c6
      refine lv_aload_n hx hb dX9_learns_44 rfl (lv_at hl 0 rfl) ?_
      refine g_get (T := TX9) (N := 42) (ci := 8) (C := RX9) (v := .ref (r_this 41)) X hK hH in_RX9 0 rfl rfl 41 (by decide) q_975 (fun _ h9 => h9) rfl dX9_learns_45 ?_
      refine lv_iconst (v := (2 : Int32)) hx hb dX9_learns_48 (by decide) ?_
      refine lv_iload_n hx hb dX9_learns_49 rfl (lv_at hl 1 rfl) ?_
      refine lv_imul hx hb dX9_learns_50 ?_
      refine lv_aload_n hx hb dX9_learns_51 rfl (lv_at hl 0 rfl) ?_
      refine g_get (T := TX9) (N := 42) (ci := 8) (C := RX9) (v := .ref (r_this 41)) X hK hH in_RX9 0 rfl rfl 41 (by decide) q_975 (fun _ h9 => h9) rfl dX9_learns_52 ?_
      refine lv_iconst (v := (2 : Int32)) hx hb dX9_learns_55 (by decide) ?_
      refine lv_iload_n hx hb dX9_learns_56 rfl (lv_at hl 1 rfl) ?_
      refine lv_imul hx hb dX9_learns_57 ?_
      obtain ⟨x7, hx7, hf⟩ := sbind hf
      refine g_ald X hK hH 1 rfl hx7 dX9_learns_58 ?_
      refine lv_iconst (v := (1 : Int32)) hx hb dX9_learns_59 (by decide) ?_
      refine lv_iadd hx hb dX9_learns_60 ?_
      refine lv_iconst (v := (2 : Int32)) hx hb dX9_learns_61 (by decide) ?_
      refine lv_idiv hx hb dX9_learns_62 (by decide) ?_
      obtain ⟨g8, hg8, hf⟩ := sbind hf
      refine g_ast (w1 := [(h_this, .inr (8, FX9 r_this i_this_thrown i_this_w i_this_h i_this_layers i_this_size i_this_kind i_this_firstSize i_this_codedW i_this_codedH i_this_codedLayers i_this_isDecoded i_this_decodedW i_this_decodedH i_this_low i_this_high i_this_pending i_this_code i_this_bits i_this_start i_this_end i_this_bestMode i_this_mean)), ((r_this 41), gA G 40 g8)]) X hK hH 1 rfl hg8 dX9_learns_63 rfl (fun H locs hH => ?_)
      refine lv_aload_n hx hb dX9_learns_64 rfl (lv_at hl 0 rfl) ?_
      refine g_get (T := TX9) (N := 42) (ci := 8) (C := RX9) (v := .ref (r_this 41)) X hK hH in_RX9 0 rfl rfl 41 (by decide) q_975 (fun _ h9 => h9) rfl dX9_learns_65 ?_
      refine lv_iconst (v := (2 : Int32)) hx hb dX9_learns_68 (by decide) ?_
      refine lv_iload_n hx hb dX9_learns_69 rfl (lv_at hl 1 rfl) ?_
      refine lv_imul hx hb dX9_learns_70 ?_
      refine lv_iconst (v := (1 : Int32)) hx hb dX9_learns_71 (by decide) ?_
      refine lv_iadd hx hb dX9_learns_72 ?_
      refine lv_aload_n hx hb dX9_learns_73 rfl (lv_at hl 0 rfl) ?_
      refine g_get (T := TX9) (N := 42) (ci := 8) (C := RX9) (v := .ref (r_this 41)) X hK hH in_RX9 0 rfl rfl 41 (by decide) q_975 (fun _ h9 => h9) rfl dX9_learns_74 ?_
      refine lv_iconst (v := (2 : Int32)) hx hb dX9_learns_77 (by decide) ?_
      refine lv_iload_n hx hb dX9_learns_78 rfl (lv_at hl 1 rfl) ?_
      refine lv_imul hx hb dX9_learns_79 ?_
      refine lv_iconst (v := (1 : Int32)) hx hb dX9_learns_80 (by decide) ?_
      refine lv_iadd hx hb dX9_learns_81 ?_
      obtain ⟨x9, hx9, hf⟩ := sbind hf
      refine g_ald X hK hH 1 rfl hx9 dX9_learns_82 ?_
      refine lv_iconst (v := (1 : Int32)) hx hb dX9_learns_83 (by decide) ?_
      refine lv_iadd hx hb dX9_learns_84 ?_
      refine lv_iconst (v := (2 : Int32)) hx hb dX9_learns_85 (by decide) ?_
      refine lv_idiv hx hb dX9_learns_86 (by decide) ?_
      obtain ⟨g10, hg10, hf⟩ := sbind hf
      refine g_ast (w1 := [(h_this, .inr (8, FX9 r_this i_this_thrown i_this_w i_this_h i_this_layers i_this_size i_this_kind i_this_firstSize i_this_codedW i_this_codedH i_this_codedLayers i_this_isDecoded i_this_decodedW i_this_decodedH i_this_low i_this_high i_this_pending i_this_code i_this_bits i_this_start i_this_end i_this_bestMode i_this_mean)), ((r_this 41), gA G 40 g10)]) X hK hH 1 rfl hg10 dX9_learns_87 rfl (fun H locs hH => ?_)
      obtain rfl := Option.some.inj hf
      exact hE _ _ _ _ hH dX9_learns_88
    · have hf := sneg hf c6
      obtain rfl := Option.some.inj hf
      exact hE _ _ _ _ hH dX9_learns_43
  · have hf := sneg hf c1
    obtain rfl := Option.some.inj hf
    exact hE _ _ _ _ hH dX9_learns_4

def lf_X9_offset (i_this_high : Int32) (i_this_low : Int32) : Option (Int32) :=
(if (32768 : Int32) ≤ i_this_high then (if i_this_low < (32768 : Int32) then jn (fun (z4 : Unit) => some (-1 : Int32)) (fun k4 => (if i_this_low < (16384 : Int32) then k4 () else (if (49152 : Int32) ≤ i_this_high then k4 () else some (16384 : Int32)))) else some (32768 : Int32)) else some (0 : Int32))
abbrev rm_X9_offset : Room := { frames := 0, cells := 0, slots := 0, locals := 0 }
theorem hd_X9_offset : yX9_offset.cls ≠ "java/lang/invoke/MethodHandle" ∧ yX9_offset.cls ≠ "java/lang/invoke/VarHandle" ∧ (parseMethodDescriptor yX9_offset.desc).map (fun d => d.parameters.length) = some 0 := by decide +kernel
set_option maxHeartbeats 4000000 in
set_option maxRecDepth 100000 in
theorem ct_X9_offset (l : Launch) (G : gG) (h_this : Nat) (r_this : Nat → Nat) (i_this_thrown i_this_w i_this_h i_this_layers i_this_size i_this_kind i_this_firstSize i_this_codedW i_this_codedH i_this_codedLayers i_this_isDecoded i_this_decodedW i_this_decodedH i_this_low i_this_high i_this_pending i_this_code i_this_bits i_this_start i_this_end i_this_bestMode i_this_mean : Int32) (sz : Nat) (out : Int32) (hf : lf_X9_offset i_this_high i_this_low = some out) : gI l G yX9_offset cX9_offset 1 .int rm_X9_offset [.ref h_this] sz [(h_this, .inr (8, FX9 r_this i_this_thrown i_this_w i_this_h i_this_layers i_this_size i_this_kind i_this_firstSize i_this_codedW i_this_codedH i_this_codedLayers i_this_isDecoded i_this_decodedW i_this_decodedH i_this_low i_this_high i_this_pending i_this_code i_this_bits i_this_start i_this_end i_this_bestMode i_this_mean))] out [(h_this, .inr (8, FX9 r_this i_this_thrown i_this_w i_this_h i_this_layers i_this_size i_this_kind i_this_firstSize i_this_codedW i_this_codedH i_this_codedLayers i_this_isDecoded i_this_decodedW i_this_decodedH i_this_low i_this_high i_this_pending i_this_code i_this_bits i_this_start i_this_end i_this_bestMode i_this_mean))] := by
  refine gI_of (by decide +kernel) (Nat.le_of_ble_eq_true rfl) ?_
  intro p e s m args below meth c ls A Q X hK hA hsz hH hl hE
  subst hsz
  have hx := X.1
  have hb := X.2.1
  unfold lf_X9_offset at hf
  have hl : lv_has ls 1 [(0, .ref h_this)] := hl
  have hH : gH G A s.heap s.heap [] [(h_this, .inr (8, FX9 r_this i_this_thrown i_this_w i_this_h i_this_layers i_this_size i_this_kind i_this_firstSize i_this_codedW i_this_codedH i_this_codedLayers i_this_isDecoded i_this_decodedW i_this_decodedH i_this_low i_this_high i_this_pending i_this_code i_this_bits i_this_start i_this_end i_this_bestMode i_this_mean))] := hH
  refine lv_aload_n hx hb dX9_offset_0 rfl (lv_at hl 0 rfl) ?_
  refine g_get (T := TX9) (N := 42) (ci := 8) (C := RX9) (v := .int i_this_high) X hK hH in_RX9 0 rfl rfl 33 (by decide) q_967 (fun _ h9 => h9) rfl dX9_offset_1 ?_
  refine lv_ldc (v := (32768 : Int32)) hx hb X.2.2.2.2.2.1 (X.2.2.2.2.1 _ q_1196) dX9_offset_4 ?_
  refine lv_icmp_ge (tgt := 13) hx hb dX9_offset_6 (by decide) (fun c1 => ?_) (fun c1 => ?_)
  · have hf := spos hf c1
    refine lv_aload_n hx hb dX9_offset_13 rfl (lv_at hl 0 rfl) ?_
    refine g_get (T := TX9) (N := 42) (ci := 8) (C := RX9) (v := .int i_this_low) X hK hH in_RX9 0 rfl rfl 32 (by decide) q_966 (fun _ h9 => h9) rfl dX9_offset_14 ?_
    refine lv_ldc (v := (32768 : Int32)) hx hb X.2.2.2.2.2.1 (X.2.2.2.2.1 _ q_1196) dX9_offset_17 ?_
    refine lv_icmp_lt (tgt := 27) hx hb dX9_offset_19 (by decide) (fun c2 => ?_) (fun c2 => ?_)
    · have hf := spos hf c2
      refine lv_aload_n hx hb dX9_offset_27 rfl (lv_at hl 0 rfl) ?_
      refine g_get (T := TX9) (N := 42) (ci := 8) (C := RX9) (v := .int i_this_low) X hK hH in_RX9 0 rfl rfl 32 (by decide) q_966 (fun _ h9 => h9) rfl dX9_offset_28 ?_
      refine lv_sipush (v := (16384 : Int32)) hx hb dX9_offset_31 (by decide) ?_
      obtain ⟨k4, hk4, hf⟩ := sjn hf
      have J4 : ∀  (H : Heap) (locs : List Loc) (ls : Array Slot), k4 () = some out → gH G A s.heap H locs [(h_this, .inr (8, FX9 r_this i_this_thrown i_this_w i_this_h i_this_layers i_this_size i_this_kind i_this_firstSize i_this_codedW i_this_codedH i_this_codedLayers i_this_isDecoded i_this_decodedW i_this_decodedH i_this_low i_this_high i_this_pending i_this_code i_this_bits i_this_start i_this_end i_this_bestMode i_this_mean))] → lv_has ls 1 [] → W p l e rm_X9_offset s m args below meth c H locs 0 0 Q (F0 m 52 ls []) := by
        intro  H locs ls hf hH hl
        have hf := hk4 _ _ hf
        refine lv_iconst (v := (-1 : Int32)) hx hb dX9_offset_52 (by decide) ?_
        obtain rfl := Option.some.inj hf
        exact hE _ _ _ _ rfl hH dX9_offset_53
      refine lv_icmp_lt (tgt := 52) hx hb dX9_offset_34 (by decide) (fun c3 => ?_) (fun c3 => ?_)
      · have hf := spos hf c3
        exact J4  _ _ _ hf hH (lv_sub hl [] rfl)
      · have hf := sneg hf c3
        refine lv_aload_n hx hb dX9_offset_37 rfl (lv_at hl 0 rfl) ?_
        refine g_get (T := TX9) (N := 42) (ci := 8) (C := RX9) (v := .int i_this_high) X hK hH in_RX9 0 rfl rfl 33 (by decide) q_967 (fun _ h9 => h9) rfl dX9_offset_38 ?_
        refine lv_ldc (v := (49152 : Int32)) hx hb X.2.2.2.2.2.1 (X.2.2.2.2.1 _ q_1197) dX9_offset_41 ?_
        refine lv_icmp_ge (tgt := 52) hx hb dX9_offset_43 (by decide) (fun c5 => ?_) (fun c5 => ?_)
        · have hf := spos hf c5
          exact J4  _ _ _ hf hH (lv_sub hl [] rfl)
        · have hf := sneg hf c5
          refine lv_sipush (v := (16384 : Int32)) hx hb dX9_offset_46 (by decide) ?_
          refine lv_goto (tgt := 53) hx hb dX9_offset_49 (by decide) ?_
          obtain rfl := Option.some.inj hf
          exact hE _ _ _ _ rfl hH dX9_offset_53
    · have hf := sneg hf c2
      refine lv_ldc (v := (32768 : Int32)) hx hb X.2.2.2.2.2.1 (X.2.2.2.2.1 _ q_1196) dX9_offset_22 ?_
      refine lv_goto (tgt := 53) hx hb dX9_offset_24 (by decide) ?_
      obtain rfl := Option.some.inj hf
      exact hE _ _ _ _ rfl hH dX9_offset_53
  · have hf := sneg hf c1
    refine lv_iconst (v := (0 : Int32)) hx hb dX9_offset_9 (by decide) ?_
    refine lv_goto (tgt := 53) hx hb dX9_offset_10 (by decide) ?_
    obtain rfl := Option.some.inj hf
    exact hE _ _ _ _ rfl hH dX9_offset_53

def lf_X9_write (i_this_bits : Int32) (i_this_start : Int32) (t_this_stream : Nat → Int32) (p0 : Int32) : Option (Int32 × (Nat → Int32)) :=
jn (fun (z3 : (Nat → Int32)) => (fun (g2 : (Nat → Int32)) => (rdA 20000 g2 (i_this_start + (i_this_bits / (8 : Int32)))).bind fun x4 => (wrA 20000 g2 (i_this_start + (i_this_bits / (8 : Int32))) (x4 ||| (p0 <<< (((7 : Int32) - (i_this_bits - i_this_bits / (8 : Int32) * (8 : Int32))) &&& 31)))).bind fun g5 => some ((i_this_bits + (1 : Int32)), g5)) z3) (fun k3 => (if (i_this_bits - i_this_bits / (8 : Int32) * (8 : Int32)) = (0 : Int32) then (wrA 20000 t_this_stream (i_this_start + (i_this_bits / (8 : Int32))) (0 : Int32)).bind fun g6 => k3 g6 else k3 t_this_stream))
abbrev rm_X9_write : Room := { frames := 0, cells := 0, slots := 0, locals := 0 }
theorem hd_X9_write : yX9_write.cls ≠ "java/lang/invoke/MethodHandle" ∧ yX9_write.cls ≠ "java/lang/invoke/VarHandle" ∧ (parseMethodDescriptor yX9_write.desc).map (fun d => d.parameters.length) = some 1 := by decide +kernel
set_option maxHeartbeats 4000000 in
set_option maxRecDepth 100000 in
theorem ct_X9_write (l : Launch) (G : gG) (h_this : Nat) (r_this : Nat → Nat) (i_this_thrown i_this_w i_this_h i_this_layers i_this_size i_this_kind i_this_firstSize i_this_codedW i_this_codedH i_this_codedLayers i_this_isDecoded i_this_decodedW i_this_decodedH i_this_low i_this_high i_this_pending i_this_code i_this_bits i_this_start i_this_end i_this_bestMode i_this_mean : Int32) (t_this_stream : Nat → Int32) (p0 : Int32) (sz : Nat) (out : Int32 × (Nat → Int32)) (hf : lf_X9_write i_this_bits i_this_start t_this_stream p0 = some out) : gV l G yX9_write cX9_write 2 rm_X9_write [.ref h_this, .int p0] sz [(h_this, .inr (8, FX9 r_this i_this_thrown i_this_w i_this_h i_this_layers i_this_size i_this_kind i_this_firstSize i_this_codedW i_this_codedH i_this_codedLayers i_this_isDecoded i_this_decodedW i_this_decodedH i_this_low i_this_high i_this_pending i_this_code i_this_bits i_this_start i_this_end i_this_bestMode i_this_mean)), ((r_this 15), gA G 20000 t_this_stream)] [(h_this, .inr (8, FX9 r_this i_this_thrown i_this_w i_this_h i_this_layers i_this_size i_this_kind i_this_firstSize i_this_codedW i_this_codedH i_this_codedLayers i_this_isDecoded i_this_decodedW i_this_decodedH i_this_low i_this_high i_this_pending i_this_code out.1 i_this_start i_this_end i_this_bestMode i_this_mean)), ((r_this 15), gA G 20000 out.2)] := by
  refine gV_of (by decide +kernel) (Nat.le_of_ble_eq_true rfl) ?_
  intro p e s m args below meth c ls A Q X hK hA hsz hH hl hE
  subst hsz
  have hx := X.1
  have hb := X.2.1
  unfold lf_X9_write at hf
  have hl : lv_has ls 2 [(0, .ref h_this), (1, .int p0)] := hl
  have hH : gH G A s.heap s.heap [] [(h_this, .inr (8, FX9 r_this i_this_thrown i_this_w i_this_h i_this_layers i_this_size i_this_kind i_this_firstSize i_this_codedW i_this_codedH i_this_codedLayers i_this_isDecoded i_this_decodedW i_this_decodedH i_this_low i_this_high i_this_pending i_this_code i_this_bits i_this_start i_this_end i_this_bestMode i_this_mean)), ((r_this 15), gA G 20000 t_this_stream)] := hH
  refine lv_aload_n hx hb dX9_write_0 rfl (lv_at hl 0 rfl) ?_
  refine g_get (T := TX9) (N := 42) (ci := 8) (C := RX9) (v := .int i_this_bits) X hK hH in_RX9 0 rfl rfl 36 (by decide) q_970 (fun _ h9 => h9) rfl dX9_write_1 ?_
  refine lv_bipush (v := (8 : Int32)) hx hb dX9_write_4 (by decide) ?_
  refine lv_irem hx hb dX9_write_6 (by decide) ?_
  obtain ⟨k3, hk3, hf⟩ := sjn hf
  have J3 : ∀ (g2 : (Nat → Int32)) (H : Heap) (locs : List Loc) (ls : Array Slot), k3 g2 = some out → gH G A s.heap H locs [(h_this, .inr (8, FX9 r_this i_this_thrown i_this_w i_this_h i_this_layers i_this_size i_this_kind i_this_firstSize i_this_codedW i_this_codedH i_this_codedLayers i_this_isDecoded i_this_decodedW i_this_decodedH i_this_low i_this_high i_this_pending i_this_code i_this_bits i_this_start i_this_end i_this_bestMode i_this_mean)), ((r_this 15), gA G 20000 g2)] → lv_has ls 2 [(0, .ref h_this), (1, .int p0)] → W p l e rm_X9_write s m args below meth c H locs 0 0 Q (F0 m 28 ls []) := by
    intro g2 H locs ls hf hH hl
    have hf := hk3 _ _ hf
    refine lv_aload_n hx hb dX9_write_28 rfl (lv_at hl 0 rfl) ?_
    refine g_get (T := TX9) (N := 42) (ci := 8) (C := RX9) (v := .ref (r_this 15)) X hK hH in_RX9 0 rfl rfl 15 (by decide) q_949 (fun _ h9 => h9) rfl dX9_write_29 ?_
    refine lv_aload_n hx hb dX9_write_32 rfl (lv_at hl 0 rfl) ?_
    refine g_get (T := TX9) (N := 42) (ci := 8) (C := RX9) (v := .int i_this_start) X hK hH in_RX9 0 rfl rfl 37 (by decide) q_971 (fun _ h9 => h9) rfl dX9_write_33 ?_
    refine lv_aload_n hx hb dX9_write_36 rfl (lv_at hl 0 rfl) ?_
    refine g_get (T := TX9) (N := 42) (ci := 8) (C := RX9) (v := .int i_this_bits) X hK hH in_RX9 0 rfl rfl 36 (by decide) q_970 (fun _ h9 => h9) rfl dX9_write_37 ?_
    refine lv_bipush (v := (8 : Int32)) hx hb dX9_write_40 (by decide) ?_
    refine lv_idiv hx hb dX9_write_42 (by decide) ?_
    refine lv_iadd hx hb dX9_write_43 ?_
    refine lv_dup2_11 hx hb dX9_write_44 rfl rfl ?_
    obtain ⟨x4, hx4, hf⟩ := sbind hf
    refine g_ald X hK hH 1 rfl hx4 dX9_write_45 ?_
    refine lv_iload_n hx hb dX9_write_46 rfl (lv_at hl 1 rfl) ?_
    refine lv_bipush (v := (7 : Int32)) hx hb dX9_write_47 (by decide) ?_
    refine lv_aload_n hx hb dX9_write_49 rfl (lv_at hl 0 rfl) ?_
    refine g_get (T := TX9) (N := 42) (ci := 8) (C := RX9) (v := .int i_this_bits) X hK hH in_RX9 0 rfl rfl 36 (by decide) q_970 (fun _ h9 => h9) rfl dX9_write_50 ?_
    refine lv_bipush (v := (8 : Int32)) hx hb dX9_write_53 (by decide) ?_
    refine lv_irem hx hb dX9_write_55 (by decide) ?_
    refine lv_isub hx hb dX9_write_56 ?_
    refine lv_ishl hx hb dX9_write_57 ?_
    refine lv_ior hx hb dX9_write_58 ?_
    obtain ⟨g5, hg5, hf⟩ := sbind hf
    refine g_ast (w1 := [(h_this, .inr (8, FX9 r_this i_this_thrown i_this_w i_this_h i_this_layers i_this_size i_this_kind i_this_firstSize i_this_codedW i_this_codedH i_this_codedLayers i_this_isDecoded i_this_decodedW i_this_decodedH i_this_low i_this_high i_this_pending i_this_code i_this_bits i_this_start i_this_end i_this_bestMode i_this_mean)), ((r_this 15), gA G 20000 g5)]) X hK hH 1 rfl hg5 dX9_write_59 rfl (fun H locs hH => ?_)
    refine lv_aload_n hx hb dX9_write_60 rfl (lv_at hl 0 rfl) ?_
    refine lv_dup hx hb dX9_write_61 rfl ?_
    refine g_get (T := TX9) (N := 42) (ci := 8) (C := RX9) (v := .int i_this_bits) X hK hH in_RX9 0 rfl rfl 36 (by decide) q_970 (fun _ h9 => h9) rfl dX9_write_62 ?_
    refine lv_iconst (v := (1 : Int32)) hx hb dX9_write_65 (by decide) ?_
    refine lv_iadd hx hb dX9_write_66 ?_
    refine g_put (w1 := [(h_this, .inr (8, FX9 r_this i_this_thrown i_this_w i_this_h i_this_layers i_this_size i_this_kind i_this_firstSize i_this_codedW i_this_codedH i_this_codedLayers i_this_isDecoded i_this_decodedW i_this_decodedH i_this_low i_this_high i_this_pending i_this_code (i_this_bits + (1 : Int32)) i_this_start i_this_end i_this_bestMode i_this_mean)), ((r_this 15), gA G 20000 g5)]) (T := TX9) (N := 42) (ci := 8) (C := RX9) (ty := .int) (v := .int (i_this_bits + (1 : Int32))) X hK hH in_RX9 tyX9 tyX9_ok nmX9 0 rfl rfl 36 (by decide) q_970 (fun _ h9 => h9) rfl (by decide +kernel) rfl rfl (Nat.le_of_ble_eq_true rfl) dX9_write_67 FX9_bits rfl (fun H locs hH => ?_)
    obtain rfl := Option.some.inj hf
    exact hE _ _ _ _ hH dX9_write_70
  refine lv_if_ne (tgt := 28) hx hb dX9_write_7 (by decide) (fun c1 => ?_) (fun c1 => ?_)
  · have hf := sneg hf c1
    exact J3 t_this_stream _ _ _ hf hH (lv_sub hl [0, 1] rfl)
  · have hf := spos hf c1
    refine lv_aload_n hx hb dX9_write_10 rfl (lv_at hl 0 rfl) ?_
    refine g_get (T := TX9) (N := 42) (ci := 8) (C := RX9) (v := .ref (r_this 15)) X hK hH in_RX9 0 rfl rfl 15 (by decide) q_949 (fun _ h9 => h9) rfl dX9_write_11 ?_
    refine lv_aload_n hx hb dX9_write_14 rfl (lv_at hl 0 rfl) ?_
    refine g_get (T := TX9) (N := 42) (ci := 8) (C := RX9) (v := .int i_this_start) X hK hH in_RX9 0 rfl rfl 37 (by decide) q_971 (fun _ h9 => h9) rfl dX9_write_15 ?_
    refine lv_aload_n hx hb dX9_write_18 rfl (lv_at hl 0 rfl) ?_
    refine g_get (T := TX9) (N := 42) (ci := 8) (C := RX9) (v := .int i_this_bits) X hK hH in_RX9 0 rfl rfl 36 (by decide) q_970 (fun _ h9 => h9) rfl dX9_write_19 ?_
    refine lv_bipush (v := (8 : Int32)) hx hb dX9_write_22 (by decide) ?_
    refine lv_idiv hx hb dX9_write_24 (by decide) ?_
    refine lv_iadd hx hb dX9_write_25 ?_
    refine lv_iconst (v := (0 : Int32)) hx hb dX9_write_26 (by decide) ?_
    obtain ⟨g6, hg6, hf⟩ := sbind hf
    refine g_ast (w1 := [(h_this, .inr (8, FX9 r_this i_this_thrown i_this_w i_this_h i_this_layers i_this_size i_this_kind i_this_firstSize i_this_codedW i_this_codedH i_this_codedLayers i_this_isDecoded i_this_decodedW i_this_decodedH i_this_low i_this_high i_this_pending i_this_code i_this_bits i_this_start i_this_end i_this_bestMode i_this_mean)), ((r_this 15), gA G 20000 g6)]) X hK hH 1 rfl hg6 dX9_write_27 rfl (fun H locs hH => ?_)
    exact J3 g6 _ _ _ hf hH (lv_sub hl [0, 1] rfl)

def lf_X9_writes (i_this_bits : Int32) (i_this_pending : Int32) (i_this_start : Int32) (t_this_stream : Nat → Int32) (p0 : Int32) : Option (Int32 × Int32 × (Nat → Int32)) :=
(lf_X9_write i_this_bits i_this_start t_this_stream p0).bind fun o1 => (fixN FUEL (fun (self5 : (Int32 × Int32 × (Nat → Int32)) → Option (Int32 × Int32 × (Nat → Int32))) (z5 : Int32 × Int32 × (Nat → Int32)) => (fun (v2 : Int32) (v3 : Int32) (g4 : (Nat → Int32)) => (if v3 ≤ (0 : Int32) then some (v2, v3, g4) else (lf_X9_write v2 i_this_start g4 ((1 : Int32) - p0)).bind fun o7 => self5 (o7.1, (v3 - (1 : Int32)), o7.2))) z5.1 z5.2.1 z5.2.2) (o1.1, i_this_pending, o1.2)).bind fun o5 => some (o5.1, o5.2.1, o5.2.2)
abbrev rm_X9_writes : Room := { frames := 1, cells := 0, slots := 0, locals := 21 }
theorem hd_X9_writes : yX9_writes.cls ≠ "java/lang/invoke/MethodHandle" ∧ yX9_writes.cls ≠ "java/lang/invoke/VarHandle" ∧ (parseMethodDescriptor yX9_writes.desc).map (fun d => d.parameters.length) = some 1 := by decide +kernel
set_option maxHeartbeats 4000000 in
set_option maxRecDepth 100000 in
theorem ct_X9_writes (l : Launch) (G : gG) (h_this : Nat) (r_this : Nat → Nat) (i_this_thrown i_this_w i_this_h i_this_layers i_this_size i_this_kind i_this_firstSize i_this_codedW i_this_codedH i_this_codedLayers i_this_isDecoded i_this_decodedW i_this_decodedH i_this_low i_this_high i_this_pending i_this_code i_this_bits i_this_start i_this_end i_this_bestMode i_this_mean : Int32) (t_this_stream : Nat → Int32) (p0 : Int32) (sz : Nat) (out : Int32 × Int32 × (Nat → Int32)) (hf : lf_X9_writes i_this_bits i_this_pending i_this_start t_this_stream p0 = some out) : gV l G yX9_writes cX9_writes 2 rm_X9_writes [.ref h_this, .int p0] sz [(h_this, .inr (8, FX9 r_this i_this_thrown i_this_w i_this_h i_this_layers i_this_size i_this_kind i_this_firstSize i_this_codedW i_this_codedH i_this_codedLayers i_this_isDecoded i_this_decodedW i_this_decodedH i_this_low i_this_high i_this_pending i_this_code i_this_bits i_this_start i_this_end i_this_bestMode i_this_mean)), ((r_this 15), gA G 20000 t_this_stream)] [(h_this, .inr (8, FX9 r_this i_this_thrown i_this_w i_this_h i_this_layers i_this_size i_this_kind i_this_firstSize i_this_codedW i_this_codedH i_this_codedLayers i_this_isDecoded i_this_decodedW i_this_decodedH i_this_low i_this_high out.2.1 i_this_code out.1 i_this_start i_this_end i_this_bestMode i_this_mean)), ((r_this 15), gA G 20000 out.2.2)] := by
  refine gV_of (by decide +kernel) (Nat.le_of_ble_eq_true rfl) ?_
  intro p e s m args below meth c ls A Q X hK hA hsz hH hl hE
  subst hsz
  have hx := X.1
  have hb := X.2.1
  unfold lf_X9_writes at hf
  have hl : lv_has ls 2 [(0, .ref h_this), (1, .int p0)] := hl
  have hH : gH G A s.heap s.heap [] [(h_this, .inr (8, FX9 r_this i_this_thrown i_this_w i_this_h i_this_layers i_this_size i_this_kind i_this_firstSize i_this_codedW i_this_codedH i_this_codedLayers i_this_isDecoded i_this_decodedW i_this_decodedH i_this_low i_this_high i_this_pending i_this_code i_this_bits i_this_start i_this_end i_this_bestMode i_this_mean)), ((r_this 15), gA G 20000 t_this_stream)] := hH
  refine lv_aload_n hx hb dX9_writes_0 rfl (lv_at hl 0 rfl) ?_
  refine lv_iload_n hx hb dX9_writes_1 rfl (lv_at hl 1 rfl) ?_
  obtain ⟨o1, ho1, hf⟩ := sbind hf
  refine g_cVv (isC := [0, 1]) (isR := []) (isP := [0, 1]) (wr := []) (w2 := [(h_this, .inr (8, FX9 r_this i_this_thrown i_this_w i_this_h i_this_layers i_this_size i_this_kind i_this_firstSize i_this_codedW i_this_codedH i_this_codedLayers i_this_isDecoded i_this_decodedW i_this_decodedH i_this_low i_this_high i_this_pending i_this_code o1.1 i_this_start i_this_end i_this_bestMode i_this_mean)), ((r_this 15), gA G 20000 o1.2)]) (q0 := 0) X hK hA hH hl (ct_X9_write l G h_this r_this i_this_thrown i_this_w i_this_h i_this_layers i_this_size i_this_kind i_this_firstSize i_this_codedW i_this_codedH i_this_codedLayers i_this_isDecoded i_this_decodedW i_this_decodedH i_this_low i_this_high i_this_pending i_this_code i_this_bits i_this_start i_this_end i_this_bestMode i_this_mean t_this_stream p0 s.heap.size o1 ho1) ⟨q_10, q_1205, hd_X9_write, rfl, rfl, ⟨Nat.le_of_ble_eq_true rfl, Nat.le_of_ble_eq_true rfl⟩, ⟨Nat.zero_le _, Nat.zero_le _⟩⟩ q_1202 q_1204 qs_49 rfl rfl ⟨rfl, rfl, rfl, rfl, by decide, rfl, rfl⟩ rfl rfl (Nat.le_of_ble_eq_true rfl) dX9_writes_2 (fun H locs hH => ?_)
  obtain ⟨o5, ho5, hf⟩ := sbind hf
  obtain ⟨FF5, hFF5, ho5⟩ := sfix ho5
  have L5 : ∀ (n : Nat) (v2 : Int32) (v3 : Int32) (g4 : (Nat → Int32)) (b5 : Int32 × Int32 × (Nat → Int32)) (H : Heap) (locs : List Loc) (ls : Array Slot), fixN n FF5 (v2, v3, g4) = some b5 → gH G A s.heap H locs [(h_this, .inr (8, FX9 r_this i_this_thrown i_this_w i_this_h i_this_layers i_this_size i_this_kind i_this_firstSize i_this_codedW i_this_codedH i_this_codedLayers i_this_isDecoded i_this_decodedW i_this_decodedH i_this_low i_this_high v3 i_this_code v2 i_this_start i_this_end i_this_bestMode i_this_mean)), ((r_this 15), gA G 20000 g4)] → lv_has ls 2 [(0, .ref h_this), (1, .int p0)] → (∀ (H : Heap) (locs : List Loc) (ls : Array Slot), gH G A s.heap H locs [(h_this, .inr (8, FX9 r_this i_this_thrown i_this_w i_this_h i_this_layers i_this_size i_this_kind i_this_firstSize i_this_codedW i_this_codedH i_this_codedLayers i_this_isDecoded i_this_decodedW i_this_decodedH i_this_low i_this_high b5.2.1 i_this_code b5.1 i_this_start i_this_end i_this_bestMode i_this_mean)), ((r_this 15), gA G 20000 b5.2.2)] → lv_has ls 2 [] → W p l e rm_X9_writes s m args below meth c H locs 0 0 Q (F0 m 32 ls [])) → W p l e rm_X9_writes s m args below meth c H locs 0 0 Q (F0 m 5 ls []) := by
    intro n
    induction n with
    | zero => intro v2 v3 g4 b5 H locs ls hf; exact sfix0 hf
    | succ n ih =>
      intro v2 v3 g4 b5 H locs ls hf hH hl KK
      obtain ⟨self5, hself5, hf⟩ := sstep hFF5 hf
      refine lv_aload_n hx hb dX9_writes_5 rfl (lv_at hl 0 rfl) ?_
      refine g_get (T := TX9) (N := 42) (ci := 8) (C := RX9) (v := .int v3) X hK hH in_RX9 0 rfl rfl 34 (by decide) q_968 (fun _ h9 => h9) rfl dX9_writes_6 ?_
      refine lv_if_le (tgt := 32) hx hb dX9_writes_9 (by decide) (fun c6 => ?_) (fun c6 => ?_)
      · have hf := spos hf c6
        obtain rfl := Option.some.inj hf
        exact KK _ _ _ hH (lv_sub hl [] rfl)
      · have hf := sneg hf c6
        refine lv_aload_n hx hb dX9_writes_12 rfl (lv_at hl 0 rfl) ?_
        refine lv_iconst (v := (1 : Int32)) hx hb dX9_writes_13 (by decide) ?_
        refine lv_iload_n hx hb dX9_writes_14 rfl (lv_at hl 1 rfl) ?_
        refine lv_isub hx hb dX9_writes_15 ?_
        obtain ⟨o7, ho7, hf⟩ := sbind hf
        refine g_cVv (isC := [0, 1]) (isR := []) (isP := [0, 1]) (wr := []) (w2 := [(h_this, .inr (8, FX9 r_this i_this_thrown i_this_w i_this_h i_this_layers i_this_size i_this_kind i_this_firstSize i_this_codedW i_this_codedH i_this_codedLayers i_this_isDecoded i_this_decodedW i_this_decodedH i_this_low i_this_high v3 i_this_code o7.1 i_this_start i_this_end i_this_bestMode i_this_mean)), ((r_this 15), gA G 20000 o7.2)]) (q0 := 0) X hK hA hH hl (ct_X9_write l G h_this r_this i_this_thrown i_this_w i_this_h i_this_layers i_this_size i_this_kind i_this_firstSize i_this_codedW i_this_codedH i_this_codedLayers i_this_isDecoded i_this_decodedW i_this_decodedH i_this_low i_this_high v3 i_this_code v2 i_this_start i_this_end i_this_bestMode i_this_mean g4 ((1 : Int32) - p0) H.size o7 ho7) ⟨q_10, q_1205, hd_X9_write, rfl, rfl, ⟨Nat.le_of_ble_eq_true rfl, Nat.le_of_ble_eq_true rfl⟩, ⟨Nat.zero_le _, Nat.zero_le _⟩⟩ q_1202 q_1204 qs_49 rfl rfl ⟨rfl, rfl, rfl, rfl, by decide, rfl, rfl⟩ rfl rfl (Nat.le_of_ble_eq_true rfl) dX9_writes_16 (fun H locs hH => ?_)
        refine lv_aload_n hx hb dX9_writes_19 rfl (lv_at hl 0 rfl) ?_
        refine lv_dup hx hb dX9_writes_20 rfl ?_
        refine g_get (T := TX9) (N := 42) (ci := 8) (C := RX9) (v := .int v3) X hK hH in_RX9 0 rfl rfl 34 (by decide) q_968 (fun _ h9 => h9) rfl dX9_writes_21 ?_
        refine lv_iconst (v := (1 : Int32)) hx hb dX9_writes_24 (by decide) ?_
        refine lv_isub hx hb dX9_writes_25 ?_
        refine g_put (w1 := [(h_this, .inr (8, FX9 r_this i_this_thrown i_this_w i_this_h i_this_layers i_this_size i_this_kind i_this_firstSize i_this_codedW i_this_codedH i_this_codedLayers i_this_isDecoded i_this_decodedW i_this_decodedH i_this_low i_this_high (v3 - (1 : Int32)) i_this_code o7.1 i_this_start i_this_end i_this_bestMode i_this_mean)), ((r_this 15), gA G 20000 o7.2)]) (T := TX9) (N := 42) (ci := 8) (C := RX9) (ty := .int) (v := .int (v3 - (1 : Int32))) X hK hH in_RX9 tyX9 tyX9_ok nmX9 0 rfl rfl 34 (by decide) q_968 (fun _ h9 => h9) rfl (by decide +kernel) rfl rfl (Nat.le_of_ble_eq_true rfl) dX9_writes_26 FX9_pending rfl (fun H locs hH => ?_)
        refine lv_goto (tgt := 5) hx hb dX9_writes_29 (by decide) ?_
        exact ih o7.1 (v3 - (1 : Int32)) o7.2 _ _ _ _ (hself5 _ _ hf) hH (lv_sub hl [0, 1] rfl) KK
  refine L5 FUEL o1.1 i_this_pending o1.2 o5 _ _ _ ho5 hH (lv_sub hl [0, 1] rfl) (fun H locs ls hH hl => ?_)
  obtain rfl := Option.some.inj hf
  exact hE _ _ _ _ hH dX9_writes_32

def lf_X9_put (i_this_bits : Int32) (i_this_high : Int32) (i_this_low : Int32) (i_this_pending : Int32) (i_this_start : Int32) (t_this_counts : Nat → Int32) (t_this_stream : Nat → Int32) (p0 : Int32) (p1 : Int32) : Option (Int32 × Int32 × Int32 × Int32 × (Nat → Int32) × (Nat → Int32)) :=
(lf_X9_splitPlace i_this_high i_this_low t_this_counts p0).bind fun o1 => (lf_X9_narrows i_this_high i_this_low o1 p1).bind fun o2 => (lf_X9_learns t_this_counts p0 p1).bind fun o3 => (lf_X9_offset o2.1 o2.2).bind fun o4 => (fixN FUEL (fun (self11 : (Int32 × Int32 × Int32 × Int32 × Int32 × (Nat → Int32)) → Option (Int32 × Int32 × Int32 × Int32 × (Nat → Int32))) (z11 : Int32 × Int32 × Int32 × Int32 × Int32 × (Nat → Int32)) => (fun (x5 : Int32) (v6 : Int32) (v7 : Int32) (v8 : Int32) (v9 : Int32) (g10 : (Nat → Int32)) => (if x5 < (0 : Int32) then some (v6, v7, v8, v9, g10) else jn (fun (z17 : Int32 × Int32 × (Nat → Int32)) => (fun (v14 : Int32) (v15 : Int32) (g16 : (Nat → Int32)) => (lf_X9_offset (((2 : Int32) * (v7 - x5)) + (1 : Int32)) ((2 : Int32) * (v8 - x5))).bind fun o18 => self11 (o18, v14, (((2 : Int32) * (v7 - x5)) + (1 : Int32)), ((2 : Int32) * (v8 - x5)), v15, g16)) z17.1 z17.2.1 z17.2.2) (fun k17 => (if x5 = (16384 : Int32) then k17 (v6, (v9 + (1 : Int32)), g10) else jn (fun (z21 : Int32) => (fun (s20 : Int32) => (lf_X9_writes v6 v9 i_this_start g10 s20).bind fun o22 => k17 (o22.1, o22.2.1, o22.2.2)) z21) (fun k21 => (if x5 = (0 : Int32) then k21 (0 : Int32) else k21 (1 : Int32))))))) z11.1 z11.2.1 z11.2.2.1 z11.2.2.2.1 z11.2.2.2.2.1 z11.2.2.2.2.2) (o4, i_this_bits, o2.1, o2.2, i_this_pending, t_this_stream)).bind fun o11 => some (o11.1, o11.2.1, o11.2.2.1, o11.2.2.2.1, o3, o11.2.2.2.2)
abbrev rm_X9_put : Room := { frames := 2, cells := 0, slots := 0, locals := 42 }
theorem hd_X9_put : yX9_put.cls ≠ "java/lang/invoke/MethodHandle" ∧ yX9_put.cls ≠ "java/lang/invoke/VarHandle" ∧ (parseMethodDescriptor yX9_put.desc).map (fun d => d.parameters.length) = some 2 := by decide +kernel
set_option maxHeartbeats 4000000 in
set_option maxRecDepth 100000 in
theorem ct_X9_put (l : Launch) (G : gG) (h_this : Nat) (r_this : Nat → Nat) (i_this_thrown i_this_w i_this_h i_this_layers i_this_size i_this_kind i_this_firstSize i_this_codedW i_this_codedH i_this_codedLayers i_this_isDecoded i_this_decodedW i_this_decodedH i_this_low i_this_high i_this_pending i_this_code i_this_bits i_this_start i_this_end i_this_bestMode i_this_mean : Int32) (t_this_counts t_this_stream : Nat → Int32) (p0 p1 : Int32) (sz : Nat) (out : Int32 × Int32 × Int32 × Int32 × (Nat → Int32) × (Nat → Int32)) (hf : lf_X9_put i_this_bits i_this_high i_this_low i_this_pending i_this_start t_this_counts t_this_stream p0 p1 = some out) : gV l G yX9_put cX9_put 4 rm_X9_put [.ref h_this, .int p0, .int p1] sz [(h_this, .inr (8, FX9 r_this i_this_thrown i_this_w i_this_h i_this_layers i_this_size i_this_kind i_this_firstSize i_this_codedW i_this_codedH i_this_codedLayers i_this_isDecoded i_this_decodedW i_this_decodedH i_this_low i_this_high i_this_pending i_this_code i_this_bits i_this_start i_this_end i_this_bestMode i_this_mean)), ((r_this 15), gA G 20000 t_this_stream), ((r_this 41), gA G 40 t_this_counts)] [(h_this, .inr (8, FX9 r_this i_this_thrown i_this_w i_this_h i_this_layers i_this_size i_this_kind i_this_firstSize i_this_codedW i_this_codedH i_this_codedLayers i_this_isDecoded i_this_decodedW i_this_decodedH out.2.2.1 out.2.1 out.2.2.2.1 i_this_code out.1 i_this_start i_this_end i_this_bestMode i_this_mean)), ((r_this 15), gA G 20000 out.2.2.2.2.2), ((r_this 41), gA G 40 out.2.2.2.2.1)] := by
  refine gV_of (by decide +kernel) (Nat.le_of_ble_eq_true rfl) ?_
  intro p e s m args below meth c ls A Q X hK hA hsz hH hl hE
  subst hsz
  have hx := X.1
  have hb := X.2.1
  unfold lf_X9_put at hf
  have hl : lv_has ls 4 [(0, .ref h_this), (1, .int p0), (2, .int p1)] := hl
  have hH : gH G A s.heap s.heap [] [(h_this, .inr (8, FX9 r_this i_this_thrown i_this_w i_this_h i_this_layers i_this_size i_this_kind i_this_firstSize i_this_codedW i_this_codedH i_this_codedLayers i_this_isDecoded i_this_decodedW i_this_decodedH i_this_low i_this_high i_this_pending i_this_code i_this_bits i_this_start i_this_end i_this_bestMode i_this_mean)), ((r_this 15), gA G 20000 t_this_stream), ((r_this 41), gA G 40 t_this_counts)] := hH
  refine lv_aload_n hx hb dX9_put_0 rfl (lv_at hl 0 rfl) ?_
  refine lv_aload_n hx hb dX9_put_1 rfl (lv_at hl 0 rfl) ?_
  refine lv_iload_n hx hb dX9_put_2 rfl (lv_at hl 1 rfl) ?_
  obtain ⟨o1, ho1, hf⟩ := sbind hf
  refine g_cVi (isC := [0, 2]) (isR := [1]) (isP := [1, 0, 2]) (wr := [((r_this 15), gA G 20000 t_this_stream)]) (w2 := [(h_this, .inr (8, FX9 r_this i_this_thrown i_this_w i_this_h i_this_layers i_this_size i_this_kind i_this_firstSize i_this_codedW i_this_codedH i_this_codedLayers i_this_isDecoded i_this_decodedW i_this_decodedH i_this_low i_this_high i_this_pending i_this_code i_this_bits i_this_start i_this_end i_this_bestMode i_this_mean)), ((r_this 15), gA G 20000 t_this_stream), ((r_this 41), gA G 40 t_this_counts)]) (q0 := 0) X hK hA hH hl (ct_X9_splitPlace l G h_this r_this i_this_thrown i_this_w i_this_h i_this_layers i_this_size i_this_kind i_this_firstSize i_this_codedW i_this_codedH i_this_codedLayers i_this_isDecoded i_this_decodedW i_this_decodedH i_this_low i_this_high i_this_pending i_this_code i_this_bits i_this_start i_this_end i_this_bestMode i_this_mean t_this_counts p0 s.heap.size o1 ho1) ⟨q_10, q_1183, hd_X9_splitPlace, rfl, rfl, ⟨Nat.le_of_ble_eq_true rfl, Nat.le_of_ble_eq_true rfl⟩, ⟨Nat.zero_le _, Nat.zero_le _⟩⟩ q_1180 q_1182 qs_44 rfl rfl ⟨rfl, rfl, rfl, rfl, by decide, rfl, rfl⟩ rfl rfl (Nat.le_of_ble_eq_true rfl) dX9_put_3 (fun H locs hH => ?_)
  refine lv_iload_n hx hb dX9_put_6 rfl (lv_at hl 2 rfl) ?_
  obtain ⟨o2, ho2, hf⟩ := sbind hf
  refine g_cVv (isC := [0]) (isR := [1, 2]) (isP := [2, 0, 1]) (wr := [((r_this 15), gA G 20000 t_this_stream), ((r_this 41), gA G 40 t_this_counts)]) (w2 := [(h_this, .inr (8, FX9 r_this i_this_thrown i_this_w i_this_h i_this_layers i_this_size i_this_kind i_this_firstSize i_this_codedW i_this_codedH i_this_codedLayers i_this_isDecoded i_this_decodedW i_this_decodedH o2.2 o2.1 i_this_pending i_this_code i_this_bits i_this_start i_this_end i_this_bestMode i_this_mean)), ((r_this 15), gA G 20000 t_this_stream), ((r_this 41), gA G 40 t_this_counts)]) (q0 := 0) X hK hA hH hl (ct_X9_narrows l G h_this r_this i_this_thrown i_this_w i_this_h i_this_layers i_this_size i_this_kind i_this_firstSize i_this_codedW i_this_codedH i_this_codedLayers i_this_isDecoded i_this_decodedW i_this_decodedH i_this_low i_this_high i_this_pending i_this_code i_this_bits i_this_start i_this_end i_this_bestMode i_this_mean o1 p1 H.size o2 ho2) ⟨q_10, q_1187, hd_X9_narrows, rfl, rfl, ⟨Nat.le_of_ble_eq_true rfl, Nat.le_of_ble_eq_true rfl⟩, ⟨Nat.zero_le _, Nat.zero_le _⟩⟩ q_1184 q_1186 qs_45 rfl rfl ⟨rfl, rfl, rfl, rfl, by decide, rfl, rfl⟩ rfl rfl (Nat.le_of_ble_eq_true rfl) dX9_put_7 (fun H locs hH => ?_)
  refine lv_aload_n hx hb dX9_put_10 rfl (lv_at hl 0 rfl) ?_
  refine lv_iload_n hx hb dX9_put_11 rfl (lv_at hl 1 rfl) ?_
  refine lv_iload_n hx hb dX9_put_12 rfl (lv_at hl 2 rfl) ?_
  obtain ⟨o3, ho3, hf⟩ := sbind hf
  refine g_cVv (isC := [0, 2]) (isR := [1]) (isP := [1, 0, 2]) (wr := [((r_this 15), gA G 20000 t_this_stream)]) (w2 := [(h_this, .inr (8, FX9 r_this i_this_thrown i_this_w i_this_h i_this_layers i_this_size i_this_kind i_this_firstSize i_this_codedW i_this_codedH i_this_codedLayers i_this_isDecoded i_this_decodedW i_this_decodedH o2.2 o2.1 i_this_pending i_this_code i_this_bits i_this_start i_this_end i_this_bestMode i_this_mean)), ((r_this 15), gA G 20000 t_this_stream), ((r_this 41), gA G 40 o3)]) (q0 := 0) X hK hA hH hl (ct_X9_learns l G h_this r_this i_this_thrown i_this_w i_this_h i_this_layers i_this_size i_this_kind i_this_firstSize i_this_codedW i_this_codedH i_this_codedLayers i_this_isDecoded i_this_decodedW i_this_decodedH o2.2 o2.1 i_this_pending i_this_code i_this_bits i_this_start i_this_end i_this_bestMode i_this_mean t_this_counts p0 p1 H.size o3 ho3) ⟨q_10, q_1191, hd_X9_learns, rfl, rfl, ⟨Nat.le_of_ble_eq_true rfl, Nat.le_of_ble_eq_true rfl⟩, ⟨Nat.zero_le _, Nat.zero_le _⟩⟩ q_1188 q_1190 qs_46 rfl rfl ⟨rfl, rfl, rfl, rfl, by decide, rfl, rfl⟩ rfl rfl (Nat.le_of_ble_eq_true rfl) dX9_put_13 (fun H locs hH => ?_)
  refine lv_aload_n hx hb dX9_put_16 rfl (lv_at hl 0 rfl) ?_
  obtain ⟨o4, ho4, hf⟩ := sbind hf
  refine g_cVi (isC := [0]) (isR := [1, 2]) (isP := [2, 0, 1]) (wr := [((r_this 15), gA G 20000 t_this_stream), ((r_this 41), gA G 40 o3)]) (w2 := [(h_this, .inr (8, FX9 r_this i_this_thrown i_this_w i_this_h i_this_layers i_this_size i_this_kind i_this_firstSize i_this_codedW i_this_codedH i_this_codedLayers i_this_isDecoded i_this_decodedW i_this_decodedH o2.2 o2.1 i_this_pending i_this_code i_this_bits i_this_start i_this_end i_this_bestMode i_this_mean)), ((r_this 15), gA G 20000 t_this_stream), ((r_this 41), gA G 40 o3)]) (q0 := 0) X hK hA hH hl (ct_X9_offset l G h_this r_this i_this_thrown i_this_w i_this_h i_this_layers i_this_size i_this_kind i_this_firstSize i_this_codedW i_this_codedH i_this_codedLayers i_this_isDecoded i_this_decodedW i_this_decodedH o2.2 o2.1 i_this_pending i_this_code i_this_bits i_this_start i_this_end i_this_bestMode i_this_mean H.size o4 ho4) ⟨q_10, q_1195, hd_X9_offset, rfl, rfl, ⟨Nat.le_of_ble_eq_true rfl, Nat.le_of_ble_eq_true rfl⟩, ⟨Nat.zero_le _, Nat.zero_le _⟩⟩ q_1192 q_1194 qs_47 rfl rfl ⟨rfl, rfl, rfl, rfl, by decide, rfl, rfl⟩ rfl rfl (Nat.le_of_ble_eq_true rfl) dX9_put_17 (fun H locs hH => ?_)
  refine lv_istore_n (lv' := [(3, .int o4), (0, .ref h_this), (1, .int p0), (2, .int p1)]) hx hb dX9_put_20 rfl hl (by decide) rfl (fun ls hl => ?_)
  obtain ⟨o11, ho11, hf⟩ := sbind hf
  obtain ⟨FF11, hFF11, ho11⟩ := sfix ho11
  have L11 : ∀ (n : Nat) (x5 : Int32) (v6 : Int32) (v7 : Int32) (v8 : Int32) (v9 : Int32) (g10 : (Nat → Int32)) (b11 : Int32 × Int32 × Int32 × Int32 × (Nat → Int32)) (H : Heap) (locs : List Loc) (ls : Array Slot), fixN n FF11 (x5, v6, v7, v8, v9, g10) = some b11 → gH G A s.heap H locs [(h_this, .inr (8, FX9 r_this i_this_thrown i_this_w i_this_h i_this_layers i_this_size i_this_kind i_this_firstSize i_this_codedW i_this_codedH i_this_codedLayers i_this_isDecoded i_this_decodedW i_this_decodedH v8 v7 v9 i_this_code v6 i_this_start i_this_end i_this_bestMode i_this_mean)), ((r_this 15), gA G 20000 g10), ((r_this 41), gA G 40 o3)] → lv_has ls 4 [(0, .ref h_this), (3, .int x5)] → (∀ (H : Heap) (locs : List Loc) (ls : Array Slot), gH G A s.heap H locs [(h_this, .inr (8, FX9 r_this i_this_thrown i_this_w i_this_h i_this_layers i_this_size i_this_kind i_this_firstSize i_this_codedW i_this_codedH i_this_codedLayers i_this_isDecoded i_this_decodedW i_this_decodedH b11.2.2.1 b11.2.1 b11.2.2.2.1 i_this_code b11.1 i_this_start i_this_end i_this_bestMode i_this_mean)), ((r_this 15), gA G 20000 b11.2.2.2.2), ((r_this 41), gA G 40 o3)] → lv_has ls 4 [] → W p l e rm_X9_put s m args below meth c H locs 0 0 Q (F0 m 92 ls [])) → W p l e rm_X9_put s m args below meth c H locs 0 0 Q (F0 m 21 ls []) := by
    intro n
    induction n with
    | zero => intro x5 v6 v7 v8 v9 g10 b11 H locs ls hf; exact sfix0 hf
    | succ n ih =>
      intro x5 v6 v7 v8 v9 g10 b11 H locs ls hf hH hl KK
      obtain ⟨self11, hself11, hf⟩ := sstep hFF11 hf
      refine lv_iload_n hx hb dX9_put_21 rfl (lv_at hl 1 rfl) ?_
      refine lv_if_lt (tgt := 92) hx hb dX9_put_22 (by decide) (fun c12 => ?_) (fun c12 => ?_)
      · have hf := spos hf c12
        obtain rfl := Option.some.inj hf
        exact KK _ _ _ hH (lv_sub hl [] rfl)
      · have hf := sneg hf c12
        refine lv_iload_n hx hb dX9_put_25 rfl (lv_at hl 1 rfl) ?_
        refine lv_sipush (v := (16384 : Int32)) hx hb dX9_put_26 (by decide) ?_
        obtain ⟨k17, hk17, hf⟩ := sjn hf
        have J17 : ∀ (v14 : Int32) (v15 : Int32) (g16 : (Nat → Int32)) (H : Heap) (locs : List Loc) (ls : Array Slot), k17 (v14, v15, g16) = some b11 → gH G A s.heap H locs [(h_this, .inr (8, FX9 r_this i_this_thrown i_this_w i_this_h i_this_layers i_this_size i_this_kind i_this_firstSize i_this_codedW i_this_codedH i_this_codedLayers i_this_isDecoded i_this_decodedW i_this_decodedH v8 v7 v15 i_this_code v14 i_this_start i_this_end i_this_bestMode i_this_mean)), ((r_this 15), gA G 20000 g16), ((r_this 41), gA G 40 o3)] → lv_has ls 4 [(0, .ref h_this), (3, .int x5)] → W p l e rm_X9_put s m args below meth c H locs 0 0 Q (F0 m 58 ls []) := by
          intro v14 v15 g16 H locs ls hf hH hl
          have hf := hk17 _ _ hf
          refine lv_aload_n hx hb dX9_put_58 rfl (lv_at hl 0 rfl) ?_
          refine lv_iconst (v := (2 : Int32)) hx hb dX9_put_59 (by decide) ?_
          refine lv_aload_n hx hb dX9_put_60 rfl (lv_at hl 0 rfl) ?_
          refine g_get (T := TX9) (N := 42) (ci := 8) (C := RX9) (v := .int v8) X hK hH in_RX9 0 rfl rfl 32 (by decide) q_966 (fun _ h9 => h9) rfl dX9_put_61 ?_
          refine lv_iload_n hx hb dX9_put_64 rfl (lv_at hl 1 rfl) ?_
          refine lv_isub hx hb dX9_put_65 ?_
          refine lv_imul hx hb dX9_put_66 ?_
          refine g_put (w1 := [(h_this, .inr (8, FX9 r_this i_this_thrown i_this_w i_this_h i_this_layers i_this_size i_this_kind i_this_firstSize i_this_codedW i_this_codedH i_this_codedLayers i_this_isDecoded i_this_decodedW i_this_decodedH ((2 : Int32) * (v8 - x5)) v7 v15 i_this_code v14 i_this_start i_this_end i_this_bestMode i_this_mean)), ((r_this 15), gA G 20000 g16), ((r_this 41), gA G 40 o3)]) (T := TX9) (N := 42) (ci := 8) (C := RX9) (ty := .int) (v := .int ((2 : Int32) * (v8 - x5))) X hK hH in_RX9 tyX9 tyX9_ok nmX9 0 rfl rfl 32 (by decide) q_966 (fun _ h9 => h9) rfl (by decide +kernel) rfl rfl (Nat.le_of_ble_eq_true rfl) dX9_put_67 FX9_low rfl (fun H locs hH => ?_)
          refine lv_aload_n hx hb dX9_put_70 rfl (lv_at hl 0 rfl) ?_
          refine lv_iconst (v := (2 : Int32)) hx hb dX9_put_71 (by decide) ?_
          refine lv_aload_n hx hb dX9_put_72 rfl (lv_at hl 0 rfl) ?_
          refine g_get (T := TX9) (N := 42) (ci := 8) (C := RX9) (v := .int v7) X hK hH in_RX9 0 rfl rfl 33 (by decide) q_967 (fun _ h9 => h9) rfl dX9_put_73 ?_
          refine lv_iload_n hx hb dX9_put_76 rfl (lv_at hl 1 rfl) ?_
          refine lv_isub hx hb dX9_put_77 ?_
          refine lv_imul hx hb dX9_put_78 ?_
          refine lv_iconst (v := (1 : Int32)) hx hb dX9_put_79 (by decide) ?_
          refine lv_iadd hx hb dX9_put_80 ?_
          refine g_put (w1 := [(h_this, .inr (8, FX9 r_this i_this_thrown i_this_w i_this_h i_this_layers i_this_size i_this_kind i_this_firstSize i_this_codedW i_this_codedH i_this_codedLayers i_this_isDecoded i_this_decodedW i_this_decodedH ((2 : Int32) * (v8 - x5)) (((2 : Int32) * (v7 - x5)) + (1 : Int32)) v15 i_this_code v14 i_this_start i_this_end i_this_bestMode i_this_mean)), ((r_this 15), gA G 20000 g16), ((r_this 41), gA G 40 o3)]) (T := TX9) (N := 42) (ci := 8) (C := RX9) (ty := .int) (v := .int (((2 : Int32) * (v7 - x5)) + (1 : Int32))) X hK hH in_RX9 tyX9 tyX9_ok nmX9 0 rfl rfl 33 (by decide) q_967 (fun _ h9 => h9) rfl (by decide +kernel) rfl rfl (Nat.le_of_ble_eq_true rfl) dX9_put_81 FX9_high rfl (fun H locs hH => ?_)
          refine lv_aload_n hx hb dX9_put_84 rfl (lv_at hl 0 rfl) ?_
          obtain ⟨o18, ho18, hf⟩ := sbind hf
          refine g_cVi (isC := [0]) (isR := [1, 2]) (isP := [2, 0, 1]) (wr := [((r_this 15), gA G 20000 g16), ((r_this 41), gA G 40 o3)]) (w2 := [(h_this, .inr (8, FX9 r_this i_this_thrown i_this_w i_this_h i_this_layers i_this_size i_this_kind i_this_firstSize i_this_codedW i_this_codedH i_this_codedLayers i_this_isDecoded i_this_decodedW i_this_decodedH ((2 : Int32) * (v8 - x5)) (((2 : Int32) * (v7 - x5)) + (1 : Int32)) v15 i_this_code v14 i_this_start i_this_end i_this_bestMode i_this_mean)), ((r_this 15), gA G 20000 g16), ((r_this 41), gA G 40 o3)]) (q0 := 0) X hK hA hH hl (ct_X9_offset l G h_this r_this i_this_thrown i_this_w i_this_h i_this_layers i_this_size i_this_kind i_this_firstSize i_this_codedW i_this_codedH i_this_codedLayers i_this_isDecoded i_this_decodedW i_this_decodedH ((2 : Int32) * (v8 - x5)) (((2 : Int32) * (v7 - x5)) + (1 : Int32)) v15 i_this_code v14 i_this_start i_this_end i_this_bestMode i_this_mean H.size o18 ho18) ⟨q_10, q_1195, hd_X9_offset, rfl, rfl, ⟨Nat.le_of_ble_eq_true rfl, Nat.le_of_ble_eq_true rfl⟩, ⟨Nat.zero_le _, Nat.zero_le _⟩⟩ q_1192 q_1194 qs_47 rfl rfl ⟨rfl, rfl, rfl, rfl, by decide, rfl, rfl⟩ rfl rfl (Nat.le_of_ble_eq_true rfl) dX9_put_85 (fun H locs hH => ?_)
          refine lv_istore_n (lv' := [(3, .int o18), (0, .ref h_this)]) hx hb dX9_put_88 rfl hl (by decide) rfl (fun ls hl => ?_)
          refine lv_goto (tgt := 21) hx hb dX9_put_89 (by decide) ?_
          exact ih o18 v14 (((2 : Int32) * (v7 - x5)) + (1 : Int32)) ((2 : Int32) * (v8 - x5)) v15 g16 _ _ _ _ (hself11 _ _ hf) hH (lv_sub hl [1, 0] rfl) KK
        refine lv_icmp_ne (tgt := 45) hx hb dX9_put_29 (by decide) (fun c13 => ?_) (fun c13 => ?_)
        · have hf := sneg hf c13
          refine lv_aload_n hx hb dX9_put_45 rfl (lv_at hl 0 rfl) ?_
          refine lv_iload_n hx hb dX9_put_46 rfl (lv_at hl 1 rfl) ?_
          obtain ⟨k21, hk21, hf⟩ := sjn hf
          have J21 : ∀ (s20 : Int32) (H : Heap) (locs : List Loc) (ls : Array Slot), k21 s20 = some b11 → gH G A s.heap H locs [(h_this, .inr (8, FX9 r_this i_this_thrown i_this_w i_this_h i_this_layers i_this_size i_this_kind i_this_firstSize i_this_codedW i_this_codedH i_this_codedLayers i_this_isDecoded i_this_decodedW i_this_decodedH v8 v7 v9 i_this_code v6 i_this_start i_this_end i_this_bestMode i_this_mean)), ((r_this 15), gA G 20000 g10), ((r_this 41), gA G 40 o3)] → lv_has ls 4 [(0, .ref h_this), (3, .int x5)] → W p l e rm_X9_put s m args below meth c H locs 0 0 Q (F0 m 55 ls [.int s20, .ref h_this]) := by
            intro s20 H locs ls hf hH hl
            have hf := hk21 _ _ hf
            obtain ⟨o22, ho22, hf⟩ := sbind hf
            refine g_cVv (isC := [0, 1]) (isR := [2]) (isP := [1, 2, 0]) (wr := [((r_this 41), gA G 40 o3)]) (w2 := [(h_this, .inr (8, FX9 r_this i_this_thrown i_this_w i_this_h i_this_layers i_this_size i_this_kind i_this_firstSize i_this_codedW i_this_codedH i_this_codedLayers i_this_isDecoded i_this_decodedW i_this_decodedH v8 v7 o22.2.1 i_this_code o22.1 i_this_start i_this_end i_this_bestMode i_this_mean)), ((r_this 15), gA G 20000 o22.2.2), ((r_this 41), gA G 40 o3)]) (q0 := 0) X hK hA hH hl (ct_X9_writes l G h_this r_this i_this_thrown i_this_w i_this_h i_this_layers i_this_size i_this_kind i_this_firstSize i_this_codedW i_this_codedH i_this_codedLayers i_this_isDecoded i_this_decodedW i_this_decodedH v8 v7 v9 i_this_code v6 i_this_start i_this_end i_this_bestMode i_this_mean g10 s20 H.size o22 ho22) ⟨q_10, q_1201, hd_X9_writes, rfl, rfl, ⟨Nat.le_of_ble_eq_true rfl, Nat.le_of_ble_eq_true rfl⟩, ⟨Nat.zero_le _, Nat.zero_le _⟩⟩ q_1198 q_1200 qs_48 rfl rfl ⟨rfl, rfl, rfl, rfl, by decide, rfl, rfl⟩ rfl rfl (Nat.le_of_ble_eq_true rfl) dX9_put_55 (fun H locs hH => ?_)
            exact J17 o22.1 o22.2.1 o22.2.2 _ _ _ hf hH (lv_sub hl [0, 1] rfl)
          refine lv_if_ne (tgt := 54) hx hb dX9_put_47 (by decide) (fun c19 => ?_) (fun c19 => ?_)
          · have hf := sneg hf c19
            refine lv_iconst (v := (1 : Int32)) hx hb dX9_put_54 (by decide) ?_
            exact J21 (1 : Int32) _ _ _ hf hH (lv_sub hl [0, 1] rfl)
          · have hf := spos hf c19
            refine lv_iconst (v := (0 : Int32)) hx hb dX9_put_50 (by decide) ?_
            refine lv_goto (tgt := 55) hx hb dX9_put_51 (by decide) ?_
            exact J21 (0 : Int32) _ _ _ hf hH (lv_sub hl [0, 1] rfl)
        · have hf := spos hf c13
          refine lv_aload_n hx hb dX9_put_32 rfl (lv_at hl 0 rfl) ?_
          refine lv_dup hx hb dX9_put_33 rfl ?_
          refine g_get (T := TX9) (N := 42) (ci := 8) (C := RX9) (v := .int v9) X hK hH in_RX9 0 rfl rfl 34 (by decide) q_968 (fun _ h9 => h9) rfl dX9_put_34 ?_
          refine lv_iconst (v := (1 : Int32)) hx hb dX9_put_37 (by decide) ?_
          refine lv_iadd hx hb dX9_put_38 ?_
          refine g_put (w1 := [(h_this, .inr (8, FX9 r_this i_this_thrown i_this_w i_this_h i_this_layers i_this_size i_this_kind i_this_firstSize i_this_codedW i_this_codedH i_this_codedLayers i_this_isDecoded i_this_decodedW i_this_decodedH v8 v7 (v9 + (1 : Int32)) i_this_code v6 i_this_start i_this_end i_this_bestMode i_this_mean)), ((r_this 15), gA G 20000 g10), ((r_this 41), gA G 40 o3)]) (T := TX9) (N := 42) (ci := 8) (C := RX9) (ty := .int) (v := .int (v9 + (1 : Int32))) X hK hH in_RX9 tyX9 tyX9_ok nmX9 0 rfl rfl 34 (by decide) q_968 (fun _ h9 => h9) rfl (by decide +kernel) rfl rfl (Nat.le_of_ble_eq_true rfl) dX9_put_39 FX9_pending rfl (fun H locs hH => ?_)
          refine lv_goto (tgt := 58) hx hb dX9_put_42 (by decide) ?_
          exact J17 v6 (v9 + (1 : Int32)) g10 _ _ _ hf hH (lv_sub hl [0, 1] rfl)
  refine L11 FUEL o4 i_this_bits o2.1 o2.2 i_this_pending t_this_stream o11 _ _ _ ho11 hH (lv_sub hl [1, 0] rfl) (fun H locs ls hH hl => ?_)
  obtain rfl := Option.some.inj hf
  exact hE _ _ _ _ hH dX9_put_92
