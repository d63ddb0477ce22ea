theorem selimr {α β γ : Type} {f : α → Option γ} {g : β → Option γ} {x : β} {o : γ} (h : Sum.elim f g (.inr x) = some o) : g x = some o := h
def lf_X8_resize (i_this_picture_columns : Int32) (i_this_picture_rows : Int32) (t_this_picture_pixels : Nat → Int32) (p0 : Int32) (p1 : Int32) : Option (Nat ⊕ (Int32 × Int32 × Int32 × (Nat → Int32))) :=
(lf_X8_isPictureSize p0 p1).bind fun o1 => (if o1 = (0 : Int32) then some (Sum.inl 0) else (lf_X5_clear i_this_picture_columns i_this_picture_rows t_this_picture_pixels p0 p1).bind fun o3 => some (Sum.inr ((p0 * p1), o3.1, o3.2.1, o3.2.2)))
abbrev rm_X8_resize (k : Nat) : Room := { frames := 6, cells := k, slots := 6 * k, locals := 98 }
theorem hd_X8_resize : yX8_resize.cls ≠ "java/lang/invoke/MethodHandle" ∧ yX8_resize.cls ≠ "java/lang/invoke/VarHandle" ∧ (parseMethodDescriptor yX8_resize.desc).map (fun d => d.parameters.length) = some 2 := by decide +kernel
set_option maxHeartbeats 4000000 in
set_option maxRecDepth 100000 in
theorem ct_X8_resize (l : Launch) (G : gG) (h_this : Nat) (r_this r_this_picture : Nat → Nat) (i_this_layerCount i_this_hasDecoded i_this_codedCount i_this_codedWidth i_this_codedHeight i_this_replacedSize i_this_replacedPlainSize i_this_picture_columns i_this_picture_rows : Int32) (t_this_picture_pixels : Nat → Int32) (p0 p1 : Int32) (sz : Nat) (out : Nat ⊕ (Int32 × Int32 × Int32 × (Nat → Int32))) (hf : lf_X8_resize i_this_picture_columns i_this_picture_rows t_this_picture_pixels p0 p1 = some out) (hst : l.stackTraces = false) : gTi l G yX8_resize cX8_resize 3 .int (rm_X8_resize (tc out)) [.ref h_this, .int p0, .int p1] sz [(h_this, .inr (7, FX8 r_this i_this_layerCount i_this_hasDecoded i_this_codedCount i_this_codedWidth i_this_codedHeight i_this_replacedSize i_this_replacedPlainSize)), ((r_this 0), .inr (4, FX5 r_this_picture i_this_picture_columns i_this_picture_rows)), ((r_this_picture 2), gA G 384 t_this_picture_pixels)] out (fun x => x.1) (fun x u => [(h_this, .inr (7, FX8 r_this i_this_layerCount i_this_hasDecoded i_this_codedCount i_this_codedWidth i_this_codedHeight i_this_replacedSize i_this_replacedPlainSize)), ((r_this 0), .inr (4, FX5 r_this_picture x.2.1 x.2.2.1)), ((r_this_picture 2), gA G 384 x.2.2.2)]) := by
  refine gTi_of (by decide +kernel) (Nat.le_of_ble_eq_true rfl) ?_
  intro p e s m args below meth c ls A Q X hK hA hsz hH hl hS hZ hno hQ hE
  subst hsz
  have hx := X.1
  have hb := X.2.1
  unfold lf_X8_resize at hf
  have hl : lv_has ls 3 [(0, .ref h_this), (1, .int p0), (2, .int p1)] := hl
  have hH : gH G A s.heap s.heap [] [(h_this, .inr (7, FX8 r_this i_this_layerCount i_this_hasDecoded i_this_codedCount i_this_codedWidth i_this_codedHeight i_this_replacedSize i_this_replacedPlainSize)), ((r_this 0), .inr (4, FX5 r_this_picture i_this_picture_columns i_this_picture_rows)), ((r_this_picture 2), gA G 384 t_this_picture_pixels)] := hH
  refine lv_iload_n hx hb dX8_resize_0 rfl (lv_at hl 1 rfl) ?_
  refine lv_iload_n hx hb dX8_resize_1 rfl (lv_at hl 2 rfl) ?_
  obtain ⟨o1, ho1, hf⟩ := sbind hf
  refine g_cSi (isC := []) (isR := [0, 1, 2]) (isP := [0, 1, 2]) (wr := [(h_this, .inr (7, FX8 r_this i_this_layerCount i_this_hasDecoded i_this_codedCount i_this_codedWidth i_this_codedHeight i_this_replacedSize i_this_replacedPlainSize)), ((r_this 0), .inr (4, FX5 r_this_picture i_this_picture_columns i_this_picture_rows)), ((r_this_picture 2), gA G 384 t_this_picture_pixels)]) (w2 := [(h_this, .inr (7, FX8 r_this i_this_layerCount i_this_hasDecoded i_this_codedCount i_this_codedWidth i_this_codedHeight i_this_replacedSize i_this_replacedPlainSize)), ((r_this 0), .inr (4, FX5 r_this_picture i_this_picture_columns i_this_picture_rows)), ((r_this_picture 2), gA G 384 t_this_picture_pixels)]) X hK hA hH hl (ct_X8_isPictureSize l G p0 p1 s.heap.size o1 ho1) ⟨q_1, q_471, hd_X8_isPictureSize, rfl, rfl, ⟨Nat.le_of_ble_eq_true rfl, Nat.le_of_ble_eq_true rfl⟩, ⟨Nat.zero_le _, Nat.zero_le _⟩⟩ q_469 q_470 ⟨rfl, rfl, rfl, rfl, by decide, rfl, rfl⟩ rfl rfl (Nat.le_of_ble_eq_true rfl) dX8_resize_2 (fun H locs hH => ?_)
  refine lv_if_ne (tgt := 18) hx hb dX8_resize_5 (by decide) (fun c2 => ?_) (fun c2 => ?_)
  · have hf := sneg hf c2
    refine lv_aload_n hx hb dX8_resize_18 rfl (lv_at hl 0 rfl) ?_
    refine g_get (T := TX8) (N := 18) (ci := 7) (C := RX8) (v := .ref (r_this 0)) X hK hH in_RX8 0 rfl rfl 0 (by decide) q_212 (fun _ h9 => h9) rfl dX8_resize_19 ?_
    refine lv_iload_n hx hb dX8_resize_22 rfl (lv_at hl 1 rfl) ?_
    refine lv_iload_n hx hb dX8_resize_23 rfl (lv_at hl 2 rfl) ?_
    obtain ⟨o3, ho3, hf⟩ := sbind hf
    refine g_cVv (isC := [1, 2]) (isR := [0]) (isP := [0, 1, 2]) (wr := [(h_this, .inr (7, FX8 r_this i_this_layerCount i_this_hasDecoded i_this_codedCount i_this_codedWidth i_this_codedHeight i_this_replacedSize i_this_replacedPlainSize))]) (w2 := [(h_this, .inr (7, FX8 r_this i_this_layerCount i_this_hasDecoded i_this_codedCount i_this_codedWidth i_this_codedHeight i_this_replacedSize i_this_replacedPlainSize)), ((r_this 0), .inr (4, FX5 r_this_picture o3.1 o3.2.1)), ((r_this_picture 2), gA G 384 o3.2.2)]) (q0 := 1) X hK hA hH hl (ct_X5_clear l G (r_this 0) r_this_picture i_this_picture_columns i_this_picture_rows t_this_picture_pixels p0 p1 H.size o3 ho3) ⟨q_2, q_495, hd_X5_clear, rfl, rfl, ⟨Nat.le_of_ble_eq_true rfl, Nat.le_of_ble_eq_true rfl⟩, ⟨Nat.zero_le _, Nat.zero_le _⟩⟩ q_492 q_493 q_494 rfl rfl ⟨rfl, rfl, rfl, rfl, by decide, rfl, rfl⟩ rfl rfl (Nat.le_of_ble_eq_true rfl) dX8_resize_24 (fun H locs hH => ?_)
    refine lv_iload_n hx hb dX8_resize_27 rfl (lv_at hl 1 rfl) ?_
    refine lv_iload_n hx hb dX8_resize_28 rfl (lv_at hl 2 rfl) ?_
    refine lv_imul hx hb dX8_resize_29 ?_
    obtain rfl := Option.some.inj hf
    exact hE ((p0 * p1), o3.1, o3.2.1, o3.2.2) 0 _ _ _ _ rfl rfl hH dX8_resize_30
  · have hf := spos hf c2
    obtain rfl := Option.some.inj hf
    rw [hQ]
    exact g_throw X hst hK hS hZ hH hl hno 0 atG0 q_386 (List.mem_of_getElem? (i := 16) rfl) dX8_resize_8 dX8_resize_11 dX8_resize_12 dX8_resize_14 dX8_resize_17 ⟨Nat.le_of_ble_eq_true rfl, Nat.le_of_ble_eq_true rfl⟩ ⟨Nat.le_of_ble_eq_true rfl, Nat.le_of_ble_eq_true rfl⟩

def lf_X8_requirePixel (i_p0_columns : Int32) (i_p0_rows : Int32) (p1 : Int32) (p2 : Int32) : Option (Nat ⊕ (Unit)) :=
(lf_X5_has i_p0_columns i_p0_rows p1 p2).bind fun o1 => (if o1 = (0 : Int32) then some (Sum.inl 1) else some (Sum.inr ()))
abbrev rm_X8_requirePixel (k : Nat) : Room := { frames := 6, cells := k, slots := 6 * k, locals := 98 }
theorem hd_X8_requirePixel : yX8_requirePixel.cls ≠ "java/lang/invoke/MethodHandle" ∧ yX8_requirePixel.cls ≠ "java/lang/invoke/VarHandle" ∧ (parseMethodDescriptor yX8_requirePixel.desc).map (fun d => d.parameters.length) = some 3 := by decide +kernel
set_option maxHeartbeats 4000000 in
set_option maxRecDepth 100000 in
theorem ct_X8_requirePixel (l : Launch) (G : gG) (h_p0 : Nat) (r_p0 : Nat → Nat) (i_p0_columns i_p0_rows : Int32) (p1 p2 : Int32) (sz : Nat) (out : Nat ⊕ (Unit)) (hf : lf_X8_requirePixel i_p0_columns i_p0_rows p1 p2 = some out) (hst : l.stackTraces = false) : gTv l G yX8_requirePixel cX8_requirePixel 3 (rm_X8_requirePixel (tc out)) [.ref h_p0, .int p1, .int p2] sz [(h_p0, .inr (4, FX5 r_p0 i_p0_columns i_p0_rows))] out (fun x u => [(h_p0, .inr (4, FX5 r_p0 i_p0_columns i_p0_rows))]) := by
  refine gTv_of (by decide +kernel) (Nat.le_of_ble_eq_true rfl) ?_
  intro p e s m args below meth c ls A Q X hK hA hsz hH hl hS hZ hno hQ hE
  subst hsz
  have hx := X.1
  have hb := X.2.1
  unfold lf_X8_requirePixel at hf
  have hl : lv_has ls 3 [(0, .ref h_p0), (1, .int p1), (2, .int p2)] := hl
  have hH : gH G A s.heap s.heap [] [(h_p0, .inr (4, FX5 r_p0 i_p0_columns i_p0_rows))] := hH
  refine lv_aload_n hx hb dX8_requirePixel_0 rfl (lv_at hl 0 rfl) ?_
  refine lv_iload_n hx hb dX8_requirePixel_1 rfl (lv_at hl 1 rfl) ?_
  refine lv_iload_n hx hb dX8_requirePixel_2 rfl (lv_at hl 2 rfl) ?_
  obtain ⟨o1, ho1, hf⟩ := sbind hf
  refine g_cVi (isC := [0]) (isR := []) (isP := [0]) (wr := []) (w2 := [(h_p0, .inr (4, FX5 r_p0 i_p0_columns i_p0_rows))]) (q0 := 0) X hK hA hH hl (ct_X5_has l G h_p0 r_p0 i_p0_columns i_p0_rows p1 p2 s.heap.size o1 ho1) ⟨q_2, q_313, hd_X5_has, rfl, rfl, ⟨Nat.le_of_ble_eq_true rfl, Nat.le_of_ble_eq_true rfl⟩, ⟨Nat.zero_le _, Nat.zero_le _⟩⟩ q_310 q_311 q_312 rfl rfl ⟨rfl, rfl, rfl, rfl, by decide, rfl, rfl⟩ rfl rfl (Nat.le_of_ble_eq_true rfl) dX8_requirePixel_3 (fun H locs hH => ?_)
  refine lv_if_ne (tgt := 20) hx hb dX8_requirePixel_6 (by decide) (fun c2 => ?_) (fun c2 => ?_)
  · have hf := sneg hf c2
    obtain rfl := Option.some.inj hf
    exact hE () 0 _ _ _ _ rfl hH dX8_requirePixel_20
  · have hf := spos hf c2
    obtain rfl := Option.some.inj hf
    rw [hQ]
    exact g_throwW X hst hK hS hZ hH hl hno 1 atG1 q_314 (List.mem_of_getElem? (i := 0) rfl) dX8_requirePixel_9 dX8_requirePixel_12 dX8_requirePixel_13 dX8_requirePixel_16 dX8_requirePixel_19 ⟨Nat.le_of_ble_eq_true rfl, Nat.le_of_ble_eq_true rfl⟩ ⟨Nat.le_of_ble_eq_true rfl, Nat.le_of_ble_eq_true rfl⟩

def lf_X8_requireByte (p0 : Int32) : Option (Nat ⊕ (Unit)) :=
jn (fun (z2 : Unit) => some (Sum.inl 0)) (fun k2 => (if p0 < (0 : Int32) then k2 () else (if p0 ≤ (255 : Int32) then some (Sum.inr ()) else k2 ())))
abbrev rm_X8_requireByte (k : Nat) : Room := { frames := 6, cells := k, slots := 6 * k, locals := 98 }
theorem hd_X8_requireByte : yX8_requireByte.cls ≠ "java/lang/invoke/MethodHandle" ∧ yX8_requireByte.cls ≠ "java/lang/invoke/VarHandle" ∧ (parseMethodDescriptor yX8_requireByte.desc).map (fun d => d.parameters.length) = some 1 := by decide +kernel
set_option maxHeartbeats 4000000 in
set_option maxRecDepth 100000 in
theorem ct_X8_requireByte (l : Launch) (G : gG) (p0 : Int32) (sz : Nat) (out : Nat ⊕ (Unit)) (hf : lf_X8_requireByte p0 = some out) (hst : l.stackTraces = false) : gTv l G yX8_requireByte cX8_requireByte 1 (rm_X8_requireByte (tc out)) [.int p0] sz [] out (fun x u => []) := by
  refine gTv_of (by decide +kernel) (Nat.le_of_ble_eq_true rfl) ?_
  intro p e s m args below meth c ls A Q X hK hA hsz hH hl hS hZ hno hQ hE
  subst hsz
  have hx := X.1
  have hb := X.2.1
  unfold lf_X8_requireByte at hf
  have hl : lv_has ls 1 [(0, .int p0)] := hl
  have hH : gH G A s.heap s.heap [] [] := hH
  refine lv_iload_n hx hb dX8_requireByte_0 rfl (lv_at hl 0 rfl) ?_
  obtain ⟨k2, hk2, hf⟩ := sjn hf
  have J2 : ∀  (H : Heap) (locs : List Loc) (ls : Array Slot), k2 () = some out → gH G A s.heap H locs [] → lv_has ls 1 [] → W p l e (rm_X8_requireByte (tc out)) s m args below meth c H locs 0 0 Q (F0 m 11 ls []) := by
    intro  H locs ls hf hH hl
    have hf := hk2 _ _ hf
    obtain rfl := Option.some.inj hf
    rw [hQ]
    exact g_throwW X hst hK hS hZ hH hl hno 0 atG0 q_386 (List.mem_of_getElem? (i := 1) rfl) dX8_requireByte_11 dX8_requireByte_14 dX8_requireByte_15 dX8_requireByte_18 dX8_requireByte_21 ⟨Nat.le_of_ble_eq_true rfl, Nat.le_of_ble_eq_true rfl⟩ ⟨Nat.le_of_ble_eq_true rfl, Nat.le_of_ble_eq_true rfl⟩
  refine lv_if_lt (tgt := 11) hx hb dX8_requireByte_1 (by decide) (fun c1 => ?_) (fun c1 => ?_)
  · have hf := spos hf c1
    exact J2  _ _ _ hf hH (lv_sub hl [] rfl)
  · have hf := sneg hf c1
    refine lv_iload_n hx hb dX8_requireByte_4 rfl (lv_at hl 0 rfl) ?_
    refine lv_sipush (v := (255 : Int32)) hx hb dX8_requireByte_5 (by decide) ?_
    refine lv_icmp_le (tgt := 22) hx hb dX8_requireByte_8 (by decide) (fun c3 => ?_) (fun c3 => ?_)
    · have hf := spos hf c3
      obtain rfl := Option.some.inj hf
      exact hE () 0 _ _ _ _ rfl hH dX8_requireByte_22
    · have hf := sneg hf c3
      exact J2  _ _ _ hf hH (lv_sub hl [] rfl)

def lf_X8_set (i_this_picture_columns : Int32) (i_this_picture_rows : Int32) (t_this_picture_pixels : Nat → Int32) (p0 : Int32) (p1 : Int32) (p2 : Int32) : Option (Nat ⊕ (Int32 × (Nat → Int32))) :=
(lf_X8_requirePixel i_this_picture_columns i_this_picture_rows p0 p1).bind fun o1 => Sum.elim (fun kk => some (Sum.inl kk)) (fun r2 => (lf_X8_requireByte p2).bind fun o5 => Sum.elim (fun kk => some (Sum.inl kk)) (fun r6 => (lf_X5_at i_this_picture_columns i_this_picture_rows t_this_picture_pixels p0 p1).bind fun o9 => (lf_X5_put i_this_picture_columns i_this_picture_rows t_this_picture_pixels p0 p1 p2).bind fun o10 => some (Sum.inr (o9, o10))) o5) o1
abbrev rm_X8_set (k : Nat) : Room := { frames := 7, cells := k, slots := 6 * k, locals := 120 }
theorem hd_X8_set : yX8_set.cls ≠ "java/lang/invoke/MethodHandle" ∧ yX8_set.cls ≠ "java/lang/invoke/VarHandle" ∧ (parseMethodDescriptor yX8_set.desc).map (fun d => d.parameters.length) = some 3 := by decide +kernel
set_option maxHeartbeats 4000000 in
set_option maxRecDepth 100000 in
theorem ct_X8_set (l : Launch) (G : gG) (h_this : Nat) (r_this r_this_picture : Nat → Nat) (i_this_layerCount i_this_hasDecoded i_this_codedCount i_this_codedWidth i_this_codedHeight i_this_replacedSize i_this_replacedPlainSize i_this_picture_columns i_this_picture_rows : Int32) (t_this_picture_pixels : Nat → Int32) (p0 p1 p2 : Int32) (sz : Nat) (out : Nat ⊕ (Int32 × (Nat → Int32))) (hf : lf_X8_set i_this_picture_columns i_this_picture_rows t_this_picture_pixels p0 p1 p2 = some out) (hst : l.stackTraces = false) : gTi l G yX8_set cX8_set 5 .int (rm_X8_set (tc out)) [.ref h_this, .int p0, .int p1, .int p2] sz [(h_this, .inr (7, FX8 r_this i_this_layerCount i_this_hasDecoded i_this_codedCount i_this_codedWidth i_this_codedHeight i_this_replacedSize i_this_replacedPlainSize)), ((r_this 0), .inr (4, FX5 r_this_picture i_this_picture_columns i_this_picture_rows)), ((r_this_picture 2), gA G 384 t_this_picture_pixels)] out (fun x => x.1) (fun x u => [(h_this, .inr (7, FX8 r_this i_this_layerCount i_this_hasDecoded i_this_codedCount i_this_codedWidth i_this_codedHeight i_this_replacedSize i_this_replacedPlainSize)), ((r_this 0), .inr (4, FX5 r_this_picture i_this_picture_columns i_this_picture_rows)), ((r_this_picture 2), gA G 384 x.2)]) := by
  refine gTi_of (by decide +kernel) (Nat.le_of_ble_eq_true rfl) ?_
  intro p e s m args below meth c ls A Q X hK hA hsz hH hl hS hZ hno hQ hE
  subst hsz
  have hx := X.1
  have hb := X.2.1
  unfold lf_X8_set at hf
  have hl : lv_has ls 5 [(0, .ref h_this), (1, .int p0), (2, .int p1), (3, .int p2)] := hl
  have hH : gH G A s.heap s.heap [] [(h_this, .inr (7, FX8 r_this i_this_layerCount i_this_hasDecoded i_this_codedCount i_this_codedWidth i_this_codedHeight i_this_replacedSize i_this_replacedPlainSize)), ((r_this 0), .inr (4, FX5 r_this_picture i_this_picture_columns i_this_picture_rows)), ((r_this_picture 2), gA G 384 t_this_picture_pixels)] := hH
  refine lv_aload_n hx hb dX8_set_0 rfl (lv_at hl 0 rfl) ?_
  refine g_get (T := TX8) (N := 18) (ci := 7) (C := RX8) (v := .ref (r_this 0)) X hK hH in_RX8 0 rfl rfl 0 (by decide) q_212 (fun _ h9 => h9) rfl dX8_set_1 ?_
  refine lv_iload_n hx hb dX8_set_4 rfl (lv_at hl 1 rfl) ?_
  refine lv_iload_n hx hb dX8_set_5 rfl (lv_at hl 2 rfl) ?_
  obtain ⟨o1, ho1, hf⟩ := sbind hf
  rcases o1 with k4 | r2
  · obtain rfl := Option.some.inj hf
    rw [hQ]
    exact g_tSx (isC := [1]) (isR := [0, 2]) (isP := [0, 2, 1]) (wr := [(h_this, .inr (7, FX8 r_this i_this_layerCount i_this_hasDecoded i_this_codedCount i_this_codedWidth i_this_codedHeight i_this_replacedSize i_this_replacedPlainSize)), ((r_this_picture 2), gA G 384 t_this_picture_pixels)]) X hK hS hZ hno hA hH hl (ct_X8_requirePixel l G (r_this 0) r_this_picture i_this_picture_columns i_this_picture_rows p0 p1 s.heap.size _ ho1 hst) ⟨q_1, q_309, hd_X8_requirePixel, rfl, rfl, ⟨Nat.le_of_ble_eq_true rfl, Nat.le_of_ble_eq_true rfl⟩, ⟨Nat.le_of_ble_eq_true rfl, Nat.le_of_ble_eq_true rfl⟩⟩ q_307 q_308 ⟨rfl, rfl, rfl, rfl, by decide, rfl, rfl⟩ rfl rfl (Nat.le_of_ble_eq_true rfl) dX8_set_6
  have hf := selimr hf
  refine g_tSr (isC := [1]) (isR := [0, 2]) (isP := [0, 2, 1]) (wr := [(h_this, .inr (7, FX8 r_this i_this_layerCount i_this_hasDecoded i_this_codedCount i_this_codedWidth i_this_codedHeight i_this_replacedSize i_this_replacedPlainSize)), ((r_this_picture 2), gA G 384 t_this_picture_pixels)]) (w2 := (fun u3 => [(h_this, .inr (7, FX8 r_this i_this_layerCount i_this_hasDecoded i_this_codedCount i_this_codedWidth i_this_codedHeight i_this_replacedSize i_this_replacedPlainSize)), ((r_this 0), .inr (4, FX5 r_this_picture i_this_picture_columns i_this_picture_rows)), ((r_this_picture 2), gA G 384 t_this_picture_pixels)])) X hK hS hZ hA hH hl (ct_X8_requirePixel l G (r_this 0) r_this_picture i_this_picture_columns i_this_picture_rows p0 p1 s.heap.size _ ho1 hst) ⟨q_1, q_309, hd_X8_requirePixel, rfl, rfl, ⟨Nat.le_of_ble_eq_true rfl, Nat.le_of_ble_eq_true rfl⟩, ⟨Nat.zero_le _, Nat.zero_le _⟩⟩ q_307 q_308 (fun _ => ⟨rfl, rfl, rfl, rfl, by decide, rfl, rfl⟩) rfl rfl (Nat.le_of_ble_eq_true rfl) dX8_set_6 (fun u3 H locs hH => ?_)
  refine lv_iload_n hx hb dX8_set_9 rfl (lv_at hl 3 rfl) ?_
  obtain ⟨o5, ho5, hf⟩ := sbind hf
  rcases o5 with k8 | r6
  · obtain rfl := Option.some.inj hf
    rw [hQ]
    exact g_tSx (isC := []) (isR := [0, 1, 2]) (isP := [0, 1, 2]) (wr := [(h_this, .inr (7, FX8 r_this i_this_layerCount i_this_hasDecoded i_this_codedCount i_this_codedWidth i_this_codedHeight i_this_replacedSize i_this_replacedPlainSize)), ((r_this 0), .inr (4, FX5 r_this_picture i_this_picture_columns i_this_picture_rows)), ((r_this_picture 2), gA G 384 t_this_picture_pixels)]) X hK hS hZ hno hA hH hl (ct_X8_requireByte l G p2 H.size _ ho5 hst) ⟨q_1, q_385, hd_X8_requireByte, rfl, rfl, ⟨Nat.le_of_ble_eq_true rfl, Nat.le_of_ble_eq_true rfl⟩, ⟨Nat.le_of_ble_eq_true rfl, Nat.le_of_ble_eq_true rfl⟩⟩ q_383 q_384 ⟨rfl, rfl, rfl, rfl, by decide, rfl, rfl⟩ rfl rfl (Nat.le_of_ble_eq_true rfl) dX8_set_10
  have hf := selimr hf
  refine g_tSr (isC := []) (isR := [0, 1, 2]) (isP := [0, 1, 2]) (wr := [(h_this, .inr (7, FX8 r_this i_this_layerCount i_this_hasDecoded i_this_codedCount i_this_codedWidth i_this_codedHeight i_this_replacedSize i_this_replacedPlainSize)), ((r_this 0), .inr (4, FX5 r_this_picture i_this_picture_columns i_this_picture_rows)), ((r_this_picture 2), gA G 384 t_this_picture_pixels)]) (w2 := (fun u7 => [(h_this, .inr (7, FX8 r_this i_this_layerCount i_this_hasDecoded i_this_codedCount i_this_codedWidth i_this_codedHeight i_this_replacedSize i_this_replacedPlainSize)), ((r_this 0), .inr (4, FX5 r_this_picture i_this_picture_columns i_this_picture_rows)), ((r_this_picture 2), gA G 384 t_this_picture_pixels)])) X hK hS hZ hA hH hl (ct_X8_requireByte l G p2 H.size _ ho5 hst) ⟨q_1, q_385, hd_X8_requireByte, rfl, rfl, ⟨Nat.le_of_ble_eq_true rfl, Nat.le_of_ble_eq_true rfl⟩, ⟨Nat.zero_le _, Nat.zero_le _⟩⟩ q_383 q_384 (fun _ => ⟨rfl, rfl, rfl, rfl, by decide, rfl, rfl⟩) rfl rfl (Nat.le_of_ble_eq_true rfl) dX8_set_10 (fun u7 H locs hH => ?_)
  refine lv_aload_n hx hb dX8_set_13 rfl (lv_at hl 0 rfl) ?_
  refine g_get (T := TX8) (N := 18) (ci := 7) (C := RX8) (v := .ref (r_this 0)) X hK hH in_RX8 0 rfl rfl 0 (by decide) q_212 (fun _ h9 => h9) rfl dX8_set_14 ?_
  refine lv_iload_n hx hb dX8_set_17 rfl (lv_at hl 1 rfl) ?_
  refine lv_iload_n hx hb dX8_set_18 rfl (lv_at hl 2 rfl) ?_
  obtain ⟨o9, ho9, hf⟩ := sbind hf
  refine g_cVi (isC := [1, 2]) (isR := [0]) (isP := [0, 1, 2]) (wr := [(h_this, .inr (7, FX8 r_this i_this_layerCount i_this_hasDecoded i_this_codedCount i_this_codedWidth i_this_codedHeight i_this_replacedSize i_this_replacedPlainSize))]) (w2 := [(h_this, .inr (7, FX8 r_this i_this_layerCount i_this_hasDecoded i_this_codedCount i_this_codedWidth i_this_codedHeight i_this_replacedSize i_this_replacedPlainSize)), ((r_this 0), .inr (4, FX5 r_this_picture i_this_picture_columns i_this_picture_rows)), ((r_this_picture 2), gA G 384 t_this_picture_pixels)]) (q0 := 1) X hK hA hH hl (ct_X5_at l G (r_this 0) r_this_picture i_this_picture_columns i_this_picture_rows t_this_picture_pixels p0 p1 H.size o9 ho9) ⟨q_2, q_418, hd_X5_at, rfl, rfl, ⟨Nat.le_of_ble_eq_true rfl, Nat.le_of_ble_eq_true rfl⟩, ⟨Nat.zero_le _, Nat.zero_le _⟩⟩ q_415 q_416 q_417 rfl rfl ⟨rfl, rfl, rfl, rfl, by decide, rfl, rfl⟩ rfl rfl (Nat.le_of_ble_eq_true rfl) dX8_set_19 (fun H locs hH => ?_)
  refine lv_istore (lv' := [(4, .int o9), (0, .ref h_this), (1, .int p0), (2, .int p1), (3, .int p2)]) hx hb dX8_set_22 hl (by decide) rfl (fun ls hl => ?_)
  refine lv_aload_n hx hb dX8_set_24 rfl (lv_at hl 1 rfl) ?_
  refine g_get (T := TX8) (N := 18) (ci := 7) (C := RX8) (v := .ref (r_this 0)) X hK hH in_RX8 0 rfl rfl 0 (by decide) q_212 (fun _ h9 => h9) rfl dX8_set_25 ?_
  refine lv_iload_n hx hb dX8_set_28 rfl (lv_at hl 2 rfl) ?_
  refine lv_iload_n hx hb dX8_set_29 rfl (lv_at hl 3 rfl) ?_
  refine lv_iload_n hx hb dX8_set_30 rfl (lv_at hl 4 rfl) ?_
  obtain ⟨o10, ho10, hf⟩ := sbind hf
  refine g_cVv (isC := [1, 2]) (isR := [0]) (isP := [0, 1, 2]) (wr := [(h_this, .inr (7, FX8 r_this i_this_layerCount i_this_hasDecoded i_this_codedCount i_this_codedWidth i_this_codedHeight i_this_replacedSize i_this_replacedPlainSize))]) (w2 := [(h_this, .inr (7, FX8 r_this i_this_layerCount i_this_hasDecoded i_this_codedCount i_this_codedWidth i_this_codedHeight i_this_replacedSize i_this_replacedPlainSize)), ((r_this 0), .inr (4, FX5 r_this_picture i_this_picture_columns i_this_picture_rows)), ((r_this_picture 2), gA G 384 o10)]) (q0 := 1) X hK hA hH hl (ct_X5_put l G (r_this 0) r_this_picture i_this_picture_columns i_this_picture_rows t_this_picture_pixels p0 p1 p2 H.size o10 ho10) ⟨q_2, q_406, hd_X5_put, rfl, rfl, ⟨Nat.le_of_ble_eq_true rfl, Nat.le_of_ble_eq_true rfl⟩, ⟨Nat.zero_le _, Nat.zero_le _⟩⟩ q_403 q_404 q_405 rfl rfl ⟨rfl, rfl, rfl, rfl, by decide, rfl, rfl⟩ rfl rfl (Nat.le_of_ble_eq_true rfl) dX8_set_31 (fun H locs hH => ?_)
  refine lv_iload hx hb dX8_set_34 (lv_at hl 0 rfl) ?_
  obtain rfl := Option.some.inj hf
  exact hE (o9, o10) 0 _ _ _ _ rfl rfl hH dX8_set_36

def lf_X8_fill (i_this_picture_columns : Int32) (i_this_picture_rows : Int32) (t_this_picture_pixels : Nat → Int32) (p0 : Int32) (p1 : Int32) (p2 : Int32) (p3 : Int32) (p4 : Int32) : Option (Nat ⊕ (Int32 × (Nat → Int32))) :=
(lf_X8_requirePixel i_this_picture_columns i_this_picture_rows p0 p1).bind fun o1 => Sum.elim (fun kk => some (Sum.inl kk)) (fun r2 => (lf_X8_requireByte p4).bind fun o5 => Sum.elim (fun kk => some (Sum.inl kk)) (fun r6 => jn (fun (z10 : Unit) => some (Sum.inl 0)) (fun k10 => (if p2 < (1 : Int32) then k10 () else (if p3 < (1 : Int32) then k10 () else (if (i_this_picture_columns - p0) < p2 then k10 () else (if p3 ≤ (i_this_picture_rows - p1) then (fixN FUEL (fun (self16 : (Int32 × (Nat → Int32)) → Option ((Nat → Int32))) (z16 : Int32 × (Nat → Int32)) => (fun (x14 : Int32) (g15 : (Nat → Int32)) => (if (p1 + p3) ≤ x14 then some g15 else (fixN FUEL (fun (self20 : (Int32 × (Nat → Int32)) → Option ((Nat → Int32))) (z20 : Int32 × (Nat → Int32)) => (fun (x18 : Int32) (g19 : (Nat → Int32)) => (if (p0 + p2) ≤ x18 then some g19 else (lf_X5_put i_this_picture_columns i_this_picture_rows g19 x18 x14 p4).bind fun o22 => bnd (x18 + (1 : Int32)) fun x23 => self20 (x23, o22))) z20.1 z20.2) (p0, g15)).bind fun o20 => bnd (x14 + (1 : Int32)) fun x24 => self16 (x24, o20))) z16.1 z16.2) (p1, t_this_picture_pixels)).bind fun o16 => some (Sum.inr ((p2 * p3), o16)) else k10 ())))))) o5) o1
abbrev rm_X8_fill (k : Nat) : Room := { frames := 7, cells := k, slots := 6 * k, locals := 120 }
theorem hd_X8_fill : yX8_fill.cls ≠ "java/lang/invoke/MethodHandle" ∧ yX8_fill.cls ≠ "java/lang/invoke/VarHandle" ∧ (parseMethodDescriptor yX8_fill.desc).map (fun d => d.parameters.length) = some 5 := by decide +kernel
set_option maxHeartbeats 4000000 in
set_option maxRecDepth 100000 in
theorem ct_X8_fill (l : Launch) (G : gG) (h_this : Nat) (r_this r_this_picture : Nat → Nat) (i_this_layerCount i_this_hasDecoded i_this_codedCount i_this_codedWidth i_this_codedHeight i_this_replacedSize i_this_replacedPlainSize i_this_picture_columns i_this_picture_rows : Int32) (t_this_picture_pixels : Nat → Int32) (p0 p1 p2 p3 p4 : Int32) (sz : Nat) (out : Nat ⊕ (Int32 × (Nat → Int32))) (hf : lf_X8_fill i_this_picture_columns i_this_picture_rows t_this_picture_pixels p0 p1 p2 p3 p4 = some out) (hst : l.stackTraces = false) : gTi l G yX8_fill cX8_fill 8 .int (rm_X8_fill (tc out)) [.ref h_this, .int p0, .int p1, .int p2, .int p3, .int p4] sz [(h_this, .inr (7, FX8 r_this i_this_layerCount i_this_hasDecoded i_this_codedCount i_this_codedWidth i_this_codedHeight i_this_replacedSize i_this_replacedPlainSize)), ((r_this 0), .inr (4, FX5 r_this_picture i_this_picture_columns i_this_picture_rows)), ((r_this_picture 2), gA G 384 t_this_picture_pixels)] out (fun x => x.1) (fun x u => [(h_this, .inr (7, FX8 r_this i_this_layerCount i_this_hasDecoded i_this_codedCount i_this_codedWidth i_this_codedHeight i_this_replacedSize i_this_replacedPlainSize)), ((r_this 0), .inr (4, FX5 r_this_picture i_this_picture_columns i_this_picture_rows)), ((r_this_picture 2), gA G 384 x.2)]) := by
  refine gTi_of (by decide +kernel) (Nat.le_of_ble_eq_true rfl) ?_
  intro p e s m args below meth c ls A Q X hK hA hsz hH hl hS hZ hno hQ hE
  subst hsz
  have hx := X.1
  have hb := X.2.1
  unfold lf_X8_fill at hf
  have hl : lv_has ls 8 [(0, .ref h_this), (1, .int p0), (2, .int p1), (3, .int p2), (4, .int p3), (5, .int p4)] := hl
  have hH : gH G A s.heap s.heap [] [(h_this, .inr (7, FX8 r_this i_this_layerCount i_this_hasDecoded i_this_codedCount i_this_codedWidth i_this_codedHeight i_this_replacedSize i_this_replacedPlainSize)), ((r_this 0), .inr (4, FX5 r_this_picture i_this_picture_columns i_this_picture_rows)), ((r_this_picture 2), gA G 384 t_this_picture_pixels)] := hH
  refine lv_aload_n hx hb dX8_fill_0 rfl (lv_at hl 0 rfl) ?_
  refine g_get (T := TX8) (N := 18) (ci := 7) (C := RX8) (v := .ref (r_this 0)) X hK hH in_RX8 0 rfl rfl 0 (by decide) q_212 (fun _ h9 => h9) rfl dX8_fill_1 ?_
  refine lv_iload_n hx hb dX8_fill_4 rfl (lv_at hl 1 rfl) ?_
  refine lv_iload_n hx hb dX8_fill_5 rfl (lv_at hl 2 rfl) ?_
  obtain ⟨o1, ho1, hf⟩ := sbind hf
  rcases o1 with k4 | r2
  · obtain rfl := Option.some.inj hf
    rw [hQ]
    exact g_tSx (isC := [1]) (isR := [0, 2]) (isP := [0, 2, 1]) (wr := [(h_this, .inr (7, FX8 r_this i_this_layerCount i_this_hasDecoded i_this_codedCount i_this_codedWidth i_this_codedHeight i_this_replacedSize i_this_replacedPlainSize)), ((r_this_picture 2), gA G 384 t_this_picture_pixels)]) X hK hS hZ hno hA hH hl (ct_X8_requirePixel l G (r_this 0) r_this_picture i_this_picture_columns i_this_picture_rows p0 p1 s.heap.size _ ho1 hst) ⟨q_1, q_309, hd_X8_requirePixel, rfl, rfl, ⟨Nat.le_of_ble_eq_true rfl, Nat.le_of_ble_eq_true rfl⟩, ⟨Nat.le_of_ble_eq_true rfl, Nat.le_of_ble_eq_true rfl⟩⟩ q_307 q_308 ⟨rfl, rfl, rfl, rfl, by decide, rfl, rfl⟩ rfl rfl (Nat.le_of_ble_eq_true rfl) dX8_fill_6
  have hf := selimr hf
  refine g_tSr (isC := [1]) (isR := [0, 2]) (isP := [0, 2, 1]) (wr := [(h_this, .inr (7, FX8 r_this i_this_layerCount i_this_hasDecoded i_this_codedCount i_this_codedWidth i_this_codedHeight i_this_replacedSize i_this_replacedPlainSize)), ((r_this_picture 2), gA G 384 t_this_picture_pixels)]) (w2 := (fun u3 => [(h_this, .inr (7, FX8 r_this i_this_layerCount i_this_hasDecoded i_this_codedCount i_this_codedWidth i_this_codedHeight i_this_replacedSize i_this_replacedPlainSize)), ((r_this 0), .inr (4, FX5 r_this_picture i_this_picture_columns i_this_picture_rows)), ((r_this_picture 2), gA G 384 t_this_picture_pixels)])) X hK hS hZ hA hH hl (ct_X8_requirePixel l G (r_this 0) r_this_picture i_this_picture_columns i_this_picture_rows p0 p1 s.heap.size _ ho1 hst) ⟨q_1, q_309, hd_X8_requirePixel, rfl, rfl, ⟨Nat.le_of_ble_eq_true rfl, Nat.le_of_ble_eq_true rfl⟩, ⟨Nat.zero_le _, Nat.zero_le _⟩⟩ q_307 q_308 (fun _ => ⟨rfl, rfl, rfl, rfl, by decide, rfl, rfl⟩) rfl rfl (Nat.le_of_ble_eq_true rfl) dX8_fill_6 (fun u3 H locs hH => ?_)
  refine lv_iload hx hb dX8_fill_9 (lv_at hl 5 rfl) ?_
  obtain ⟨o5, ho5, hf⟩ := sbind hf
  rcases o5 with k8 | r6
  · obtain rfl := Option.some.inj hf
    rw [hQ]
    exact g_tSx (isC := []) (isR := [0, 1, 2]) (isP := [0, 1, 2]) (wr := [(h_this, .inr (7, FX8 r_this i_this_layerCount i_this_hasDecoded i_this_codedCount i_this_codedWidth i_this_codedHeight i_this_replacedSize i_this_replacedPlainSize)), ((r_this 0), .inr (4, FX5 r_this_picture i_this_picture_columns i_this_picture_rows)), ((r_this_picture 2), gA G 384 t_this_picture_pixels)]) X hK hS hZ hno hA hH hl (ct_X8_requireByte l G p4 H.size _ ho5 hst) ⟨q_1, q_385, hd_X8_requireByte, rfl, rfl, ⟨Nat.le_of_ble_eq_true rfl, Nat.le_of_ble_eq_true rfl⟩, ⟨Nat.le_of_ble_eq_true rfl, Nat.le_of_ble_eq_true rfl⟩⟩ q_383 q_384 ⟨rfl, rfl, rfl, rfl, by decide, rfl, rfl⟩ rfl rfl (Nat.le_of_ble_eq_true rfl) dX8_fill_11
  have hf := selimr hf
  refine g_tSr (isC := []) (isR := [0, 1, 2]) (isP := [0, 1, 2]) (wr := [(h_this, .inr (7, FX8 r_this i_this_layerCount i_this_hasDecoded i_this_codedCount i_this_codedWidth i_this_codedHeight i_this_replacedSize i_this_replacedPlainSize)), ((r_this 0), .inr (4, FX5 r_this_picture i_this_picture_columns i_this_picture_rows)), ((r_this_picture 2), gA G 384 t_this_picture_pixels)]) (w2 := (fun u7 => [(h_this, .inr (7, FX8 r_this i_this_layerCount i_this_hasDecoded i_this_codedCount i_this_codedWidth i_this_codedHeight i_this_replacedSize i_this_replacedPlainSize)), ((r_this 0), .inr (4, FX5 r_this_picture i_this_picture_columns i_this_picture_rows)), ((r_this_picture 2), gA G 384 t_this_picture_pixels)])) X hK hS hZ hA hH hl (ct_X8_requireByte l G p4 H.size _ ho5 hst) ⟨q_1, q_385, hd_X8_requireByte, rfl, rfl, ⟨Nat.le_of_ble_eq_true rfl, Nat.le_of_ble_eq_true rfl⟩, ⟨Nat.zero_le _, Nat.zero_le _⟩⟩ q_383 q_384 (fun _ => ⟨rfl, rfl, rfl, rfl, by decide, rfl, rfl⟩) rfl rfl (Nat.le_of_ble_eq_true rfl) dX8_fill_11 (fun u7 H locs hH => ?_)
  refine lv_iload_n hx hb dX8_fill_14 rfl (lv_at hl 3 rfl) ?_
  refine lv_iconst (v := (1 : Int32)) hx hb dX8_fill_15 (by decide) ?_
  obtain ⟨k10, hk10, hf⟩ := sjn hf
  have J10 : ∀  (H : Heap) (locs : List Loc) (ls : Array Slot), k10 () = some out → gH G A s.heap H locs [(h_this, .inr (7, FX8 r_this i_this_layerCount i_this_hasDecoded i_this_codedCount i_this_codedWidth i_this_codedHeight i_this_replacedSize i_this_replacedPlainSize)), ((r_this 0), .inr (4, FX5 r_this_picture i_this_picture_columns i_this_picture_rows)), ((r_this_picture 2), gA G 384 t_this_picture_pixels)] → lv_has ls 8 [] → W p l e (rm_X8_fill (tc out)) s m args below meth c H locs 0 0 Q (F0 m 52 ls []) := by
    intro  H locs ls hf hH hl
    have hf := hk10 _ _ hf
    obtain rfl := Option.some.inj hf
    rw [hQ]
    exact g_throw X hst hK hS hZ hH hl hno 0 atG0 q_386 (List.mem_of_getElem? (i := 2) rfl) dX8_fill_52 dX8_fill_55 dX8_fill_56 dX8_fill_58 dX8_fill_61 ⟨Nat.le_of_ble_eq_true rfl, Nat.le_of_ble_eq_true rfl⟩ ⟨Nat.le_of_ble_eq_true rfl, Nat.le_of_ble_eq_true rfl⟩
  refine lv_icmp_lt (tgt := 52) hx hb dX8_fill_16 (by decide) (fun c9 => ?_) (fun c9 => ?_)
  · have hf := spos hf c9
    exact J10  _ _ _ hf hH (lv_sub hl [] rfl)
  · have hf := sneg hf c9
    refine lv_iload hx hb dX8_fill_19 (lv_at hl 4 rfl) ?_
    refine lv_iconst (v := (1 : Int32)) hx hb dX8_fill_21 (by decide) ?_
    refine lv_icmp_lt (tgt := 52) hx hb dX8_fill_22 (by decide) (fun c11 => ?_) (fun c11 => ?_)
    · have hf := spos hf c11
      exact J10  _ _ _ hf hH (lv_sub hl [] rfl)
    · have hf := sneg hf c11
      refine lv_iload_n hx hb dX8_fill_25 rfl (lv_at hl 3 rfl) ?_
      refine lv_aload_n hx hb dX8_fill_26 rfl (lv_at hl 0 rfl) ?_
      refine g_get (T := TX8) (N := 18) (ci := 7) (C := RX8) (v := .ref (r_this 0)) X hK hH in_RX8 0 rfl rfl 0 (by decide) q_212 (fun _ h9 => h9) rfl dX8_fill_27 ?_
      refine g_getN (T := TX5) (N := 3) (ci := 4) (C := RX5) (v := .int i_this_picture_columns) X hK hH in_RX5 1 rfl rfl 0 (by decide) qn_48 (fun _ h9 => h9) rfl dX8_fill_30 ?_
      refine lv_iload_n hx hb dX8_fill_33 rfl (lv_at hl 1 rfl) ?_
      refine lv_isub hx hb dX8_fill_34 ?_
      refine lv_icmp_gt (tgt := 52) hx hb dX8_fill_35 (by decide) (fun c12 => ?_) (fun c12 => ?_)
      · have hf := spos hf c12
        exact J10  _ _ _ hf hH (lv_sub hl [] rfl)
      · have hf := sneg hf c12
        refine lv_iload hx hb dX8_fill_38 (lv_at hl 4 rfl) ?_
        refine lv_aload_n hx hb dX8_fill_40 rfl (lv_at hl 0 rfl) ?_
        refine g_get (T := TX8) (N := 18) (ci := 7) (C := RX8) (v := .ref (r_this 0)) X hK hH in_RX8 0 rfl rfl 0 (by decide) q_212 (fun _ h9 => h9) rfl dX8_fill_41 ?_
        refine g_getN (T := TX5) (N := 3) (ci := 4) (C := RX5) (v := .int i_this_picture_rows) X hK hH in_RX5 1 rfl rfl 1 (by decide) qn_50 (fun _ h9 => h9) rfl dX8_fill_44 ?_
        refine lv_iload_n hx hb dX8_fill_47 rfl (lv_at hl 2 rfl) ?_
        refine lv_isub hx hb dX8_fill_48 ?_
        refine lv_icmp_le (tgt := 62) hx hb dX8_fill_49 (by decide) (fun c13 => ?_) (fun c13 => ?_)
        · have hf := spos hf c13
          refine lv_iload_n hx hb dX8_fill_62 rfl (lv_at hl 2 rfl) ?_
          refine lv_istore (lv' := [(6, .int p1), (0, .ref h_this), (1, .int p0), (2, .int p1), (3, .int p2), (4, .int p3), (5, .int p4)]) hx hb dX8_fill_63 hl (by decide) rfl (fun ls hl => ?_)
          obtain ⟨o16, ho16, hf⟩ := sbind hf
          obtain ⟨FF16, hFF16, ho16⟩ := sfix ho16
          have L16 : ∀ (n : Nat) (x14 : Int32) (g15 : (Nat → Int32)) (b16 : (Nat → Int32)) (H : Heap) (locs : List Loc) (ls : Array Slot), fixN n FF16 (x14, g15) = some b16 → gH G A s.heap H locs [(h_this, .inr (7, FX8 r_this i_this_layerCount i_this_hasDecoded i_this_codedCount i_this_codedWidth i_this_codedHeight i_this_replacedSize i_this_replacedPlainSize)), ((r_this 0), .inr (4, FX5 r_this_picture i_this_picture_columns i_this_picture_rows)), ((r_this_picture 2), gA G 384 g15)] → lv_has ls 8 [(0, .ref h_this), (1, .int p0), (2, .int p1), (3, .int p2), (4, .int p3), (5, .int p4), (6, .int x14)] → (∀ (H : Heap) (locs : List Loc) (ls : Array Slot), gH G A s.heap H locs [(h_this, .inr (7, FX8 r_this i_this_layerCount i_this_hasDecoded i_this_codedCount i_this_codedWidth i_this_codedHeight i_this_replacedSize i_this_replacedPlainSize)), ((r_this 0), .inr (4, FX5 r_this_picture i_this_picture_columns i_this_picture_rows)), ((r_this_picture 2), gA G 384 b16)] → lv_has ls 8 [(3, .int p2), (4, .int p3)] → W p l e (rm_X8_fill (tc out)) s m args below meth c H locs 0 0 Q (F0 m 110 ls [])) → W p l e (rm_X8_fill (tc out)) s m args below meth c H locs 0 0 Q (F0 m 65 ls []) := by
            intro n
            induction n with
            | zero => intro x14 g15 b16 H locs ls hf; exact sfix0 hf
            | succ n ih =>
              intro x14 g15 b16 H locs ls hf hH hl KK
              obtain ⟨self16, hself16, hf⟩ := sstep hFF16 hf
              refine lv_iload hx hb dX8_fill_65 (lv_at hl 6 rfl) ?_
              refine lv_iload_n hx hb dX8_fill_67 rfl (lv_at hl 2 rfl) ?_
              refine lv_iload hx hb dX8_fill_68 (lv_at hl 4 rfl) ?_
              refine lv_iadd hx hb dX8_fill_70 ?_
              refine lv_icmp_ge (tgt := 110) hx hb dX8_fill_71 (by decide) (fun c17 => ?_) (fun c17 => ?_)
              · have hf := spos hf c17
                obtain rfl := Option.some.inj hf
                exact KK _ _ _ hH (lv_sub hl [3, 4] rfl)
              · have hf := sneg hf c17
                refine lv_iload_n hx hb dX8_fill_74 rfl (lv_at hl 1 rfl) ?_
                refine lv_istore (lv' := [(7, .int p0), (0, .ref h_this), (1, .int p0), (2, .int p1), (3, .int p2), (4, .int p3), (5, .int p4), (6, .int x14)]) hx hb dX8_fill_75 hl (by decide) rfl (fun ls hl => ?_)
                obtain ⟨o20, ho20, hf⟩ := sbind hf
                obtain ⟨FF20, hFF20, ho20⟩ := sfix ho20
                have L20 : ∀ (n : Nat) (x18 : Int32) (g19 : (Nat → Int32)) (b20 : (Nat → Int32)) (H : Heap) (locs : List Loc) (ls : Array Slot), fixN n FF20 (x18, g19) = some b20 → gH G A s.heap H locs [(h_this, .inr (7, FX8 r_this i_this_layerCount i_this_hasDecoded i_this_codedCount i_this_codedWidth i_this_codedHeight i_this_replacedSize i_this_replacedPlainSize)), ((r_this 0), .inr (4, FX5 r_this_picture i_this_picture_columns i_this_picture_rows)), ((r_this_picture 2), gA G 384 g19)] → lv_has ls 8 [(0, .ref h_this), (1, .int p0), (2, .int p1), (3, .int p2), (4, .int p3), (5, .int p4), (6, .int x14), (7, .int x18)] → (∀ (H : Heap) (locs : List Loc) (ls : Array Slot), gH G A s.heap H locs [(h_this, .inr (7, FX8 r_this i_this_layerCount i_this_hasDecoded i_this_codedCount i_this_codedWidth i_this_codedHeight i_this_replacedSize i_this_replacedPlainSize)), ((r_this 0), .inr (4, FX5 r_this_picture i_this_picture_columns i_this_picture_rows)), ((r_this_picture 2), gA G 384 b20)] → lv_has ls 8 [(0, .ref h_this), (1, .int p0), (2, .int p1), (3, .int p2), (4, .int p3), (5, .int p4), (6, .int x14)] → W p l e (rm_X8_fill (tc out)) s m args below meth c H locs 0 0 Q (F0 m 104 ls [])) → W p l e (rm_X8_fill (tc out)) s m args below meth c H locs 0 0 Q (F0 m 77 ls []) := by
                  intro n
                  induction n with
                  | zero => intro x18 g19 b20 H locs ls hf; exact sfix0 hf
                  | succ n ih =>
                    intro x18 g19 b20 H locs ls hf hH hl KK
                    obtain ⟨self20, hself20, hf⟩ := sstep hFF20 hf
                    refine lv_iload hx hb dX8_fill_77 (lv_at hl 7 rfl) ?_
                    refine lv_iload_n hx hb dX8_fill_79 rfl (lv_at hl 1 rfl) ?_
                    refine lv_iload_n hx hb dX8_fill_80 rfl (lv_at hl 3 rfl) ?_
                    refine lv_iadd hx hb dX8_fill_81 ?_
                    refine lv_icmp_ge (tgt := 104) hx hb dX8_fill_82 (by decide) (fun c21 => ?_) (fun c21 => ?_)
                    · have hf := spos hf c21
                      obtain rfl := Option.some.inj hf
                      exact KK _ _ _ hH (lv_sub hl [0, 1, 2, 3, 4, 5, 6] rfl)
                    · have hf := sneg hf c21
                      refine lv_aload_n hx hb dX8_fill_85 rfl (lv_at hl 0 rfl) ?_
                      refine g_get (T := TX8) (N := 18) (ci := 7) (C := RX8) (v := .ref (r_this 0)) X hK hH in_RX8 0 rfl rfl 0 (by decide) q_212 (fun _ h9 => h9) rfl dX8_fill_86 ?_
                      refine lv_iload hx hb dX8_fill_89 (lv_at hl 7 rfl) ?_
                      refine lv_iload hx hb dX8_fill_91 (lv_at hl 6 rfl) ?_
                      refine lv_iload hx hb dX8_fill_93 (lv_at hl 5 rfl) ?_
                      obtain ⟨o22, ho22, hf⟩ := sbind hf
                      refine g_cVv (isC := [1, 2]) (isR := [0]) (isP := [0, 1, 2]) (wr := [(h_this, .inr (7, FX8 r_this i_this_layerCount i_this_hasDecoded i_this_codedCount i_this_codedWidth i_this_codedHeight i_this_replacedSize i_this_replacedPlainSize))]) (w2 := [(h_this, .inr (7, FX8 r_this i_this_layerCount i_this_hasDecoded i_this_codedCount i_this_codedWidth i_this_codedHeight i_this_replacedSize i_this_replacedPlainSize)), ((r_this 0), .inr (4, FX5 r_this_picture i_this_picture_columns i_this_picture_rows)), ((r_this_picture 2), gA G 384 o22)]) (q0 := 1) X hK hA hH hl (ct_X5_put l G (r_this 0) r_this_picture i_this_picture_columns i_this_picture_rows g19 x18 x14 p4 H.size o22 ho22) ⟨q_2, q_406, hd_X5_put, rfl, rfl, ⟨Nat.le_of_ble_eq_true rfl, Nat.le_of_ble_eq_true rfl⟩, ⟨Nat.zero_le _, Nat.zero_le _⟩⟩ q_403 q_404 q_405 rfl rfl ⟨rfl, rfl, rfl, rfl, by decide, rfl, rfl⟩ rfl rfl (Nat.le_of_ble_eq_true rfl) dX8_fill_95 (fun H locs hH => ?_)
                      obtain ⟨x23, ex23⟩ : ∃ y : Int32, y = (x18 + (1 : Int32)) := ⟨_, rfl⟩
                      have hf := sbnd hf x23 ex23
                      refine lv_iinc (v := x23) (lv' := [(7, .int x23), (0, .ref h_this), (1, .int p0), (2, .int p1), (3, .int p2), (4, .int p3), (5, .int p4), (6, .int x14)]) hx hb dX8_fill_98 hl (k := 7) rfl (by rw [ex23]; rfl) (by decide) rfl (fun ls hl => ?_)
                      refine lv_goto (tgt := 77) hx hb dX8_fill_101 (by decide) ?_
                      exact ih x23 o22 _ _ _ _ (hself20 _ _ hf) hH (lv_sub hl [1, 2, 3, 4, 5, 6, 7, 0] rfl) KK
                refine L20 FUEL p0 g15 o20 _ _ _ ho20 hH (lv_sub hl [1, 2, 3, 4, 5, 6, 7, 0] rfl) (fun H locs ls hH hl => ?_)
                obtain ⟨x24, ex24⟩ : ∃ y : Int32, y = (x14 + (1 : Int32)) := ⟨_, rfl⟩
                have hf := sbnd hf x24 ex24
                refine lv_iinc (v := x24) (lv' := [(6, .int x24), (0, .ref h_this), (1, .int p0), (2, .int p1), (3, .int p2), (4, .int p3), (5, .int p4)]) hx hb dX8_fill_104 hl (k := 6) rfl (by rw [ex24]; rfl) (by decide) rfl (fun ls hl => ?_)
                refine lv_goto (tgt := 65) hx hb dX8_fill_107 (by decide) ?_
                exact ih x24 o20 _ _ _ _ (hself16 _ _ hf) hH (lv_sub hl [1, 2, 3, 4, 5, 6, 0] rfl) KK
          refine L16 FUEL p1 t_this_picture_pixels o16 _ _ _ ho16 hH (lv_sub hl [1, 2, 3, 4, 5, 6, 0] rfl) (fun H locs ls hH hl => ?_)
          refine lv_iload_n hx hb dX8_fill_110 rfl (lv_at hl 0 rfl) ?_
          refine lv_iload hx hb dX8_fill_111 (lv_at hl 1 rfl) ?_
          refine lv_imul hx hb dX8_fill_113 ?_
          obtain rfl := Option.some.inj hf
          exact hE ((p2 * p3), o16) 0 _ _ _ _ rfl rfl hH dX8_fill_114
        · have hf := sneg hf c13
          exact J10  _ _ _ hf hH (lv_sub hl [] rfl)

def lf_X8_ramp (i_this_picture_columns : Int32) (i_this_picture_rows : Int32) (t_this_picture_pixels : Nat → Int32) (p0 : Int32) (p1 : Int32) (p2 : Int32) : Option (Nat ⊕ (Int32 × (Nat → Int32))) :=
(lf_X8_requireByte p0).bind fun o1 => Sum.elim (fun kk => some (Sum.inl kk)) (fun r2 => (lf_X8_requireByte p1).bind fun o5 => Sum.elim (fun kk => some (Sum.inl kk)) (fun r6 => (lf_X8_requireByte p2).bind fun o9 => Sum.elim (fun kk => some (Sum.inl kk)) (fun r10 => (fixN FUEL (fun (self15 : (Int32 × (Nat → Int32)) → Option ((Nat → Int32))) (z15 : Int32 × (Nat → Int32)) => (fun (x13 : Int32) (g14 : (Nat → Int32)) => (if i_this_picture_rows ≤ x13 then some g14 else (fixN FUEL (fun (self19 : (Int32 × (Nat → Int32)) → Option ((Nat → Int32))) (z19 : Int32 × (Nat → Int32)) => (fun (x17 : Int32) (g18 : (Nat → Int32)) => (if i_this_picture_columns ≤ x17 then some g18 else (lf_X5_put i_this_picture_columns i_this_picture_rows g18 x17 x13 (((p0 + (p1 * x17)) + (p2 * x13)) - ((p0 + (p1 * x17)) + (p2 * x13)) / (256 : Int32) * (256 : Int32))).bind fun o21 => bnd (x17 + (1 : Int32)) fun x22 => self19 (x22, o21))) z19.1 z19.2) ((0 : Int32), g14)).bind fun o19 => bnd (x13 + (1 : Int32)) fun x23 => self15 (x23, o19))) z15.1 z15.2) ((0 : Int32), t_this_picture_pixels)).bind fun o15 => (lf_X5_at i_this_picture_columns i_this_picture_rows o15 (i_this_picture_columns - (1 : Int32)) (i_this_picture_rows - (1 : Int32))).bind fun o24 => some (Sum.inr (o24, o15))) o9) o5) o1
abbrev rm_X8_ramp (k : Nat) : Room := { frames := 7, cells := k, slots := 6 * k, locals := 118 }
theorem hd_X8_ramp : yX8_ramp.cls ≠ "java/lang/invoke/MethodHandle" ∧ yX8_ramp.cls ≠ "java/lang/invoke/VarHandle" ∧ (parseMethodDescriptor yX8_ramp.desc).map (fun d => d.parameters.length) = some 3 := by decide +kernel
set_option maxHeartbeats 4000000 in
set_option maxRecDepth 100000 in
theorem ct_X8_ramp (l : Launch) (G : gG) (h_this : Nat) (r_this r_this_picture : Nat → Nat) (i_this_layerCount i_this_hasDecoded i_this_codedCount i_this_codedWidth i_this_codedHeight i_this_replacedSize i_this_replacedPlainSize i_this_picture_columns i_this_picture_rows : Int32) (t_this_picture_pixels : Nat → Int32) (p0 p1 p2 : Int32) (sz : Nat) (out : Nat ⊕ (Int32 × (Nat → Int32))) (hf : lf_X8_ramp i_this_picture_columns i_this_picture_rows t_this_picture_pixels p0 p1 p2 = some out) (hst : l.stackTraces = false) : gTi l G yX8_ramp cX8_ramp 6 .int (rm_X8_ramp (tc out)) [.ref h_this, .int p0, .int p1, .int p2] sz [(h_this, .inr (7, FX8 r_this i_this_layerCount i_this_hasDecoded i_this_codedCount i_this_codedWidth i_this_codedHeight i_this_replacedSize i_this_replacedPlainSize)), ((r_this 0), .inr (4, FX5 r_this_picture i_this_picture_columns i_this_picture_rows)), ((r_this_picture 2), gA G 384 t_this_picture_pixels)] out (fun x => x.1) (fun x u => [(h_this, .inr (7, FX8 r_this i_this_layerCount i_this_hasDecoded i_this_codedCount i_this_codedWidth i_this_codedHeight i_this_replacedSize i_this_replacedPlainSize)), ((r_this 0), .inr (4, FX5 r_this_picture i_this_picture_columns i_this_picture_rows)), ((r_this_picture 2), gA G 384 x.2)]) := by
  refine gTi_of (by decide +kernel) (Nat.le_of_ble_eq_true rfl) ?_
  intro p e s m args below meth c ls A Q X hK hA hsz hH hl hS hZ hno hQ hE
  subst hsz
  have hx := X.1
  have hb := X.2.1
  unfold lf_X8_ramp at hf
  have hl : lv_has ls 6 [(0, .ref h_this), (1, .int p0), (2, .int p1), (3, .int p2)] := hl
  have hH : gH G A s.heap s.heap [] [(h_this, .inr (7, FX8 r_this i_this_layerCount i_this_hasDecoded i_this_codedCount i_this_codedWidth i_this_codedHeight i_this_replacedSize i_this_replacedPlainSize)), ((r_this 0), .inr (4, FX5 r_this_picture i_this_picture_columns i_this_picture_rows)), ((r_this_picture 2), gA G 384 t_this_picture_pixels)] := hH
  refine lv_iload_n hx hb dX8_ramp_0 rfl (lv_at hl 1 rfl) ?_
  obtain ⟨o1, ho1, hf⟩ := sbind hf
  rcases o1 with k4 | r2
  · obtain rfl := Option.some.inj hf
    rw [hQ]
    exact g_tSx (isC := []) (isR := [0, 1, 2]) (isP := [0, 1, 2]) (wr := [(h_this, .inr (7, FX8 r_this i_this_layerCount i_this_hasDecoded i_this_codedCount i_this_codedWidth i_this_codedHeight i_this_replacedSize i_this_replacedPlainSize)), ((r_this 0), .inr (4, FX5 r_this_picture i_this_picture_columns i_this_picture_rows)), ((r_this_picture 2), gA G 384 t_this_picture_pixels)]) X hK hS hZ hno hA hH hl (ct_X8_requireByte l G p0 s.heap.size _ ho1 hst) ⟨q_1, q_385, hd_X8_requireByte, rfl, rfl, ⟨Nat.le_of_ble_eq_true rfl, Nat.le_of_ble_eq_true rfl⟩, ⟨Nat.le_of_ble_eq_true rfl, Nat.le_of_ble_eq_true rfl⟩⟩ q_383 q_384 ⟨rfl, rfl, rfl, rfl, by decide, rfl, rfl⟩ rfl rfl (Nat.le_of_ble_eq_true rfl) dX8_ramp_1
  have hf := selimr hf
  refine g_tSr (isC := []) (isR := [0, 1, 2]) (isP := [0, 1, 2]) (wr := [(h_this, .inr (7, FX8 r_this i_this_layerCount i_this_hasDecoded i_this_codedCount i_this_codedWidth i_this_codedHeight i_this_replacedSize i_this_replacedPlainSize)), ((r_this 0), .inr (4, FX5 r_this_picture i_this_picture_columns i_this_picture_rows)), ((r_this_picture 2), gA G 384 t_this_picture_pixels)]) (w2 := (fun u3 => [(h_this, .inr (7, FX8 r_this i_this_layerCount i_this_hasDecoded i_this_codedCount i_this_codedWidth i_this_codedHeight i_this_replacedSize i_this_replacedPlainSize)), ((r_this 0), .inr (4, FX5 r_this_picture i_this_picture_columns i_this_picture_rows)), ((r_this_picture 2), gA G 384 t_this_picture_pixels)])) X hK hS hZ hA hH hl (ct_X8_requireByte l G p0 s.heap.size _ ho1 hst) ⟨q_1, q_385, hd_X8_requireByte, rfl, rfl, ⟨Nat.le_of_ble_eq_true rfl, Nat.le_of_ble_eq_true rfl⟩, ⟨Nat.zero_le _, Nat.zero_le _⟩⟩ q_383 q_384 (fun _ => ⟨rfl, rfl, rfl, rfl, by decide, rfl, rfl⟩) rfl rfl (Nat.le_of_ble_eq_true rfl) dX8_ramp_1 (fun u3 H locs hH => ?_)
  refine lv_iload_n hx hb dX8_ramp_4 rfl (lv_at hl 2 rfl) ?_
  obtain ⟨o5, ho5, hf⟩ := sbind hf
  rcases o5 with k8 | r6
  · obtain rfl := Option.some.inj hf
    rw [hQ]
    exact g_tSx (isC := []) (isR := [0, 1, 2]) (isP := [0, 1, 2]) (wr := [(h_this, .inr (7, FX8 r_this i_this_layerCount i_this_hasDecoded i_this_codedCount i_this_codedWidth i_this_codedHeight i_this_replacedSize i_this_replacedPlainSize)), ((r_this 0), .inr (4, FX5 r_this_picture i_this_picture_columns i_this_picture_rows)), ((r_this_picture 2), gA G 384 t_this_picture_pixels)]) X hK hS hZ hno hA hH hl (ct_X8_requireByte l G p1 H.size _ ho5 hst) ⟨q_1, q_385, hd_X8_requireByte, rfl, rfl, ⟨Nat.le_of_ble_eq_true rfl, Nat.le_of_ble_eq_true rfl⟩, ⟨Nat.le_of_ble_eq_true rfl, Nat.le_of_ble_eq_true rfl⟩⟩ q_383 q_384 ⟨rfl, rfl, rfl, rfl, by decide, rfl, rfl⟩ rfl rfl (Nat.le_of_ble_eq_true rfl) dX8_ramp_5
  have hf := selimr hf
  refine g_tSr (isC := []) (isR := [0, 1, 2]) (isP := [0, 1, 2]) (wr := [(h_this, .inr (7, FX8 r_this i_this_layerCount i_this_hasDecoded i_this_codedCount i_this_codedWidth i_this_codedHeight i_this_replacedSize i_this_replacedPlainSize)), ((r_this 0), .inr (4, FX5 r_this_picture i_this_picture_columns i_this_picture_rows)), ((r_this_picture 2), gA G 384 t_this_picture_pixels)]) (w2 := (fun u7 => [(h_this, .inr (7, FX8 r_this i_this_layerCount i_this_hasDecoded i_this_codedCount i_this_codedWidth i_this_codedHeight i_this_replacedSize i_this_replacedPlainSize)), ((r_this 0), .inr (4, FX5 r_this_picture i_this_picture_columns i_this_picture_rows)), ((r_this_picture 2), gA G 384 t_this_picture_pixels)])) X hK hS hZ hA hH hl (ct_X8_requireByte l G p1 H.size _ ho5 hst) ⟨q_1, q_385, hd_X8_requireByte, rfl, rfl, ⟨Nat.le_of_ble_eq_true rfl, Nat.le_of_ble_eq_true rfl⟩, ⟨Nat.zero_le _, Nat.zero_le _⟩⟩ q_383 q_384 (fun _ => ⟨rfl, rfl, rfl, rfl, by decide, rfl, rfl⟩) rfl rfl (Nat.le_of_ble_eq_true rfl) dX8_ramp_5 (fun u7 H locs hH => ?_)
  refine lv_iload_n hx hb dX8_ramp_8 rfl (lv_at hl 3 rfl) ?_
  obtain ⟨o9, ho9, hf⟩ := sbind hf
  rcases o9 with k12 | r10
  · obtain rfl := Option.some.inj hf
    rw [hQ]
    exact g_tSx (isC := []) (isR := [0, 1, 2]) (isP := [0, 1, 2]) (wr := [(h_this, .inr (7, FX8 r_this i_this_layerCount i_this_hasDecoded i_this_codedCount i_this_codedWidth i_this_codedHeight i_this_replacedSize i_this_replacedPlainSize)), ((r_this 0), .inr (4, FX5 r_this_picture i_this_picture_columns i_this_picture_rows)), ((r_this_picture 2), gA G 384 t_this_picture_pixels)]) X hK hS hZ hno hA hH hl (ct_X8_requireByte l G p2 H.size _ ho9 hst) ⟨q_1, q_385, hd_X8_requireByte, rfl, rfl, ⟨Nat.le_of_ble_eq_true rfl, Nat.le_of_ble_eq_true rfl⟩, ⟨Nat.le_of_ble_eq_true rfl, Nat.le_of_ble_eq_true rfl⟩⟩ q_383 q_384 ⟨rfl, rfl, rfl, rfl, by decide, rfl, rfl⟩ rfl rfl (Nat.le_of_ble_eq_true rfl) dX8_ramp_9
  have hf := selimr hf
  refine g_tSr (isC := []) (isR := [0, 1, 2]) (isP := [0, 1, 2]) (wr := [(h_this, .inr (7, FX8 r_this i_this_layerCount i_this_hasDecoded i_this_codedCount i_this_codedWidth i_this_codedHeight i_this_replacedSize i_this_replacedPlainSize)), ((r_this 0), .inr (4, FX5 r_this_picture i_this_picture_columns i_this_picture_rows)), ((r_this_picture 2), gA G 384 t_this_picture_pixels)]) (w2 := (fun u11 => [(h_this, .inr (7, FX8 r_this i_this_layerCount i_this_hasDecoded i_this_codedCount i_this_codedWidth i_this_codedHeight i_this_replacedSize i_this_replacedPlainSize)), ((r_this 0), .inr (4, FX5 r_this_picture i_this_picture_columns i_this_picture_rows)), ((r_this_picture 2), gA G 384 t_this_picture_pixels)])) X hK hS hZ hA hH hl (ct_X8_requireByte l G p2 H.size _ ho9 hst) ⟨q_1, q_385, hd_X8_requireByte, rfl, rfl, ⟨Nat.le_of_ble_eq_true rfl, Nat.le_of_ble_eq_true rfl⟩, ⟨Nat.zero_le _, Nat.zero_le _⟩⟩ q_383 q_384 (fun _ => ⟨rfl, rfl, rfl, rfl, by decide, rfl, rfl⟩) rfl rfl (Nat.le_of_ble_eq_true rfl) dX8_ramp_9 (fun u11 H locs hH => ?_)
  refine lv_iconst (v := (0 : Int32)) hx hb dX8_ramp_12 (by decide) ?_
  refine lv_istore (lv' := [(4, .int (0 : Int32)), (0, .ref h_this), (1, .int p0), (2, .int p1), (3, .int p2)]) hx hb dX8_ramp_13 hl (by decide) rfl (fun ls hl => ?_)
  obtain ⟨o15, ho15, hf⟩ := sbind hf
  obtain ⟨FF15, hFF15, ho15⟩ := sfix ho15
  have L15 : ∀ (n : Nat) (x13 : Int32) (g14 : (Nat → Int32)) (b15 : (Nat → Int32)) (H : Heap) (locs : List Loc) (ls : Array Slot), fixN n FF15 (x13, g14) = some b15 → gH G A s.heap H locs [(h_this, .inr (7, FX8 r_this i_this_layerCount i_this_hasDecoded i_this_codedCount i_this_codedWidth i_this_codedHeight i_this_replacedSize i_this_replacedPlainSize)), ((r_this 0), .inr (4, FX5 r_this_picture i_this_picture_columns i_this_picture_rows)), ((r_this_picture 2), gA G 384 g14)] → lv_has ls 6 [(0, .ref h_this), (1, .int p0), (2, .int p1), (3, .int p2), (4, .int x13)] → (∀ (H : Heap) (locs : List Loc) (ls : Array Slot), gH G A s.heap H locs [(h_this, .inr (7, FX8 r_this i_this_layerCount i_this_hasDecoded i_this_codedCount i_this_codedWidth i_this_codedHeight i_this_replacedSize i_this_replacedPlainSize)), ((r_this 0), .inr (4, FX5 r_this_picture i_this_picture_columns i_this_picture_rows)), ((r_this_picture 2), gA G 384 b15)] → lv_has ls 6 [(0, .ref h_this)] → W p l e (rm_X8_ramp (tc out)) s m args below meth c H locs 0 0 Q (F0 m 80 ls [])) → W p l e (rm_X8_ramp (tc out)) s m args below meth c H locs 0 0 Q (F0 m 15 ls []) := by
    intro n
    induction n with
    | zero => intro x13 g14 b15 H locs ls hf; exact sfix0 hf
    | succ n ih =>
      intro x13 g14 b15 H locs ls hf hH hl KK
      obtain ⟨self15, hself15, hf⟩ := sstep hFF15 hf
      refine lv_iload hx hb dX8_ramp_15 (lv_at hl 4 rfl) ?_
      refine lv_aload_n hx hb dX8_ramp_17 rfl (lv_at hl 0 rfl) ?_
      refine g_get (T := TX8) (N := 18) (ci := 7) (C := RX8) (v := .ref (r_this 0)) X hK hH in_RX8 0 rfl rfl 0 (by decide) q_212 (fun _ h9 => h9) rfl dX8_ramp_18 ?_
      refine g_getN (T := TX5) (N := 3) (ci := 4) (C := RX5) (v := .int i_this_picture_rows) X hK hH in_RX5 1 rfl rfl 1 (by decide) qn_50 (fun _ h9 => h9) rfl dX8_ramp_21 ?_
      refine lv_icmp_ge (tgt := 80) hx hb dX8_ramp_24 (by decide) (fun c16 => ?_) (fun c16 => ?_)
      · have hf := spos hf c16
        obtain rfl := Option.some.inj hf
        exact KK _ _ _ hH (lv_sub hl [0] rfl)
      · have hf := sneg hf c16
        refine lv_iconst (v := (0 : Int32)) hx hb dX8_ramp_27 (by decide) ?_
        refine lv_istore (lv' := [(5, .int (0 : Int32)), (0, .ref h_this), (1, .int p0), (2, .int p1), (3, .int p2), (4, .int x13)]) hx hb dX8_ramp_28 hl (by decide) rfl (fun ls hl => ?_)
        obtain ⟨o19, ho19, hf⟩ := sbind hf
        obtain ⟨FF19, hFF19, ho19⟩ := sfix ho19
        have L19 : ∀ (n : Nat) (x17 : Int32) (g18 : (Nat → Int32)) (b19 : (Nat → Int32)) (H : Heap) (locs : List Loc) (ls : Array Slot), fixN n FF19 (x17, g18) = some b19 → gH G A s.heap H locs [(h_this, .inr (7, FX8 r_this i_this_layerCount i_this_hasDecoded i_this_codedCount i_this_codedWidth i_this_codedHeight i_this_replacedSize i_this_replacedPlainSize)), ((r_this 0), .inr (4, FX5 r_this_picture i_this_picture_columns i_this_picture_rows)), ((r_this_picture 2), gA G 384 g18)] → lv_has ls 6 [(0, .ref h_this), (1, .int p0), (2, .int p1), (3, .int p2), (4, .int x13), (5, .int x17)] → (∀ (H : Heap) (locs : List Loc) (ls : Array Slot), gH G A s.heap H locs [(h_this, .inr (7, FX8 r_this i_this_layerCount i_this_hasDecoded i_this_codedCount i_this_codedWidth i_this_codedHeight i_this_replacedSize i_this_replacedPlainSize)), ((r_this 0), .inr (4, FX5 r_this_picture i_this_picture_columns i_this_picture_rows)), ((r_this_picture 2), gA G 384 b19)] → lv_has ls 6 [(0, .ref h_this), (1, .int p0), (2, .int p1), (3, .int p2), (4, .int x13)] → W p l e (rm_X8_ramp (tc out)) s m args below meth c H locs 0 0 Q (F0 m 74 ls [])) → W p l e (rm_X8_ramp (tc out)) s m args below meth c H locs 0 0 Q (F0 m 30 ls []) := by
          intro n
          induction n with
          | zero => intro x17 g18 b19 H locs ls hf; exact sfix0 hf
          | succ n ih =>
            intro x17 g18 b19 H locs ls hf hH hl KK
            obtain ⟨self19, hself19, hf⟩ := sstep hFF19 hf
            refine lv_iload hx hb dX8_ramp_30 (lv_at hl 5 rfl) ?_
            refine lv_aload_n hx hb dX8_ramp_32 rfl (lv_at hl 0 rfl) ?_
            refine g_get (T := TX8) (N := 18) (ci := 7) (C := RX8) (v := .ref (r_this 0)) X hK hH in_RX8 0 rfl rfl 0 (by decide) q_212 (fun _ h9 => h9) rfl dX8_ramp_33 ?_
            refine g_getN (T := TX5) (N := 3) (ci := 4) (C := RX5) (v := .int i_this_picture_columns) X hK hH in_RX5 1 rfl rfl 0 (by decide) qn_48 (fun _ h9 => h9) rfl dX8_ramp_36 ?_
            refine lv_icmp_ge (tgt := 74) hx hb dX8_ramp_39 (by decide) (fun c20 => ?_) (fun c20 => ?_)
            · have hf := spos hf c20
              obtain rfl := Option.some.inj hf
              exact KK _ _ _ hH (lv_sub hl [0, 1, 2, 3, 4] rfl)
            · have hf := sneg hf c20
              refine lv_aload_n hx hb dX8_ramp_42 rfl (lv_at hl 0 rfl) ?_
              refine g_get (T := TX8) (N := 18) (ci := 7) (C := RX8) (v := .ref (r_this 0)) X hK hH in_RX8 0 rfl rfl 0 (by decide) q_212 (fun _ h9 => h9) rfl dX8_ramp_43 ?_
              refine lv_iload hx hb dX8_ramp_46 (lv_at hl 5 rfl) ?_
              refine lv_iload hx hb dX8_ramp_48 (lv_at hl 4 rfl) ?_
              refine lv_iload_n hx hb dX8_ramp_50 rfl (lv_at hl 1 rfl) ?_
              refine lv_iload_n hx hb dX8_ramp_51 rfl (lv_at hl 2 rfl) ?_
              refine lv_iload hx hb dX8_ramp_52 (lv_at hl 5 rfl) ?_
              refine lv_imul hx hb dX8_ramp_54 ?_
              refine lv_iadd hx hb dX8_ramp_55 ?_
              refine lv_iload_n hx hb dX8_ramp_56 rfl (lv_at hl 3 rfl) ?_
              refine lv_iload hx hb dX8_ramp_57 (lv_at hl 4 rfl) ?_
              refine lv_imul hx hb dX8_ramp_59 ?_
              refine lv_iadd hx hb dX8_ramp_60 ?_
              refine lv_sipush (v := (256 : Int32)) hx hb dX8_ramp_61 (by decide) ?_
              refine lv_irem hx hb dX8_ramp_64 (by decide) ?_
              obtain ⟨o21, ho21, hf⟩ := sbind hf
              refine g_cVv (isC := [1, 2]) (isR := [0]) (isP := [0, 1, 2]) (wr := [(h_this, .inr (7, FX8 r_this i_this_layerCount i_this_hasDecoded i_this_codedCount i_this_codedWidth i_this_codedHeight i_this_replacedSize i_this_replacedPlainSize))]) (w2 := [(h_this, .inr (7, FX8 r_this i_this_layerCount i_this_hasDecoded i_this_codedCount i_this_codedWidth i_this_codedHeight i_this_replacedSize i_this_replacedPlainSize)), ((r_this 0), .inr (4, FX5 r_this_picture i_this_picture_columns i_this_picture_rows)), ((r_this_picture 2), gA G 384 o21)]) (q0 := 1) X hK hA hH hl (ct_X5_put l G (r_this 0) r_this_picture i_this_picture_columns i_this_picture_rows g18 x17 x13 (((p0 + (p1 * x17)) + (p2 * x13)) - ((p0 + (p1 * x17)) + (p2 * x13)) / (256 : Int32) * (256 : Int32)) H.size o21 ho21) ⟨q_2, q_406, hd_X5_put, rfl, rfl, ⟨Nat.le_of_ble_eq_true rfl, Nat.le_of_ble_eq_true rfl⟩, ⟨Nat.zero_le _, Nat.zero_le _⟩⟩ q_403 q_404 q_405 rfl rfl ⟨rfl, rfl, rfl, rfl, by decide, rfl, rfl⟩ rfl rfl (Nat.le_of_ble_eq_true rfl) dX8_ramp_65 (fun H locs hH => ?_)
              obtain ⟨x22, ex22⟩ : ∃ y : Int32, y = (x17 + (1 : Int32)) := ⟨_, rfl⟩
              have hf := sbnd hf x22 ex22
              refine lv_iinc (v := x22) (lv' := [(5, .int x22), (0, .ref h_this), (1, .int p0), (2, .int p1), (3, .int p2), (4, .int x13)]) hx hb dX8_ramp_68 hl (k := 5) rfl (by rw [ex22]; rfl) (by decide) rfl (fun ls hl => ?_)
              refine lv_goto (tgt := 30) hx hb dX8_ramp_71 (by decide) ?_
              exact ih x22 o21 _ _ _ _ (hself19 _ _ hf) hH (lv_sub hl [1, 2, 3, 4, 5, 0] rfl) KK
        refine L19 FUEL (0 : Int32) g14 o19 _ _ _ ho19 hH (lv_sub hl [1, 2, 3, 4, 5, 0] rfl) (fun H locs ls hH hl => ?_)
        obtain ⟨x23, ex23⟩ : ∃ y : Int32, y = (x13 + (1 : Int32)) := ⟨_, rfl⟩
        have hf := sbnd hf x23 ex23
        refine lv_iinc (v := x23) (lv' := [(4, .int x23), (0, .ref h_this), (1, .int p0), (2, .int p1), (3, .int p2)]) hx hb dX8_ramp_74 hl (k := 4) rfl (by rw [ex23]; rfl) (by decide) rfl (fun ls hl => ?_)
        refine lv_goto (tgt := 15) hx hb dX8_ramp_77 (by decide) ?_
        exact ih x23 o19 _ _ _ _ (hself15 _ _ hf) hH (lv_sub hl [1, 2, 3, 4, 0] rfl) KK
  refine L15 FUEL (0 : Int32) t_this_picture_pixels o15 _ _ _ ho15 hH (lv_sub hl [1, 2, 3, 4, 0] rfl) (fun H locs ls hH hl => ?_)
  refine lv_aload_n hx hb dX8_ramp_80 rfl (lv_at hl 0 rfl) ?_
  refine g_get (T := TX8) (N := 18) (ci := 7) (C := RX8) (v := .ref (r_this 0)) X hK hH in_RX8 0 rfl rfl 0 (by decide) q_212 (fun _ h9 => h9) rfl dX8_ramp_81 ?_
  refine lv_aload_n hx hb dX8_ramp_84 rfl (lv_at hl 0 rfl) ?_
  refine g_get (T := TX8) (N := 18) (ci := 7) (C := RX8) (v := .ref (r_this 0)) X hK hH in_RX8 0 rfl rfl 0 (by decide) q_212 (fun _ h9 => h9) rfl dX8_ramp_85 ?_
  refine g_getN (T := TX5) (N := 3) (ci := 4) (C := RX5) (v := .int i_this_picture_columns) X hK hH in_RX5 1 rfl rfl 0 (by decide) qn_48 (fun _ h9 => h9) rfl dX8_ramp_88 ?_
  refine lv_iconst (v := (1 : Int32)) hx hb dX8_ramp_91 (by decide) ?_
  refine lv_isub hx hb dX8_ramp_92 ?_
  refine lv_aload_n hx hb dX8_ramp_93 rfl (lv_at hl 0 rfl) ?_
  refine g_get (T := TX8) (N := 18) (ci := 7) (C := RX8) (v := .ref (r_this 0)) X hK hH in_RX8 0 rfl rfl 0 (by decide) q_212 (fun _ h9 => h9) rfl dX8_ramp_94 ?_
  refine g_getN (T := TX5) (N := 3) (ci := 4) (C := RX5) (v := .int i_this_picture_rows) X hK hH in_RX5 1 rfl rfl 1 (by decide) qn_50 (fun _ h9 => h9) rfl dX8_ramp_97 ?_
  refine lv_iconst (v := (1 : Int32)) hx hb dX8_ramp_100 (by decide) ?_
  refine lv_isub hx hb dX8_ramp_101 ?_
  obtain ⟨o24, ho24, hf⟩ := sbind hf
  refine g_cVi (isC := [1, 2]) (isR := [0]) (isP := [0, 1, 2]) (wr := [(h_this, .inr (7, FX8 r_this i_this_layerCount i_this_hasDecoded i_this_codedCount i_this_codedWidth i_this_codedHeight i_this_replacedSize i_this_replacedPlainSize))]) (w2 := [(h_this, .inr (7, FX8 r_this i_this_layerCount i_this_hasDecoded i_this_codedCount i_this_codedWidth i_this_codedHeight i_this_replacedSize i_this_replacedPlainSize)), ((r_this 0), .inr (4, FX5 r_this_picture i_this_picture_columns i_this_picture_rows)), ((r_this_picture 2), gA G 384 o15)]) (q0 := 1) X hK hA hH hl (ct_X5_at l G (r_this 0) r_this_picture i_this_picture_columns i_this_picture_rows o15 (i_this_picture_columns - (1 : Int32)) (i_this_picture_rows - (1 : Int32)) H.size o24 ho24) ⟨q_2, q_418, hd_X5_at, rfl, rfl, ⟨Nat.le_of_ble_eq_true rfl, Nat.le_of_ble_eq_true rfl⟩, ⟨Nat.zero_le _, Nat.zero_le _⟩⟩ q_415 q_416 q_417 rfl rfl ⟨rfl, rfl, rfl, rfl, by decide, rfl, rfl⟩ rfl rfl (Nat.le_of_ble_eq_true rfl) dX8_ramp_102 (fun H locs hH => ?_)
  obtain rfl := Option.some.inj hf
  exact hE (o24, o15) 0 _ _ _ _ rfl rfl hH dX8_ramp_105

def lf_X8_pixel (i_this_picture_columns : Int32) (i_this_picture_rows : Int32) (t_this_picture_pixels : Nat → Int32) (p0 : Int32) (p1 : Int32) : Option (Nat ⊕ (Int32)) :=
(lf_X8_requirePixel i_this_picture_columns i_this_picture_rows p0 p1).bind fun o1 => Sum.elim (fun kk => some (Sum.inl kk)) (fun r2 => (lf_X5_at i_this_picture_columns i_this_picture_rows t_this_picture_pixels p0 p1).bind fun o5 => some (Sum.inr o5)) o1
abbrev rm_X8_pixel (k : Nat) : Room := { frames := 7, cells := k, slots := 6 * k, locals := 120 }
theorem hd_X8_pixel : yX8_pixel.cls ≠ "java/lang/invoke/MethodHandle" ∧ yX8_pixel.cls ≠ "java/lang/invoke/VarHandle" ∧ (parseMethodDescriptor yX8_pixel.desc).map (fun d => d.parameters.length) = some 2 := by decide +kernel
set_option maxHeartbeats 4000000 in
set_option maxRecDepth 100000 in
theorem ct_X8_pixel (l : Launch) (G : gG) (h_this : Nat) (r_this r_this_picture : Nat → Nat) (i_this_layerCount i_this_hasDecoded i_this_codedCount i_this_codedWidth i_this_codedHeight i_this_replacedSize i_this_replacedPlainSize i_this_picture_columns i_this_picture_rows : Int32) (t_this_picture_pixels : Nat → Int32) (p0 p1 : Int32) (sz : Nat) (out : Nat ⊕ (Int32)) (hf : lf_X8_pixel i_this_picture_columns i_this_picture_rows t_this_picture_pixels p0 p1 = some out) (hst : l.stackTraces = false) : gTi l G yX8_pixel cX8_pixel 3 .int (rm_X8_pixel (tc out)) [.ref h_this, .int p0, .int p1] sz [(h_this, .inr (7, FX8 r_this i_this_layerCount i_this_hasDecoded i_this_codedCount i_this_codedWidth i_this_codedHeight i_this_replacedSize i_this_replacedPlainSize)), ((r_this 0), .inr (4, FX5 r_this_picture i_this_picture_columns i_this_picture_rows)), ((r_this_picture 2), gA G 384 t_this_picture_pixels)] out (fun x => x) (fun x u => [(h_this, .inr (7, FX8 r_this i_this_layerCount i_this_hasDecoded i_this_codedCount i_this_codedWidth i_this_codedHeight i_this_replacedSize i_this_replacedPlainSize)), ((r_this 0), .inr (4, FX5 r_this_picture i_this_picture_columns i_this_picture_rows)), ((r_this_picture 2), gA G 384 t_this_picture_pixels)]) := by
  refine gTi_of (by decide +kernel) (Nat.le_of_ble_eq_true rfl) ?_
  intro p e s m args below meth c ls A Q X hK hA hsz hH hl hS hZ hno hQ hE
  subst hsz
  have hx := X.1
  have hb := X.2.1
  unfold lf_X8_pixel at hf
  have hl : lv_has ls 3 [(0, .ref h_this), (1, .int p0), (2, .int p1)] := hl
  have hH : gH G A s.heap s.heap [] [(h_this, .inr (7, FX8 r_this i_this_layerCount i_this_hasDecoded i_this_codedCount i_this_codedWidth i_this_codedHeight i_this_replacedSize i_this_replacedPlainSize)), ((r_this 0), .inr (4, FX5 r_this_picture i_this_picture_columns i_this_picture_rows)), ((r_this_picture 2), gA G 384 t_this_picture_pixels)] := hH
  refine lv_aload_n hx hb dX8_pixel_0 rfl (lv_at hl 0 rfl) ?_
  refine g_get (T := TX8) (N := 18) (ci := 7) (C := RX8) (v := .ref (r_this 0)) X hK hH in_RX8 0 rfl rfl 0 (by decide) q_212 (fun _ h9 => h9) rfl dX8_pixel_1 ?_
  refine lv_iload_n hx hb dX8_pixel_4 rfl (lv_at hl 1 rfl) ?_
  refine lv_iload_n hx hb dX8_pixel_5 rfl (lv_at hl 2 rfl) ?_
  obtain ⟨o1, ho1, hf⟩ := sbind hf
  rcases o1 with k4 | r2
  · obtain rfl := Option.some.inj hf
    rw [hQ]
    exact g_tSx (isC := [1]) (isR := [0, 2]) (isP := [0, 2, 1]) (wr := [(h_this, .inr (7, FX8 r_this i_this_layerCount i_this_hasDecoded i_this_codedCount i_this_codedWidth i_this_codedHeight i_this_replacedSize i_this_replacedPlainSize)), ((r_this_picture 2), gA G 384 t_this_picture_pixels)]) X hK hS hZ hno hA hH hl (ct_X8_requirePixel l G (r_this 0) r_this_picture i_this_picture_columns i_this_picture_rows p0 p1 s.heap.size _ ho1 hst) ⟨q_1, q_309, hd_X8_requirePixel, rfl, rfl, ⟨Nat.le_of_ble_eq_true rfl, Nat.le_of_ble_eq_true rfl⟩, ⟨Nat.le_of_ble_eq_true rfl, Nat.le_of_ble_eq_true rfl⟩⟩ q_307 q_308 ⟨rfl, rfl, rfl, rfl, by decide, rfl, rfl⟩ rfl rfl (Nat.le_of_ble_eq_true rfl) dX8_pixel_6
  have hf := selimr hf
  refine g_tSr (isC := [1]) (isR := [0, 2]) (isP := [0, 2, 1]) (wr := [(h_this, .inr (7, FX8 r_this i_this_layerCount i_this_hasDecoded i_this_codedCount i_this_codedWidth i_this_codedHeight i_this_replacedSize i_this_replacedPlainSize)), ((r_this_picture 2), gA G 384 t_this_picture_pixels)]) (w2 := (fun u3 => [(h_this, .inr (7, FX8 r_this i_this_layerCount i_this_hasDecoded i_this_codedCount i_this_codedWidth i_this_codedHeight i_this_replacedSize i_this_replacedPlainSize)), ((r_this 0), .inr (4, FX5 r_this_picture i_this_picture_columns i_this_picture_rows)), ((r_this_picture 2), gA G 384 t_this_picture_pixels)])) X hK hS hZ hA hH hl (ct_X8_requirePixel l G (r_this 0) r_this_picture i_this_picture_columns i_this_picture_rows p0 p1 s.heap.size _ ho1 hst) ⟨q_1, q_309, hd_X8_requirePixel, rfl, rfl, ⟨Nat.le_of_ble_eq_true rfl, Nat.le_of_ble_eq_true rfl⟩, ⟨Nat.zero_le _, Nat.zero_le _⟩⟩ q_307 q_308 (fun _ => ⟨rfl, rfl, rfl, rfl, by decide, rfl, rfl⟩) rfl rfl (Nat.le_of_ble_eq_true rfl) dX8_pixel_6 (fun u3 H locs hH => ?_)
  refine lv_aload_n hx hb dX8_pixel_9 rfl (lv_at hl 0 rfl) ?_
  refine g_get (T := TX8) (N := 18) (ci := 7) (C := RX8) (v := .ref (r_this 0)) X hK hH in_RX8 0 rfl rfl 0 (by decide) q_212 (fun _ h9 => h9) rfl dX8_pixel_10 ?_
  refine lv_iload_n hx hb dX8_pixel_13 rfl (lv_at hl 1 rfl) ?_
  refine lv_iload_n hx hb dX8_pixel_14 rfl (lv_at hl 2 rfl) ?_
  obtain ⟨o5, ho5, hf⟩ := sbind hf
  refine g_cVi (isC := [1, 2]) (isR := [0]) (isP := [0, 1, 2]) (wr := [(h_this, .inr (7, FX8 r_this i_this_layerCount i_this_hasDecoded i_this_codedCount i_this_codedWidth i_this_codedHeight i_this_replacedSize i_this_replacedPlainSize))]) (w2 := [(h_this, .inr (7, FX8 r_this i_this_layerCount i_this_hasDecoded i_this_codedCount i_this_codedWidth i_this_codedHeight i_this_replacedSize i_this_replacedPlainSize)), ((r_this 0), .inr (4, FX5 r_this_picture i_this_picture_columns i_this_picture_rows)), ((r_this_picture 2), gA G 384 t_this_picture_pixels)]) (q0 := 1) X hK hA hH hl (ct_X5_at l G (r_this 0) r_this_picture i_this_picture_columns i_this_picture_rows t_this_picture_pixels p0 p1 H.size o5 ho5) ⟨q_2, q_418, hd_X5_at, rfl, rfl, ⟨Nat.le_of_ble_eq_true rfl, Nat.le_of_ble_eq_true rfl⟩, ⟨Nat.zero_le _, Nat.zero_le _⟩⟩ q_415 q_416 q_417 rfl rfl ⟨rfl, rfl, rfl, rfl, by decide, rfl, rfl⟩ rfl rfl (Nat.le_of_ble_eq_true rfl) dX8_pixel_15 (fun H locs hH => ?_)
  obtain rfl := Option.some.inj hf
  exact hE o5 0 _ _ _ _ rfl rfl hH dX8_pixel_18

def lf_X8_width (i_this_picture_columns : Int32) : Option (Int32) :=
some i_this_picture_columns
abbrev rm_X8_width : Room := { frames := 0, cells := 0, slots := 0, locals := 0 }
theorem hd_X8_width : yX8_width.cls ≠ "java/lang/invoke/MethodHandle" ∧ yX8_width.cls ≠ "java/lang/invoke/VarHandle" ∧ (parseMethodDescriptor yX8_width.desc).map (fun d => d.parameters.length) = some 0 := by decide +kernel
set_option maxHeartbeats 4000000 in
set_option maxRecDepth 100000 in
theorem ct_X8_width (l : Launch) (G : gG) (h_this : Nat) (r_this r_this_picture : Nat → Nat) (i_this_layerCount i_this_hasDecoded i_this_codedCount i_this_codedWidth i_this_codedHeight i_this_replacedSize i_this_replacedPlainSize i_this_picture_columns i_this_picture_rows : Int32) (sz : Nat) (out : Int32) (hf : lf_X8_width i_this_picture_columns = some out) : gI l G yX8_width cX8_width 1 .int rm_X8_width [.ref h_this] sz [(h_this, .inr (7, FX8 r_this i_this_layerCount i_this_hasDecoded i_this_codedCount i_this_codedWidth i_this_codedHeight i_this_replacedSize i_this_replacedPlainSize)), ((r_this 0), .inr (4, FX5 r_this_picture i_this_picture_columns i_this_picture_rows))] out [(h_this, .inr (7, FX8 r_this i_this_layerCount i_this_hasDecoded i_this_codedCount i_this_codedWidth i_this_codedHeight i_this_replacedSize i_this_replacedPlainSize)), ((r_this 0), .inr (4, FX5 r_this_picture i_this_picture_columns i_this_picture_rows))] := by
  refine gI_of (by decide +kernel) (Nat.le_of_ble_eq_true rfl) ?_
  intro p e s m args below meth c ls A Q X hK hA hsz hH hl hE
  subst hsz
  have hx := X.1
  have hb := X.2.1
  unfold lf_X8_width at hf
  have hl : lv_has ls 1 [(0, .ref h_this)] := hl
  have hH : gH G A s.heap s.heap [] [(h_this, .inr (7, FX8 r_this i_this_layerCount i_this_hasDecoded i_this_codedCount i_this_codedWidth i_this_codedHeight i_this_replacedSize i_this_replacedPlainSize)), ((r_this 0), .inr (4, FX5 r_this_picture i_this_picture_columns i_this_picture_rows))] := hH
  refine lv_aload_n hx hb dX8_width_0 rfl (lv_at hl 0 rfl) ?_
  refine g_get (T := TX8) (N := 18) (ci := 7) (C := RX8) (v := .ref (r_this 0)) X hK hH in_RX8 0 rfl rfl 0 (by decide) q_212 (fun _ h9 => h9) rfl dX8_width_1 ?_
  refine g_getN (T := TX5) (N := 3) (ci := 4) (C := RX5) (v := .int i_this_picture_columns) X hK hH in_RX5 1 rfl rfl 0 (by decide) qn_48 (fun _ h9 => h9) rfl dX8_width_4 ?_
  obtain rfl := Option.some.inj hf
  exact hE _ _ _ _ rfl hH dX8_width_7

def lf_X8_height (i_this_picture_rows : Int32) : Option (Int32) :=
some i_this_picture_rows
abbrev rm_X8_height : Room := { frames := 0, cells := 0, slots := 0, locals := 0 }
theorem hd_X8_height : yX8_height.cls ≠ "java/lang/invoke/MethodHandle" ∧ yX8_height.cls ≠ "java/lang/invoke/VarHandle" ∧ (parseMethodDescriptor yX8_height.desc).map (fun d => d.parameters.length) = some 0 := by decide +kernel
set_option maxHeartbeats 4000000 in
set_option maxRecDepth 100000 in
theorem ct_X8_height (l : Launch) (G : gG) (h_this : Nat) (r_this r_this_picture : Nat → Nat) (i_this_layerCount i_this_hasDecoded i_this_codedCount i_this_codedWidth i_this_codedHeight i_this_replacedSize i_this_replacedPlainSize i_this_picture_columns i_this_picture_rows : Int32) (sz : Nat) (out : Int32) (hf : lf_X8_height i_this_picture_rows = some out) : gI l G yX8_height cX8_height 1 .int rm_X8_height [.ref h_this] sz [(h_this, .inr (7, FX8 r_this i_this_layerCount i_this_hasDecoded i_this_codedCount i_this_codedWidth i_this_codedHeight i_this_replacedSize i_this_replacedPlainSize)), ((r_this 0), .inr (4, FX5 r_this_picture i_this_picture_columns i_this_picture_rows))] out [(h_this, .inr (7, FX8 r_this i_this_layerCount i_this_hasDecoded i_this_codedCount i_this_codedWidth i_this_codedHeight i_this_replacedSize i_this_replacedPlainSize)), ((r_this 0), .inr (4, FX5 r_this_picture i_this_picture_columns i_this_picture_rows))] := by
  refine gI_of (by decide +kernel) (Nat.le_of_ble_eq_true rfl) ?_
  intro p e s m args below meth c ls A Q X hK hA hsz hH hl hE
  subst hsz
  have hx := X.1
  have hb := X.2.1
  unfold lf_X8_height at hf
  have hl : lv_has ls 1 [(0, .ref h_this)] := hl
  have hH : gH G A s.heap s.heap [] [(h_this, .inr (7, FX8 r_this i_this_layerCount i_this_hasDecoded i_this_codedCount i_this_codedWidth i_this_codedHeight i_this_replacedSize i_this_replacedPlainSize)), ((r_this 0), .inr (4, FX5 r_this_picture i_this_picture_columns i_this_picture_rows))] := hH
  refine lv_aload_n hx hb dX8_height_0 rfl (lv_at hl 0 rfl) ?_
  refine g_get (T := TX8) (N := 18) (ci := 7) (C := RX8) (v := .ref (r_this 0)) X hK hH in_RX8 0 rfl rfl 0 (by decide) q_212 (fun _ h9 => h9) rfl dX8_height_1 ?_
  refine g_getN (T := TX5) (N := 3) (ci := 4) (C := RX5) (v := .int i_this_picture_rows) X hK hH in_RX5 1 rfl rfl 1 (by decide) qn_50 (fun _ h9 => h9) rfl dX8_height_4 ?_
  obtain rfl := Option.some.inj hf
  exact hE _ _ _ _ rfl hH dX8_height_7

def lf_X8_setSteps (i_this_layerCount : Int32) (t_this_steps : Nat → Int32) (p0 : Int32) (p1 : Int32) (p2 : Int32) : Option (Nat ⊕ (Int32 × Int32 × (Nat → Int32))) :=
(lf_X8_isStepAfter (33 : Int32) p0).bind fun o1 => (if o1 = (0 : Int32) then some (Sum.inl 0) else jn (fun (z4 : Unit) => jn (fun (z6 : Unit) => (wrA 3 t_this_steps (0 : Int32) p0).bind fun g7 => (wrA 3 g7 (1 : Int32) p1).bind fun g8 => (wrA 3 g8 (2 : Int32) p2).bind fun g9 => jn (fun (z12 : Int32) => (fun (s11 : Int32) => some (Sum.inr (s11, s11, g9))) z12) (fun k12 => (if p1 = (0 : Int32) then k12 (1 : Int32) else (if p2 = (0 : Int32) then k12 (2 : Int32) else k12 (3 : Int32))))) (fun k6 => (if p2 = (0 : Int32) then k6 () else (lf_X8_isStepAfter p1 p2).bind fun o14 => (if o14 = (0 : Int32) then some (Sum.inl 0) else k6 ())))) (fun k4 => (if p1 = (0 : Int32) then k4 () else (lf_X8_isStepAfter p0 p1).bind fun o16 => (if o16 = (0 : Int32) then some (Sum.inl 0) else k4 ()))))
abbrev rm_X8_setSteps (k : Nat) : Room := { frames := 6, cells := k, slots := 6 * k, locals := 98 }
theorem hd_X8_setSteps : yX8_setSteps.cls ≠ "java/lang/invoke/MethodHandle" ∧ yX8_setSteps.cls ≠ "java/lang/invoke/VarHandle" ∧ (parseMethodDescriptor yX8_setSteps.desc).map (fun d => d.parameters.length) = some 3 := by decide +kernel
set_option maxHeartbeats 4000000 in
set_option maxRecDepth 100000 in
theorem ct_X8_setSteps (l : Launch) (G : gG) (h_this : Nat) (r_this : Nat → Nat) (i_this_layerCount i_this_hasDecoded i_this_codedCount i_this_codedWidth i_this_codedHeight i_this_replacedSize i_this_replacedPlainSize : Int32) (t_this_steps : Nat → Int32) (p0 p1 p2 : Int32) (sz : Nat) (out : Nat ⊕ (Int32 × Int32 × (Nat → Int32))) (hf : lf_X8_setSteps i_this_layerCount t_this_steps p0 p1 p2 = some out) (hst : l.stackTraces = false) : gTi l G yX8_setSteps cX8_setSteps 4 .int (rm_X8_setSteps (tc out)) [.ref h_this, .int p0, .int p1, .int p2] sz [(h_this, .inr (7, FX8 r_this i_this_layerCount i_this_hasDecoded i_this_codedCount i_this_codedWidth i_this_codedHeight i_this_replacedSize i_this_replacedPlainSize)), ((r_this 1), gA G 3 t_this_steps)] out (fun x => x.1) (fun x u => [(h_this, .inr (7, FX8 r_this x.2.1 i_this_hasDecoded i_this_codedCount i_this_codedWidth i_this_codedHeight i_this_replacedSize i_this_replacedPlainSize)), ((r_this 1), gA G 3 x.2.2)]) := by
  refine gTi_of (by decide +kernel) (Nat.le_of_ble_eq_true rfl) ?_
  intro p e s m args below meth c ls A Q X hK hA hsz hH hl hS hZ hno hQ hE
  subst hsz
  have hx := X.1
  have hb := X.2.1
  unfold lf_X8_setSteps at hf
  have hl : lv_has ls 4 [(0, .ref h_this), (1, .int p0), (2, .int p1), (3, .int p2)] := hl
  have hH : gH G A s.heap s.heap [] [(h_this, .inr (7, FX8 r_this i_this_layerCount i_this_hasDecoded i_this_codedCount i_this_codedWidth i_this_codedHeight i_this_replacedSize i_this_replacedPlainSize)), ((r_this 1), gA G 3 t_this_steps)] := hH
  refine lv_bipush (v := (33 : Int32)) hx hb dX8_setSteps_0 (by decide) ?_
  refine lv_iload_n hx hb dX8_setSteps_2 rfl (lv_at hl 1 rfl) ?_
  obtain ⟨o1, ho1, hf⟩ := sbind hf
  refine g_cSi (isC := []) (isR := [0, 1]) (isP := [0, 1]) (wr := [(h_this, .inr (7, FX8 r_this i_this_layerCount i_this_hasDecoded i_this_codedCount i_this_codedWidth i_this_codedHeight i_this_replacedSize i_this_replacedPlainSize)), ((r_this 1), gA G 3 t_this_steps)]) (w2 := [(h_this, .inr (7, FX8 r_this i_this_layerCount i_this_hasDecoded i_this_codedCount i_this_codedWidth i_this_codedHeight i_this_replacedSize i_this_replacedPlainSize)), ((r_this 1), gA G 3 t_this_steps)]) X hK hA hH hl (ct_X8_isStepAfter l G (33 : Int32) p0 s.heap.size o1 ho1) ⟨q_1, q_428, hd_X8_isStepAfter, rfl, rfl, ⟨Nat.le_of_ble_eq_true rfl, Nat.le_of_ble_eq_true rfl⟩, ⟨Nat.zero_le _, Nat.zero_le _⟩⟩ q_426 q_427 ⟨rfl, rfl, rfl, rfl, by decide, rfl, rfl⟩ rfl rfl (Nat.le_of_ble_eq_true rfl) dX8_setSteps_3 (fun H locs hH => ?_)
  refine lv_if_ne (tgt := 19) hx hb dX8_setSteps_6 (by decide) (fun c2 => ?_) (fun c2 => ?_)
  · have hf := sneg hf c2
    refine lv_iload_n hx hb dX8_setSteps_19 rfl (lv_at hl 2 rfl) ?_
    obtain ⟨k4, hk4, hf⟩ := sjn hf
    have J4 : ∀  (H : Heap) (locs : List Loc) (ls : Array Slot), k4 () = some out → gH G A s.heap H locs [(h_this, .inr (7, FX8 r_this i_this_layerCount i_this_hasDecoded i_this_codedCount i_this_codedWidth i_this_codedHeight i_this_replacedSize i_this_replacedPlainSize)), ((r_this 1), gA G 3 t_this_steps)] → lv_has ls 4 [(0, .ref h_this), (1, .int p0), (2, .int p1), (3, .int p2)] → W p l e (rm_X8_setSteps (tc out)) s m args below meth c H locs 0 0 Q (F0 m 41 ls []) := by
      intro  H locs ls hf hH hl
      have hf := hk4 _ _ hf
      refine lv_iload_n hx hb dX8_setSteps_41 rfl (lv_at hl 3 rfl) ?_
      obtain ⟨k6, hk6, hf⟩ := sjn hf
      have J6 : ∀  (H : Heap) (locs : List Loc) (ls : Array Slot), k6 () = some out → gH G A s.heap H locs [(h_this, .inr (7, FX8 r_this i_this_layerCount i_this_hasDecoded i_this_codedCount i_this_codedWidth i_this_codedHeight i_this_replacedSize i_this_replacedPlainSize)), ((r_this 1), gA G 3 t_this_steps)] → lv_has ls 4 [(0, .ref h_this), (1, .int p0), (2, .int p1), (3, .int p2)] → W p l e (rm_X8_setSteps (tc out)) s m args below meth c H locs 0 0 Q (F0 m 63 ls []) := by
        intro  H locs ls hf hH hl
        have hf := hk6 _ _ hf
        refine lv_aload_n hx hb dX8_setSteps_63 rfl (lv_at hl 0 rfl) ?_
        refine g_get (T := TX8) (N := 18) (ci := 7) (C := RX8) (v := .ref (r_this 1)) X hK hH in_RX8 0 rfl rfl 1 (by decide) q_213 (fun _ h9 => h9) rfl dX8_setSteps_64 ?_
        refine lv_iconst (v := (0 : Int32)) hx hb dX8_setSteps_67 (by decide) ?_
        refine lv_iload_n hx hb dX8_setSteps_68 rfl (lv_at hl 1 rfl) ?_
        obtain ⟨g7, hg7, hf⟩ := sbind hf
        refine g_ast (w1 := [(h_this, .inr (7, FX8 r_this i_this_layerCount i_this_hasDecoded i_this_codedCount i_this_codedWidth i_this_codedHeight i_this_replacedSize i_this_replacedPlainSize)), ((r_this 1), gA G 3 g7)]) X hK hH 1 rfl hg7 dX8_setSteps_69 rfl (fun H locs hH => ?_)
        refine lv_aload_n hx hb dX8_setSteps_70 rfl (lv_at hl 0 rfl) ?_
        refine g_get (T := TX8) (N := 18) (ci := 7) (C := RX8) (v := .ref (r_this 1)) X hK hH in_RX8 0 rfl rfl 1 (by decide) q_213 (fun _ h9 => h9) rfl dX8_setSteps_71 ?_
        refine lv_iconst (v := (1 : Int32)) hx hb dX8_setSteps_74 (by decide) ?_
        refine lv_iload_n hx hb dX8_setSteps_75 rfl (lv_at hl 2 rfl) ?_
        obtain ⟨g8, hg8, hf⟩ := sbind hf
        refine g_ast (w1 := [(h_this, .inr (7, FX8 r_this i_this_layerCount i_this_hasDecoded i_this_codedCount i_this_codedWidth i_this_codedHeight i_this_replacedSize i_this_replacedPlainSize)), ((r_this 1), gA G 3 g8)]) X hK hH 1 rfl hg8 dX8_setSteps_76 rfl (fun H locs hH => ?_)
        refine lv_aload_n hx hb dX8_setSteps_77 rfl (lv_at hl 0 rfl) ?_
        refine g_get (T := TX8) (N := 18) (ci := 7) (C := RX8) (v := .ref (r_this 1)) X hK hH in_RX8 0 rfl rfl 1 (by decide) q_213 (fun _ h9 => h9) rfl dX8_setSteps_78 ?_
        refine lv_iconst (v := (2 : Int32)) hx hb dX8_setSteps_81 (by decide) ?_
        refine lv_iload_n hx hb dX8_setSteps_82 rfl (lv_at hl 3 rfl) ?_
        obtain ⟨g9, hg9, hf⟩ := sbind hf
        refine g_ast (w1 := [(h_this, .inr (7, FX8 r_this i_this_layerCount i_this_hasDecoded i_this_codedCount i_this_codedWidth i_this_codedHeight i_this_replacedSize i_this_replacedPlainSize)), ((r_this 1), gA G 3 g9)]) X hK hH 1 rfl hg9 dX8_setSteps_83 rfl (fun H locs hH => ?_)
        refine lv_aload_n hx hb dX8_setSteps_84 rfl (lv_at hl 0 rfl) ?_
        refine lv_iload_n hx hb dX8_setSteps_85 rfl (lv_at hl 2 rfl) ?_
        obtain ⟨k12, hk12, hf⟩ := sjn hf
        have J12 : ∀ (s11 : Int32) (H : Heap) (locs : List Loc) (ls : Array Slot), k12 s11 = some out → gH G A s.heap H locs [(h_this, .inr (7, FX8 r_this i_this_layerCount i_this_hasDecoded i_this_codedCount i_this_codedWidth i_this_codedHeight i_this_replacedSize i_this_replacedPlainSize)), ((r_this 1), gA G 3 g9)] → lv_has ls 4 [(0, .ref h_this)] → W p l e (rm_X8_setSteps (tc out)) s m args below meth c H locs 0 0 Q (F0 m 102 ls [.int s11, .ref h_this]) := by
          intro s11 H locs ls hf hH hl
          have hf := hk12 _ _ hf
          refine g_put (w1 := [(h_this, .inr (7, FX8 r_this s11 i_this_hasDecoded i_this_codedCount i_this_codedWidth i_this_codedHeight i_this_replacedSize i_this_replacedPlainSize)), ((r_this 1), gA G 3 g9)]) (T := TX8) (N := 18) (ci := 7) (C := RX8) (ty := .int) (v := .int s11) X hK hH in_RX8 tyX8 tyX8_ok nmX8 0 rfl rfl 2 (by decide) q_214 (fun _ h9 => h9) rfl (by decide +kernel) rfl rfl (Nat.le_of_ble_eq_true rfl) dX8_setSteps_102 FX8_layerCount rfl (fun H locs hH => ?_)
          refine lv_aload_n hx hb dX8_setSteps_105 rfl (lv_at hl 0 rfl) ?_
          refine g_get (T := TX8) (N := 18) (ci := 7) (C := RX8) (v := .int s11) X hK hH in_RX8 0 rfl rfl 2 (by decide) q_214 (fun _ h9 => h9) rfl dX8_setSteps_106 ?_
          obtain rfl := Option.some.inj hf
          exact hE (s11, s11, g9) 0 _ _ _ _ rfl rfl hH dX8_setSteps_109
        refine lv_if_ne (tgt := 93) hx hb dX8_setSteps_86 (by decide) (fun c10 => ?_) (fun c10 => ?_)
        · have hf := sneg hf c10
          refine lv_iload_n hx hb dX8_setSteps_93 rfl (lv_at hl 3 rfl) ?_
          refine lv_if_ne (tgt := 101) hx hb dX8_setSteps_94 (by decide) (fun c13 => ?_) (fun c13 => ?_)
          · have hf := sneg hf c13
            refine lv_iconst (v := (3 : Int32)) hx hb dX8_setSteps_101 (by decide) ?_
            exact J12 (3 : Int32) _ _ _ hf hH (lv_sub hl [0] rfl)
          · have hf := spos hf c13
            refine lv_iconst (v := (2 : Int32)) hx hb dX8_setSteps_97 (by decide) ?_
            refine lv_goto (tgt := 102) hx hb dX8_setSteps_98 (by decide) ?_
            exact J12 (2 : Int32) _ _ _ hf hH (lv_sub hl [0] rfl)
        · have hf := spos hf c10
          refine lv_iconst (v := (1 : Int32)) hx hb dX8_setSteps_89 (by decide) ?_
          refine lv_goto (tgt := 102) hx hb dX8_setSteps_90 (by decide) ?_
          exact J12 (1 : Int32) _ _ _ hf hH (lv_sub hl [0] rfl)
      refine lv_if_eq (tgt := 63) hx hb dX8_setSteps_42 (by decide) (fun c5 => ?_) (fun c5 => ?_)
      · have hf := spos hf c5
        exact J6  _ _ _ hf hH (lv_sub hl [0, 1, 2, 3] rfl)
      · have hf := sneg hf c5
        refine lv_iload_n hx hb dX8_setSteps_45 rfl (lv_at hl 2 rfl) ?_
        refine lv_iload_n hx hb dX8_setSteps_46 rfl (lv_at hl 3 rfl) ?_
        obtain ⟨o14, ho14, hf⟩ := sbind hf
        refine g_cSi (isC := []) (isR := [0, 1]) (isP := [0, 1]) (wr := [(h_this, .inr (7, FX8 r_this i_this_layerCount i_this_hasDecoded i_this_codedCount i_this_codedWidth i_this_codedHeight i_this_replacedSize i_this_replacedPlainSize)), ((r_this 1), gA G 3 t_this_steps)]) (w2 := [(h_this, .inr (7, FX8 r_this i_this_layerCount i_this_hasDecoded i_this_codedCount i_this_codedWidth i_this_codedHeight i_this_replacedSize i_this_replacedPlainSize)), ((r_this 1), gA G 3 t_this_steps)]) X hK hA hH hl (ct_X8_isStepAfter l G p1 p2 H.size o14 ho14) ⟨q_1, q_428, hd_X8_isStepAfter, rfl, rfl, ⟨Nat.le_of_ble_eq_true rfl, Nat.le_of_ble_eq_true rfl⟩, ⟨Nat.zero_le _, Nat.zero_le _⟩⟩ q_426 q_427 ⟨rfl, rfl, rfl, rfl, by decide, rfl, rfl⟩ rfl rfl (Nat.le_of_ble_eq_true rfl) dX8_setSteps_47 (fun H locs hH => ?_)
        refine lv_if_ne (tgt := 63) hx hb dX8_setSteps_50 (by decide) (fun c15 => ?_) (fun c15 => ?_)
        · have hf := sneg hf c15
          exact J6  _ _ _ hf hH (lv_sub hl [0, 1, 2, 3] rfl)
        · have hf := spos hf c15
          obtain rfl := Option.some.inj hf
          rw [hQ]
          exact g_throw X hst hK hS hZ hH hl hno 0 atG0 q_386 (List.mem_of_getElem? (i := 5) rfl) dX8_setSteps_53 dX8_setSteps_56 dX8_setSteps_57 dX8_setSteps_59 dX8_setSteps_62 ⟨Nat.le_of_ble_eq_true rfl, Nat.le_of_ble_eq_true rfl⟩ ⟨Nat.le_of_ble_eq_true rfl, Nat.le_of_ble_eq_true rfl⟩
    refine lv_if_eq (tgt := 41) hx hb dX8_setSteps_20 (by decide) (fun c3 => ?_) (fun c3 => ?_)
    · have hf := spos hf c3
      exact J4  _ _ _ hf hH (lv_sub hl [0, 1, 2, 3] rfl)
    · have hf := sneg hf c3
      refine lv_iload_n hx hb dX8_setSteps_23 rfl (lv_at hl 1 rfl) ?_
      refine lv_iload_n hx hb dX8_setSteps_24 rfl (lv_at hl 2 rfl) ?_
      obtain ⟨o16, ho16, hf⟩ := sbind hf
      refine g_cSi (isC := []) (isR := [0, 1]) (isP := [0, 1]) (wr := [(h_this, .inr (7, FX8 r_this i_this_layerCount i_this_hasDecoded i_this_codedCount i_this_codedWidth i_this_codedHeight i_this_replacedSize i_this_replacedPlainSize)), ((r_this 1), gA G 3 t_this_steps)]) (w2 := [(h_this, .inr (7, FX8 r_this i_this_layerCount i_this_hasDecoded i_this_codedCount i_this_codedWidth i_this_codedHeight i_this_replacedSize i_this_replacedPlainSize)), ((r_this 1), gA G 3 t_this_steps)]) X hK hA hH hl (ct_X8_isStepAfter l G p0 p1 H.size o16 ho16) ⟨q_1, q_428, hd_X8_isStepAfter, rfl, rfl, ⟨Nat.le_of_ble_eq_true rfl, Nat.le_of_ble_eq_true rfl⟩, ⟨Nat.zero_le _, Nat.zero_le _⟩⟩ q_426 q_427 ⟨rfl, rfl, rfl, rfl, by decide, rfl, rfl⟩ rfl rfl (Nat.le_of_ble_eq_true rfl) dX8_setSteps_25 (fun H locs hH => ?_)
      refine lv_if_ne (tgt := 41) hx hb dX8_setSteps_28 (by decide) (fun c17 => ?_) (fun c17 => ?_)
      · have hf := sneg hf c17
        exact J4  _ _ _ hf hH (lv_sub hl [0, 1, 2, 3] rfl)
      · have hf := spos hf c17
        obtain rfl := Option.some.inj hf
        rw [hQ]
        exact g_throw X hst hK hS hZ hH hl hno 0 atG0 q_386 (List.mem_of_getElem? (i := 4) rfl) dX8_setSteps_31 dX8_setSteps_34 dX8_setSteps_35 dX8_setSteps_37 dX8_setSteps_40 ⟨Nat.le_of_ble_eq_true rfl, Nat.le_of_ble_eq_true rfl⟩ ⟨Nat.le_of_ble_eq_true rfl, Nat.le_of_ble_eq_true rfl⟩
  · have hf := spos hf c2
    obtain rfl := Option.some.inj hf
    rw [hQ]
    exact g_throw X hst hK hS hZ hH hl hno 0 atG0 q_386 (List.mem_of_getElem? (i := 3) rfl) dX8_setSteps_9 dX8_setSteps_12 dX8_setSteps_13 dX8_setSteps_15 dX8_setSteps_18 ⟨Nat.le_of_ble_eq_true rfl, Nat.le_of_ble_eq_true rfl⟩ ⟨Nat.le_of_ble_eq_true rfl, Nat.le_of_ble_eq_true rfl⟩

def lf_X8_isLossless (i_this_layerCount : Int32) (t_this_steps : Nat → Int32) : Option (Int32) :=
(rdA 3 t_this_steps (i_this_layerCount - (1 : Int32))).bind fun x1 => (if x1 = (1 : Int32) then some (1 : Int32) else some (0 : Int32))
abbrev rm_X8_isLossless : Room := { frames := 0, cells := 0, slots := 0, locals := 0 }
theorem hd_X8_isLossless : yX8_isLossless.cls ≠ "java/lang/invoke/MethodHandle" ∧ yX8_isLossless.cls ≠ "java/lang/invoke/VarHandle" ∧ (parseMethodDescriptor yX8_isLossless.desc).map (fun d => d.parameters.length) = some 0 := by decide +kernel
set_option maxHeartbeats 4000000 in
set_option maxRecDepth 100000 in
theorem ct_X8_isLossless (l : Launch) (G : gG) (h_this : Nat) (r_this : Nat → Nat) (i_this_layerCount i_this_hasDecoded i_this_codedCount i_this_codedWidth i_this_codedHeight i_this_replacedSize i_this_replacedPlainSize : Int32) (t_this_steps : Nat → Int32) (sz : Nat) (out : Int32) (hf : lf_X8_isLossless i_this_layerCount t_this_steps = some out) : gI l G yX8_isLossless cX8_isLossless 1 .boolean rm_X8_isLossless [.ref h_this] sz [(h_this, .inr (7, FX8 r_this i_this_layerCount i_this_hasDecoded i_this_codedCount i_this_codedWidth i_this_codedHeight i_this_replacedSize i_this_replacedPlainSize)), ((r_this 1), gA G 3 t_this_steps)] out [(h_this, .inr (7, FX8 r_this i_this_layerCount i_this_hasDecoded i_this_codedCount i_this_codedWidth i_this_codedHeight i_this_replacedSize i_this_replacedPlainSize)), ((r_this 1), gA G 3 t_this_steps)] := by
  refine gI_of (by decide +kernel) (Nat.le_of_ble_eq_true rfl) ?_
  intro p e s m args below meth c ls A Q X hK hA hsz hH hl hE
  subst hsz
  have hx := X.1
  have hb := X.2.1
  unfold lf_X8_isLossless at hf
  have hl : lv_has ls 1 [(0, .ref h_this)] := hl
  have hH : gH G A s.heap s.heap [] [(h_this, .inr (7, FX8 r_this i_this_layerCount i_this_hasDecoded i_this_codedCount i_this_codedWidth i_this_codedHeight i_this_replacedSize i_this_replacedPlainSize)), ((r_this 1), gA G 3 t_this_steps)] := hH
  refine lv_aload_n hx hb dX8_isLossless_0 rfl (lv_at hl 0 rfl) ?_
  refine g_get (T := TX8) (N := 18) (ci := 7) (C := RX8) (v := .ref (r_this 1)) X hK hH in_RX8 0 rfl rfl 1 (by decide) q_213 (fun _ h9 => h9) rfl dX8_isLossless_1 ?_
  refine lv_aload_n hx hb dX8_isLossless_4 rfl (lv_at hl 0 rfl) ?_
  refine g_get (T := TX8) (N := 18) (ci := 7) (C := RX8) (v := .int i_this_layerCount) X hK hH in_RX8 0 rfl rfl 2 (by decide) q_214 (fun _ h9 => h9) rfl dX8_isLossless_5 ?_
  refine lv_iconst (v := (1 : Int32)) hx hb dX8_isLossless_8 (by decide) ?_
  refine lv_isub hx hb dX8_isLossless_9 ?_
  obtain ⟨x1, hx1, hf⟩ := sbind hf
  refine g_ald X hK hH 1 rfl hx1 dX8_isLossless_10 ?_
  refine lv_iconst (v := (1 : Int32)) hx hb dX8_isLossless_11 (by decide) ?_
  refine lv_icmp_ne (tgt := 19) hx hb dX8_isLossless_12 (by decide) (fun c2 => ?_) (fun c2 => ?_)
  · have hf := sneg hf c2
    refine lv_iconst (v := (0 : Int32)) hx hb dX8_isLossless_19 (by decide) ?_
    obtain rfl := Option.some.inj hf
    exact hE _ _ _ _ (show narrow .boolean (.int (0 : Int32)) = .int (0 : Int32) from rfl) hH dX8_isLossless_20
  · have hf := spos hf c2
    refine lv_iconst (v := (1 : Int32)) hx hb dX8_isLossless_15 (by decide) ?_
    refine lv_goto (tgt := 20) hx hb dX8_isLossless_16 (by decide) ?_
    obtain rfl := Option.some.inj hf
    exact hE _ _ _ _ (show narrow .boolean (.int (1 : Int32)) = .int (1 : Int32) from rfl) hH dX8_isLossless_20

def lf_X8_size (i_this_stream_count : Int32) : Option (Int32) :=
some i_this_stream_count
abbrev rm_X8_size : Room := { frames := 0, cells := 0, slots := 0, locals := 0 }
theorem hd_X8_size : yX8_size.cls ≠ "java/lang/invoke/MethodHandle" ∧ yX8_size.cls ≠ "java/lang/invoke/VarHandle" ∧ (parseMethodDescriptor yX8_size.desc).map (fun d => d.parameters.length) = some 0 := by decide +kernel
set_option maxHeartbeats 4000000 in
set_option maxRecDepth 100000 in
theorem ct_X8_size (l : Launch) (G : gG) (h_this : Nat) (r_this r_this_stream : Nat → Nat) (q_this_stream_bytes : Nat) (i_this_layerCount i_this_hasDecoded i_this_codedCount i_this_codedWidth i_this_codedHeight i_this_replacedSize i_this_replacedPlainSize i_this_stream_count : Int32) (sz : Nat) (out : Int32) (hf : lf_X8_size i_this_stream_count = some out) : gI l G yX8_size cX8_size 1 .int rm_X8_size [.ref h_this] sz [(h_this, .inr (7, FX8 r_this i_this_layerCount i_this_hasDecoded i_this_codedCount i_this_codedWidth i_this_codedHeight i_this_replacedSize i_this_replacedPlainSize)), ((r_this 3), .inr (2, FX3 r_this_stream q_this_stream_bytes i_this_stream_count))] out [(h_this, .inr (7, FX8 r_this i_this_layerCount i_this_hasDecoded i_this_codedCount i_this_codedWidth i_this_codedHeight i_this_replacedSize i_this_replacedPlainSize)), ((r_this 3), .inr (2, FX3 r_this_stream q_this_stream_bytes i_this_stream_count))] := by
  refine gI_of (by decide +kernel) (Nat.le_of_ble_eq_true rfl) ?_
  intro p e s m args below meth c ls A Q X hK hA hsz hH hl hE
  subst hsz
  have hx := X.1
  have hb := X.2.1
  unfold lf_X8_size at hf
  have hl : lv_has ls 1 [(0, .ref h_this)] := hl
  have hH : gH G A s.heap s.heap [] [(h_this, .inr (7, FX8 r_this i_this_layerCount i_this_hasDecoded i_this_codedCount i_this_codedWidth i_this_codedHeight i_this_replacedSize i_this_replacedPlainSize)), ((r_this 3), .inr (2, FX3 r_this_stream q_this_stream_bytes i_this_stream_count))] := hH
  refine lv_aload_n hx hb dX8_size_0 rfl (lv_at hl 0 rfl) ?_
  refine g_get (T := TX8) (N := 18) (ci := 7) (C := RX8) (v := .ref (r_this 3)) X hK hH in_RX8 0 rfl rfl 3 (by decide) q_215 (fun _ h9 => h9) rfl dX8_size_1 ?_
  refine g_getN (T := TX3) (N := 2) (ci := 2) (C := RX3) (v := .int i_this_stream_count) X hK hH in_RX3 1 rfl rfl 1 (by decide) qn_69 (fun _ h9 => h9) rfl dX8_size_4 ?_
  obtain rfl := Option.some.inj hf
  exact hE _ _ _ _ rfl hH dX8_size_7

def lf_X8_requireStreamByte (i_this_stream_count : Int32) (p0 : Int32) : Option (Nat ⊕ (Unit)) :=
jn (fun (z2 : Unit) => some (Sum.inl 1)) (fun k2 => (if p0 < (0 : Int32) then k2 () else (if p0 < i_this_stream_count then some (Sum.inr ()) else k2 ())))
abbrev rm_X8_requireStreamByte (k : Nat) : Room := { frames := 6, cells := k, slots := 6 * k, locals := 98 }
theorem hd_X8_requireStreamByte : yX8_requireStreamByte.cls ≠ "java/lang/invoke/MethodHandle" ∧ yX8_requireStreamByte.cls ≠ "java/lang/invoke/VarHandle" ∧ (parseMethodDescriptor yX8_requireStreamByte.desc).map (fun d => d.parameters.length) = some 1 := by decide +kernel
set_option maxHeartbeats 4000000 in
set_option maxRecDepth 100000 in
theorem ct_X8_requireStreamByte (l : Launch) (G : gG) (h_this : Nat) (r_this r_this_stream : Nat → Nat) (q_this_stream_bytes : Nat) (i_this_layerCount i_this_hasDecoded i_this_codedCount i_this_codedWidth i_this_codedHeight i_this_replacedSize i_this_replacedPlainSize i_this_stream_count : Int32) (p0 : Int32) (sz : Nat) (out : Nat ⊕ (Unit)) (hf : lf_X8_requireStreamByte i_this_stream_count p0 = some out) (hst : l.stackTraces = false) : gTv l G yX8_requireStreamByte cX8_requireStreamByte 2 (rm_X8_requireStreamByte (tc out)) [.ref h_this, .int p0] sz [(h_this, .inr (7, FX8 r_this i_this_layerCount i_this_hasDecoded i_this_codedCount i_this_codedWidth i_this_codedHeight i_this_replacedSize i_this_replacedPlainSize)), ((r_this 3), .inr (2, FX3 r_this_stream q_this_stream_bytes i_this_stream_count))] out (fun x u => [(h_this, .inr (7, FX8 r_this i_this_layerCount i_this_hasDecoded i_this_codedCount i_this_codedWidth i_this_codedHeight i_this_replacedSize i_this_replacedPlainSize)), ((r_this 3), .inr (2, FX3 r_this_stream q_this_stream_bytes i_this_stream_count))]) := by
  refine gTv_of (by decide +kernel) (Nat.le_of_ble_eq_true rfl) ?_
  intro p e s m args below meth c ls A Q X hK hA hsz hH hl hS hZ hno hQ hE
  subst hsz
  have hx := X.1
  have hb := X.2.1
  unfold lf_X8_requireStreamByte at hf
  have hl : lv_has ls 2 [(0, .ref h_this), (1, .int p0)] := hl
  have hH : gH G A s.heap s.heap [] [(h_this, .inr (7, FX8 r_this i_this_layerCount i_this_hasDecoded i_this_codedCount i_this_codedWidth i_this_codedHeight i_this_replacedSize i_this_replacedPlainSize)), ((r_this 3), .inr (2, FX3 r_this_stream q_this_stream_bytes i_this_stream_count))] := hH
  refine lv_iload_n hx hb dX8_requireStreamByte_0 rfl (lv_at hl 1 rfl) ?_
  obtain ⟨k2, hk2, hf⟩ := sjn hf
  have J2 : ∀  (H : Heap) (locs : List Loc) (ls : Array Slot), k2 () = some out → gH G A s.heap H locs [(h_this, .inr (7, FX8 r_this i_this_layerCount i_this_hasDecoded i_this_codedCount i_this_codedWidth i_this_codedHeight i_this_replacedSize i_this_replacedPlainSize)), ((r_this 3), .inr (2, FX3 r_this_stream q_this_stream_bytes i_this_stream_count))] → lv_has ls 2 [] → W p l e (rm_X8_requireStreamByte (tc out)) s m args below meth c H locs 0 0 Q (F0 m 15 ls []) := by
    intro  H locs ls hf hH hl
    have hf := hk2 _ _ hf
    obtain rfl := Option.some.inj hf
    rw [hQ]
    exact g_throwW X hst hK hS hZ hH hl hno 1 atG1 q_314 (List.mem_of_getElem? (i := 6) rfl) dX8_requireStreamByte_15 dX8_requireStreamByte_18 dX8_requireStreamByte_19 dX8_requireStreamByte_22 dX8_requireStreamByte_25 ⟨Nat.le_of_ble_eq_true rfl, Nat.le_of_ble_eq_true rfl⟩ ⟨Nat.le_of_ble_eq_true rfl, Nat.le_of_ble_eq_true rfl⟩
  refine lv_if_lt (tgt := 15) hx hb dX8_requireStreamByte_1 (by decide) (fun c1 => ?_) (fun c1 => ?_)
  · have hf := spos hf c1
    exact J2  _ _ _ hf hH (lv_sub hl [] rfl)
  · have hf := sneg hf c1
    refine lv_iload_n hx hb dX8_requireStreamByte_4 rfl (lv_at hl 1 rfl) ?_
    refine lv_aload_n hx hb dX8_requireStreamByte_5 rfl (lv_at hl 0 rfl) ?_
    refine g_get (T := TX8) (N := 18) (ci := 7) (C := RX8) (v := .ref (r_this 3)) X hK hH in_RX8 0 rfl rfl 3 (by decide) q_215 (fun _ h9 => h9) rfl dX8_requireStreamByte_6 ?_
    refine g_getN (T := TX3) (N := 2) (ci := 2) (C := RX3) (v := .int i_this_stream_count) X hK hH in_RX3 1 rfl rfl 1 (by decide) qn_69 (fun _ h9 => h9) rfl dX8_requireStreamByte_9 ?_
    refine lv_icmp_lt (tgt := 26) hx hb dX8_requireStreamByte_12 (by decide) (fun c3 => ?_) (fun c3 => ?_)
    · have hf := spos hf c3
      obtain rfl := Option.some.inj hf
      exact hE () 0 _ _ _ _ rfl hH dX8_requireStreamByte_26
    · have hf := sneg hf c3
      exact J2  _ _ _ hf hH (lv_sub hl [] rfl)

def lf_X8_byteAt (i_this_stream_count : Int32) (n_this_stream_bytes : Nat) (t_this_stream_bytes : Nat → Int32) (p0 : Int32) : Option (Nat ⊕ (Int32)) :=
(lf_X8_requireStreamByte i_this_stream_count p0).bind fun o1 => Sum.elim (fun kk => some (Sum.inl kk)) (fun r2 => (lf_X3_at i_this_stream_count n_this_stream_bytes t_this_stream_bytes p0).bind fun o5 => some (Sum.inr o5)) o1
abbrev rm_X8_byteAt (k : Nat) : Room := { frames := 7, cells := k, slots := 6 * k, locals := 119 }
theorem hd_X8_byteAt : yX8_byteAt.cls ≠ "java/lang/invoke/MethodHandle" ∧ yX8_byteAt.cls ≠ "java/lang/invoke/VarHandle" ∧ (parseMethodDescriptor yX8_byteAt.desc).map (fun d => d.parameters.length) = some 1 := by decide +kernel
set_option maxHeartbeats 4000000 in
set_option maxRecDepth 100000 in
theorem ct_X8_byteAt (l : Launch) (G : gG) (h_this : Nat) (r_this r_this_stream : Nat → Nat) (q_this_stream_bytes n_this_stream_bytes : Nat) (i_this_layerCount i_this_hasDecoded i_this_codedCount i_this_codedWidth i_this_codedHeight i_this_replacedSize i_this_replacedPlainSize i_this_stream_count : Int32) (t_this_stream_bytes : Nat → Int32) (p0 : Int32) (sz : Nat) (out : Nat ⊕ (Int32)) (hf : lf_X8_byteAt i_this_stream_count n_this_stream_bytes t_this_stream_bytes p0 = some out) (hst : l.stackTraces = false) : gTi l G yX8_byteAt cX8_byteAt 2 .int (rm_X8_byteAt (tc out)) [.ref h_this, .int p0] sz [(h_this, .inr (7, FX8 r_this i_this_layerCount i_this_hasDecoded i_this_codedCount i_this_codedWidth i_this_codedHeight i_this_replacedSize i_this_replacedPlainSize)), ((r_this 3), .inr (2, FX3 r_this_stream q_this_stream_bytes i_this_stream_count)), (q_this_stream_bytes, gA G n_this_stream_bytes t_this_stream_bytes)] out (fun x => x) (fun x u => [(h_this, .inr (7, FX8 r_this i_this_layerCount i_this_hasDecoded i_this_codedCount i_this_codedWidth i_this_codedHeight i_this_replacedSize i_this_replacedPlainSize)), ((r_this 3), .inr (2, FX3 r_this_stream q_this_stream_bytes i_this_stream_count)), (q_this_stream_bytes, gA G n_this_stream_bytes t_this_stream_bytes)]) := by
  refine gTi_of (by decide +kernel) (Nat.le_of_ble_eq_true rfl) ?_
  intro p e s m args below meth c ls A Q X hK hA hsz hH hl hS hZ hno hQ hE
  subst hsz
  have hx := X.1
  have hb := X.2.1
  unfold lf_X8_byteAt at hf
  have hl : lv_has ls 2 [(0, .ref h_this), (1, .int p0)] := hl
  have hH : gH G A s.heap s.heap [] [(h_this, .inr (7, FX8 r_this i_this_layerCount i_this_hasDecoded i_this_codedCount i_this_codedWidth i_this_codedHeight i_this_replacedSize i_this_replacedPlainSize)), ((r_this 3), .inr (2, FX3 r_this_stream q_this_stream_bytes i_this_stream_count)), (q_this_stream_bytes, gA G n_this_stream_bytes t_this_stream_bytes)] := hH
  refine lv_aload_n hx hb dX8_byteAt_0 rfl (lv_at hl 0 rfl) ?_
  refine lv_iload_n hx hb dX8_byteAt_1 rfl (lv_at hl 1 rfl) ?_
  obtain ⟨o1, ho1, hf⟩ := sbind hf
  rcases o1 with k4 | r2
  · obtain rfl := Option.some.inj hf
    rw [hQ]
    exact g_tVx (isC := [0, 1]) (isR := [2]) (isP := [1, 2, 0]) (wr := [(q_this_stream_bytes, gA G n_this_stream_bytes t_this_stream_bytes)]) (q0 := 0) X hK hS hZ hno hA hH hl (ct_X8_requireStreamByte l G h_this r_this r_this_stream q_this_stream_bytes i_this_layerCount i_this_hasDecoded i_this_codedCount i_this_codedWidth i_this_codedHeight i_this_replacedSize i_this_replacedPlainSize i_this_stream_count p0 s.heap.size _ ho1 hst) ⟨q_1, q_442, hd_X8_requireStreamByte, rfl, rfl, ⟨Nat.le_of_ble_eq_true rfl, Nat.le_of_ble_eq_true rfl⟩, ⟨Nat.le_of_ble_eq_true rfl, Nat.le_of_ble_eq_true rfl⟩⟩ q_439 q_441 qs_1 rfl rfl ⟨rfl, rfl, rfl, rfl, by decide, rfl, rfl⟩ rfl rfl (Nat.le_of_ble_eq_true rfl) dX8_byteAt_2
  have hf := selimr hf
  refine g_tVr (isC := [0, 1]) (isR := [2]) (isP := [1, 2, 0]) (wr := [(q_this_stream_bytes, gA G n_this_stream_bytes t_this_stream_bytes)]) (q0 := 0) (w2 := (fun u3 => [(h_this, .inr (7, FX8 r_this i_this_layerCount i_this_hasDecoded i_this_codedCount i_this_codedWidth i_this_codedHeight i_this_replacedSize i_this_replacedPlainSize)), ((r_this 3), .inr (2, FX3 r_this_stream q_this_stream_bytes i_this_stream_count)), (q_this_stream_bytes, gA G n_this_stream_bytes t_this_stream_bytes)])) X hK hS hZ hA hH hl (ct_X8_requireStreamByte l G h_this r_this r_this_stream q_this_stream_bytes i_this_layerCount i_this_hasDecoded i_this_codedCount i_this_codedWidth i_this_codedHeight i_this_replacedSize i_this_replacedPlainSize i_this_stream_count p0 s.heap.size _ ho1 hst) ⟨q_1, q_442, hd_X8_requireStreamByte, rfl, rfl, ⟨Nat.le_of_ble_eq_true rfl, Nat.le_of_ble_eq_true rfl⟩, ⟨Nat.zero_le _, Nat.zero_le _⟩⟩ q_439 q_441 qs_1 rfl rfl (fun _ => ⟨rfl, rfl, rfl, rfl, by decide, rfl, rfl⟩) rfl rfl (Nat.le_of_ble_eq_true rfl) dX8_byteAt_2 (fun u3 H locs hH => ?_)
  refine lv_aload_n hx hb dX8_byteAt_5 rfl (lv_at hl 0 rfl) ?_
  refine g_get (T := TX8) (N := 18) (ci := 7) (C := RX8) (v := .ref (r_this 3)) X hK hH in_RX8 0 rfl rfl 3 (by decide) q_215 (fun _ h9 => h9) rfl dX8_byteAt_6 ?_
  refine lv_iload_n hx hb dX8_byteAt_9 rfl (lv_at hl 1 rfl) ?_
  obtain ⟨o5, ho5, hf⟩ := sbind hf
  refine g_cVi (isC := [1, 2]) (isR := [0]) (isP := [0, 1, 2]) (wr := [(h_this, .inr (7, FX8 r_this i_this_layerCount i_this_hasDecoded i_this_codedCount i_this_codedWidth i_this_codedHeight i_this_replacedSize i_this_replacedPlainSize))]) (w2 := [(h_this, .inr (7, FX8 r_this i_this_layerCount i_this_hasDecoded i_this_codedCount i_this_codedWidth i_this_codedHeight i_this_replacedSize i_this_replacedPlainSize)), ((r_this 3), .inr (2, FX3 r_this_stream q_this_stream_bytes i_this_stream_count)), (q_this_stream_bytes, gA G n_this_stream_bytes t_this_stream_bytes)]) (q0 := 1) X hK hA hH hl (ct_X3_at l G (r_this 3) r_this_stream q_this_stream_bytes n_this_stream_bytes i_this_stream_count t_this_stream_bytes p0 H.size o5 ho5) ⟨q_3, q_447, hd_X3_at, rfl, rfl, ⟨Nat.le_of_ble_eq_true rfl, Nat.le_of_ble_eq_true rfl⟩, ⟨Nat.zero_le _, Nat.zero_le _⟩⟩ q_444 q_445 q_446 rfl rfl ⟨rfl, rfl, rfl, rfl, by decide, rfl, rfl⟩ rfl rfl (Nat.le_of_ble_eq_true rfl) dX8_byteAt_10 (fun H locs hH => ?_)
  obtain rfl := Option.some.inj hf
  exact hE o5 0 _ _ _ _ rfl rfl hH dX8_byteAt_13

def lf_X8_setByte (i_this_stream_count : Int32) (n_this_stream_bytes : Nat) (t_this_stream_bytes : Nat → Int32) (p0 : Int32) (p1 : Int32) : Option (Nat ⊕ (Int32 × (Nat → Int32))) :=
(lf_X8_requireStreamByte i_this_stream_count p0).bind fun o1 => Sum.elim (fun kk => some (Sum.inl kk)) (fun r2 => (lf_X8_requireByte p1).bind fun o5 => Sum.elim (fun kk => some (Sum.inl kk)) (fun r6 => (lf_X3_at i_this_stream_count n_this_stream_bytes t_this_stream_bytes p0).bind fun o9 => (lf_X3_put i_this_stream_count n_this_stream_bytes t_this_stream_bytes p0 p1).bind fun o10 => some (Sum.inr (o9, o10))) o5) o1
abbrev rm_X8_setByte (k : Nat) : Room := { frames := 7, cells := k, slots := 6 * k, locals := 119 }
theorem hd_X8_setByte : yX8_setByte.cls ≠ "java/lang/invoke/MethodHandle" ∧ yX8_setByte.cls ≠ "java/lang/invoke/VarHandle" ∧ (parseMethodDescriptor yX8_setByte.desc).map (fun d => d.parameters.length) = some 2 := by decide +kernel
set_option maxHeartbeats 4000000 in
set_option maxRecDepth 100000 in
theorem ct_X8_setByte (l : Launch) (G : gG) (h_this : Nat) (r_this r_this_stream : Nat → Nat) (q_this_stream_bytes n_this_stream_bytes : Nat) (i_this_layerCount i_this_hasDecoded i_this_codedCount i_this_codedWidth i_this_codedHeight i_this_replacedSize i_this_replacedPlainSize i_this_stream_count : Int32) (t_this_stream_bytes : Nat → Int32) (p0 p1 : Int32) (sz : Nat) (out : Nat ⊕ (Int32 × (Nat → Int32))) (hf : lf_X8_setByte i_this_stream_count n_this_stream_bytes t_this_stream_bytes p0 p1 = some out) (hst : l.stackTraces = false) : gTi l G yX8_setByte cX8_setByte 4 .int (rm_X8_setByte (tc out)) [.ref h_this, .int p0, .int p1] sz [(h_this, .inr (7, FX8 r_this i_this_layerCount i_this_hasDecoded i_this_codedCount i_this_codedWidth i_this_codedHeight i_this_replacedSize i_this_replacedPlainSize)), ((r_this 3), .inr (2, FX3 r_this_stream q_this_stream_bytes i_this_stream_count)), (q_this_stream_bytes, gA G n_this_stream_bytes t_this_stream_bytes)] out (fun x => x.1) (fun x u => [(h_this, .inr (7, FX8 r_this i_this_layerCount i_this_hasDecoded i_this_codedCount i_this_codedWidth i_this_codedHeight i_this_replacedSize i_this_replacedPlainSize)), ((r_this 3), .inr (2, FX3 r_this_stream q_this_stream_bytes i_this_stream_count)), (q_this_stream_bytes, gA G n_this_stream_bytes x.2)]) := by
  refine gTi_of (by decide +kernel) (Nat.le_of_ble_eq_true rfl) ?_
  intro p e s m args below meth c ls A Q X hK hA hsz hH hl hS hZ hno hQ hE
  subst hsz
  have hx := X.1
  have hb := X.2.1
  unfold lf_X8_setByte at hf
  have hl : lv_has ls 4 [(0, .ref h_this), (1, .int p0), (2, .int p1)] := hl
  have hH : gH G A s.heap s.heap [] [(h_this, .inr (7, FX8 r_this i_this_layerCount i_this_hasDecoded i_this_codedCount i_this_codedWidth i_this_codedHeight i_this_replacedSize i_this_replacedPlainSize)), ((r_this 3), .inr (2, FX3 r_this_stream q_this_stream_bytes i_this_stream_count)), (q_this_stream_bytes, gA G n_this_stream_bytes t_this_stream_bytes)] := hH
  refine lv_aload_n hx hb dX8_setByte_0 rfl (lv_at hl 0 rfl) ?_
  refine lv_iload_n hx hb dX8_setByte_1 rfl (lv_at hl 1 rfl) ?_
  obtain ⟨o1, ho1, hf⟩ := sbind hf
  rcases o1 with k4 | r2
  · obtain rfl := Option.some.inj hf
    rw [hQ]
    exact g_tVx (isC := [0, 1]) (isR := [2]) (isP := [1, 2, 0]) (wr := [(q_this_stream_bytes, gA G n_this_stream_bytes t_this_stream_bytes)]) (q0 := 0) X hK hS hZ hno hA hH hl (ct_X8_requireStreamByte l G h_this r_this r_this_stream q_this_stream_bytes i_this_layerCount i_this_hasDecoded i_this_codedCount i_this_codedWidth i_this_codedHeight i_this_replacedSize i_this_replacedPlainSize i_this_stream_count p0 s.heap.size _ ho1 hst) ⟨q_1, q_442, hd_X8_requireStreamByte, rfl, rfl, ⟨Nat.le_of_ble_eq_true rfl, Nat.le_of_ble_eq_true rfl⟩, ⟨Nat.le_of_ble_eq_true rfl, Nat.le_of_ble_eq_true rfl⟩⟩ q_439 q_441 qs_1 rfl rfl ⟨rfl, rfl, rfl, rfl, by decide, rfl, rfl⟩ rfl rfl (Nat.le_of_ble_eq_true rfl) dX8_setByte_2
  have hf := selimr hf
  refine g_tVr (isC := [0, 1]) (isR := [2]) (isP := [1, 2, 0]) (wr := [(q_this_stream_bytes, gA G n_this_stream_bytes t_this_stream_bytes)]) (q0 := 0) (w2 := (fun u3 => [(h_this, .inr (7, FX8 r_this i_this_layerCount i_this_hasDecoded i_this_codedCount i_this_codedWidth i_this_codedHeight i_this_replacedSize i_this_replacedPlainSize)), ((r_this 3), .inr (2, FX3 r_this_stream q_this_stream_bytes i_this_stream_count)), (q_this_stream_bytes, gA G n_this_stream_bytes t_this_stream_bytes)])) X hK hS hZ hA hH hl (ct_X8_requireStreamByte l G h_this r_this r_this_stream q_this_stream_bytes i_this_layerCount i_this_hasDecoded i_this_codedCount i_this_codedWidth i_this_codedHeight i_this_replacedSize i_this_replacedPlainSize i_this_stream_count p0 s.heap.size _ ho1 hst) ⟨q_1, q_442, hd_X8_requireStreamByte, rfl, rfl, ⟨Nat.le_of_ble_eq_true rfl, Nat.le_of_ble_eq_true rfl⟩, ⟨Nat.zero_le _, Nat.zero_le _⟩⟩ q_439 q_441 qs_1 rfl rfl (fun _ => ⟨rfl, rfl, rfl, rfl, by decide, rfl, rfl⟩) rfl rfl (Nat.le_of_ble_eq_true rfl) dX8_setByte_2 (fun u3 H locs hH => ?_)
  refine lv_iload_n hx hb dX8_setByte_5 rfl (lv_at hl 2 rfl) ?_
  obtain ⟨o5, ho5, hf⟩ := sbind hf
  rcases o5 with k8 | r6
  · obtain rfl := Option.some.inj hf
    rw [hQ]
    exact g_tSx (isC := []) (isR := [0, 1, 2]) (isP := [0, 1, 2]) (wr := [(h_this, .inr (7, FX8 r_this i_this_layerCount i_this_hasDecoded i_this_codedCount i_this_codedWidth i_this_codedHeight i_this_replacedSize i_this_replacedPlainSize)), ((r_this 3), .inr (2, FX3 r_this_stream q_this_stream_bytes i_this_stream_count)), (q_this_stream_bytes, gA G n_this_stream_bytes t_this_stream_bytes)]) X hK hS hZ hno hA hH hl (ct_X8_requireByte l G p1 H.size _ ho5 hst) ⟨q_1, q_385, hd_X8_requireByte, rfl, rfl, ⟨Nat.le_of_ble_eq_true rfl, Nat.le_of_ble_eq_true rfl⟩, ⟨Nat.le_of_ble_eq_true rfl, Nat.le_of_ble_eq_true rfl⟩⟩ q_383 q_384 ⟨rfl, rfl, rfl, rfl, by decide, rfl, rfl⟩ rfl rfl (Nat.le_of_ble_eq_true rfl) dX8_setByte_6
  have hf := selimr hf
  refine g_tSr (isC := []) (isR := [0, 1, 2]) (isP := [0, 1, 2]) (wr := [(h_this, .inr (7, FX8 r_this i_this_layerCount i_this_hasDecoded i_this_codedCount i_this_codedWidth i_this_codedHeight i_this_replacedSize i_this_replacedPlainSize)), ((r_this 3), .inr (2, FX3 r_this_stream q_this_stream_bytes i_this_stream_count)), (q_this_stream_bytes, gA G n_this_stream_bytes t_this_stream_bytes)]) (w2 := (fun u7 => [(h_this, .inr (7, FX8 r_this i_this_layerCount i_this_hasDecoded i_this_codedCount i_this_codedWidth i_this_codedHeight i_this_replacedSize i_this_replacedPlainSize)), ((r_this 3), .inr (2, FX3 r_this_stream q_this_stream_bytes i_this_stream_count)), (q_this_stream_bytes, gA G n_this_stream_bytes t_this_stream_bytes)])) X hK hS hZ hA hH hl (ct_X8_requireByte l G p1 H.size _ ho5 hst) ⟨q_1, q_385, hd_X8_requireByte, rfl, rfl, ⟨Nat.le_of_ble_eq_true rfl, Nat.le_of_ble_eq_true rfl⟩, ⟨Nat.zero_le _, Nat.zero_le _⟩⟩ q_383 q_384 (fun _ => ⟨rfl, rfl, rfl, rfl, by decide, rfl, rfl⟩) rfl rfl (Nat.le_of_ble_eq_true rfl) dX8_setByte_6 (fun u7 H locs hH => ?_)
  refine lv_aload_n hx hb dX8_setByte_9 rfl (lv_at hl 0 rfl) ?_
  refine g_get (T := TX8) (N := 18) (ci := 7) (C := RX8) (v := .ref (r_this 3)) X hK hH in_RX8 0 rfl rfl 3 (by decide) q_215 (fun _ h9 => h9) rfl dX8_setByte_10 ?_
  refine lv_iload_n hx hb dX8_setByte_13 rfl (lv_at hl 1 rfl) ?_
  obtain ⟨o9, ho9, hf⟩ := sbind hf
  refine g_cVi (isC := [1, 2]) (isR := [0]) (isP := [0, 1, 2]) (wr := [(h_this, .inr (7, FX8 r_this i_this_layerCount i_this_hasDecoded i_this_codedCount i_this_codedWidth i_this_codedHeight i_this_replacedSize i_this_replacedPlainSize))]) (w2 := [(h_this, .inr (7, FX8 r_this i_this_layerCount i_this_hasDecoded i_this_codedCount i_this_codedWidth i_this_codedHeight i_this_replacedSize i_this_replacedPlainSize)), ((r_this 3), .inr (2, FX3 r_this_stream q_this_stream_bytes i_this_stream_count)), (q_this_stream_bytes, gA G n_this_stream_bytes t_this_stream_bytes)]) (q0 := 1) X hK hA hH hl (ct_X3_at l G (r_this 3) r_this_stream q_this_stream_bytes n_this_stream_bytes i_this_stream_count t_this_stream_bytes p0 H.size o9 ho9) ⟨q_3, q_447, hd_X3_at, rfl, rfl, ⟨Nat.le_of_ble_eq_true rfl, Nat.le_of_ble_eq_true rfl⟩, ⟨Nat.zero_le _, Nat.zero_le _⟩⟩ q_444 q_445 q_446 rfl rfl ⟨rfl, rfl, rfl, rfl, by decide, rfl, rfl⟩ rfl rfl (Nat.le_of_ble_eq_true rfl) dX8_setByte_14 (fun H locs hH => ?_)
  refine lv_istore_n (lv' := [(3, .int o9), (0, .ref h_this), (1, .int p0), (2, .int p1)]) hx hb dX8_setByte_17 rfl hl (by decide) rfl (fun ls hl => ?_)
  refine lv_aload_n hx hb dX8_setByte_18 rfl (lv_at hl 1 rfl) ?_
  refine g_get (T := TX8) (N := 18) (ci := 7) (C := RX8) (v := .ref (r_this 3)) X hK hH in_RX8 0 rfl rfl 3 (by decide) q_215 (fun _ h9 => h9) rfl dX8_setByte_19 ?_
  refine lv_iload_n hx hb dX8_setByte_22 rfl (lv_at hl 2 rfl) ?_
  refine lv_iload_n hx hb dX8_setByte_23 rfl (lv_at hl 3 rfl) ?_
  obtain ⟨o10, ho10, hf⟩ := sbind hf
  refine g_cVv (isC := [1, 2]) (isR := [0]) (isP := [0, 1, 2]) (wr := [(h_this, .inr (7, FX8 r_this i_this_layerCount i_this_hasDecoded i_this_codedCount i_this_codedWidth i_this_codedHeight i_this_replacedSize i_this_replacedPlainSize))]) (w2 := [(h_this, .inr (7, FX8 r_this i_this_layerCount i_this_hasDecoded i_this_codedCount i_this_codedWidth i_this_codedHeight i_this_replacedSize i_this_replacedPlainSize)), ((r_this 3), .inr (2, FX3 r_this_stream q_this_stream_bytes i_this_stream_count)), (q_this_stream_bytes, gA G n_this_stream_bytes o10)]) (q0 := 1) X hK hA hH hl (ct_X3_put l G (r_this 3) r_this_stream q_this_stream_bytes n_this_stream_bytes i_this_stream_count t_this_stream_bytes p0 p1 H.size o10 ho10) ⟨q_3, q_878, hd_X3_put, rfl, rfl, ⟨Nat.le_of_ble_eq_true rfl, Nat.le_of_ble_eq_true rfl⟩, ⟨Nat.zero_le _, Nat.zero_le _⟩⟩ q_875 q_876 q_877 rfl rfl ⟨rfl, rfl, rfl, rfl, by decide, rfl, rfl⟩ rfl rfl (Nat.le_of_ble_eq_true rfl) dX8_setByte_24 (fun H locs hH => ?_)
  refine lv_iload_n hx hb dX8_setByte_27 rfl (lv_at hl 0 rfl) ?_
  obtain rfl := Option.some.inj hf
  exact hE (o9, o10) 0 _ _ _ _ rfl rfl hH dX8_setByte_28

def lf_X8_cut (i_this_stream_count : Int32) (p0 : Int32) : Option (Nat ⊕ (Int32 × Int32)) :=
jn (fun (z2 : Unit) => some (Sum.inl 0)) (fun k2 => (if p0 < (0 : Int32) then k2 () else (if p0 ≤ i_this_stream_count then bnd (i_this_stream_count - p0) fun x4 => some (Sum.inr (x4, p0)) else k2 ())))
abbrev rm_X8_cut (k : Nat) : Room := { frames := 6, cells := k, slots := 6 * k, locals := 98 }
theorem hd_X8_cut : yX8_cut.cls ≠ "java/lang/invoke/MethodHandle" ∧ yX8_cut.cls ≠ "java/lang/invoke/VarHandle" ∧ (parseMethodDescriptor yX8_cut.desc).map (fun d => d.parameters.length) = some 1 := by decide +kernel
set_option maxHeartbeats 4000000 in
set_option maxRecDepth 100000 in
theorem ct_X8_cut (l : Launch) (G : gG) (h_this : Nat) (r_this r_this_stream : Nat → Nat) (q_this_stream_bytes : Nat) (i_this_layerCount i_this_hasDecoded i_this_codedCount i_this_codedWidth i_this_codedHeight i_this_replacedSize i_this_replacedPlainSize i_this_stream_count : Int32) (p0 : Int32) (sz : Nat) (out : Nat ⊕ (Int32 × Int32)) (hf : lf_X8_cut i_this_stream_count p0 = some out) (hst : l.stackTraces = false) : gTi l G yX8_cut cX8_cut 3 .int (rm_X8_cut (tc out)) [.ref h_this, .int p0] sz [(h_this, .inr (7, FX8 r_this i_this_layerCount i_this_hasDecoded i_this_codedCount i_this_codedWidth i_this_codedHeight i_this_replacedSize i_this_replacedPlainSize)), ((r_this 3), .inr (2, FX3 r_this_stream q_this_stream_bytes i_this_stream_count))] out (fun x => x.1) (fun x u => [(h_this, .inr (7, FX8 r_this i_this_layerCount i_this_hasDecoded i_this_codedCount i_this_codedWidth i_this_codedHeight i_this_replacedSize i_this_replacedPlainSize)), ((r_this 3), .inr (2, FX3 r_this_stream q_this_stream_bytes x.2))]) := by
  refine gTi_of (by decide +kernel) (Nat.le_of_ble_eq_true rfl) ?_
  intro p e s m args below meth c ls A Q X hK hA hsz hH hl hS hZ hno hQ hE
  subst hsz
  have hx := X.1
  have hb := X.2.1
  unfold lf_X8_cut at hf
  have hl : lv_has ls 3 [(0, .ref h_this), (1, .int p0)] := hl
  have hH : gH G A s.heap s.heap [] [(h_this, .inr (7, FX8 r_this i_this_layerCount i_this_hasDecoded i_this_codedCount i_this_codedWidth i_this_codedHeight i_this_replacedSize i_this_replacedPlainSize)), ((r_this 3), .inr (2, FX3 r_this_stream q_this_stream_bytes i_this_stream_count))] := hH
  refine lv_iload_n hx hb dX8_cut_0 rfl (lv_at hl 1 rfl) ?_
  obtain ⟨k2, hk2, hf⟩ := sjn hf
  have J2 : ∀  (H : Heap) (locs : List Loc) (ls : Array Slot), k2 () = some out → gH G A s.heap H locs [(h_this, .inr (7, FX8 r_this i_this_layerCount i_this_hasDecoded i_this_codedCount i_this_codedWidth i_this_codedHeight i_this_replacedSize i_this_replacedPlainSize)), ((r_this 3), .inr (2, FX3 r_this_stream q_this_stream_bytes i_this_stream_count))] → lv_has ls 3 [] → W p l e (rm_X8_cut (tc out)) s m args below meth c H locs 0 0 Q (F0 m 15 ls []) := by
    intro  H locs ls hf hH hl
    have hf := hk2 _ _ hf
    obtain rfl := Option.some.inj hf
    rw [hQ]
    exact g_throw X hst hK hS hZ hH hl hno 0 atG0 q_386 (List.mem_of_getElem? (i := 7) rfl) dX8_cut_15 dX8_cut_18 dX8_cut_19 dX8_cut_21 dX8_cut_24 ⟨Nat.le_of_ble_eq_true rfl, Nat.le_of_ble_eq_true rfl⟩ ⟨Nat.le_of_ble_eq_true rfl, Nat.le_of_ble_eq_true rfl⟩
  refine lv_if_lt (tgt := 15) hx hb dX8_cut_1 (by decide) (fun c1 => ?_) (fun c1 => ?_)
  · have hf := spos hf c1
    exact J2  _ _ _ hf hH (lv_sub hl [] rfl)
  · have hf := sneg hf c1
    refine lv_iload_n hx hb dX8_cut_4 rfl (lv_at hl 1 rfl) ?_
    refine lv_aload_n hx hb dX8_cut_5 rfl (lv_at hl 0 rfl) ?_
    refine g_get (T := TX8) (N := 18) (ci := 7) (C := RX8) (v := .ref (r_this 3)) X hK hH in_RX8 0 rfl rfl 3 (by decide) q_215 (fun _ h9 => h9) rfl dX8_cut_6 ?_
    refine g_getN (T := TX3) (N := 2) (ci := 2) (C := RX3) (v := .int i_this_stream_count) X hK hH in_RX3 1 rfl rfl 1 (by decide) qn_69 (fun _ h9 => h9) rfl dX8_cut_9 ?_
    refine lv_icmp_le (tgt := 25) hx hb dX8_cut_12 (by decide) (fun c3 => ?_) (fun c3 => ?_)
    · have hf := spos hf c3
      refine lv_aload_n hx hb dX8_cut_25 rfl (lv_at hl 0 rfl) ?_
      refine g_get (T := TX8) (N := 18) (ci := 7) (C := RX8) (v := .ref (r_this 3)) X hK hH in_RX8 0 rfl rfl 3 (by decide) q_215 (fun _ h9 => h9) rfl dX8_cut_26 ?_
      refine g_getN (T := TX3) (N := 2) (ci := 2) (C := RX3) (v := .int i_this_stream_count) X hK hH in_RX3 1 rfl rfl 1 (by decide) qn_69 (fun _ h9 => h9) rfl dX8_cut_29 ?_
      refine lv_iload_n hx hb dX8_cut_32 rfl (lv_at hl 1 rfl) ?_
      refine lv_isub hx hb dX8_cut_33 ?_
      refine lv_topi (fun x4 ex4 => ?_)
      have hf := sbnd hf x4 ex4
      refine lv_istore_n (lv' := [(2, .int x4), (0, .ref h_this), (1, .int p0)]) hx hb dX8_cut_34 rfl hl (by decide) rfl (fun ls hl => ?_)
      refine lv_aload_n hx hb dX8_cut_35 rfl (lv_at hl 1 rfl) ?_
      refine g_get (T := TX8) (N := 18) (ci := 7) (C := RX8) (v := .ref (r_this 3)) X hK hH in_RX8 0 rfl rfl 3 (by decide) q_215 (fun _ h9 => h9) rfl dX8_cut_36 ?_
      refine lv_iload_n hx hb dX8_cut_39 rfl (lv_at hl 2 rfl) ?_
      refine g_putN (w1 := [(h_this, .inr (7, FX8 r_this i_this_layerCount i_this_hasDecoded i_this_codedCount i_this_codedWidth i_this_codedHeight i_this_replacedSize i_this_replacedPlainSize)), ((r_this 3), .inr (2, FX3 r_this_stream q_this_stream_bytes p0))]) (T := TX3) (N := 2) (ci := 2) (C := RX3) (ty := .int) (v := .int p0) X hK hH in_RX3 tyX3 tyX3_ok nmX3 1 rfl rfl 1 (by decide) qn_69 (fun _ h9 => h9) rfl (by decide +kernel) rfl rfl (Nat.le_of_ble_eq_true rfl) dX8_cut_40 FX3_count rfl (fun H locs hH => ?_)
      refine lv_iload_n hx hb dX8_cut_43 rfl (lv_at hl 0 rfl) ?_
      obtain rfl := Option.some.inj hf
      exact hE (x4, p0) 0 _ _ _ _ rfl rfl hH dX8_cut_44
    · have hf := sneg hf c3
      exact J2  _ _ _ hf hH (lv_sub hl [] rfl)

def lf_X8_decode (i_this_decoded_columns : Int32) (i_this_decoded_rows : Int32) (i_this_decodedLayer_prediction_average : Int32) (i_this_decodedLayer_prediction_size : Int32) (i_this_decodedLayer_step : Int32) (i_this_hasDecoded : Int32) (i_this_reader_code : Int32) (i_this_reader_end : Int32) (i_this_reader_high : Int32) (i_this_reader_low : Int32) (i_this_reader_position : Int32) (i_this_stream_count : Int32) (t_this_decoded_pixels : Nat → Int32) (t_this_decodedLayer_levels : Nat → Int32) (t_this_decodedLayer_modes : Nat → Int32) (t_this_decodedLayer_prediction_above : Nat → Int32) (t_this_decodedLayer_prediction_left : Nat → Int32) (t_this_decodedLayer_result : Nat → Int32) (t_this_decodedLayer_sizes : Nat → Int32) (t_this_decodedLayer_transform_line : Nat → Int32) (t_this_decodedLayer_transform_places : Nat → Int32) (t_this_faults : Nat → Int32) (t_this_reader_ones : Nat → Int32) (t_this_reader_zeros : Nat → Int32) (n_this_stream_bytes : Nat) (t_this_stream_bytes : Nat → Int32) (t_this_usedLayers : Nat → Int32) (p0 : Int32) : Option (Nat ⊕ (Int32 × Int32 × Int32 × Int32 × Int32 × Int32 × Int32 × Int32 × Int32 × Int32 × Int32 × Int32 × (Nat → Int32) × (Nat → Int32) × (Nat → Int32) × (Nat → Int32) × (Nat → Int32) × (Nat → Int32) × (Nat → Int32) × (Nat → Int32) × (Nat → Int32) × (Nat → Int32) × (Nat → Int32) × (Nat → Int32) × (Nat → Int32))) :=
jn (fun (z2 : Unit) => some (Sum.inl 0)) (fun k2 => (if p0 < (1 : Int32) then k2 () else (if p0 ≤ (3 : Int32) then (lf_X8_hasValidHeader i_this_stream_count n_this_stream_bytes t_this_stream_bytes).bind fun o4 => (if o4 = (0 : Int32) then some (Sum.inl 2) else (lf_X3_at i_this_stream_count n_this_stream_bytes t_this_stream_bytes (1 : Int32)).bind fun o6 => (lf_X3_at i_this_stream_count n_this_stream_bytes t_this_stream_bytes (2 : Int32)).bind fun o7 => (lf_X5_clear i_this_decoded_columns i_this_decoded_rows t_this_decoded_pixels o6 o7).bind fun o8 => (lf_X8_forgetSlices t_this_faults t_this_usedLayers).bind fun o9 => (lf_X3_at i_this_stream_count n_this_stream_bytes t_this_stream_bytes (0 : Int32)).bind fun o10 => jn (fun (z34 : Int32 × Int32 × Int32 × Int32 × Int32 × Int32 × Int32 × Int32 × (Nat → Int32) × (Nat → Int32) × (Nat → Int32) × (Nat → Int32) × (Nat → Int32) × (Nat → Int32) × (Nat → Int32) × (Nat → Int32) × (Nat → Int32) × (Nat → Int32) × (Nat → Int32) × (Nat → Int32) × (Nat → Int32)) => (fun (v12 : Int32) (v13 : Int32) (v14 : Int32) (v15 : Int32) (v16 : Int32) (v17 : Int32) (v18 : Int32) (v19 : Int32) (g20 : (Nat → Int32)) (g21 : (Nat → Int32)) (g22 : (Nat → Int32)) (g23 : (Nat → Int32)) (g24 : (Nat → Int32)) (g25 : (Nat → Int32)) (g26 : (Nat → Int32)) (g27 : (Nat → Int32)) (g28 : (Nat → Int32)) (g29 : (Nat → Int32)) (g30 : (Nat → Int32)) (g31 : (Nat → Int32)) (g32 : (Nat → Int32)) => (lf_X8_countFaultySlices o8.2.1 g29).bind fun o35 => some (Sum.inr (o35, o8.1, o8.2.1, v12, v13, v14, (1 : Int32), v15, v16, v17, v18, v19, g20, g21, g22, g23, g24, g25, g26, g27, g28, g29, g30, g31, g32))) z34.1 z34.2.1 z34.2.2.1 z34.2.2.2.1 z34.2.2.2.2.1 z34.2.2.2.2.2.1 z34.2.2.2.2.2.2.1 z34.2.2.2.2.2.2.2.1 z34.2.2.2.2.2.2.2.2.1 z34.2.2.2.2.2.2.2.2.2.1 z34.2.2.2.2.2.2.2.2.2.2.1 z34.2.2.2.2.2.2.2.2.2.2.2.1 z34.2.2.2.2.2.2.2.2.2.2.2.2.1 z34.2.2.2.2.2.2.2.2.2.2.2.2.2.1 z34.2.2.2.2.2.2.2.2.2.2.2.2.2.2.1 z34.2.2.2.2.2.2.2.2.2.2.2.2.2.2.2.1 z34.2.2.2.2.2.2.2.2.2.2.2.2.2.2.2.2.1 z34.2.2.2.2.2.2.2.2.2.2.2.2.2.2.2.2.2.1 z34.2.2.2.2.2.2.2.2.2.2.2.2.2.2.2.2.2.2.1 z34.2.2.2.2.2.2.2.2.2.2.2.2.2.2.2.2.2.2.2.1 z34.2.2.2.2.2.2.2.2.2.2.2.2.2.2.2.2.2.2.2.2) (fun k34 => (if o10 = (82 : Int32) then (lf_X8_readPlainPixels o8.1 o8.2.1 i_this_stream_count o8.2.2 o9.1 n_this_stream_bytes t_this_stream_bytes o9.2).bind fun o40 => k34 (i_this_decodedLayer_prediction_average, i_this_decodedLayer_prediction_size, i_this_decodedLayer_step, i_this_reader_code, i_this_reader_end, i_this_reader_high, i_this_reader_low, i_this_reader_position, o40.1, t_this_decodedLayer_levels, t_this_decodedLayer_modes, t_this_decodedLayer_prediction_above, t_this_decodedLayer_prediction_left, t_this_decodedLayer_result, t_this_decodedLayer_sizes, t_this_decodedLayer_transform_line, t_this_decodedLayer_transform_places, o40.2.1, t_this_reader_ones, t_this_reader_zeros, o40.2.2) else (lf_X3_at i_this_stream_count n_this_stream_bytes t_this_stream_bytes (3 : Int32)).bind fun o36 => (lf_X8_readParts o8.1 o8.2.1 i_this_decodedLayer_prediction_average i_this_decodedLayer_prediction_size i_this_decodedLayer_step i_this_reader_code i_this_reader_end i_this_reader_high i_this_reader_low i_this_reader_position i_this_stream_count o8.2.2 t_this_decodedLayer_levels t_this_decodedLayer_modes t_this_decodedLayer_prediction_above t_this_decodedLayer_prediction_left t_this_decodedLayer_result t_this_decodedLayer_sizes t_this_decodedLayer_transform_line t_this_decodedLayer_transform_places o9.1 t_this_reader_ones t_this_reader_zeros n_this_stream_bytes t_this_stream_bytes o9.2 (jmin p0 o36)).bind fun o37 => (lf_X5_clamp o37.2.2.2.2.2.2.2.2.1).bind fun o39 => k34 (o37.1, o37.2.1, o37.2.2.1, o37.2.2.2.1, o37.2.2.2.2.1, o37.2.2.2.2.2.1, o37.2.2.2.2.2.2.1, o37.2.2.2.2.2.2.2.1, o39, o37.2.2.2.2.2.2.2.2.2.1, o37.2.2.2.2.2.2.2.2.2.2.1, o37.2.2.2.2.2.2.2.2.2.2.2.1, o37.2.2.2.2.2.2.2.2.2.2.2.2.1, o37.2.2.2.2.2.2.2.2.2.2.2.2.2.1, o37.2.2.2.2.2.2.2.2.2.2.2.2.2.2.1, o37.2.2.2.2.2.2.2.2.2.2.2.2.2.2.2.1, o37.2.2.2.2.2.2.2.2.2.2.2.2.2.2.2.2.1, o37.2.2.2.2.2.2.2.2.2.2.2.2.2.2.2.2.2.1, o37.2.2.2.2.2.2.2.2.2.2.2.2.2.2.2.2.2.2.1, o37.2.2.2.2.2.2.2.2.2.2.2.2.2.2.2.2.2.2.2.1, o37.2.2.2.2.2.2.2.2.2.2.2.2.2.2.2.2.2.2.2.2)))) else k2 ())))
abbrev rm_X8_decode (k : Nat) : Room := { frames := 6, cells := k, slots := 6 * k, locals := 167 }
theorem hd_X8_decode : yX8_decode.cls ≠ "java/lang/invoke/MethodHandle" ∧ yX8_decode.cls ≠ "java/lang/invoke/VarHandle" ∧ (parseMethodDescriptor yX8_decode.desc).map (fun d => d.parameters.length) = some 1 := by decide +kernel
set_option maxHeartbeats 4000000 in
set_option maxRecDepth 100000 in
theorem ct_X8_decode (l : Launch) (G : gG) (h_this : Nat) (r_this r_this_decoded r_this_decodedLayer r_this_decodedLayer_prediction r_this_decodedLayer_transform r_this_reader r_this_stream : Nat → Nat) (q_this_reader_bytes q_this_stream_bytes n_this_stream_bytes : Nat) (i_this_layerCount i_this_hasDecoded i_this_codedCount i_this_codedWidth i_this_codedHeight i_this_replacedSize i_this_replacedPlainSize i_this_decoded_columns i_this_decoded_rows i_this_decodedLayer_step i_this_decodedLayer_blockCount i_this_decodedLayer_prediction_size i_this_decodedLayer_prediction_average i_this_reader_low i_this_reader_high i_this_reader_position i_this_reader_end i_this_reader_code i_this_stream_count : Int32) (t_this_decoded_pixels t_this_decodedLayer_levels t_this_decodedLayer_modes t_this_decodedLayer_prediction_above t_this_decodedLayer_prediction_left t_this_decodedLayer_result t_this_decodedLayer_sizes t_this_decodedLayer_transform_line t_this_decodedLayer_transform_places t_this_faults t_this_reader_ones t_this_reader_zeros t_this_stream_bytes t_this_usedLayers : Nat → Int32) (p0 : Int32) (sz : Nat) (out : Nat ⊕ (Int32 × Int32 × Int32 × Int32 × Int32 × Int32 × Int32 × Int32 × Int32 × Int32 × Int32 × Int32 × (Nat → Int32) × (Nat → Int32) × (Nat → Int32) × (Nat → Int32) × (Nat → Int32) × (Nat → Int32) × (Nat → Int32) × (Nat → Int32) × (Nat → Int32) × (Nat → Int32) × (Nat → Int32) × (Nat → Int32) × (Nat → Int32))) (hf : lf_X8_decode i_this_decoded_columns i_this_decoded_rows i_this_decodedLayer_prediction_average i_this_decodedLayer_prediction_size i_this_decodedLayer_step i_this_hasDecoded i_this_reader_code i_this_reader_end i_this_reader_high i_this_reader_low i_this_reader_position i_this_stream_count t_this_decoded_pixels t_this_decodedLayer_levels t_this_decodedLayer_modes t_this_decodedLayer_prediction_above t_this_decodedLayer_prediction_left t_this_decodedLayer_result t_this_decodedLayer_sizes t_this_decodedLayer_transform_line t_this_decodedLayer_transform_places t_this_faults t_this_reader_ones t_this_reader_zeros n_this_stream_bytes t_this_stream_bytes t_this_usedLayers p0 = some out) (hst : l.stackTraces = false) : gTi l G yX8_decode cX8_decode 2 .int (rm_X8_decode (tc out)) [.ref h_this, .int p0] sz [(h_this, .inr (7, FX8 r_this i_this_layerCount i_this_hasDecoded i_this_codedCount i_this_codedWidth i_this_codedHeight i_this_replacedSize i_this_replacedPlainSize)), ((r_this 6), gC G 3 t_this_faults), ((r_this 7), gA G 3 t_this_usedLayers), ((r_this 4), .inr (4, FX5 r_this_decoded i_this_decoded_columns i_this_decoded_rows)), ((r_this_decoded 2), gA G 384 t_this_decoded_pixels), ((r_this 15), .inr (3, FX4 r_this_decodedLayer i_this_decodedLayer_step i_this_decodedLayer_blockCount)), ((r_this_decodedLayer 3), gA G 6 t_this_decodedLayer_sizes), ((r_this_decodedLayer 4), gA G 24 t_this_decodedLayer_modes), ((r_this_decodedLayer 6), gA G 384 t_this_decodedLayer_levels), ((r_this_decodedLayer 7), gA G 384 t_this_decodedLayer_result), ((r_this_decodedLayer 8), .inr (5, FX6 r_this_decodedLayer_prediction i_this_decodedLayer_prediction_size i_this_decodedLayer_prediction_average)), ((r_this_decodedLayer_prediction 2), gA G 8 t_this_decodedLayer_prediction_left), ((r_this_decodedLayer_prediction 3), gA G 8 t_this_decodedLayer_prediction_above), ((r_this_decodedLayer 9), .inr (6, FX7 r_this_decodedLayer_transform)), ((r_this_decodedLayer_transform 0), gA G 64 t_this_decodedLayer_transform_places), ((r_this_decodedLayer_transform 1), gA G 8 t_this_decodedLayer_transform_line), ((r_this 17), .inr (0, FX1 r_this_reader q_this_reader_bytes i_this_reader_low i_this_reader_high i_this_reader_position i_this_reader_end i_this_reader_code)), ((r_this_reader 2), gA G 20 t_this_reader_zeros), ((r_this_reader 3), gA G 20 t_this_reader_ones), ((r_this 3), .inr (2, FX3 r_this_stream q_this_stream_bytes i_this_stream_count)), (q_this_stream_bytes, gA G n_this_stream_bytes t_this_stream_bytes)] out (fun x => x.1) (fun x u => [(h_this, .inr (7, FX8 r_this i_this_layerCount x.2.2.2.2.2.2.1 i_this_codedCount i_this_codedWidth i_this_codedHeight i_this_replacedSize i_this_replacedPlainSize)), ((r_this 6), gC G 3 x.2.2.2.2.2.2.2.2.2.2.2.2.2.2.2.2.2.2.2.2.2.1), ((r_this 7), gA G 3 x.2.2.2.2.2.2.2.2.2.2.2.2.2.2.2.2.2.2.2.2.2.2.2.2), ((r_this 4), .inr (4, FX5 r_this_decoded x.2.1 x.2.2.1)), ((r_this_decoded 2), gA G 384 x.2.2.2.2.2.2.2.2.2.2.2.2.1), ((r_this 15), .inr (3, FX4 r_this_decodedLayer x.2.2.2.2.2.1 i_this_decodedLayer_blockCount)), ((r_this_decodedLayer 3), gA G 6 x.2.2.2.2.2.2.2.2.2.2.2.2.2.2.2.2.2.2.1), ((r_this_decodedLayer 4), gA G 24 x.2.2.2.2.2.2.2.2.2.2.2.2.2.2.1), ((r_this_decodedLayer 6), gA G 384 x.2.2.2.2.2.2.2.2.2.2.2.2.2.1), ((r_this_decodedLayer 7), gA G 384 x.2.2.2.2.2.2.2.2.2.2.2.2.2.2.2.2.2.1), ((r_this_decodedLayer 8), .inr (5, FX6 r_this_decodedLayer_prediction x.2.2.2.2.1 x.2.2.2.1)), ((r_this_decodedLayer_prediction 2), gA G 8 x.2.2.2.2.2.2.2.2.2.2.2.2.2.2.2.2.1), ((r_this_decodedLayer_prediction 3), gA G 8 x.2.2.2.2.2.2.2.2.2.2.2.2.2.2.2.1), ((r_this_decodedLayer 9), .inr (6, FX7 r_this_decodedLayer_transform)), ((r_this_decodedLayer_transform 0), gA G 64 x.2.2.2.2.2.2.2.2.2.2.2.2.2.2.2.2.2.2.2.2.1), ((r_this_decodedLayer_transform 1), gA G 8 x.2.2.2.2.2.2.2.2.2.2.2.2.2.2.2.2.2.2.2.1), ((r_this 17), .inr (0, FX1 r_this_reader u x.2.2.2.2.2.2.2.2.2.2.1 x.2.2.2.2.2.2.2.2.2.1 x.2.2.2.2.2.2.2.2.2.2.2.1 x.2.2.2.2.2.2.2.2.1 x.2.2.2.2.2.2.2.1)), ((r_this_reader 2), gA G 20 x.2.2.2.2.2.2.2.2.2.2.2.2.2.2.2.2.2.2.2.2.2.2.2.1), ((r_this_reader 3), gA G 20 x.2.2.2.2.2.2.2.2.2.2.2.2.2.2.2.2.2.2.2.2.2.2.1), ((r_this 3), .inr (2, FX3 r_this_stream q_this_stream_bytes i_this_stream_count)), (q_this_stream_bytes, gA G n_this_stream_bytes t_this_stream_bytes)]) := by
  refine gTi_of (by decide +kernel) (Nat.le_of_ble_eq_true rfl) ?_
  intro p e s m args below meth c ls A Q X hK hA hsz hH hl hS hZ hno hQ hE
  subst hsz
  have hx := X.1
  have hb := X.2.1
  unfold lf_X8_decode at hf
  have hl : lv_has ls 2 [(0, .ref h_this), (1, .int p0)] := hl
  have hH : gH G A s.heap s.heap [] [(h_this, .inr (7, FX8 r_this i_this_layerCount i_this_hasDecoded i_this_codedCount i_this_codedWidth i_this_codedHeight i_this_replacedSize i_this_replacedPlainSize)), ((r_this 6), gC G 3 t_this_faults), ((r_this 7), gA G 3 t_this_usedLayers), ((r_this 4), .inr (4, FX5 r_this_decoded i_this_decoded_columns i_this_decoded_rows)), ((r_this_decoded 2), gA G 384 t_this_decoded_pixels), ((r_this 15), .inr (3, FX4 r_this_decodedLayer i_this_decodedLayer_step i_this_decodedLayer_blockCount)), ((r_this_decodedLayer 3), gA G 6 t_this_decodedLayer_sizes), ((r_this_decodedLayer 4), gA G 24 t_this_decodedLayer_modes), ((r_this_decodedLayer 6), gA G 384 t_this_decodedLayer_levels), ((r_this_decodedLayer 7), gA G 384 t_this_decodedLayer_result), ((r_this_decodedLayer 8), .inr (5, FX6 r_this_decodedLayer_prediction i_this_decodedLayer_prediction_size i_this_decodedLayer_prediction_average)), ((r_this_decodedLayer_prediction 2), gA G 8 t_this_decodedLayer_prediction_left), ((r_this_decodedLayer_prediction 3), gA G 8 t_this_decodedLayer_prediction_above), ((r_this_decodedLayer 9), .inr (6, FX7 r_this_decodedLayer_transform)), ((r_this_decodedLayer_transform 0), gA G 64 t_this_decodedLayer_transform_places), ((r_this_decodedLayer_transform 1), gA G 8 t_this_decodedLayer_transform_line), ((r_this 17), .inr (0, FX1 r_this_reader q_this_reader_bytes i_this_reader_low i_this_reader_high i_this_reader_position i_this_reader_end i_this_reader_code)), ((r_this_reader 2), gA G 20 t_this_reader_zeros), ((r_this_reader 3), gA G 20 t_this_reader_ones), ((r_this 3), .inr (2, FX3 r_this_stream q_this_stream_bytes i_this_stream_count)), (q_this_stream_bytes, gA G n_this_stream_bytes t_this_stream_bytes)] := hH
  refine lv_iload_n hx hb dX8_decode_0 rfl (lv_at hl 1 rfl) ?_
  refine lv_iconst (v := (1 : Int32)) hx hb dX8_decode_1 (by decide) ?_
  obtain ⟨k2, hk2, hf⟩ := sjn hf
  have J2 : ∀  (H : Heap) (locs : List Loc) (ls : Array Slot), k2 () = some out → gH G A s.heap H locs [(h_this, .inr (7, FX8 r_this i_this_layerCount i_this_hasDecoded i_this_codedCount i_this_codedWidth i_this_codedHeight i_this_replacedSize i_this_replacedPlainSize)), ((r_this 6), gC G 3 t_this_faults), ((r_this 7), gA G 3 t_this_usedLayers), ((r_this 4), .inr (4, FX5 r_this_decoded i_this_decoded_columns i_this_decoded_rows)), ((r_this_decoded 2), gA G 384 t_this_decoded_pixels), ((r_this 15), .inr (3, FX4 r_this_decodedLayer i_this_decodedLayer_step i_this_decodedLayer_blockCount)), ((r_this_decodedLayer 3), gA G 6 t_this_decodedLayer_sizes), ((r_this_decodedLayer 4), gA G 24 t_this_decodedLayer_modes), ((r_this_decodedLayer 6), gA G 384 t_this_decodedLayer_levels), ((r_this_decodedLayer 7), gA G 384 t_this_decodedLayer_result), ((r_this_decodedLayer 8), .inr (5, FX6 r_this_decodedLayer_prediction i_this_decodedLayer_prediction_size i_this_decodedLayer_prediction_average)), ((r_this_decodedLayer_prediction 2), gA G 8 t_this_decodedLayer_prediction_left), ((r_this_decodedLayer_prediction 3), gA G 8 t_this_decodedLayer_prediction_above), ((r_this_decodedLayer 9), .inr (6, FX7 r_this_decodedLayer_transform)), ((r_this_decodedLayer_transform 0), gA G 64 t_this_decodedLayer_transform_places), ((r_this_decodedLayer_transform 1), gA G 8 t_this_decodedLayer_transform_line), ((r_this 17), .inr (0, FX1 r_this_reader q_this_reader_bytes i_this_reader_low i_this_reader_high i_this_reader_position i_this_reader_end i_this_reader_code)), ((r_this_reader 2), gA G 20 t_this_reader_zeros), ((r_this_reader 3), gA G 20 t_this_reader_ones), ((r_this 3), .inr (2, FX3 r_this_stream q_this_stream_bytes i_this_stream_count)), (q_this_stream_bytes, gA G n_this_stream_bytes t_this_stream_bytes)] → lv_has ls 2 [] → W p l e (rm_X8_decode (tc out)) s m args below meth c H locs 0 0 Q (F0 m 10 ls []) := by
    intro  H locs ls hf hH hl
    have hf := hk2 _ _ hf
    obtain rfl := Option.some.inj hf
    rw [hQ]
    exact g_throw X hst hK hS hZ hH hl hno 0 atG0 q_386 (List.mem_of_getElem? (i := 8) rfl) dX8_decode_10 dX8_decode_13 dX8_decode_14 dX8_decode_16 dX8_decode_19 ⟨Nat.le_of_ble_eq_true rfl, Nat.le_of_ble_eq_true rfl⟩ ⟨Nat.le_of_ble_eq_true rfl, Nat.le_of_ble_eq_true rfl⟩
  refine lv_icmp_lt (tgt := 10) hx hb dX8_decode_2 (by decide) (fun c1 => ?_) (fun c1 => ?_)
  · have hf := spos hf c1
    exact J2  _ _ _ hf hH (lv_sub hl [] rfl)
  · have hf := sneg hf c1
    refine lv_iload_n hx hb dX8_decode_5 rfl (lv_at hl 1 rfl) ?_
    refine lv_iconst (v := (3 : Int32)) hx hb dX8_decode_6 (by decide) ?_
    refine lv_icmp_le (tgt := 20) hx hb dX8_decode_7 (by decide) (fun c3 => ?_) (fun c3 => ?_)
    · have hf := spos hf c3
      refine lv_aload_n hx hb dX8_decode_20 rfl (lv_at hl 0 rfl) ?_
      obtain ⟨o4, ho4, hf⟩ := sbind hf
      refine g_cVi (isC := [0, 19, 20]) (isR := [1, 2, 3, 4, 5, 6, 7, 8, 9, 10, 11, 12, 13, 14, 15, 16, 17, 18]) (isP := [18, 0, 1, 2, 3, 4, 5, 6, 7, 8, 9, 10, 11, 12, 13, 14, 15, 16, 17, 19, 20]) (wr := [((r_this 6), gC G 3 t_this_faults), ((r_this 7), gA G 3 t_this_usedLayers), ((r_this 4), .inr (4, FX5 r_this_decoded i_this_decoded_columns i_this_decoded_rows)), ((r_this_decoded 2), gA G 384 t_this_decoded_pixels), ((r_this 15), .inr (3, FX4 r_this_decodedLayer i_this_decodedLayer_step i_this_decodedLayer_blockCount)), ((r_this_decodedLayer 3), gA G 6 t_this_decodedLayer_sizes), ((r_this_decodedLayer 4), gA G 24 t_this_decodedLayer_modes), ((r_this_decodedLayer 6), gA G 384 t_this_decodedLayer_levels), ((r_this_decodedLayer 7), gA G 384 t_this_decodedLayer_result), ((r_this_decodedLayer 8), .inr (5, FX6 r_this_decodedLayer_prediction i_this_decodedLayer_prediction_size i_this_decodedLayer_prediction_average)), ((r_this_decodedLayer_prediction 2), gA G 8 t_this_decodedLayer_prediction_left), ((r_this_decodedLayer_prediction 3), gA G 8 t_this_decodedLayer_prediction_above), ((r_this_decodedLayer 9), .inr (6, FX7 r_this_decodedLayer_transform)), ((r_this_decodedLayer_transform 0), gA G 64 t_this_decodedLayer_transform_places), ((r_this_decodedLayer_transform 1), gA G 8 t_this_decodedLayer_transform_line), ((r_this 17), .inr (0, FX1 r_this_reader q_this_reader_bytes i_this_reader_low i_this_reader_high i_this_reader_position i_this_reader_end i_this_reader_code)), ((r_this_reader 2), gA G 20 t_this_reader_zeros), ((r_this_reader 3), gA G 20 t_this_reader_ones)]) (w2 := [(h_this, .inr (7, FX8 r_this i_this_layerCount i_this_hasDecoded i_this_codedCount i_this_codedWidth i_this_codedHeight i_this_replacedSize i_this_replacedPlainSize)), ((r_this 6), gC G 3 t_this_faults), ((r_this 7), gA G 3 t_this_usedLayers), ((r_this 4), .inr (4, FX5 r_this_decoded i_this_decoded_columns i_this_decoded_rows)), ((r_this_decoded 2), gA G 384 t_this_decoded_pixels), ((r_this 15), .inr (3, FX4 r_this_decodedLayer i_this_decodedLayer_step i_this_decodedLayer_blockCount)), ((r_this_decodedLayer 3), gA G 6 t_this_decodedLayer_sizes), ((r_this_decodedLayer 4), gA G 24 t_this_decodedLayer_modes), ((r_this_decodedLayer 6), gA G 384 t_this_decodedLayer_levels), ((r_this_decodedLayer 7), gA G 384 t_this_decodedLayer_result), ((r_this_decodedLayer 8), .inr (5, FX6 r_this_decodedLayer_prediction i_this_decodedLayer_prediction_size i_this_decodedLayer_prediction_average)), ((r_this_decodedLayer_prediction 2), gA G 8 t_this_decodedLayer_prediction_left), ((r_this_decodedLayer_prediction 3), gA G 8 t_this_decodedLayer_prediction_above), ((r_this_decodedLayer 9), .inr (6, FX7 r_this_decodedLayer_transform)), ((r_this_decodedLayer_transform 0), gA G 64 t_this_decodedLayer_transform_places), ((r_this_decodedLayer_transform 1), gA G 8 t_this_decodedLayer_transform_line), ((r_this 17), .inr (0, FX1 r_this_reader q_this_reader_bytes i_this_reader_low i_this_reader_high i_this_reader_position i_this_reader_end i_this_reader_code)), ((r_this_reader 2), gA G 20 t_this_reader_zeros), ((r_this_reader 3), gA G 20 t_this_reader_ones), ((r_this 3), .inr (2, FX3 r_this_stream q_this_stream_bytes i_this_stream_count)), (q_this_stream_bytes, gA G n_this_stream_bytes t_this_stream_bytes)]) (q0 := 0) X hK hA hH hl (ct_X8_hasValidHeader l G h_this r_this r_this_stream q_this_stream_bytes n_this_stream_bytes i_this_layerCount i_this_hasDecoded i_this_codedCount i_this_codedWidth i_this_codedHeight i_this_replacedSize i_this_replacedPlainSize i_this_stream_count t_this_stream_bytes s.heap.size o4 ho4) ⟨q_1, q_468, hd_X8_hasValidHeader, rfl, rfl, ⟨Nat.le_of_ble_eq_true rfl, Nat.le_of_ble_eq_true rfl⟩, ⟨Nat.zero_le _, Nat.zero_le _⟩⟩ q_465 q_467 qs_2 rfl rfl ⟨rfl, rfl, rfl, rfl, by decide, rfl, rfl⟩ rfl rfl (Nat.le_of_ble_eq_true rfl) dX8_decode_21 (fun H locs hH => ?_)
      refine lv_if_ne (tgt := 37) hx hb dX8_decode_24 (by decide) (fun c5 => ?_) (fun c5 => ?_)
      · have hf := sneg hf c5
        refine lv_aload_n hx hb dX8_decode_37 rfl (lv_at hl 0 rfl) ?_
        refine g_get (T := TX8) (N := 18) (ci := 7) (C := RX8) (v := .ref (r_this 4)) X hK hH in_RX8 0 rfl rfl 4 (by decide) q_216 (fun _ h9 => h9) rfl dX8_decode_38 ?_
        refine lv_aload_n hx hb dX8_decode_41 rfl (lv_at hl 0 rfl) ?_
        refine g_get (T := TX8) (N := 18) (ci := 7) (C := RX8) (v := .ref (r_this 3)) X hK hH in_RX8 0 rfl rfl 3 (by decide) q_215 (fun _ h9 => h9) rfl dX8_decode_42 ?_
        refine lv_iconst (v := (1 : Int32)) hx hb dX8_decode_45 (by decide) ?_
        obtain ⟨o6, ho6, hf⟩ := sbind hf
        refine g_cVi (isC := [19, 20]) (isR := [0, 1, 2, 3, 4, 5, 6, 7, 8, 9, 10, 11, 12, 13, 14, 15, 16, 17, 18]) (isP := [0, 1, 2, 3, 4, 5, 6, 7, 8, 9, 10, 11, 12, 13, 14, 15, 16, 17, 18, 19, 20]) (wr := [(h_this, .inr (7, FX8 r_this i_this_layerCount i_this_hasDecoded i_this_codedCount i_this_codedWidth i_this_codedHeight i_this_replacedSize i_this_replacedPlainSize)), ((r_this 6), gC G 3 t_this_faults), ((r_this 7), gA G 3 t_this_usedLayers), ((r_this 4), .inr (4, FX5 r_this_decoded i_this_decoded_columns i_this_decoded_rows)), ((r_this_decoded 2), gA G 384 t_this_decoded_pixels), ((r_this 15), .inr (3, FX4 r_this_decodedLayer i_this_decodedLayer_step i_this_decodedLayer_blockCount)), ((r_this_decodedLayer 3), gA G 6 t_this_decodedLayer_sizes), ((r_this_decodedLayer 4), gA G 24 t_this_decodedLayer_modes), ((r_this_decodedLayer 6), gA G 384 t_this_decodedLayer_levels), ((r_this_decodedLayer 7), gA G 384 t_this_decodedLayer_result), ((r_this_decodedLayer 8), .inr (5, FX6 r_this_decodedLayer_prediction i_this_decodedLayer_prediction_size i_this_decodedLayer_prediction_average)), ((r_this_decodedLayer_prediction 2), gA G 8 t_this_decodedLayer_prediction_left), ((r_this_decodedLayer_prediction 3), gA G 8 t_this_decodedLayer_prediction_above), ((r_this_decodedLayer 9), .inr (6, FX7 r_this_decodedLayer_transform)), ((r_this_decodedLayer_transform 0), gA G 64 t_this_decodedLayer_transform_places), ((r_this_decodedLayer_transform 1), gA G 8 t_this_decodedLayer_transform_line), ((r_this 17), .inr (0, FX1 r_this_reader q_this_reader_bytes i_this_reader_low i_this_reader_high i_this_reader_position i_this_reader_end i_this_reader_code)), ((r_this_reader 2), gA G 20 t_this_reader_zeros), ((r_this_reader 3), gA G 20 t_this_reader_ones)]) (w2 := [(h_this, .inr (7, FX8 r_this i_this_layerCount i_this_hasDecoded i_this_codedCount i_this_codedWidth i_this_codedHeight i_this_replacedSize i_this_replacedPlainSize)), ((r_this 6), gC G 3 t_this_faults), ((r_this 7), gA G 3 t_this_usedLayers), ((r_this 4), .inr (4, FX5 r_this_decoded i_this_decoded_columns i_this_decoded_rows)), ((r_this_decoded 2), gA G 384 t_this_decoded_pixels), ((r_this 15), .inr (3, FX4 r_this_decodedLayer i_this_decodedLayer_step i_this_decodedLayer_blockCount)), ((r_this_decodedLayer 3), gA G 6 t_this_decodedLayer_sizes), ((r_this_decodedLayer 4), gA G 24 t_this_decodedLayer_modes), ((r_this_decodedLayer 6), gA G 384 t_this_decodedLayer_levels), ((r_this_decodedLayer 7), gA G 384 t_this_decodedLayer_result), ((r_this_decodedLayer 8), .inr (5, FX6 r_this_decodedLayer_prediction i_this_decodedLayer_prediction_size i_this_decodedLayer_prediction_average)), ((r_this_decodedLayer_prediction 2), gA G 8 t_this_decodedLayer_prediction_left), ((r_this_decodedLayer_prediction 3), gA G 8 t_this_decodedLayer_prediction_above), ((r_this_decodedLayer 9), .inr (6, FX7 r_this_decodedLayer_transform)), ((r_this_decodedLayer_transform 0), gA G 64 t_this_decodedLayer_transform_places), ((r_this_decodedLayer_transform 1), gA G 8 t_this_decodedLayer_transform_line), ((r_this 17), .inr (0, FX1 r_this_reader q_this_reader_bytes i_this_reader_low i_this_reader_high i_this_reader_position i_this_reader_end i_this_reader_code)), ((r_this_reader 2), gA G 20 t_this_reader_zeros), ((r_this_reader 3), gA G 20 t_this_reader_ones), ((r_this 3), .inr (2, FX3 r_this_stream q_this_stream_bytes i_this_stream_count)), (q_this_stream_bytes, gA G n_this_stream_bytes t_this_stream_bytes)]) (q0 := 19) X hK hA hH hl (ct_X3_at l G (r_this 3) r_this_stream q_this_stream_bytes n_this_stream_bytes i_this_stream_count t_this_stream_bytes (1 : Int32) H.size o6 ho6) ⟨q_3, q_447, hd_X3_at, rfl, rfl, ⟨Nat.le_of_ble_eq_true rfl, Nat.le_of_ble_eq_true rfl⟩, ⟨Nat.zero_le _, Nat.zero_le _⟩⟩ q_444 q_445 q_446 rfl rfl ⟨rfl, rfl, rfl, rfl, by decide, rfl, rfl⟩ rfl rfl (Nat.le_of_ble_eq_true rfl) dX8_decode_46 (fun H locs hH => ?_)
        refine lv_aload_n hx hb dX8_decode_49 rfl (lv_at hl 0 rfl) ?_
        refine g_get (T := TX8) (N := 18) (ci := 7) (C := RX8) (v := .ref (r_this 3)) X hK hH in_RX8 0 rfl rfl 3 (by decide) q_215 (fun _ h9 => h9) rfl dX8_decode_50 ?_
        refine lv_iconst (v := (2 : Int32)) hx hb dX8_decode_53 (by decide) ?_
        obtain ⟨o7, ho7, hf⟩ := sbind hf
        refine g_cVi (isC := [19, 20]) (isR := [0, 1, 2, 3, 4, 5, 6, 7, 8, 9, 10, 11, 12, 13, 14, 15, 16, 17, 18]) (isP := [0, 1, 2, 3, 4, 5, 6, 7, 8, 9, 10, 11, 12, 13, 14, 15, 16, 17, 18, 19, 20]) (wr := [(h_this, .inr (7, FX8 r_this i_this_layerCount i_this_hasDecoded i_this_codedCount i_this_codedWidth i_this_codedHeight i_this_replacedSize i_this_replacedPlainSize)), ((r_this 6), gC G 3 t_this_faults), ((r_this 7), gA G 3 t_this_usedLayers), ((r_this 4), .inr (4, FX5 r_this_decoded i_this_decoded_columns i_this_decoded_rows)), ((r_this_decoded 2), gA G 384 t_this_decoded_pixels), ((r_this 15), .inr (3, FX4 r_this_decodedLayer i_this_decodedLayer_step i_this_decodedLayer_blockCount)), ((r_this_decodedLayer 3), gA G 6 t_this_decodedLayer_sizes), ((r_this_decodedLayer 4), gA G 24 t_this_decodedLayer_modes), ((r_this_decodedLayer 6), gA G 384 t_this_decodedLayer_levels), ((r_this_decodedLayer 7), gA G 384 t_this_decodedLayer_result), ((r_this_decodedLayer 8), .inr (5, FX6 r_this_decodedLayer_prediction i_this_decodedLayer_prediction_size i_this_decodedLayer_prediction_average)), ((r_this_decodedLayer_prediction 2), gA G 8 t_this_decodedLayer_prediction_left), ((r_this_decodedLayer_prediction 3), gA G 8 t_this_decodedLayer_prediction_above), ((r_this_decodedLayer 9), .inr (6, FX7 r_this_decodedLayer_transform)), ((r_this_decodedLayer_transform 0), gA G 64 t_this_decodedLayer_transform_places), ((r_this_decodedLayer_transform 1), gA G 8 t_this_decodedLayer_transform_line), ((r_this 17), .inr (0, FX1 r_this_reader q_this_reader_bytes i_this_reader_low i_this_reader_high i_this_reader_position i_this_reader_end i_this_reader_code)), ((r_this_reader 2), gA G 20 t_this_reader_zeros), ((r_this_reader 3), gA G 20 t_this_reader_ones)]) (w2 := [(h_this, .inr (7, FX8 r_this i_this_layerCount i_this_hasDecoded i_this_codedCount i_this_codedWidth i_this_codedHeight i_this_replacedSize i_this_replacedPlainSize)), ((r_this 6), gC G 3 t_this_faults), ((r_this 7), gA G 3 t_this_usedLayers), ((r_this 4), .inr (4, FX5 r_this_decoded i_this_decoded_columns i_this_decoded_rows)), ((r_this_decoded 2), gA G 384 t_this_decoded_pixels), ((r_this 15), .inr (3, FX4 r_this_decodedLayer i_this_decodedLayer_step i_this_decodedLayer_blockCount)), ((r_this_decodedLayer 3), gA G 6 t_this_decodedLayer_sizes), ((r_this_decodedLayer 4), gA G 24 t_this_decodedLayer_modes), ((r_this_decodedLayer 6), gA G 384 t_this_decodedLayer_levels), ((r_this_decodedLayer 7), gA G 384 t_this_decodedLayer_result), ((r_this_decodedLayer 8), .inr (5, FX6 r_this_decodedLayer_prediction i_this_decodedLayer_prediction_size i_this_decodedLayer_prediction_average)), ((r_this_decodedLayer_prediction 2), gA G 8 t_this_decodedLayer_prediction_left), ((r_this_decodedLayer_prediction 3), gA G 8 t_this_decodedLayer_prediction_above), ((r_this_decodedLayer 9), .inr (6, FX7 r_this_decodedLayer_transform)), ((r_this_decodedLayer_transform 0), gA G 64 t_this_decodedLayer_transform_places), ((r_this_decodedLayer_transform 1), gA G 8 t_this_decodedLayer_transform_line), ((r_this 17), .inr (0, FX1 r_this_reader q_this_reader_bytes i_this_reader_low i_this_reader_high i_this_reader_position i_this_reader_end i_this_reader_code)), ((r_this_reader 2), gA G 20 t_this_reader_zeros), ((r_this_reader 3), gA G 20 t_this_reader_ones), ((r_this 3), .inr (2, FX3 r_this_stream q_this_stream_bytes i_this_stream_count)), (q_this_stream_bytes, gA G n_this_stream_bytes t_this_stream_bytes)]) (q0 := 19) X hK hA hH hl (ct_X3_at l G (r_this 3) r_this_stream q_this_stream_bytes n_this_stream_bytes i_this_stream_count t_this_stream_bytes (2 : Int32) H.size o7 ho7) ⟨q_3, q_447, hd_X3_at, rfl, rfl, ⟨Nat.le_of_ble_eq_true rfl, Nat.le_of_ble_eq_true rfl⟩, ⟨Nat.zero_le _, Nat.zero_le _⟩⟩ q_444 q_445 q_446 rfl rfl ⟨rfl, rfl, rfl, rfl, by decide, rfl, rfl⟩ rfl rfl (Nat.le_of_ble_eq_true rfl) dX8_decode_54 (fun H locs hH => ?_)
        obtain ⟨o8, ho8, hf⟩ := sbind hf
        refine g_cVv (isC := [3, 4]) (isR := [0, 1, 2, 5, 6, 7, 8, 9, 10, 11, 12, 13, 14, 15, 16, 17, 18, 19, 20]) (isP := [0, 1, 2, 19, 20, 3, 4, 5, 6, 7, 8, 9, 10, 11, 12, 13, 14, 15, 16, 17, 18]) (wr := [(h_this, .inr (7, FX8 r_this i_this_layerCount i_this_hasDecoded i_this_codedCount i_this_codedWidth i_this_codedHeight i_this_replacedSize i_this_replacedPlainSize)), ((r_this 6), gC G 3 t_this_faults), ((r_this 7), gA G 3 t_this_usedLayers), ((r_this 15), .inr (3, FX4 r_this_decodedLayer i_this_decodedLayer_step i_this_decodedLayer_blockCount)), ((r_this_decodedLayer 3), gA G 6 t_this_decodedLayer_sizes), ((r_this_decodedLayer 4), gA G 24 t_this_decodedLayer_modes), ((r_this_decodedLayer 6), gA G 384 t_this_decodedLayer_levels), ((r_this_decodedLayer 7), gA G 384 t_this_decodedLayer_result), ((r_this_decodedLayer 8), .inr (5, FX6 r_this_decodedLayer_prediction i_this_decodedLayer_prediction_size i_this_decodedLayer_prediction_average)), ((r_this_decodedLayer_prediction 2), gA G 8 t_this_decodedLayer_prediction_left), ((r_this_decodedLayer_prediction 3), gA G 8 t_this_decodedLayer_prediction_above), ((r_this_decodedLayer 9), .inr (6, FX7 r_this_decodedLayer_transform)), ((r_this_decodedLayer_transform 0), gA G 64 t_this_decodedLayer_transform_places), ((r_this_decodedLayer_transform 1), gA G 8 t_this_decodedLayer_transform_line), ((r_this 17), .inr (0, FX1 r_this_reader q_this_reader_bytes i_this_reader_low i_this_reader_high i_this_reader_position i_this_reader_end i_this_reader_code)), ((r_this_reader 2), gA G 20 t_this_reader_zeros), ((r_this_reader 3), gA G 20 t_this_reader_ones), ((r_this 3), .inr (2, FX3 r_this_stream q_this_stream_bytes i_this_stream_count)), (q_this_stream_bytes, gA G n_this_stream_bytes t_this_stream_bytes)]) (w2 := [(h_this, .inr (7, FX8 r_this i_this_layerCount i_this_hasDecoded i_this_codedCount i_this_codedWidth i_this_codedHeight i_this_replacedSize i_this_replacedPlainSize)), ((r_this 6), gC G 3 t_this_faults), ((r_this 7), gA G 3 t_this_usedLayers), ((r_this 4), .inr (4, FX5 r_this_decoded o8.1 o8.2.1)), ((r_this_decoded 2), gA G 384 o8.2.2), ((r_this 15), .inr (3, FX4 r_this_decodedLayer i_this_decodedLayer_step i_this_decodedLayer_blockCount)), ((r_this_decodedLayer 3), gA G 6 t_this_decodedLayer_sizes), ((r_this_decodedLayer 4), gA G 24 t_this_decodedLayer_modes), ((r_this_decodedLayer 6), gA G 384 t_this_decodedLayer_levels), ((r_this_decodedLayer 7), gA G 384 t_this_decodedLayer_result), ((r_this_decodedLayer 8), .inr (5, FX6 r_this_decodedLayer_prediction i_this_decodedLayer_prediction_size i_this_decodedLayer_prediction_average)), ((r_this_decodedLayer_prediction 2), gA G 8 t_this_decodedLayer_prediction_left), ((r_this_decodedLayer_prediction 3), gA G 8 t_this_decodedLayer_prediction_above), ((r_this_decodedLayer 9), .inr (6, FX7 r_this_decodedLayer_transform)), ((r_this_decodedLayer_transform 0), gA G 64 t_this_decodedLayer_transform_places), ((r_this_decodedLayer_transform 1), gA G 8 t_this_decodedLayer_transform_line), ((r_this 17), .inr (0, FX1 r_this_reader q_this_reader_bytes i_this_reader_low i_this_reader_high i_this_reader_position i_this_reader_end i_this_reader_code)), ((r_this_reader 2), gA G 20 t_this_reader_zeros), ((r_this_reader 3), gA G 20 t_this_reader_ones), ((r_this 3), .inr (2, FX3 r_this_stream q_this_stream_bytes i_this_stream_count)), (q_this_stream_bytes, gA G n_this_stream_bytes t_this_stream_bytes)]) (q0 := 3) X hK hA hH hl (ct_X5_clear l G (r_this 4) r_this_decoded i_this_decoded_columns i_this_decoded_rows t_this_decoded_pixels o6 o7 H.size o8 ho8) ⟨q_2, q_495, hd_X5_clear, rfl, rfl, ⟨Nat.le_of_ble_eq_true rfl, Nat.le_of_ble_eq_true rfl⟩, ⟨Nat.zero_le _, Nat.zero_le _⟩⟩ q_492 q_493 q_494 rfl rfl ⟨rfl, rfl, rfl, rfl, by decide, rfl, rfl⟩ rfl rfl (Nat.le_of_ble_eq_true rfl) dX8_decode_57 (fun H locs hH => ?_)
        refine lv_aload_n hx hb dX8_decode_60 rfl (lv_at hl 0 rfl) ?_
        refine lv_iconst (v := (1 : Int32)) hx hb dX8_decode_61 (by decide) ?_
        refine g_put (w1 := [(h_this, .inr (7, FX8 r_this i_this_layerCount (1 : Int32) i_this_codedCount i_this_codedWidth i_this_codedHeight i_this_replacedSize i_this_replacedPlainSize)), ((r_this 6), gC G 3 t_this_faults), ((r_this 7), gA G 3 t_this_usedLayers), ((r_this 4), .inr (4, FX5 r_this_decoded o8.1 o8.2.1)), ((r_this_decoded 2), gA G 384 o8.2.2), ((r_this 15), .inr (3, FX4 r_this_decodedLayer i_this_decodedLayer_step i_this_decodedLayer_blockCount)), ((r_this_decodedLayer 3), gA G 6 t_this_decodedLayer_sizes), ((r_this_decodedLayer 4), gA G 24 t_this_decodedLayer_modes), ((r_this_decodedLayer 6), gA G 384 t_this_decodedLayer_levels), ((r_this_decodedLayer 7), gA G 384 t_this_decodedLayer_result), ((r_this_decodedLayer 8), .inr (5, FX6 r_this_decodedLayer_prediction i_this_decodedLayer_prediction_size i_this_decodedLayer_prediction_average)), ((r_this_decodedLayer_prediction 2), gA G 8 t_this_decodedLayer_prediction_left), ((r_this_decodedLayer_prediction 3), gA G 8 t_this_decodedLayer_prediction_above), ((r_this_decodedLayer 9), .inr (6, FX7 r_this_decodedLayer_transform)), ((r_this_decodedLayer_transform 0), gA G 64 t_this_decodedLayer_transform_places), ((r_this_decodedLayer_transform 1), gA G 8 t_this_decodedLayer_transform_line), ((r_this 17), .inr (0, FX1 r_this_reader q_this_reader_bytes i_this_reader_low i_this_reader_high i_this_reader_position i_this_reader_end i_this_reader_code)), ((r_this_reader 2), gA G 20 t_this_reader_zeros), ((r_this_reader 3), gA G 20 t_this_reader_ones), ((r_this 3), .inr (2, FX3 r_this_stream q_this_stream_bytes i_this_stream_count)), (q_this_stream_bytes, gA G n_this_stream_bytes t_this_stream_bytes)]) (T := TX8) (N := 18) (ci := 7) (C := RX8) (ty := .boolean) (v := .int (1 : Int32)) X hK hH in_RX8 tyX8 tyX8_ok nmX8 0 rfl rfl 5 (by decide) q_217 (fun _ h9 => h9) rfl (by decide +kernel) rfl rfl (Nat.le_of_ble_eq_true rfl) dX8_decode_62 FX8_hasDecoded rfl (fun H locs hH => ?_)
        refine lv_aload_n hx hb dX8_decode_65 rfl (lv_at hl 0 rfl) ?_
        obtain ⟨o9, ho9, hf⟩ := sbind hf
        refine g_cVv (isC := [0, 1, 2]) (isR := [3, 4, 5, 6, 7, 8, 9, 10, 11, 12, 13, 14, 15, 16, 17, 18, 19, 20]) (isP := [18, 19, 20, 0, 1, 2, 3, 4, 5, 6, 7, 8, 9, 10, 11, 12, 13, 14, 15, 16, 17]) (wr := [((r_this 4), .inr (4, FX5 r_this_decoded o8.1 o8.2.1)), ((r_this_decoded 2), gA G 384 o8.2.2), ((r_this 15), .inr (3, FX4 r_this_decodedLayer i_this_decodedLayer_step i_this_decodedLayer_blockCount)), ((r_this_decodedLayer 3), gA G 6 t_this_decodedLayer_sizes), ((r_this_decodedLayer 4), gA G 24 t_this_decodedLayer_modes), ((r_this_decodedLayer 6), gA G 384 t_this_decodedLayer_levels), ((r_this_decodedLayer 7), gA G 384 t_this_decodedLayer_result), ((r_this_decodedLayer 8), .inr (5, FX6 r_this_decodedLayer_prediction i_this_decodedLayer_prediction_size i_this_decodedLayer_prediction_average)), ((r_this_decodedLayer_prediction 2), gA G 8 t_this_decodedLayer_prediction_left), ((r_this_decodedLayer_prediction 3), gA G 8 t_this_decodedLayer_prediction_above), ((r_this_decodedLayer 9), .inr (6, FX7 r_this_decodedLayer_transform)), ((r_this_decodedLayer_transform 0), gA G 64 t_this_decodedLayer_transform_places), ((r_this_decodedLayer_transform 1), gA G 8 t_this_decodedLayer_transform_line), ((r_this 17), .inr (0, FX1 r_this_reader q_this_reader_bytes i_this_reader_low i_this_reader_high i_this_reader_position i_this_reader_end i_this_reader_code)), ((r_this_reader 2), gA G 20 t_this_reader_zeros), ((r_this_reader 3), gA G 20 t_this_reader_ones), ((r_this 3), .inr (2, FX3 r_this_stream q_this_stream_bytes i_this_stream_count)), (q_this_stream_bytes, gA G n_this_stream_bytes t_this_stream_bytes)]) (w2 := [(h_this, .inr (7, FX8 r_this i_this_layerCount (1 : Int32) i_this_codedCount i_this_codedWidth i_this_codedHeight i_this_replacedSize i_this_replacedPlainSize)), ((r_this 6), gC G 3 o9.1), ((r_this 7), gA G 3 o9.2), ((r_this 4), .inr (4, FX5 r_this_decoded o8.1 o8.2.1)), ((r_this_decoded 2), gA G 384 o8.2.2), ((r_this 15), .inr (3, FX4 r_this_decodedLayer i_this_decodedLayer_step i_this_decodedLayer_blockCount)), ((r_this_decodedLayer 3), gA G 6 t_this_decodedLayer_sizes), ((r_this_decodedLayer 4), gA G 24 t_this_decodedLayer_modes), ((r_this_decodedLayer 6), gA G 384 t_this_decodedLayer_levels), ((r_this_decodedLayer 7), gA G 384 t_this_decodedLayer_result), ((r_this_decodedLayer 8), .inr (5, FX6 r_this_decodedLayer_prediction i_this_decodedLayer_prediction_size i_this_decodedLayer_prediction_average)), ((r_this_decodedLayer_prediction 2), gA G 8 t_this_decodedLayer_prediction_left), ((r_this_decodedLayer_prediction 3), gA G 8 t_this_decodedLayer_prediction_above), ((r_this_decodedLayer 9), .inr (6, FX7 r_this_decodedLayer_transform)), ((r_this_decodedLayer_transform 0), gA G 64 t_this_decodedLayer_transform_places), ((r_this_decodedLayer_transform 1), gA G 8 t_this_decodedLayer_transform_line), ((r_this 17), .inr (0, FX1 r_this_reader q_this_reader_bytes i_this_reader_low i_this_reader_high i_this_reader_position i_this_reader_end i_this_reader_code)), ((r_this_reader 2), gA G 20 t_this_reader_zeros), ((r_this_reader 3), gA G 20 t_this_reader_ones), ((r_this 3), .inr (2, FX3 r_this_stream q_this_stream_bytes i_this_stream_count)), (q_this_stream_bytes, gA G n_this_stream_bytes t_this_stream_bytes)]) (q0 := 0) X hK hA hH hl (ct_X8_forgetSlices l G h_this r_this i_this_layerCount (1 : Int32) i_this_codedCount i_this_codedWidth i_this_codedHeight i_this_replacedSize i_this_replacedPlainSize t_this_faults t_this_usedLayers H.size o9 ho9) ⟨q_1, q_502, hd_X8_forgetSlices, rfl, rfl, ⟨Nat.le_of_ble_eq_true rfl, Nat.le_of_ble_eq_true rfl⟩, ⟨Nat.zero_le _, Nat.zero_le _⟩⟩ q_499 q_501 qs_4 rfl rfl ⟨rfl, rfl, rfl, rfl, by decide, rfl, rfl⟩ rfl rfl (Nat.le_of_ble_eq_true rfl) dX8_decode_66 (fun H locs hH => ?_)
        refine lv_aload_n hx hb dX8_decode_69 rfl (lv_at hl 0 rfl) ?_
        refine g_get (T := TX8) (N := 18) (ci := 7) (C := RX8) (v := .ref (r_this 3)) X hK hH in_RX8 0 rfl rfl 3 (by decide) q_215 (fun _ h9 => h9) rfl dX8_decode_70 ?_
        refine lv_iconst (v := (0 : Int32)) hx hb dX8_decode_73 (by decide) ?_
        obtain ⟨o10, ho10, hf⟩ := sbind hf
        refine g_cVi (isC := [19, 20]) (isR := [0, 1, 2, 3, 4, 5, 6, 7, 8, 9, 10, 11, 12, 13, 14, 15, 16, 17, 18]) (isP := [0, 1, 2, 3, 4, 5, 6, 7, 8, 9, 10, 11, 12, 13, 14, 15, 16, 17, 18, 19, 20]) (wr := [(h_this, .inr (7, FX8 r_this i_this_layerCount (1 : Int32) i_this_codedCount i_this_codedWidth i_this_codedHeight i_this_replacedSize i_this_replacedPlainSize)), ((r_this 6), gC G 3 o9.1), ((r_this 7), gA G 3 o9.2), ((r_this 4), .inr (4, FX5 r_this_decoded o8.1 o8.2.1)), ((r_this_decoded 2), gA G 384 o8.2.2), ((r_this 15), .inr (3, FX4 r_this_decodedLayer i_this_decodedLayer_step i_this_decodedLayer_blockCount)), ((r_this_decodedLayer 3), gA G 6 t_this_decodedLayer_sizes), ((r_this_decodedLayer 4), gA G 24 t_this_decodedLayer_modes), ((r_this_decodedLayer 6), gA G 384 t_this_decodedLayer_levels), ((r_this_decodedLayer 7), gA G 384 t_this_decodedLayer_result), ((r_this_decodedLayer 8), .inr (5, FX6 r_this_decodedLayer_prediction i_this_decodedLayer_prediction_size i_this_decodedLayer_prediction_average)), ((r_this_decodedLayer_prediction 2), gA G 8 t_this_decodedLayer_prediction_left), ((r_this_decodedLayer_prediction 3), gA G 8 t_this_decodedLayer_prediction_above), ((r_this_decodedLayer 9), .inr (6, FX7 r_this_decodedLayer_transform)), ((r_this_decodedLayer_transform 0), gA G 64 t_this_decodedLayer_transform_places), ((r_this_decodedLayer_transform 1), gA G 8 t_this_decodedLayer_transform_line), ((r_this 17), .inr (0, FX1 r_this_reader q_this_reader_bytes i_this_reader_low i_this_reader_high i_this_reader_position i_this_reader_end i_this_reader_code)), ((r_this_reader 2), gA G 20 t_this_reader_zeros), ((r_this_reader 3), gA G 20 t_this_reader_ones)]) (w2 := [(h_this, .inr (7, FX8 r_this i_this_layerCount (1 : Int32) i_this_codedCount i_this_codedWidth i_this_codedHeight i_this_replacedSize i_this_replacedPlainSize)), ((r_this 6), gC G 3 o9.1), ((r_this 7), gA G 3 o9.2), ((r_this 4), .inr (4, FX5 r_this_decoded o8.1 o8.2.1)), ((r_this_decoded 2), gA G 384 o8.2.2), ((r_this 15), .inr (3, FX4 r_this_decodedLayer i_this_decodedLayer_step i_this_decodedLayer_blockCount)), ((r_this_decodedLayer 3), gA G 6 t_this_decodedLayer_sizes), ((r_this_decodedLayer 4), gA G 24 t_this_decodedLayer_modes), ((r_this_decodedLayer 6), gA G 384 t_this_decodedLayer_levels), ((r_this_decodedLayer 7), gA G 384 t_this_decodedLayer_result), ((r_this_decodedLayer 8), .inr (5, FX6 r_this_decodedLayer_prediction i_this_decodedLayer_prediction_size i_this_decodedLayer_prediction_average)), ((r_this_decodedLayer_prediction 2), gA G 8 t_this_decodedLayer_prediction_left), ((r_this_decodedLayer_prediction 3), gA G 8 t_this_decodedLayer_prediction_above), ((r_this_decodedLayer 9), .inr (6, FX7 r_this_decodedLayer_transform)), ((r_this_decodedLayer_transform 0), gA G 64 t_this_decodedLayer_transform_places), ((r_this_decodedLayer_transform 1), gA G 8 t_this_decodedLayer_transform_line), ((r_this 17), .inr (0, FX1 r_this_reader q_this_reader_bytes i_this_reader_low i_this_reader_high i_this_reader_position i_this_reader_end i_this_reader_code)), ((r_this_reader 2), gA G 20 t_this_reader_zeros), ((r_this_reader 3), gA G 20 t_this_reader_ones), ((r_this 3), .inr (2, FX3 r_this_stream q_this_stream_bytes i_this_stream_count)), (q_this_stream_bytes, gA G n_this_stream_bytes t_this_stream_bytes)]) (q0 := 19) X hK hA hH hl (ct_X3_at l G (r_this 3) r_this_stream q_this_stream_bytes n_this_stream_bytes i_this_stream_count t_this_stream_bytes (0 : Int32) H.size o10 ho10) ⟨q_3, q_447, hd_X3_at, rfl, rfl, ⟨Nat.le_of_ble_eq_true rfl, Nat.le_of_ble_eq_true rfl⟩, ⟨Nat.zero_le _, Nat.zero_le _⟩⟩ q_444 q_445 q_446 rfl rfl ⟨rfl, rfl, rfl, rfl, by decide, rfl, rfl⟩ rfl rfl (Nat.le_of_ble_eq_true rfl) dX8_decode_74 (fun H locs hH => ?_)
        refine lv_bipush (v := (82 : Int32)) hx hb dX8_decode_77 (by decide) ?_
        obtain ⟨k34, hk34, hf⟩ := sjn hf
        have J34 : ∀ (v12 : Int32) (v13 : Int32) (v14 : Int32) (v15 : Int32) (v16 : Int32) (v17 : Int32) (v18 : Int32) (v19 : Int32) (g20 : (Nat → Int32)) (g21 : (Nat → Int32)) (g22 : (Nat → Int32)) (g23 : (Nat → Int32)) (g24 : (Nat → Int32)) (g25 : (Nat → Int32)) (g26 : (Nat → Int32)) (g27 : (Nat → Int32)) (g28 : (Nat → Int32)) (g29 : (Nat → Int32)) (g30 : (Nat → Int32)) (g31 : (Nat → Int32)) (g32 : (Nat → Int32)) (q33 : Nat) (H : Heap) (locs : List Loc) (ls : Array Slot), k34 (v12, v13, v14, v15, v16, v17, v18, v19, g20, g21, g22, g23, g24, g25, g26, g27, g28, g29, g30, g31, g32) = some out → gH G A s.heap H locs [(h_this, .inr (7, FX8 r_this i_this_layerCount (1 : Int32) i_this_codedCount i_this_codedWidth i_this_codedHeight i_this_replacedSize i_this_replacedPlainSize)), ((r_this 6), gC G 3 g29), ((r_this 7), gA G 3 g32), ((r_this 4), .inr (4, FX5 r_this_decoded o8.1 o8.2.1)), ((r_this_decoded 2), gA G 384 g20), ((r_this 15), .inr (3, FX4 r_this_decodedLayer v14 i_this_decodedLayer_blockCount)), ((r_this_decodedLayer 3), gA G 6 g26), ((r_this_decodedLayer 4), gA G 24 g22), ((r_this_decodedLayer 6), gA G 384 g21), ((r_this_decodedLayer 7), gA G 384 g25), ((r_this_decodedLayer 8), .inr (5, FX6 r_this_decodedLayer_prediction v13 v12)), ((r_this_decodedLayer_prediction 2), gA G 8 g24), ((r_this_decodedLayer_prediction 3), gA G 8 g23), ((r_this_decodedLayer 9), .inr (6, FX7 r_this_decodedLayer_transform)), ((r_this_decodedLayer_transform 0), gA G 64 g28), ((r_this_decodedLayer_transform 1), gA G 8 g27), ((r_this 17), .inr (0, FX1 r_this_reader q33 v18 v17 v19 v16 v15)), ((r_this_reader 2), gA G 20 g31), ((r_this_reader 3), gA G 20 g30), ((r_this 3), .inr (2, FX3 r_this_stream q_this_stream_bytes i_this_stream_count)), (q_this_stream_bytes, gA G n_this_stream_bytes t_this_stream_bytes)] → lv_has ls 2 [(0, .ref h_this)] → W p l e (rm_X8_decode (tc out)) s m args below meth c H locs 0 0 Q (F0 m 112 ls []) := by
          intro v12 v13 v14 v15 v16 v17 v18 v19 g20 g21 g22 g23 g24 g25 g26 g27 g28 g29 g30 g31 g32 q33 H locs ls hf hH hl
          have hf := hk34 _ _ hf
          refine lv_aload_n hx hb dX8_decode_112 rfl (lv_at hl 0 rfl) ?_
          obtain ⟨o35, ho35, hf⟩ := sbind hf
          refine g_cVi (isC := [0, 1, 3]) (isR := [2, 4, 5, 6, 7, 8, 9, 10, 11, 12, 13, 14, 15, 16, 17, 18, 19, 20]) (isP := [18, 19, 0, 20, 1, 2, 3, 4, 5, 6, 7, 8, 9, 10, 11, 12, 13, 14, 15, 16, 17]) (wr := [((r_this 7), gA G 3 g32), ((r_this_decoded 2), gA G 384 g20), ((r_this 15), .inr (3, FX4 r_this_decodedLayer v14 i_this_decodedLayer_blockCount)), ((r_this_decodedLayer 3), gA G 6 g26), ((r_this_decodedLayer 4), gA G 24 g22), ((r_this_decodedLayer 6), gA G 384 g21), ((r_this_decodedLayer 7), gA G 384 g25), ((r_this_decodedLayer 8), .inr (5, FX6 r_this_decodedLayer_prediction v13 v12)), ((r_this_decodedLayer_prediction 2), gA G 8 g24), ((r_this_decodedLayer_prediction 3), gA G 8 g23), ((r_this_decodedLayer 9), .inr (6, FX7 r_this_decodedLayer_transform)), ((r_this_decodedLayer_transform 0), gA G 64 g28), ((r_this_decodedLayer_transform 1), gA G 8 g27), ((r_this 17), .inr (0, FX1 r_this_reader q33 v18 v17 v19 v16 v15)), ((r_this_reader 2), gA G 20 g31), ((r_this_reader 3), gA G 20 g30), ((r_this 3), .inr (2, FX3 r_this_stream q_this_stream_bytes i_this_stream_count)), (q_this_stream_bytes, gA G n_this_stream_bytes t_this_stream_bytes)]) (w2 := [(h_this, .inr (7, FX8 r_this i_this_layerCount (1 : Int32) i_this_codedCount i_this_codedWidth i_this_codedHeight i_this_replacedSize i_this_replacedPlainSize)), ((r_this 6), gC G 3 g29), ((r_this 7), gA G 3 g32), ((r_this 4), .inr (4, FX5 r_this_decoded o8.1 o8.2.1)), ((r_this_decoded 2), gA G 384 g20), ((r_this 15), .inr (3, FX4 r_this_decodedLayer v14 i_this_decodedLayer_blockCount)), ((r_this_decodedLayer 3), gA G 6 g26), ((r_this_decodedLayer 4), gA G 24 g22), ((r_this_decodedLayer 6), gA G 384 g21), ((r_this_decodedLayer 7), gA G 384 g25), ((r_this_decodedLayer 8), .inr (5, FX6 r_this_decodedLayer_prediction v13 v12)), ((r_this_decodedLayer_prediction 2), gA G 8 g24), ((r_this_decodedLayer_prediction 3), gA G 8 g23), ((r_this_decodedLayer 9), .inr (6, FX7 r_this_decodedLayer_transform)), ((r_this_decodedLayer_transform 0), gA G 64 g28), ((r_this_decodedLayer_transform 1), gA G 8 g27), ((r_this 17), .inr (0, FX1 r_this_reader q33 v18 v17 v19 v16 v15)), ((r_this_reader 2), gA G 20 g31), ((r_this_reader 3), gA G 20 g30), ((r_this 3), .inr (2, FX3 r_this_stream q_this_stream_bytes i_this_stream_count)), (q_this_stream_bytes, gA G n_this_stream_bytes t_this_stream_bytes)]) (q0 := 0) X hK hA hH hl (ct_X8_countFaultySlices l G h_this r_this r_this_decoded i_this_layerCount (1 : Int32) i_this_codedCount i_this_codedWidth i_this_codedHeight i_this_replacedSize i_this_replacedPlainSize o8.1 o8.2.1 g29 H.size o35 ho35) ⟨q_1, q_659, hd_X8_countFaultySlices, rfl, rfl, ⟨Nat.le_of_ble_eq_true rfl, Nat.le_of_ble_eq_true rfl⟩, ⟨Nat.zero_le _, Nat.zero_le _⟩⟩ q_656 q_658 qs_12 rfl rfl ⟨rfl, rfl, rfl, rfl, by decide, rfl, rfl⟩ rfl rfl (Nat.le_of_ble_eq_true rfl) dX8_decode_113 (fun H locs hH => ?_)
          obtain rfl := Option.some.inj hf
          exact hE (o35, o8.1, o8.2.1, v12, v13, v14, (1 : Int32), v15, v16, v17, v18, v19, g20, g21, g22, g23, g24, g25, g26, g27, g28, g29, g30, g31, g32) q33 _ _ _ _ rfl rfl hH dX8_decode_116
        refine lv_icmp_ne (tgt := 89) hx hb dX8_decode_79 (by decide) (fun c11 => ?_) (fun c11 => ?_)
        · have hf := sneg hf c11
          refine lv_aload_n hx hb dX8_decode_89 rfl (lv_at hl 0 rfl) ?_
          refine lv_iload_n hx hb dX8_decode_90 rfl (lv_at hl 1 rfl) ?_
          refine lv_aload_n hx hb dX8_decode_91 rfl (lv_at hl 0 rfl) ?_
          refine g_get (T := TX8) (N := 18) (ci := 7) (C := RX8) (v := .ref (r_this 3)) X hK hH in_RX8 0 rfl rfl 3 (by decide) q_215 (fun _ h9 => h9) rfl dX8_decode_92 ?_
          refine lv_iconst (v := (3 : Int32)) hx hb dX8_decode_95 (by decide) ?_
          obtain ⟨o36, ho36, hf⟩ := sbind hf
          refine g_cVi (isC := [19, 20]) (isR := [0, 1, 2, 3, 4, 5, 6, 7, 8, 9, 10, 11, 12, 13, 14, 15, 16, 17, 18]) (isP := [0, 1, 2, 3, 4, 5, 6, 7, 8, 9, 10, 11, 12, 13, 14, 15, 16, 17, 18, 19, 20]) (wr := [(h_this, .inr (7, FX8 r_this i_this_layerCount (1 : Int32) i_this_codedCount i_this_codedWidth i_this_codedHeight i_this_replacedSize i_this_replacedPlainSize)), ((r_this 6), gC G 3 o9.1), ((r_this 7), gA G 3 o9.2), ((r_this 4), .inr (4, FX5 r_this_decoded o8.1 o8.2.1)), ((r_this_decoded 2), gA G 384 o8.2.2), ((r_this 15), .inr (3, FX4 r_this_decodedLayer i_this_decodedLayer_step i_this_decodedLayer_blockCount)), ((r_this_decodedLayer 3), gA G 6 t_this_decodedLayer_sizes), ((r_this_decodedLayer 4), gA G 24 t_this_decodedLayer_modes), ((r_this_decodedLayer 6), gA G 384 t_this_decodedLayer_levels), ((r_this_decodedLayer 7), gA G 384 t_this_decodedLayer_result), ((r_this_decodedLayer 8), .inr (5, FX6 r_this_decodedLayer_prediction i_this_decodedLayer_prediction_size i_this_decodedLayer_prediction_average)), ((r_this_decodedLayer_prediction 2), gA G 8 t_this_decodedLayer_prediction_left), ((r_this_decodedLayer_prediction 3), gA G 8 t_this_decodedLayer_prediction_above), ((r_this_decodedLayer 9), .inr (6, FX7 r_this_decodedLayer_transform)), ((r_this_decodedLayer_transform 0), gA G 64 t_this_decodedLayer_transform_places), ((r_this_decodedLayer_transform 1), gA G 8 t_this_decodedLayer_transform_line), ((r_this 17), .inr (0, FX1 r_this_reader q_this_reader_bytes i_this_reader_low i_this_reader_high i_this_reader_position i_this_reader_end i_this_reader_code)), ((r_this_reader 2), gA G 20 t_this_reader_zeros), ((r_this_reader 3), gA G 20 t_this_reader_ones)]) (w2 := [(h_this, .inr (7, FX8 r_this i_this_layerCount (1 : Int32) i_this_codedCount i_this_codedWidth i_this_codedHeight i_this_replacedSize i_this_replacedPlainSize)), ((r_this 6), gC G 3 o9.1), ((r_this 7), gA G 3 o9.2), ((r_this 4), .inr (4, FX5 r_this_decoded o8.1 o8.2.1)), ((r_this_decoded 2), gA G 384 o8.2.2), ((r_this 15), .inr (3, FX4 r_this_decodedLayer i_this_decodedLayer_step i_this_decodedLayer_blockCount)), ((r_this_decodedLayer 3), gA G 6 t_this_decodedLayer_sizes), ((r_this_decodedLayer 4), gA G 24 t_this_decodedLayer_modes), ((r_this_decodedLayer 6), gA G 384 t_this_decodedLayer_levels), ((r_this_decodedLayer 7), gA G 384 t_this_decodedLayer_result), ((r_this_decodedLayer 8), .inr (5, FX6 r_this_decodedLayer_prediction i_this_decodedLayer_prediction_size i_this_decodedLayer_prediction_average)), ((r_this_decodedLayer_prediction 2), gA G 8 t_this_decodedLayer_prediction_left), ((r_this_decodedLayer_prediction 3), gA G 8 t_this_decodedLayer_prediction_above), ((r_this_decodedLayer 9), .inr (6, FX7 r_this_decodedLayer_transform)), ((r_this_decodedLayer_transform 0), gA G 64 t_this_decodedLayer_transform_places), ((r_this_decodedLayer_transform 1), gA G 8 t_this_decodedLayer_transform_line), ((r_this 17), .inr (0, FX1 r_this_reader q_this_reader_bytes i_this_reader_low i_this_reader_high i_this_reader_position i_this_reader_end i_this_reader_code)), ((r_this_reader 2), gA G 20 t_this_reader_zeros), ((r_this_reader 3), gA G 20 t_this_reader_ones), ((r_this 3), .inr (2, FX3 r_this_stream q_this_stream_bytes i_this_stream_count)), (q_this_stream_bytes, gA G n_this_stream_bytes t_this_stream_bytes)]) (q0 := 19) X hK hA hH hl (ct_X3_at l G (r_this 3) r_this_stream q_this_stream_bytes n_this_stream_bytes i_this_stream_count t_this_stream_bytes (3 : Int32) H.size o36 ho36) ⟨q_3, q_447, hd_X3_at, rfl, rfl, ⟨Nat.le_of_ble_eq_true rfl, Nat.le_of_ble_eq_true rfl⟩, ⟨Nat.zero_le _, Nat.zero_le _⟩⟩ q_444 q_445 q_446 rfl rfl ⟨rfl, rfl, rfl, rfl, by decide, rfl, rfl⟩ rfl rfl (Nat.le_of_ble_eq_true rfl) dX8_decode_96 (fun H locs hH => ?_)
          refine g_min X hl q_510 q_511 q_16 q_512 ⟨Nat.le_of_ble_eq_true rfl, Nat.le_of_ble_eq_true rfl⟩ ⟨Nat.zero_le _, Nat.zero_le _⟩ dX8_decode_99 ?_
          obtain ⟨o37, ho37, hf⟩ := sbind hf
          refine g_cVve (isC := [0, 1, 2, 3, 4, 5, 6, 7, 8, 9, 10, 11, 12, 13, 14, 15, 16, 17, 18, 19, 20]) (isR := []) (isP := [0, 1, 2, 3, 4, 5, 6, 7, 8, 9, 10, 11, 12, 13, 14, 15, 16, 17, 18, 19, 20]) (wr := []) (w2 := (fun u38 => [(h_this, .inr (7, FX8 r_this i_this_layerCount (1 : Int32) i_this_codedCount i_this_codedWidth i_this_codedHeight i_this_replacedSize i_this_replacedPlainSize)), ((r_this 6), gC G 3 o37.2.2.2.2.2.2.2.2.2.2.2.2.2.2.2.2.2.1), ((r_this 7), gA G 3 o37.2.2.2.2.2.2.2.2.2.2.2.2.2.2.2.2.2.2.2.2), ((r_this 4), .inr (4, FX5 r_this_decoded o8.1 o8.2.1)), ((r_this_decoded 2), gA G 384 o37.2.2.2.2.2.2.2.2.1), ((r_this 15), .inr (3, FX4 r_this_decodedLayer o37.2.2.1 i_this_decodedLayer_blockCount)), ((r_this_decodedLayer 3), gA G 6 o37.2.2.2.2.2.2.2.2.2.2.2.2.2.2.1), ((r_this_decodedLayer 4), gA G 24 o37.2.2.2.2.2.2.2.2.2.2.1), ((r_this_decodedLayer 6), gA G 384 o37.2.2.2.2.2.2.2.2.2.1), ((r_this_decodedLayer 7), gA G 384 o37.2.2.2.2.2.2.2.2.2.2.2.2.2.1), ((r_this_decodedLayer 8), .inr (5, FX6 r_this_decodedLayer_prediction o37.2.1 o37.1)), ((r_this_decodedLayer_prediction 2), gA G 8 o37.2.2.2.2.2.2.2.2.2.2.2.2.1), ((r_this_decodedLayer_prediction 3), gA G 8 o37.2.2.2.2.2.2.2.2.2.2.2.1), ((r_this_decodedLayer 9), .inr (6, FX7 r_this_decodedLayer_transform)), ((r_this_decodedLayer_transform 0), gA G 64 o37.2.2.2.2.2.2.2.2.2.2.2.2.2.2.2.2.1), ((r_this_decodedLayer_transform 1), gA G 8 o37.2.2.2.2.2.2.2.2.2.2.2.2.2.2.2.1), ((r_this 17), .inr (0, FX1 r_this_reader u38 o37.2.2.2.2.2.2.1 o37.2.2.2.2.2.1 o37.2.2.2.2.2.2.2.1 o37.2.2.2.2.1 o37.2.2.2.1)), ((r_this_reader 2), gA G 20 o37.2.2.2.2.2.2.2.2.2.2.2.2.2.2.2.2.2.2.2.1), ((r_this_reader 3), gA G 20 o37.2.2.2.2.2.2.2.2.2.2.2.2.2.2.2.2.2.2.1), ((r_this 3), .inr (2, FX3 r_this_stream q_this_stream_bytes i_this_stream_count)), (q_this_stream_bytes, gA G n_this_stream_bytes t_this_stream_bytes)])) (q0 := 0) X hK hA hH hl (ct_X8_readParts l G h_this r_this r_this_decoded r_this_decodedLayer r_this_decodedLayer_prediction r_this_decodedLayer_transform r_this_reader r_this_stream q_this_reader_bytes q_this_stream_bytes n_this_stream_bytes i_this_layerCount (1 : Int32) i_this_codedCount i_this_codedWidth i_this_codedHeight i_this_replacedSize i_this_replacedPlainSize o8.1 o8.2.1 i_this_decodedLayer_step i_this_decodedLayer_blockCount i_this_decodedLayer_prediction_size i_this_decodedLayer_prediction_average i_this_reader_low i_this_reader_high i_this_reader_position i_this_reader_end i_this_reader_code i_this_stream_count o8.2.2 t_this_decodedLayer_levels t_this_decodedLayer_modes t_this_decodedLayer_prediction_above t_this_decodedLayer_prediction_left t_this_decodedLayer_result t_this_decodedLayer_sizes t_this_decodedLayer_transform_line t_this_decodedLayer_transform_places o9.1 t_this_reader_ones t_this_reader_zeros t_this_stream_bytes o9.2 (jmin p0 o36) H.size o37 ho37) ⟨q_1, q_520, hd_X8_readParts, ⟨Nat.le_of_ble_eq_true rfl, Nat.le_of_ble_eq_true rfl⟩, ⟨Nat.zero_le _, Nat.zero_le _⟩⟩ q_517 q_519 qs_7 rfl rfl (fun _ => ⟨rfl, rfl, rfl, rfl, by decide, rfl, rfl⟩) rfl rfl (Nat.le_of_ble_eq_true rfl) dX8_decode_102 (fun u38 H locs hH => ?_)
          refine lv_aload_n hx hb dX8_decode_105 rfl (lv_at hl 0 rfl) ?_
          refine g_get (T := TX8) (N := 18) (ci := 7) (C := RX8) (v := .ref (r_this 4)) X hK hH in_RX8 0 rfl rfl 4 (by decide) q_216 (fun _ h9 => h9) rfl dX8_decode_106 ?_
          obtain ⟨o39, ho39, hf⟩ := sbind hf
          refine g_cVv (isC := [3, 4]) (isR := [0, 1, 2, 5, 6, 7, 8, 9, 10, 11, 12, 13, 14, 15, 16, 17, 18, 19, 20]) (isP := [0, 1, 2, 19, 20, 3, 4, 5, 6, 7, 8, 9, 10, 11, 12, 13, 14, 15, 16, 17, 18]) (wr := [(h_this, .inr (7, FX8 r_this i_this_layerCount (1 : Int32) i_this_codedCount i_this_codedWidth i_this_codedHeight i_this_replacedSize i_this_replacedPlainSize)), ((r_this 6), gC G 3 o37.2.2.2.2.2.2.2.2.2.2.2.2.2.2.2.2.2.1), ((r_this 7), gA G 3 o37.2.2.2.2.2.2.2.2.2.2.2.2.2.2.2.2.2.2.2.2), ((r_this 15), .inr (3, FX4 r_this_decodedLayer o37.2.2.1 i_this_decodedLayer_blockCount)), ((r_this_decodedLayer 3), gA G 6 o37.2.2.2.2.2.2.2.2.2.2.2.2.2.2.1), ((r_this_decodedLayer 4), gA G 24 o37.2.2.2.2.2.2.2.2.2.2.1), ((r_this_decodedLayer 6), gA G 384 o37.2.2.2.2.2.2.2.2.2.1), ((r_this_decodedLayer 7), gA G 384 o37.2.2.2.2.2.2.2.2.2.2.2.2.2.1), ((r_this_decodedLayer 8), .inr (5, FX6 r_this_decodedLayer_prediction o37.2.1 o37.1)), ((r_this_decodedLayer_prediction 2), gA G 8 o37.2.2.2.2.2.2.2.2.2.2.2.2.1), ((r_this_decodedLayer_prediction 3), gA G 8 o37.2.2.2.2.2.2.2.2.2.2.2.1), ((r_this_decodedLayer 9), .inr (6, FX7 r_this_decodedLayer_transform)), ((r_this_decodedLayer_transform 0), gA G 64 o37.2.2.2.2.2.2.2.2.2.2.2.2.2.2.2.2.1), ((r_this_decodedLayer_transform 1), gA G 8 o37.2.2.2.2.2.2.2.2.2.2.2.2.2.2.2.1), ((r_this 17), .inr (0, FX1 r_this_reader u38 o37.2.2.2.2.2.2.1 o37.2.2.2.2.2.1 o37.2.2.2.2.2.2.2.1 o37.2.2.2.2.1 o37.2.2.2.1)), ((r_this_reader 2), gA G 20 o37.2.2.2.2.2.2.2.2.2.2.2.2.2.2.2.2.2.2.2.1), ((r_this_reader 3), gA G 20 o37.2.2.2.2.2.2.2.2.2.2.2.2.2.2.2.2.2.2.1), ((r_this 3), .inr (2, FX3 r_this_stream q_this_stream_bytes i_this_stream_count)), (q_this_stream_bytes, gA G n_this_stream_bytes t_this_stream_bytes)]) (w2 := [(h_this, .inr (7, FX8 r_this i_this_layerCount (1 : Int32) i_this_codedCount i_this_codedWidth i_this_codedHeight i_this_replacedSize i_this_replacedPlainSize)), ((r_this 6), gC G 3 o37.2.2.2.2.2.2.2.2.2.2.2.2.2.2.2.2.2.1), ((r_this 7), gA G 3 o37.2.2.2.2.2.2.2.2.2.2.2.2.2.2.2.2.2.2.2.2), ((r_this 4), .inr (4, FX5 r_this_decoded o8.1 o8.2.1)), ((r_this_decoded 2), gA G 384 o39), ((r_this 15), .inr (3, FX4 r_this_decodedLayer o37.2.2.1 i_this_decodedLayer_blockCount)), ((r_this_decodedLayer 3), gA G 6 o37.2.2.2.2.2.2.2.2.2.2.2.2.2.2.1), ((r_this_decodedLayer 4), gA G 24 o37.2.2.2.2.2.2.2.2.2.2.1), ((r_this_decodedLayer 6), gA G 384 o37.2.2.2.2.2.2.2.2.2.1), ((r_this_decodedLayer 7), gA G 384 o37.2.2.2.2.2.2.2.2.2.2.2.2.2.1), ((r_this_decodedLayer 8), .inr (5, FX6 r_this_decodedLayer_prediction o37.2.1 o37.1)), ((r_this_decodedLayer_prediction 2), gA G 8 o37.2.2.2.2.2.2.2.2.2.2.2.2.1), ((r_this_decodedLayer_prediction 3), gA G 8 o37.2.2.2.2.2.2.2.2.2.2.2.1), ((r_this_decodedLayer 9), .inr (6, FX7 r_this_decodedLayer_transform)), ((r_this_decodedLayer_transform 0), gA G 64 o37.2.2.2.2.2.2.2.2.2.2.2.2.2.2.2.2.1), ((r_this_decodedLayer_transform 1), gA G 8 o37.2.2.2.2.2.2.2.2.2.2.2.2.2.2.2.1), ((r_this 17), .inr (0, FX1 r_this_reader u38 o37.2.2.2.2.2.2.1 o37.2.2.2.2.2.1 o37.2.2.2.2.2.2.2.1 o37.2.2.2.2.1 o37.2.2.2.1)), ((r_this_reader 2), gA G 20 o37.2.2.2.2.2.2.2.2.2.2.2.2.2.2.2.2.2.2.2.1), ((r_this_reader 3), gA G 20 o37.2.2.2.2.2.2.2.2.2.2.2.2.2.2.2.2.2.2.1), ((r_this 3), .inr (2, FX3 r_this_stream q_this_stream_bytes i_this_stream_count)), (q_this_stream_bytes, gA G n_this_stream_bytes t_this_stream_bytes)]) (q0 := 3) X hK hA hH hl (ct_X5_clamp l G (r_this 4) r_this_decoded o8.1 o8.2.1 o37.2.2.2.2.2.2.2.2.1 H.size o39 ho39) ⟨q_2, q_652, hd_X5_clamp, rfl, rfl, ⟨Nat.le_of_ble_eq_true rfl, Nat.le_of_ble_eq_true rfl⟩, ⟨Nat.zero_le _, Nat.zero_le _⟩⟩ q_649 q_650 q_651 rfl rfl ⟨rfl, rfl, rfl, rfl, by decide, rfl, rfl⟩ rfl rfl (Nat.le_of_ble_eq_true rfl) dX8_decode_109 (fun H locs hH => ?_)
          exact J34 o37.1 o37.2.1 o37.2.2.1 o37.2.2.2.1 o37.2.2.2.2.1 o37.2.2.2.2.2.1 o37.2.2.2.2.2.2.1 o37.2.2.2.2.2.2.2.1 o39 o37.2.2.2.2.2.2.2.2.2.1 o37.2.2.2.2.2.2.2.2.2.2.1 o37.2.2.2.2.2.2.2.2.2.2.2.1 o37.2.2.2.2.2.2.2.2.2.2.2.2.1 o37.2.2.2.2.2.2.2.2.2.2.2.2.2.1 o37.2.2.2.2.2.2.2.2.2.2.2.2.2.2.1 o37.2.2.2.2.2.2.2.2.2.2.2.2.2.2.2.1 o37.2.2.2.2.2.2.2.2.2.2.2.2.2.2.2.2.1 o37.2.2.2.2.2.2.2.2.2.2.2.2.2.2.2.2.2.1 o37.2.2.2.2.2.2.2.2.2.2.2.2.2.2.2.2.2.2.1 o37.2.2.2.2.2.2.2.2.2.2.2.2.2.2.2.2.2.2.2.1 o37.2.2.2.2.2.2.2.2.2.2.2.2.2.2.2.2.2.2.2.2 u38 _ _ _ hf hH (lv_sub hl [0] rfl)
        · have hf := spos hf c11
          refine lv_aload_n hx hb dX8_decode_82 rfl (lv_at hl 0 rfl) ?_
          obtain ⟨o40, ho40, hf⟩ := sbind hf
          refine g_cVv (isC := [0, 1, 2, 3, 4, 19, 20]) (isR := [5, 6, 7, 8, 9, 10, 11, 12, 13, 14, 15, 16, 17, 18]) (isP := [14, 15, 16, 17, 18, 0, 1, 2, 3, 4, 5, 6, 7, 8, 9, 10, 11, 12, 13, 19, 20]) (wr := [((r_this 15), .inr (3, FX4 r_this_decodedLayer i_this_decodedLayer_step i_this_decodedLayer_blockCount)), ((r_this_decodedLayer 3), gA G 6 t_this_decodedLayer_sizes), ((r_this_decodedLayer 4), gA G 24 t_this_decodedLayer_modes), ((r_this_decodedLayer 6), gA G 384 t_this_decodedLayer_levels), ((r_this_decodedLayer 7), gA G 384 t_this_decodedLayer_result), ((r_this_decodedLayer 8), .inr (5, FX6 r_this_decodedLayer_prediction i_this_decodedLayer_prediction_size i_this_decodedLayer_prediction_average)), ((r_this_decodedLayer_prediction 2), gA G 8 t_this_decodedLayer_prediction_left), ((r_this_decodedLayer_prediction 3), gA G 8 t_this_decodedLayer_prediction_above), ((r_this_decodedLayer 9), .inr (6, FX7 r_this_decodedLayer_transform)), ((r_this_decodedLayer_transform 0), gA G 64 t_this_decodedLayer_transform_places), ((r_this_decodedLayer_transform 1), gA G 8 t_this_decodedLayer_transform_line), ((r_this 17), .inr (0, FX1 r_this_reader q_this_reader_bytes i_this_reader_low i_this_reader_high i_this_reader_position i_this_reader_end i_this_reader_code)), ((r_this_reader 2), gA G 20 t_this_reader_zeros), ((r_this_reader 3), gA G 20 t_this_reader_ones)]) (w2 := [(h_this, .inr (7, FX8 r_this i_this_layerCount (1 : Int32) i_this_codedCount i_this_codedWidth i_this_codedHeight i_this_replacedSize i_this_replacedPlainSize)), ((r_this 6), gC G 3 o40.2.1), ((r_this 7), gA G 3 o40.2.2), ((r_this 4), .inr (4, FX5 r_this_decoded o8.1 o8.2.1)), ((r_this_decoded 2), gA G 384 o40.1), ((r_this 15), .inr (3, FX4 r_this_decodedLayer i_this_decodedLayer_step i_this_decodedLayer_blockCount)), ((r_this_decodedLayer 3), gA G 6 t_this_decodedLayer_sizes), ((r_this_decodedLayer 4), gA G 24 t_this_decodedLayer_modes), ((r_this_decodedLayer 6), gA G 384 t_this_decodedLayer_levels), ((r_this_decodedLayer 7), gA G 384 t_this_decodedLayer_result), ((r_this_decodedLayer 8), .inr (5, FX6 r_this_decodedLayer_prediction i_this_decodedLayer_prediction_size i_this_decodedLayer_prediction_average)), ((r_this_decodedLayer_prediction 2), gA G 8 t_this_decodedLayer_prediction_left), ((r_this_decodedLayer_prediction 3), gA G 8 t_this_decodedLayer_prediction_above), ((r_this_decodedLayer 9), .inr (6, FX7 r_this_decodedLayer_transform)), ((r_this_decodedLayer_transform 0), gA G 64 t_this_decodedLayer_transform_places), ((r_this_decodedLayer_transform 1), gA G 8 t_this_decodedLayer_transform_line), ((r_this 17), .inr (0, FX1 r_this_reader q_this_reader_bytes i_this_reader_low i_this_reader_high i_this_reader_position i_this_reader_end i_this_reader_code)), ((r_this_reader 2), gA G 20 t_this_reader_zeros), ((r_this_reader 3), gA G 20 t_this_reader_ones), ((r_this 3), .inr (2, FX3 r_this_stream q_this_stream_bytes i_this_stream_count)), (q_this_stream_bytes, gA G n_this_stream_bytes t_this_stream_bytes)]) (q0 := 0) X hK hA hH hl (ct_X8_readPlainPixels l G h_this r_this r_this_decoded r_this_stream q_this_stream_bytes n_this_stream_bytes i_this_layerCount (1 : Int32) i_this_codedCount i_this_codedWidth i_this_codedHeight i_this_replacedSize i_this_replacedPlainSize o8.1 o8.2.1 i_this_stream_count o8.2.2 o9.1 t_this_stream_bytes o9.2 H.size o40 ho40) ⟨q_1, q_506, hd_X8_readPlainPixels, rfl, rfl, ⟨Nat.le_of_ble_eq_true rfl, Nat.le_of_ble_eq_true rfl⟩, ⟨Nat.zero_le _, Nat.zero_le _⟩⟩ q_503 q_505 qs_5 rfl rfl ⟨rfl, rfl, rfl, rfl, by decide, rfl, rfl⟩ rfl rfl (Nat.le_of_ble_eq_true rfl) dX8_decode_83 (fun H locs hH => ?_)
          refine lv_goto (tgt := 112) hx hb dX8_decode_86 (by decide) ?_
          exact J34 i_this_decodedLayer_prediction_average i_this_decodedLayer_prediction_size i_this_decodedLayer_step i_this_reader_code i_this_reader_end i_this_reader_high i_this_reader_low i_this_reader_position o40.1 t_this_decodedLayer_levels t_this_decodedLayer_modes t_this_decodedLayer_prediction_above t_this_decodedLayer_prediction_left t_this_decodedLayer_result t_this_decodedLayer_sizes t_this_decodedLayer_transform_line t_this_decodedLayer_transform_places o40.2.1 t_this_reader_ones t_this_reader_zeros o40.2.2 q_this_reader_bytes _ _ _ hf hH (lv_sub hl [0] rfl)
      · have hf := spos hf c5
        obtain rfl := Option.some.inj hf
        rw [hQ]
        exact g_throw X hst hK hS hZ hH hl hno 2 atG2 q_476 (List.mem_of_getElem? (i := 9) rfl) dX8_decode_27 dX8_decode_30 dX8_decode_31 dX8_decode_33 dX8_decode_36 ⟨Nat.le_of_ble_eq_true rfl, Nat.le_of_ble_eq_true rfl⟩ ⟨Nat.le_of_ble_eq_true rfl, Nat.le_of_ble_eq_true rfl⟩
    · have hf := sneg hf c3
      exact J2  _ _ _ hf hH (lv_sub hl [] rfl)

def lf_X8_requireDecoded (i_this_hasDecoded : Int32) : Option (Nat ⊕ (Unit)) :=
(if i_this_hasDecoded = (0 : Int32) then some (Sum.inl 3) else some (Sum.inr ()))
abbrev rm_X8_requireDecoded (k : Nat) : Room := { frames := 6, cells := k, slots := 6 * k, locals := 98 }
theorem hd_X8_requireDecoded : yX8_requireDecoded.cls ≠ "java/lang/invoke/MethodHandle" ∧ yX8_requireDecoded.cls ≠ "java/lang/invoke/VarHandle" ∧ (parseMethodDescriptor yX8_requireDecoded.desc).map (fun d => d.parameters.length) = some 0 := by decide +kernel
set_option maxHeartbeats 4000000 in
set_option maxRecDepth 100000 in
theorem ct_X8_requireDecoded (l : Launch) (G : gG) (h_this : Nat) (r_this : Nat → Nat) (i_this_layerCount i_this_hasDecoded i_this_codedCount i_this_codedWidth i_this_codedHeight i_this_replacedSize i_this_replacedPlainSize : Int32) (sz : Nat) (out : Nat ⊕ (Unit)) (hf : lf_X8_requireDecoded i_this_hasDecoded = some out) (hst : l.stackTraces = false) : gTv l G yX8_requireDecoded cX8_requireDecoded 1 (rm_X8_requireDecoded (tc out)) [.ref h_this] sz [(h_this, .inr (7, FX8 r_this i_this_layerCount i_this_hasDecoded i_this_codedCount i_this_codedWidth i_this_codedHeight i_this_replacedSize i_this_replacedPlainSize))] out (fun x u => [(h_this, .inr (7, FX8 r_this i_this_layerCount i_this_hasDecoded i_this_codedCount i_this_codedWidth i_this_codedHeight i_this_replacedSize i_this_replacedPlainSize))]) := by
  refine gTv_of (by decide +kernel) (Nat.le_of_ble_eq_true rfl) ?_
  intro p e s m args below meth c ls A Q X hK hA hsz hH hl hS hZ hno hQ hE
  subst hsz
  have hx := X.1
  have hb := X.2.1
  unfold lf_X8_requireDecoded at hf
  have hl : lv_has ls 1 [(0, .ref h_this)] := hl
  have hH : gH G A s.heap s.heap [] [(h_this, .inr (7, FX8 r_this i_this_layerCount i_this_hasDecoded i_this_codedCount i_this_codedWidth i_this_codedHeight i_this_replacedSize i_this_replacedPlainSize))] := hH
  refine lv_aload_n hx hb dX8_requireDecoded_0 rfl (lv_at hl 0 rfl) ?_
  refine g_get (T := TX8) (N := 18) (ci := 7) (C := RX8) (v := .int i_this_hasDecoded) X hK hH in_RX8 0 rfl rfl 5 (by decide) q_217 (fun _ h9 => h9) rfl dX8_requireDecoded_1 ?_
  refine lv_if_ne (tgt := 18) hx hb dX8_requireDecoded_4 (by decide) (fun c1 => ?_) (fun c1 => ?_)
  · have hf := sneg hf c1
    obtain rfl := Option.some.inj hf
    exact hE () 0 _ _ _ _ rfl hH dX8_requireDecoded_18
  · have hf := spos hf c1
    obtain rfl := Option.some.inj hf
    rw [hQ]
    exact g_throwW X hst hK hS hZ hH hl hno 3 atG3 q_672 (List.mem_of_getElem? (i := 10) rfl) dX8_requireDecoded_7 dX8_requireDecoded_10 dX8_requireDecoded_11 dX8_requireDecoded_14 dX8_requireDecoded_17 ⟨Nat.le_of_ble_eq_true rfl, Nat.le_of_ble_eq_true rfl⟩ ⟨Nat.le_of_ble_eq_true rfl, Nat.le_of_ble_eq_true rfl⟩

def lf_X8_decodedWidth (i_this_decoded_columns : Int32) (i_this_hasDecoded : Int32) : Option (Nat ⊕ (Int32)) :=
(lf_X8_requireDecoded i_this_hasDecoded).bind fun o1 => Sum.elim (fun kk => some (Sum.inl kk)) (fun r2 => some (Sum.inr i_this_decoded_columns)) o1
abbrev rm_X8_decodedWidth (k : Nat) : Room := { frames := 7, cells := k, slots := 6 * k, locals := 118 }
theorem hd_X8_decodedWidth : yX8_decodedWidth.cls ≠ "java/lang/invoke/MethodHandle" ∧ yX8_decodedWidth.cls ≠ "java/lang/invoke/VarHandle" ∧ (parseMethodDescriptor yX8_decodedWidth.desc).map (fun d => d.parameters.length) = some 0 := by decide +kernel
set_option maxHeartbeats 4000000 in
set_option maxRecDepth 100000 in
theorem ct_X8_decodedWidth (l : Launch) (G : gG) (h_this : Nat) (r_this r_this_decoded : Nat → Nat) (i_this_layerCount i_this_hasDecoded i_this_codedCount i_this_codedWidth i_this_codedHeight i_this_replacedSize i_this_replacedPlainSize i_this_decoded_columns i_this_decoded_rows : Int32) (sz : Nat) (out : Nat ⊕ (Int32)) (hf : lf_X8_decodedWidth i_this_decoded_columns i_this_hasDecoded = some out) (hst : l.stackTraces = false) : gTi l G yX8_decodedWidth cX8_decodedWidth 1 .int (rm_X8_decodedWidth (tc out)) [.ref h_this] sz [(h_this, .inr (7, FX8 r_this i_this_layerCount i_this_hasDecoded i_this_codedCount i_this_codedWidth i_this_codedHeight i_this_replacedSize i_this_replacedPlainSize)), ((r_this 4), .inr (4, FX5 r_this_decoded i_this_decoded_columns i_this_decoded_rows))] out (fun x => x) (fun x u => [(h_this, .inr (7, FX8 r_this i_this_layerCount i_this_hasDecoded i_this_codedCount i_this_codedWidth i_this_codedHeight i_this_replacedSize i_this_replacedPlainSize)), ((r_this 4), .inr (4, FX5 r_this_decoded i_this_decoded_columns i_this_decoded_rows))]) := by
  refine gTi_of (by decide +kernel) (Nat.le_of_ble_eq_true rfl) ?_
  intro p e s m args below meth c ls A Q X hK hA hsz hH hl hS hZ hno hQ hE
  subst hsz
  have hx := X.1
  have hb := X.2.1
  unfold lf_X8_decodedWidth at hf
  have hl : lv_has ls 1 [(0, .ref h_this)] := hl
  have hH : gH G A s.heap s.heap [] [(h_this, .inr (7, FX8 r_this i_this_layerCount i_this_hasDecoded i_this_codedCount i_this_codedWidth i_this_codedHeight i_this_replacedSize i_this_replacedPlainSize)), ((r_this 4), .inr (4, FX5 r_this_decoded i_this_decoded_columns i_this_decoded_rows))] := hH
  refine lv_aload_n hx hb dX8_decodedWidth_0 rfl (lv_at hl 0 rfl) ?_
  obtain ⟨o1, ho1, hf⟩ := sbind hf
  rcases o1 with k4 | r2
  · obtain rfl := Option.some.inj hf
    rw [hQ]
    exact g_tVx (isC := [0]) (isR := [1]) (isP := [1, 0]) (wr := [((r_this 4), .inr (4, FX5 r_this_decoded i_this_decoded_columns i_this_decoded_rows))]) (q0 := 0) X hK hS hZ hno hA hH hl (ct_X8_requireDecoded l G h_this r_this i_this_layerCount i_this_hasDecoded i_this_codedCount i_this_codedWidth i_this_codedHeight i_this_replacedSize i_this_replacedPlainSize s.heap.size _ ho1 hst) ⟨q_1, q_671, hd_X8_requireDecoded, rfl, rfl, ⟨Nat.le_of_ble_eq_true rfl, Nat.le_of_ble_eq_true rfl⟩, ⟨Nat.le_of_ble_eq_true rfl, Nat.le_of_ble_eq_true rfl⟩⟩ q_668 q_670 qs_13 rfl rfl ⟨rfl, rfl, rfl, rfl, by decide, rfl, rfl⟩ rfl rfl (Nat.le_of_ble_eq_true rfl) dX8_decodedWidth_1
  have hf := selimr hf
  refine g_tVr (isC := [0]) (isR := [1]) (isP := [1, 0]) (wr := [((r_this 4), .inr (4, FX5 r_this_decoded i_this_decoded_columns i_this_decoded_rows))]) (q0 := 0) (w2 := (fun u3 => [(h_this, .inr (7, FX8 r_this i_this_layerCount i_this_hasDecoded i_this_codedCount i_this_codedWidth i_this_codedHeight i_this_replacedSize i_this_replacedPlainSize)), ((r_this 4), .inr (4, FX5 r_this_decoded i_this_decoded_columns i_this_decoded_rows))])) X hK hS hZ hA hH hl (ct_X8_requireDecoded l G h_this r_this i_this_layerCount i_this_hasDecoded i_this_codedCount i_this_codedWidth i_this_codedHeight i_this_replacedSize i_this_replacedPlainSize s.heap.size _ ho1 hst) ⟨q_1, q_671, hd_X8_requireDecoded, rfl, rfl, ⟨Nat.le_of_ble_eq_true rfl, Nat.le_of_ble_eq_true rfl⟩, ⟨Nat.zero_le _, Nat.zero_le _⟩⟩ q_668 q_670 qs_13 rfl rfl (fun _ => ⟨rfl, rfl, rfl, rfl, by decide, rfl, rfl⟩) rfl rfl (Nat.le_of_ble_eq_true rfl) dX8_decodedWidth_1 (fun u3 H locs hH => ?_)
  refine lv_aload_n hx hb dX8_decodedWidth_4 rfl (lv_at hl 0 rfl) ?_
  refine g_get (T := TX8) (N := 18) (ci := 7) (C := RX8) (v := .ref (r_this 4)) X hK hH in_RX8 0 rfl rfl 4 (by decide) q_216 (fun _ h9 => h9) rfl dX8_decodedWidth_5 ?_
  refine g_getN (T := TX5) (N := 3) (ci := 4) (C := RX5) (v := .int i_this_decoded_columns) X hK hH in_RX5 1 rfl rfl 0 (by decide) qn_48 (fun _ h9 => h9) rfl dX8_decodedWidth_8 ?_
  obtain rfl := Option.some.inj hf
  exact hE i_this_decoded_columns 0 _ _ _ _ rfl rfl hH dX8_decodedWidth_11

def lf_X8_decodedHeight (i_this_decoded_rows : Int32) (i_this_hasDecoded : Int32) : Option (Nat ⊕ (Int32)) :=
(lf_X8_requireDecoded i_this_hasDecoded).bind fun o1 => Sum.elim (fun kk => some (Sum.inl kk)) (fun r2 => some (Sum.inr i_this_decoded_rows)) o1
abbrev rm_X8_decodedHeight (k : Nat) : Room := { frames := 7, cells := k, slots := 6 * k, locals := 118 }
theorem hd_X8_decodedHeight : yX8_decodedHeight.cls ≠ "java/lang/invoke/MethodHandle" ∧ yX8_decodedHeight.cls ≠ "java/lang/invoke/VarHandle" ∧ (parseMethodDescriptor yX8_decodedHeight.desc).map (fun d => d.parameters.length) = some 0 := by decide +kernel
set_option maxHeartbeats 4000000 in
set_option maxRecDepth 100000 in
theorem ct_X8_decodedHeight (l : Launch) (G : gG) (h_this : Nat) (r_this r_this_decoded : Nat → Nat) (i_this_layerCount i_this_hasDecoded i_this_codedCount i_this_codedWidth i_this_codedHeight i_this_replacedSize i_this_replacedPlainSize i_this_decoded_columns i_this_decoded_rows : Int32) (sz : Nat) (out : Nat ⊕ (Int32)) (hf : lf_X8_decodedHeight i_this_decoded_rows i_this_hasDecoded = some out) (hst : l.stackTraces = false) : gTi l G yX8_decodedHeight cX8_decodedHeight 1 .int (rm_X8_decodedHeight (tc out)) [.ref h_this] sz [(h_this, .inr (7, FX8 r_this i_this_layerCount i_this_hasDecoded i_this_codedCount i_this_codedWidth i_this_codedHeight i_this_replacedSize i_this_replacedPlainSize)), ((r_this 4), .inr (4, FX5 r_this_decoded i_this_decoded_columns i_this_decoded_rows))] out (fun x => x) (fun x u => [(h_this, .inr (7, FX8 r_this i_this_layerCount i_this_hasDecoded i_this_codedCount i_this_codedWidth i_this_codedHeight i_this_replacedSize i_this_replacedPlainSize)), ((r_this 4), .inr (4, FX5 r_this_decoded i_this_decoded_columns i_this_decoded_rows))]) := by
  refine gTi_of (by decide +kernel) (Nat.le_of_ble_eq_true rfl) ?_
  intro p e s m args below meth c ls A Q X hK hA hsz hH hl hS hZ hno hQ hE
  subst hsz
  have hx := X.1
  have hb := X.2.1
  unfold lf_X8_decodedHeight at hf
  have hl : lv_has ls 1 [(0, .ref h_this)] := hl
  have hH : gH G A s.heap s.heap [] [(h_this, .inr (7, FX8 r_this i_this_layerCount i_this_hasDecoded i_this_codedCount i_this_codedWidth i_this_codedHeight i_this_replacedSize i_this_replacedPlainSize)), ((r_this 4), .inr (4, FX5 r_this_decoded i_this_decoded_columns i_this_decoded_rows))] := hH
  refine lv_aload_n hx hb dX8_decodedHeight_0 rfl (lv_at hl 0 rfl) ?_
  obtain ⟨o1, ho1, hf⟩ := sbind hf
  rcases o1 with k4 | r2
  · obtain rfl := Option.some.inj hf
    rw [hQ]
    exact g_tVx (isC := [0]) (isR := [1]) (isP := [1, 0]) (wr := [((r_this 4), .inr (4, FX5 r_this_decoded i_this_decoded_columns i_this_decoded_rows))]) (q0 := 0) X hK hS hZ hno hA hH hl (ct_X8_requireDecoded l G h_this r_this i_this_layerCount i_this_hasDecoded i_this_codedCount i_this_codedWidth i_this_codedHeight i_this_replacedSize i_this_replacedPlainSize s.heap.size _ ho1 hst) ⟨q_1, q_671, hd_X8_requireDecoded, rfl, rfl, ⟨Nat.le_of_ble_eq_true rfl, Nat.le_of_ble_eq_true rfl⟩, ⟨Nat.le_of_ble_eq_true rfl, Nat.le_of_ble_eq_true rfl⟩⟩ q_668 q_670 qs_13 rfl rfl ⟨rfl, rfl, rfl, rfl, by decide, rfl, rfl⟩ rfl rfl (Nat.le_of_ble_eq_true rfl) dX8_decodedHeight_1
  have hf := selimr hf
  refine g_tVr (isC := [0]) (isR := [1]) (isP := [1, 0]) (wr := [((r_this 4), .inr (4, FX5 r_this_decoded i_this_decoded_columns i_this_decoded_rows))]) (q0 := 0) (w2 := (fun u3 => [(h_this, .inr (7, FX8 r_this i_this_layerCount i_this_hasDecoded i_this_codedCount i_this_codedWidth i_this_codedHeight i_this_replacedSize i_this_replacedPlainSize)), ((r_this 4), .inr (4, FX5 r_this_decoded i_this_decoded_columns i_this_decoded_rows))])) X hK hS hZ hA hH hl (ct_X8_requireDecoded l G h_this r_this i_this_layerCount i_this_hasDecoded i_this_codedCount i_this_codedWidth i_this_codedHeight i_this_replacedSize i_this_replacedPlainSize s.heap.size _ ho1 hst) ⟨q_1, q_671, hd_X8_requireDecoded, rfl, rfl, ⟨Nat.le_of_ble_eq_true rfl, Nat.le_of_ble_eq_true rfl⟩, ⟨Nat.zero_le _, Nat.zero_le _⟩⟩ q_668 q_670 qs_13 rfl rfl (fun _ => ⟨rfl, rfl, rfl, rfl, by decide, rfl, rfl⟩) rfl rfl (Nat.le_of_ble_eq_true rfl) dX8_decodedHeight_1 (fun u3 H locs hH => ?_)
  refine lv_aload_n hx hb dX8_decodedHeight_4 rfl (lv_at hl 0 rfl) ?_
  refine g_get (T := TX8) (N := 18) (ci := 7) (C := RX8) (v := .ref (r_this 4)) X hK hH in_RX8 0 rfl rfl 4 (by decide) q_216 (fun _ h9 => h9) rfl dX8_decodedHeight_5 ?_
  refine g_getN (T := TX5) (N := 3) (ci := 4) (C := RX5) (v := .int i_this_decoded_rows) X hK hH in_RX5 1 rfl rfl 1 (by decide) qn_50 (fun _ h9 => h9) rfl dX8_decodedHeight_8 ?_
  obtain rfl := Option.some.inj hf
  exact hE i_this_decoded_rows 0 _ _ _ _ rfl rfl hH dX8_decodedHeight_11

def lf_X8_decodedPixel (i_this_decoded_columns : Int32) (i_this_decoded_rows : Int32) (i_this_hasDecoded : Int32) (t_this_decoded_pixels : Nat → Int32) (p0 : Int32) (p1 : Int32) : Option (Nat ⊕ (Int32)) :=
(lf_X8_requireDecoded i_this_hasDecoded).bind fun o1 => Sum.elim (fun kk => some (Sum.inl kk)) (fun r2 => (lf_X8_requirePixel i_this_decoded_columns i_this_decoded_rows p0 p1).bind fun o5 => Sum.elim (fun kk => some (Sum.inl kk)) (fun r6 => (lf_X5_at i_this_decoded_columns i_this_decoded_rows t_this_decoded_pixels p0 p1).bind fun o9 => some (Sum.inr o9)) o5) o1
abbrev rm_X8_decodedPixel (k : Nat) : Room := { frames := 7, cells := k, slots := 6 * k, locals := 120 }
theorem hd_X8_decodedPixel : yX8_decodedPixel.cls ≠ "java/lang/invoke/MethodHandle" ∧ yX8_decodedPixel.cls ≠ "java/lang/invoke/VarHandle" ∧ (parseMethodDescriptor yX8_decodedPixel.desc).map (fun d => d.parameters.length) = some 2 := by decide +kernel
set_option maxHeartbeats 4000000 in
set_option maxRecDepth 100000 in
theorem ct_X8_decodedPixel (l : Launch) (G : gG) (h_this : Nat) (r_this r_this_decoded : Nat → Nat) (i_this_layerCount i_this_hasDecoded i_this_codedCount i_this_codedWidth i_this_codedHeight i_this_replacedSize i_this_replacedPlainSize i_this_decoded_columns i_this_decoded_rows : Int32) (t_this_decoded_pixels : Nat → Int32) (p0 p1 : Int32) (sz : Nat) (out : Nat ⊕ (Int32)) (hf : lf_X8_decodedPixel i_this_decoded_columns i_this_decoded_rows i_this_hasDecoded t_this_decoded_pixels p0 p1 = some out) (hst : l.stackTraces = false) : gTi l G yX8_decodedPixel cX8_decodedPixel 3 .int (rm_X8_decodedPixel (tc out)) [.ref h_this, .int p0, .int p1] sz [(h_this, .inr (7, FX8 r_this i_this_layerCount i_this_hasDecoded i_this_codedCount i_this_codedWidth i_this_codedHeight i_this_replacedSize i_this_replacedPlainSize)), ((r_this 4), .inr (4, FX5 r_this_decoded i_this_decoded_columns i_this_decoded_rows)), ((r_this_decoded 2), gA G 384 t_this_decoded_pixels)] out (fun x => x) (fun x u => [(h_this, .inr (7, FX8 r_this i_this_layerCount i_this_hasDecoded i_this_codedCount i_this_codedWidth i_this_codedHeight i_this_replacedSize i_this_replacedPlainSize)), ((r_this 4), .inr (4, FX5 r_this_decoded i_this_decoded_columns i_this_decoded_rows)), ((r_this_decoded 2), gA G 384 t_this_decoded_pixels)]) := by
  refine gTi_of (by decide +kernel) (Nat.le_of_ble_eq_true rfl) ?_
  intro p e s m args below meth c ls A Q X hK hA hsz hH hl hS hZ hno hQ hE
  subst hsz
  have hx := X.1
  have hb := X.2.1
  unfold lf_X8_decodedPixel at hf
  have hl : lv_has ls 3 [(0, .ref h_this), (1, .int p0), (2, .int p1)] := hl
  have hH : gH G A s.heap s.heap [] [(h_this, .inr (7, FX8 r_this i_this_layerCount i_this_hasDecoded i_this_codedCount i_this_codedWidth i_this_codedHeight i_this_replacedSize i_this_replacedPlainSize)), ((r_this 4), .inr (4, FX5 r_this_decoded i_this_decoded_columns i_this_decoded_rows)), ((r_this_decoded 2), gA G 384 t_this_decoded_pixels)] := hH
  refine lv_aload_n hx hb dX8_decodedPixel_0 rfl (lv_at hl 0 rfl) ?_
  obtain ⟨o1, ho1, hf⟩ := sbind hf
  rcases o1 with k4 | r2
  · obtain rfl := Option.some.inj hf
    rw [hQ]
    exact g_tVx (isC := [0]) (isR := [1, 2]) (isP := [2, 0, 1]) (wr := [((r_this 4), .inr (4, FX5 r_this_decoded i_this_decoded_columns i_this_decoded_rows)), ((r_this_decoded 2), gA G 384 t_this_decoded_pixels)]) (q0 := 0) X hK hS hZ hno hA hH hl (ct_X8_requireDecoded l G h_this r_this i_this_layerCount i_this_hasDecoded i_this_codedCount i_this_codedWidth i_this_codedHeight i_this_replacedSize i_this_replacedPlainSize s.heap.size _ ho1 hst) ⟨q_1, q_671, hd_X8_requireDecoded, rfl, rfl, ⟨Nat.le_of_ble_eq_true rfl, Nat.le_of_ble_eq_true rfl⟩, ⟨Nat.le_of_ble_eq_true rfl, Nat.le_of_ble_eq_true rfl⟩⟩ q_668 q_670 qs_13 rfl rfl ⟨rfl, rfl, rfl, rfl, by decide, rfl, rfl⟩ rfl rfl (Nat.le_of_ble_eq_true rfl) dX8_decodedPixel_1
  have hf := selimr hf
  refine g_tVr (isC := [0]) (isR := [1, 2]) (isP := [2, 0, 1]) (wr := [((r_this 4), .inr (4, FX5 r_this_decoded i_this_decoded_columns i_this_decoded_rows)), ((r_this_decoded 2), gA G 384 t_this_decoded_pixels)]) (q0 := 0) (w2 := (fun u3 => [(h_this, .inr (7, FX8 r_this i_this_layerCount i_this_hasDecoded i_this_codedCount i_this_codedWidth i_this_codedHeight i_this_replacedSize i_this_replacedPlainSize)), ((r_this 4), .inr (4, FX5 r_this_decoded i_this_decoded_columns i_this_decoded_rows)), ((r_this_decoded 2), gA G 384 t_this_decoded_pixels)])) X hK hS hZ hA hH hl (ct_X8_requireDecoded l G h_this r_this i_this_layerCount i_this_hasDecoded i_this_codedCount i_this_codedWidth i_this_codedHeight i_this_replacedSize i_this_replacedPlainSize s.heap.size _ ho1 hst) ⟨q_1, q_671, hd_X8_requireDecoded, rfl, rfl, ⟨Nat.le_of_ble_eq_true rfl, Nat.le_of_ble_eq_true rfl⟩, ⟨Nat.zero_le _, Nat.zero_le _⟩⟩ q_668 q_670 qs_13 rfl rfl (fun _ => ⟨rfl, rfl, rfl, rfl, by decide, rfl, rfl⟩) rfl rfl (Nat.le_of_ble_eq_true rfl) dX8_decodedPixel_1 (fun u3 H locs hH => ?_)
  refine lv_aload_n hx hb dX8_decodedPixel_4 rfl (lv_at hl 0 rfl) ?_
  refine g_get (T := TX8) (N := 18) (ci := 7) (C := RX8) (v := .ref (r_this 4)) X hK hH in_RX8 0 rfl rfl 4 (by decide) q_216 (fun _ h9 => h9) rfl dX8_decodedPixel_5 ?_
  refine lv_iload_n hx hb dX8_decodedPixel_8 rfl (lv_at hl 1 rfl) ?_
  refine lv_iload_n hx hb dX8_decodedPixel_9 rfl (lv_at hl 2 rfl) ?_
  obtain ⟨o5, ho5, hf⟩ := sbind hf
  rcases o5 with k8 | r6
  · obtain rfl := Option.some.inj hf
    rw [hQ]
    exact g_tSx (isC := [1]) (isR := [0, 2]) (isP := [0, 2, 1]) (wr := [(h_this, .inr (7, FX8 r_this i_this_layerCount i_this_hasDecoded i_this_codedCount i_this_codedWidth i_this_codedHeight i_this_replacedSize i_this_replacedPlainSize)), ((r_this_decoded 2), gA G 384 t_this_decoded_pixels)]) X hK hS hZ hno hA hH hl (ct_X8_requirePixel l G (r_this 4) r_this_decoded i_this_decoded_columns i_this_decoded_rows p0 p1 H.size _ ho5 hst) ⟨q_1, q_309, hd_X8_requirePixel, rfl, rfl, ⟨Nat.le_of_ble_eq_true rfl, Nat.le_of_ble_eq_true rfl⟩, ⟨Nat.le_of_ble_eq_true rfl, Nat.le_of_ble_eq_true rfl⟩⟩ q_307 q_308 ⟨rfl, rfl, rfl, rfl, by decide, rfl, rfl⟩ rfl rfl (Nat.le_of_ble_eq_true rfl) dX8_decodedPixel_10
  have hf := selimr hf
  refine g_tSr (isC := [1]) (isR := [0, 2]) (isP := [0, 2, 1]) (wr := [(h_this, .inr (7, FX8 r_this i_this_layerCount i_this_hasDecoded i_this_codedCount i_this_codedWidth i_this_codedHeight i_this_replacedSize i_this_replacedPlainSize)), ((r_this_decoded 2), gA G 384 t_this_decoded_pixels)]) (w2 := (fun u7 => [(h_this, .inr (7, FX8 r_this i_this_layerCount i_this_hasDecoded i_this_codedCount i_this_codedWidth i_this_codedHeight i_this_replacedSize i_this_replacedPlainSize)), ((r_this 4), .inr (4, FX5 r_this_decoded i_this_decoded_columns i_this_decoded_rows)), ((r_this_decoded 2), gA G 384 t_this_decoded_pixels)])) X hK hS hZ hA hH hl (ct_X8_requirePixel l G (r_this 4) r_this_decoded i_this_decoded_columns i_this_decoded_rows p0 p1 H.size _ ho5 hst) ⟨q_1, q_309, hd_X8_requirePixel, rfl, rfl, ⟨Nat.le_of_ble_eq_true rfl, Nat.le_of_ble_eq_true rfl⟩, ⟨Nat.zero_le _, Nat.zero_le _⟩⟩ q_307 q_308 (fun _ => ⟨rfl, rfl, rfl, rfl, by decide, rfl, rfl⟩) rfl rfl (Nat.le_of_ble_eq_true rfl) dX8_decodedPixel_10 (fun u7 H locs hH => ?_)
  refine lv_aload_n hx hb dX8_decodedPixel_13 rfl (lv_at hl 0 rfl) ?_
  refine g_get (T := TX8) (N := 18) (ci := 7) (C := RX8) (v := .ref (r_this 4)) X hK hH in_RX8 0 rfl rfl 4 (by decide) q_216 (fun _ h9 => h9) rfl dX8_decodedPixel_14 ?_
  refine lv_iload_n hx hb dX8_decodedPixel_17 rfl (lv_at hl 1 rfl) ?_
  refine lv_iload_n hx hb dX8_decodedPixel_18 rfl (lv_at hl 2 rfl) ?_
  obtain ⟨o9, ho9, hf⟩ := sbind hf
  refine g_cVi (isC := [1, 2]) (isR := [0]) (isP := [0, 1, 2]) (wr := [(h_this, .inr (7, FX8 r_this i_this_layerCount i_this_hasDecoded i_this_codedCount i_this_codedWidth i_this_codedHeight i_this_replacedSize i_this_replacedPlainSize))]) (w2 := [(h_this, .inr (7, FX8 r_this i_this_layerCount i_this_hasDecoded i_this_codedCount i_this_codedWidth i_this_codedHeight i_this_replacedSize i_this_replacedPlainSize)), ((r_this 4), .inr (4, FX5 r_this_decoded i_this_decoded_columns i_this_decoded_rows)), ((r_this_decoded 2), gA G 384 t_this_decoded_pixels)]) (q0 := 1) X hK hA hH hl (ct_X5_at l G (r_this 4) r_this_decoded i_this_decoded_columns i_this_decoded_rows t_this_decoded_pixels p0 p1 H.size o9 ho9) ⟨q_2, q_418, hd_X5_at, rfl, rfl, ⟨Nat.le_of_ble_eq_true rfl, Nat.le_of_ble_eq_true rfl⟩, ⟨Nat.zero_le _, Nat.zero_le _⟩⟩ q_415 q_416 q_417 rfl rfl ⟨rfl, rfl, rfl, rfl, by decide, rfl, rfl⟩ rfl rfl (Nat.le_of_ble_eq_true rfl) dX8_decodedPixel_19 (fun H locs hH => ?_)
  obtain rfl := Option.some.inj hf
  exact hE o9 0 _ _ _ _ rfl rfl hH dX8_decodedPixel_22

def lf_X8_requireSlice (p0 : Int32) (p1 : Int32) : Option (Nat ⊕ (Unit)) :=
jn (fun (z2 : Unit) => some (Sum.inl 1)) (fun k2 => (if p0 < (0 : Int32) then k2 () else (lf_X8_slicesOf p1).bind fun o3 => (if p0 < o3 then some (Sum.inr ()) else k2 ())))
abbrev rm_X8_requireSlice (k : Nat) : Room := { frames := 6, cells := k, slots := 6 * k, locals := 98 }
theorem hd_X8_requireSlice : yX8_requireSlice.cls ≠ "java/lang/invoke/MethodHandle" ∧ yX8_requireSlice.cls ≠ "java/lang/invoke/VarHandle" ∧ (parseMethodDescriptor yX8_requireSlice.desc).map (fun d => d.parameters.length) = some 2 := by decide +kernel
set_option maxHeartbeats 4000000 in
set_option maxRecDepth 100000 in
theorem ct_X8_requireSlice (l : Launch) (G : gG) (p0 p1 : Int32) (sz : Nat) (out : Nat ⊕ (Unit)) (hf : lf_X8_requireSlice p0 p1 = some out) (hst : l.stackTraces = false) : gTv l G yX8_requireSlice cX8_requireSlice 2 (rm_X8_requireSlice (tc out)) [.int p0, .int p1] sz [] out (fun x u => []) := by
  refine gTv_of (by decide +kernel) (Nat.le_of_ble_eq_true rfl) ?_
  intro p e s m args below meth c ls A Q X hK hA hsz hH hl hS hZ hno hQ hE
  subst hsz
  have hx := X.1
  have hb := X.2.1
  unfold lf_X8_requireSlice at hf
  have hl : lv_has ls 2 [(0, .int p0), (1, .int p1)] := hl
  have hH : gH G A s.heap s.heap [] [] := hH
  refine lv_iload_n hx hb dX8_requireSlice_0 rfl (lv_at hl 0 rfl) ?_
  obtain ⟨k2, hk2, hf⟩ := sjn hf
  have J2 : ∀  (H : Heap) (locs : List Loc) (ls : Array Slot), k2 () = some out → gH G A s.heap H locs [] → lv_has ls 2 [] → W p l e (rm_X8_requireSlice (tc out)) s m args below meth c H locs 0 0 Q (F0 m 12 ls []) := by
    intro  H locs ls hf hH hl
    have hf := hk2 _ _ hf
    obtain rfl := Option.some.inj hf
    rw [hQ]
    exact g_throwW X hst hK hS hZ hH hl hno 1 atG1 q_314 (List.mem_of_getElem? (i := 11) rfl) dX8_requireSlice_12 dX8_requireSlice_15 dX8_requireSlice_16 dX8_requireSlice_19 dX8_requireSlice_22 ⟨Nat.le_of_ble_eq_true rfl, Nat.le_of_ble_eq_true rfl⟩ ⟨Nat.le_of_ble_eq_true rfl, Nat.le_of_ble_eq_true rfl⟩
  refine lv_if_lt (tgt := 12) hx hb dX8_requireSlice_1 (by decide) (fun c1 => ?_) (fun c1 => ?_)
  · have hf := spos hf c1
    exact J2  _ _ _ hf hH (lv_sub hl [] rfl)
  · have hf := sneg hf c1
    refine lv_iload_n hx hb dX8_requireSlice_4 rfl (lv_at hl 0 rfl) ?_
    refine lv_iload_n hx hb dX8_requireSlice_5 rfl (lv_at hl 1 rfl) ?_
    obtain ⟨o3, ho3, hf⟩ := sbind hf
    refine g_cSi (isC := []) (isR := []) (isP := []) (wr := []) (w2 := []) X hK hA hH hl (ct_X8_slicesOf l G p1 s.heap.size o3 ho3) ⟨q_1, q_509, hd_X8_slicesOf, rfl, rfl, ⟨Nat.le_of_ble_eq_true rfl, Nat.le_of_ble_eq_true rfl⟩, ⟨Nat.zero_le _, Nat.zero_le _⟩⟩ q_507 q_508 ⟨rfl, rfl, rfl, rfl, by decide, rfl, rfl⟩ rfl rfl (Nat.le_of_ble_eq_true rfl) dX8_requireSlice_6 (fun H locs hH => ?_)
    refine lv_icmp_lt (tgt := 23) hx hb dX8_requireSlice_9 (by decide) (fun c4 => ?_) (fun c4 => ?_)
    · have hf := spos hf c4
      obtain rfl := Option.some.inj hf
      exact hE () 0 _ _ _ _ rfl hH dX8_requireSlice_23
    · have hf := sneg hf c4
      exact J2  _ _ _ hf hH (lv_sub hl [] rfl)

def lf_X8_fault (i_this_decoded_rows : Int32) (i_this_hasDecoded : Int32) (t_this_faults : Nat → Int32) (p0 : Int32) : Option (Nat ⊕ (Int32)) :=
(lf_X8_requireDecoded i_this_hasDecoded).bind fun o1 => Sum.elim (fun kk => some (Sum.inl kk)) (fun r2 => (lf_X8_requireSlice p0 i_this_decoded_rows).bind fun o5 => Sum.elim (fun kk => some (Sum.inl kk)) (fun r6 => (rdA 3 t_this_faults p0).bind fun x9 => (if (x9.toUInt32 % 65536).toInt32 = x9 then some (Sum.inr x9) else none)) o5) o1
abbrev rm_X8_fault (k : Nat) : Room := { frames := 7, cells := k, slots := 6 * k, locals := 119 }
theorem hd_X8_fault : yX8_fault.cls ≠ "java/lang/invoke/MethodHandle" ∧ yX8_fault.cls ≠ "java/lang/invoke/VarHandle" ∧ (parseMethodDescriptor yX8_fault.desc).map (fun d => d.parameters.length) = some 1 := by decide +kernel
set_option maxHeartbeats 4000000 in
set_option maxRecDepth 100000 in
theorem ct_X8_fault (l : Launch) (G : gG) (h_this : Nat) (r_this r_this_decoded : Nat → Nat) (i_this_layerCount i_this_hasDecoded i_this_codedCount i_this_codedWidth i_this_codedHeight i_this_replacedSize i_this_replacedPlainSize i_this_decoded_columns i_this_decoded_rows : Int32) (t_this_faults : Nat → Int32) (p0 : Int32) (sz : Nat) (out : Nat ⊕ (Int32)) (hf : lf_X8_fault i_this_decoded_rows i_this_hasDecoded t_this_faults p0 = some out) (hst : l.stackTraces = false) : gTi l G yX8_fault cX8_fault 2 .char (rm_X8_fault (tc out)) [.ref h_this, .int p0] sz [(h_this, .inr (7, FX8 r_this i_this_layerCount i_this_hasDecoded i_this_codedCount i_this_codedWidth i_this_codedHeight i_this_replacedSize i_this_replacedPlainSize)), ((r_this 6), gC G 3 t_this_faults), ((r_this 4), .inr (4, FX5 r_this_decoded i_this_decoded_columns i_this_decoded_rows))] out (fun x => x) (fun x u => [(h_this, .inr (7, FX8 r_this i_this_layerCount i_this_hasDecoded i_this_codedCount i_this_codedWidth i_this_codedHeight i_this_replacedSize i_this_replacedPlainSize)), ((r_this 6), gC G 3 t_this_faults), ((r_this 4), .inr (4, FX5 r_this_decoded i_this_decoded_columns i_this_decoded_rows))]) := by
  refine gTi_of (by decide +kernel) (Nat.le_of_ble_eq_true rfl) ?_
  intro p e s m args below meth c ls A Q X hK hA hsz hH hl hS hZ hno hQ hE
  subst hsz
  have hx := X.1
  have hb := X.2.1
  unfold lf_X8_fault at hf
  have hl : lv_has ls 2 [(0, .ref h_this), (1, .int p0)] := hl
  have hH : gH G A s.heap s.heap [] [(h_this, .inr (7, FX8 r_this i_this_layerCount i_this_hasDecoded i_this_codedCount i_this_codedWidth i_this_codedHeight i_this_replacedSize i_this_replacedPlainSize)), ((r_this 6), gC G 3 t_this_faults), ((r_this 4), .inr (4, FX5 r_this_decoded i_this_decoded_columns i_this_decoded_rows))] := hH
  refine lv_aload_n hx hb dX8_fault_0 rfl (lv_at hl 0 rfl) ?_
  obtain ⟨o1, ho1, hf⟩ := sbind hf
  rcases o1 with k4 | r2
  · obtain rfl := Option.some.inj hf
    rw [hQ]
    exact g_tVx (isC := [0]) (isR := [1, 2]) (isP := [2, 0, 1]) (wr := [((r_this 6), gC G 3 t_this_faults), ((r_this 4), .inr (4, FX5 r_this_decoded i_this_decoded_columns i_this_decoded_rows))]) (q0 := 0) X hK hS hZ hno hA hH hl (ct_X8_requireDecoded l G h_this r_this i_this_layerCount i_this_hasDecoded i_this_codedCount i_this_codedWidth i_this_codedHeight i_this_replacedSize i_this_replacedPlainSize s.heap.size _ ho1 hst) ⟨q_1, q_671, hd_X8_requireDecoded, rfl, rfl, ⟨Nat.le_of_ble_eq_true rfl, Nat.le_of_ble_eq_true rfl⟩, ⟨Nat.le_of_ble_eq_true rfl, Nat.le_of_ble_eq_true rfl⟩⟩ q_668 q_670 qs_13 rfl rfl ⟨rfl, rfl, rfl, rfl, by decide, rfl, rfl⟩ rfl rfl (Nat.le_of_ble_eq_true rfl) dX8_fault_1
  have hf := selimr hf
  refine g_tVr (isC := [0]) (isR := [1, 2]) (isP := [2, 0, 1]) (wr := [((r_this 6), gC G 3 t_this_faults), ((r_this 4), .inr (4, FX5 r_this_decoded i_this_decoded_columns i_this_decoded_rows))]) (q0 := 0) (w2 := (fun u3 => [(h_this, .inr (7, FX8 r_this i_this_layerCount i_this_hasDecoded i_this_codedCount i_this_codedWidth i_this_codedHeight i_this_replacedSize i_this_replacedPlainSize)), ((r_this 6), gC G 3 t_this_faults), ((r_this 4), .inr (4, FX5 r_this_decoded i_this_decoded_columns i_this_decoded_rows))])) X hK hS hZ hA hH hl (ct_X8_requireDecoded l G h_this r_this i_this_layerCount i_this_hasDecoded i_this_codedCount i_this_codedWidth i_this_codedHeight i_this_replacedSize i_this_replacedPlainSize s.heap.size _ ho1 hst) ⟨q_1, q_671, hd_X8_requireDecoded, rfl, rfl, ⟨Nat.le_of_ble_eq_true rfl, Nat.le_of_ble_eq_true rfl⟩, ⟨Nat.zero_le _, Nat.zero_le _⟩⟩ q_668 q_670 qs_13 rfl rfl (fun _ => ⟨rfl, rfl, rfl, rfl, by decide, rfl, rfl⟩) rfl rfl (Nat.le_of_ble_eq_true rfl) dX8_fault_1 (fun u3 H locs hH => ?_)
  refine lv_iload_n hx hb dX8_fault_4 rfl (lv_at hl 1 rfl) ?_
  refine lv_aload_n hx hb dX8_fault_5 rfl (lv_at hl 0 rfl) ?_
  refine g_get (T := TX8) (N := 18) (ci := 7) (C := RX8) (v := .ref (r_this 4)) X hK hH in_RX8 0 rfl rfl 4 (by decide) q_216 (fun _ h9 => h9) rfl dX8_fault_6 ?_
  refine g_getN (T := TX5) (N := 3) (ci := 4) (C := RX5) (v := .int i_this_decoded_rows) X hK hH in_RX5 2 rfl rfl 1 (by decide) qn_50 (fun _ h9 => h9) rfl dX8_fault_9 ?_
  obtain ⟨o5, ho5, hf⟩ := sbind hf
  rcases o5 with k8 | r6
  · obtain rfl := Option.some.inj hf
    rw [hQ]
    exact g_tSx (isC := []) (isR := [0, 1, 2]) (isP := [0, 1, 2]) (wr := [(h_this, .inr (7, FX8 r_this i_this_layerCount i_this_hasDecoded i_this_codedCount i_this_codedWidth i_this_codedHeight i_this_replacedSize i_this_replacedPlainSize)), ((r_this 6), gC G 3 t_this_faults), ((r_this 4), .inr (4, FX5 r_this_decoded i_this_decoded_columns i_this_decoded_rows))]) X hK hS hZ hno hA hH hl (ct_X8_requireSlice l G p0 i_this_decoded_rows H.size _ ho5 hst) ⟨q_1, q_690, hd_X8_requireSlice, rfl, rfl, ⟨Nat.le_of_ble_eq_true rfl, Nat.le_of_ble_eq_true rfl⟩, ⟨Nat.le_of_ble_eq_true rfl, Nat.le_of_ble_eq_true rfl⟩⟩ q_688 q_689 ⟨rfl, rfl, rfl, rfl, by decide, rfl, rfl⟩ rfl rfl (Nat.le_of_ble_eq_true rfl) dX8_fault_12
  have hf := selimr hf
  refine g_tSr (isC := []) (isR := [0, 1, 2]) (isP := [0, 1, 2]) (wr := [(h_this, .inr (7, FX8 r_this i_this_layerCount i_this_hasDecoded i_this_codedCount i_this_codedWidth i_this_codedHeight i_this_replacedSize i_this_replacedPlainSize)), ((r_this 6), gC G 3 t_this_faults), ((r_this 4), .inr (4, FX5 r_this_decoded i_this_decoded_columns i_this_decoded_rows))]) (w2 := (fun u7 => [(h_this, .inr (7, FX8 r_this i_this_layerCount i_this_hasDecoded i_this_codedCount i_this_codedWidth i_this_codedHeight i_this_replacedSize i_this_replacedPlainSize)), ((r_this 6), gC G 3 t_this_faults), ((r_this 4), .inr (4, FX5 r_this_decoded i_this_decoded_columns i_this_decoded_rows))])) X hK hS hZ hA hH hl (ct_X8_requireSlice l G p0 i_this_decoded_rows H.size _ ho5 hst) ⟨q_1, q_690, hd_X8_requireSlice, rfl, rfl, ⟨Nat.le_of_ble_eq_true rfl, Nat.le_of_ble_eq_true rfl⟩, ⟨Nat.zero_le _, Nat.zero_le _⟩⟩ q_688 q_689 (fun _ => ⟨rfl, rfl, rfl, rfl, by decide, rfl, rfl⟩) rfl rfl (Nat.le_of_ble_eq_true rfl) dX8_fault_12 (fun u7 H locs hH => ?_)
  refine lv_aload_n hx hb dX8_fault_15 rfl (lv_at hl 0 rfl) ?_
  refine g_get (T := TX8) (N := 18) (ci := 7) (C := RX8) (v := .ref (r_this 6)) X hK hH in_RX8 0 rfl rfl 6 (by decide) q_218 (fun _ h9 => h9) rfl dX8_fault_16 ?_
  refine lv_iload_n hx hb dX8_fault_19 rfl (lv_at hl 1 rfl) ?_
  obtain ⟨x9, hx9, hf⟩ := sbind hf
  refine g_cald X hK hH 1 rfl hx9 dX8_fault_20 ?_
  obtain ⟨gd, hf⟩ := sgrd hf
  obtain rfl := Option.some.inj hf
  exact hE x9 0 _ _ _ _ rfl (by rw [← gd]; exact pk_nc _) hH dX8_fault_21

def lf_X8_layersUsed (i_this_decoded_rows : Int32) (i_this_hasDecoded : Int32) (t_this_usedLayers : Nat → Int32) (p0 : Int32) : Option (Nat ⊕ (Int32)) :=
(lf_X8_requireDecoded i_this_hasDecoded).bind fun o1 => Sum.elim (fun kk => some (Sum.inl kk)) (fun r2 => (lf_X8_requireSlice p0 i_this_decoded_rows).bind fun o5 => Sum.elim (fun kk => some (Sum.inl kk)) (fun r6 => (rdA 3 t_this_usedLayers p0).bind fun x9 => some (Sum.inr x9)) o5) o1
abbrev rm_X8_layersUsed (k : Nat) : Room := { frames := 7, cells := k, slots := 6 * k, locals := 119 }
theorem hd_X8_layersUsed : yX8_layersUsed.cls ≠ "java/lang/invoke/MethodHandle" ∧ yX8_layersUsed.cls ≠ "java/lang/invoke/VarHandle" ∧ (parseMethodDescriptor yX8_layersUsed.desc).map (fun d => d.parameters.length) = some 1 := by decide +kernel
set_option maxHeartbeats 4000000 in
set_option maxRecDepth 100000 in
theorem ct_X8_layersUsed (l : Launch) (G : gG) (h_this : Nat) (r_this r_this_decoded : Nat → Nat) (i_this_layerCount i_this_hasDecoded i_this_codedCount i_this_codedWidth i_this_codedHeight i_this_replacedSize i_this_replacedPlainSize i_this_decoded_columns i_this_decoded_rows : Int32) (t_this_usedLayers : Nat → Int32) (p0 : Int32) (sz : Nat) (out : Nat ⊕ (Int32)) (hf : lf_X8_layersUsed i_this_decoded_rows i_this_hasDecoded t_this_usedLayers p0 = some out) (hst : l.stackTraces = false) : gTi l G yX8_layersUsed cX8_layersUsed 2 .int (rm_X8_layersUsed (tc out)) [.ref h_this, .int p0] sz [(h_this, .inr (7, FX8 r_this i_this_layerCount i_this_hasDecoded i_this_codedCount i_this_codedWidth i_this_codedHeight i_this_replacedSize i_this_replacedPlainSize)), ((r_this 7), gA G 3 t_this_usedLayers), ((r_this 4), .inr (4, FX5 r_this_decoded i_this_decoded_columns i_this_decoded_rows))] out (fun x => x) (fun x u => [(h_this, .inr (7, FX8 r_this i_this_layerCount i_this_hasDecoded i_this_codedCount i_this_codedWidth i_this_codedHeight i_this_replacedSize i_this_replacedPlainSize)), ((r_this 7), gA G 3 t_this_usedLayers), ((r_this 4), .inr (4, FX5 r_this_decoded i_this_decoded_columns i_this_decoded_rows))]) := by
  refine gTi_of (by decide +kernel) (Nat.le_of_ble_eq_true rfl) ?_
  intro p e s m args below meth c ls A Q X hK hA hsz hH hl hS hZ hno hQ hE
  subst hsz
  have hx := X.1
  have hb := X.2.1
  unfold lf_X8_layersUsed at hf
  have hl : lv_has ls 2 [(0, .ref h_this), (1, .int p0)] := hl
  have hH : gH G A s.heap s.heap [] [(h_this, .inr (7, FX8 r_this i_this_layerCount i_this_hasDecoded i_this_codedCount i_this_codedWidth i_this_codedHeight i_this_replacedSize i_this_replacedPlainSize)), ((r_this 7), gA G 3 t_this_usedLayers), ((r_this 4), .inr (4, FX5 r_this_decoded i_this_decoded_columns i_this_decoded_rows))] := hH
  refine lv_aload_n hx hb dX8_layersUsed_0 rfl (lv_at hl 0 rfl) ?_
  obtain ⟨o1, ho1, hf⟩ := sbind hf
  rcases o1 with k4 | r2
  · obtain rfl := Option.some.inj hf
    rw [hQ]
    exact g_tVx (isC := [0]) (isR := [1, 2]) (isP := [2, 0, 1]) (wr := [((r_this 7), gA G 3 t_this_usedLayers), ((r_this 4), .inr (4, FX5 r_this_decoded i_this_decoded_columns i_this_decoded_rows))]) (q0 := 0) X hK hS hZ hno hA hH hl (ct_X8_requireDecoded l G h_this r_this i_this_layerCount i_this_hasDecoded i_this_codedCount i_this_codedWidth i_this_codedHeight i_this_replacedSize i_this_replacedPlainSize s.heap.size _ ho1 hst) ⟨q_1, q_671, hd_X8_requireDecoded, rfl, rfl, ⟨Nat.le_of_ble_eq_true rfl, Nat.le_of_ble_eq_true rfl⟩, ⟨Nat.le_of_ble_eq_true rfl, Nat.le_of_ble_eq_true rfl⟩⟩ q_668 q_670 qs_13 rfl rfl ⟨rfl, rfl, rfl, rfl, by decide, rfl, rfl⟩ rfl rfl (Nat.le_of_ble_eq_true rfl) dX8_layersUsed_1
  have hf := selimr hf
  refine g_tVr (isC := [0]) (isR := [1, 2]) (isP := [2, 0, 1]) (wr := [((r_this 7), gA G 3 t_this_usedLayers), ((r_this 4), .inr (4, FX5 r_this_decoded i_this_decoded_columns i_this_decoded_rows))]) (q0 := 0) (w2 := (fun u3 => [(h_this, .inr (7, FX8 r_this i_this_layerCount i_this_hasDecoded i_this_codedCount i_this_codedWidth i_this_codedHeight i_this_replacedSize i_this_replacedPlainSize)), ((r_this 7), gA G 3 t_this_usedLayers), ((r_this 4), .inr (4, FX5 r_this_decoded i_this_decoded_columns i_this_decoded_rows))])) X hK hS hZ hA hH hl (ct_X8_requireDecoded l G h_this r_this i_this_layerCount i_this_hasDecoded i_this_codedCount i_this_codedWidth i_this_codedHeight i_this_replacedSize i_this_replacedPlainSize s.heap.size _ ho1 hst) ⟨q_1, q_671, hd_X8_requireDecoded, rfl, rfl, ⟨Nat.le_of_ble_eq_true rfl, Nat.le_of_ble_eq_true rfl⟩, ⟨Nat.zero_le _, Nat.zero_le _⟩⟩ q_668 q_670 qs_13 rfl rfl (fun _ => ⟨rfl, rfl, rfl, rfl, by decide, rfl, rfl⟩) rfl rfl (Nat.le_of_ble_eq_true rfl) dX8_layersUsed_1 (fun u3 H locs hH => ?_)
  refine lv_iload_n hx hb dX8_layersUsed_4 rfl (lv_at hl 1 rfl) ?_
  refine lv_aload_n hx hb dX8_layersUsed_5 rfl (lv_at hl 0 rfl) ?_
  refine g_get (T := TX8) (N := 18) (ci := 7) (C := RX8) (v := .ref (r_this 4)) X hK hH in_RX8 0 rfl rfl 4 (by decide) q_216 (fun _ h9 => h9) rfl dX8_layersUsed_6 ?_
  refine g_getN (T := TX5) (N := 3) (ci := 4) (C := RX5) (v := .int i_this_decoded_rows) X hK hH in_RX5 2 rfl rfl 1 (by decide) qn_50 (fun _ h9 => h9) rfl dX8_layersUsed_9 ?_
  obtain ⟨o5, ho5, hf⟩ := sbind hf
  rcases o5 with k8 | r6
  · obtain rfl := Option.some.inj hf
    rw [hQ]
    exact g_tSx (isC := []) (isR := [0, 1, 2]) (isP := [0, 1, 2]) (wr := [(h_this, .inr (7, FX8 r_this i_this_layerCount i_this_hasDecoded i_this_codedCount i_this_codedWidth i_this_codedHeight i_this_replacedSize i_this_replacedPlainSize)), ((r_this 7), gA G 3 t_this_usedLayers), ((r_this 4), .inr (4, FX5 r_this_decoded i_this_decoded_columns i_this_decoded_rows))]) X hK hS hZ hno hA hH hl (ct_X8_requireSlice l G p0 i_this_decoded_rows H.size _ ho5 hst) ⟨q_1, q_690, hd_X8_requireSlice, rfl, rfl, ⟨Nat.le_of_ble_eq_true rfl, Nat.le_of_ble_eq_true rfl⟩, ⟨Nat.le_of_ble_eq_true rfl, Nat.le_of_ble_eq_true rfl⟩⟩ q_688 q_689 ⟨rfl, rfl, rfl, rfl, by decide, rfl, rfl⟩ rfl rfl (Nat.le_of_ble_eq_true rfl) dX8_layersUsed_12
  have hf := selimr hf
  refine g_tSr (isC := []) (isR := [0, 1, 2]) (isP := [0, 1, 2]) (wr := [(h_this, .inr (7, FX8 r_this i_this_layerCount i_this_hasDecoded i_this_codedCount i_this_codedWidth i_this_codedHeight i_this_replacedSize i_this_replacedPlainSize)), ((r_this 7), gA G 3 t_this_usedLayers), ((r_this 4), .inr (4, FX5 r_this_decoded i_this_decoded_columns i_this_decoded_rows))]) (w2 := (fun u7 => [(h_this, .inr (7, FX8 r_this i_this_layerCount i_this_hasDecoded i_this_codedCount i_this_codedWidth i_this_codedHeight i_this_replacedSize i_this_replacedPlainSize)), ((r_this 7), gA G 3 t_this_usedLayers), ((r_this 4), .inr (4, FX5 r_this_decoded i_this_decoded_columns i_this_decoded_rows))])) X hK hS hZ hA hH hl (ct_X8_requireSlice l G p0 i_this_decoded_rows H.size _ ho5 hst) ⟨q_1, q_690, hd_X8_requireSlice, rfl, rfl, ⟨Nat.le_of_ble_eq_true rfl, Nat.le_of_ble_eq_true rfl⟩, ⟨Nat.zero_le _, Nat.zero_le _⟩⟩ q_688 q_689 (fun _ => ⟨rfl, rfl, rfl, rfl, by decide, rfl, rfl⟩) rfl rfl (Nat.le_of_ble_eq_true rfl) dX8_layersUsed_12 (fun u7 H locs hH => ?_)
  refine lv_aload_n hx hb dX8_layersUsed_15 rfl (lv_at hl 0 rfl) ?_
  refine g_get (T := TX8) (N := 18) (ci := 7) (C := RX8) (v := .ref (r_this 7)) X hK hH in_RX8 0 rfl rfl 7 (by decide) q_219 (fun _ h9 => h9) rfl dX8_layersUsed_16 ?_
  refine lv_iload_n hx hb dX8_layersUsed_19 rfl (lv_at hl 1 rfl) ?_
  obtain ⟨x9, hx9, hf⟩ := sbind hf
  refine g_ald X hK hH 1 rfl hx9 dX8_layersUsed_20 ?_
  obtain rfl := Option.some.inj hf
  exact hE x9 0 _ _ _ _ rfl rfl hH dX8_layersUsed_21

def lf_X8_isSame (i_this_decoded_columns : Int32) (i_this_decoded_rows : Int32) (i_this_hasDecoded : Int32) (i_this_picture_columns : Int32) (i_this_picture_rows : Int32) (t_this_decoded_pixels : Nat → Int32) (t_this_picture_pixels : Nat → Int32) : Option (Nat ⊕ (Int32)) :=
(lf_X8_requireDecoded i_this_hasDecoded).bind fun o1 => Sum.elim (fun kk => some (Sum.inl kk)) (fun r2 => (lf_X5_isAsLargeAs i_this_picture_columns i_this_picture_rows i_this_decoded_columns i_this_decoded_rows).bind fun o5 => jn (fun (z7 : Unit) => some (Sum.inr (0 : Int32))) (fun k7 => (if o5 = (0 : Int32) then k7 () else (lf_X8_largestDifference i_this_decoded_columns i_this_decoded_rows i_this_picture_columns i_this_picture_rows t_this_decoded_pixels t_this_picture_pixels).bind fun o8 => (if o8 = (0 : Int32) then some (Sum.inr (1 : Int32)) else k7 ())))) o1
abbrev rm_X8_isSame (k : Nat) : Room := { frames := 7, cells := k, slots := 6 * k, locals := 118 }
theorem hd_X8_isSame : yX8_isSame.cls ≠ "java/lang/invoke/MethodHandle" ∧ yX8_isSame.cls ≠ "java/lang/invoke/VarHandle" ∧ (parseMethodDescriptor yX8_isSame.desc).map (fun d => d.parameters.length) = some 0 := by decide +kernel
set_option maxHeartbeats 4000000 in
set_option maxRecDepth 100000 in
theorem ct_X8_isSame (l : Launch) (G : gG) (h_this : Nat) (r_this r_this_decoded r_this_picture : Nat → Nat) (i_this_layerCount i_this_hasDecoded i_this_codedCount i_this_codedWidth i_this_codedHeight i_this_replacedSize i_this_replacedPlainSize i_this_decoded_columns i_this_decoded_rows i_this_picture_columns i_this_picture_rows : Int32) (t_this_decoded_pixels t_this_picture_pixels : Nat → Int32) (sz : Nat) (out : Nat ⊕ (Int32)) (hf : lf_X8_isSame i_this_decoded_columns i_this_decoded_rows i_this_hasDecoded i_this_picture_columns i_this_picture_rows t_this_decoded_pixels t_this_picture_pixels = some out) (hst : l.stackTraces = false) : gTi l G yX8_isSame cX8_isSame 1 .boolean (rm_X8_isSame (tc out)) [.ref h_this] sz [(h_this, .inr (7, FX8 r_this i_this_layerCount i_this_hasDecoded i_this_codedCount i_this_codedWidth i_this_codedHeight i_this_replacedSize i_this_replacedPlainSize)), ((r_this 4), .inr (4, FX5 r_this_decoded i_this_decoded_columns i_this_decoded_rows)), ((r_this_decoded 2), gA G 384 t_this_decoded_pixels), ((r_this 0), .inr (4, FX5 r_this_picture i_this_picture_columns i_this_picture_rows)), ((r_this_picture 2), gA G 384 t_this_picture_pixels)] out (fun x => x) (fun x u => [(h_this, .inr (7, FX8 r_this i_this_layerCount i_this_hasDecoded i_this_codedCount i_this_codedWidth i_this_codedHeight i_this_replacedSize i_this_replacedPlainSize)), ((r_this 4), .inr (4, FX5 r_this_decoded i_this_decoded_columns i_this_decoded_rows)), ((r_this_decoded 2), gA G 384 t_this_decoded_pixels), ((r_this 0), .inr (4, FX5 r_this_picture i_this_picture_columns i_this_picture_rows)), ((r_this_picture 2), gA G 384 t_this_picture_pixels)]) := by
  refine gTi_of (by decide +kernel) (Nat.le_of_ble_eq_true rfl) ?_
  intro p e s m args below meth c ls A Q X hK hA hsz hH hl hS hZ hno hQ hE
  subst hsz
  have hx := X.1
  have hb := X.2.1
  unfold lf_X8_isSame at hf
  have hl : lv_has ls 1 [(0, .ref h_this)] := hl
  have hH : gH G A s.heap s.heap [] [(h_this, .inr (7, FX8 r_this i_this_layerCount i_this_hasDecoded i_this_codedCount i_this_codedWidth i_this_codedHeight i_this_replacedSize i_this_replacedPlainSize)), ((r_this 4), .inr (4, FX5 r_this_decoded i_this_decoded_columns i_this_decoded_rows)), ((r_this_decoded 2), gA G 384 t_this_decoded_pixels), ((r_this 0), .inr (4, FX5 r_this_picture i_this_picture_columns i_this_picture_rows)), ((r_this_picture 2), gA G 384 t_this_picture_pixels)] := hH
  refine lv_aload_n hx hb dX8_isSame_0 rfl (lv_at hl 0 rfl) ?_
  obtain ⟨o1, ho1, hf⟩ := sbind hf
  rcases o1 with k4 | r2
  · obtain rfl := Option.some.inj hf
    rw [hQ]
    exact g_tVx (isC := [0]) (isR := [1, 2, 3, 4]) (isP := [4, 0, 1, 2, 3]) (wr := [((r_this 4), .inr (4, FX5 r_this_decoded i_this_decoded_columns i_this_decoded_rows)), ((r_this_decoded 2), gA G 384 t_this_decoded_pixels), ((r_this 0), .inr (4, FX5 r_this_picture i_this_picture_columns i_this_picture_rows)), ((r_this_picture 2), gA G 384 t_this_picture_pixels)]) (q0 := 0) X hK hS hZ hno hA hH hl (ct_X8_requireDecoded l G h_this r_this i_this_layerCount i_this_hasDecoded i_this_codedCount i_this_codedWidth i_this_codedHeight i_this_replacedSize i_this_replacedPlainSize s.heap.size _ ho1 hst) ⟨q_1, q_671, hd_X8_requireDecoded, rfl, rfl, ⟨Nat.le_of_ble_eq_true rfl, Nat.le_of_ble_eq_true rfl⟩, ⟨Nat.le_of_ble_eq_true rfl, Nat.le_of_ble_eq_true rfl⟩⟩ q_668 q_670 qs_13 rfl rfl ⟨rfl, rfl, rfl, rfl, by decide, rfl, rfl⟩ rfl rfl (Nat.le_of_ble_eq_true rfl) dX8_isSame_1
  have hf := selimr hf
  refine g_tVr (isC := [0]) (isR := [1, 2, 3, 4]) (isP := [4, 0, 1, 2, 3]) (wr := [((r_this 4), .inr (4, FX5 r_this_decoded i_this_decoded_columns i_this_decoded_rows)), ((r_this_decoded 2), gA G 384 t_this_decoded_pixels), ((r_this 0), .inr (4, FX5 r_this_picture i_this_picture_columns i_this_picture_rows)), ((r_this_picture 2), gA G 384 t_this_picture_pixels)]) (q0 := 0) (w2 := (fun u3 => [(h_this, .inr (7, FX8 r_this i_this_layerCount i_this_hasDecoded i_this_codedCount i_this_codedWidth i_this_codedHeight i_this_replacedSize i_this_replacedPlainSize)), ((r_this 4), .inr (4, FX5 r_this_decoded i_this_decoded_columns i_this_decoded_rows)), ((r_this_decoded 2), gA G 384 t_this_decoded_pixels), ((r_this 0), .inr (4, FX5 r_this_picture i_this_picture_columns i_this_picture_rows)), ((r_this_picture 2), gA G 384 t_this_picture_pixels)])) X hK hS hZ hA hH hl (ct_X8_requireDecoded l G h_this r_this i_this_layerCount i_this_hasDecoded i_this_codedCount i_this_codedWidth i_this_codedHeight i_this_replacedSize i_this_replacedPlainSize s.heap.size _ ho1 hst) ⟨q_1, q_671, hd_X8_requireDecoded, rfl, rfl, ⟨Nat.le_of_ble_eq_true rfl, Nat.le_of_ble_eq_true rfl⟩, ⟨Nat.zero_le _, Nat.zero_le _⟩⟩ q_668 q_670 qs_13 rfl rfl (fun _ => ⟨rfl, rfl, rfl, rfl, by decide, rfl, rfl⟩) rfl rfl (Nat.le_of_ble_eq_true rfl) dX8_isSame_1 (fun u3 H locs hH => ?_)
  refine lv_aload_n hx hb dX8_isSame_4 rfl (lv_at hl 0 rfl) ?_
  refine g_get (T := TX8) (N := 18) (ci := 7) (C := RX8) (v := .ref (r_this 0)) X hK hH in_RX8 0 rfl rfl 0 (by decide) q_212 (fun _ h9 => h9) rfl dX8_isSame_5 ?_
  refine lv_aload_n hx hb dX8_isSame_8 rfl (lv_at hl 0 rfl) ?_
  refine g_get (T := TX8) (N := 18) (ci := 7) (C := RX8) (v := .ref (r_this 4)) X hK hH in_RX8 0 rfl rfl 4 (by decide) q_216 (fun _ h9 => h9) rfl dX8_isSame_9 ?_
  obtain ⟨o5, ho5, hf⟩ := sbind hf
  refine g_cVi (isC := [3, 1]) (isR := [0, 2, 4]) (isP := [0, 4, 1, 3, 2]) (wr := [(h_this, .inr (7, FX8 r_this i_this_layerCount i_this_hasDecoded i_this_codedCount i_this_codedWidth i_this_codedHeight i_this_replacedSize i_this_replacedPlainSize)), ((r_this_decoded 2), gA G 384 t_this_decoded_pixels), ((r_this_picture 2), gA G 384 t_this_picture_pixels)]) (w2 := [(h_this, .inr (7, FX8 r_this i_this_layerCount i_this_hasDecoded i_this_codedCount i_this_codedWidth i_this_codedHeight i_this_replacedSize i_this_replacedPlainSize)), ((r_this 4), .inr (4, FX5 r_this_decoded i_this_decoded_columns i_this_decoded_rows)), ((r_this_decoded 2), gA G 384 t_this_decoded_pixels), ((r_this 0), .inr (4, FX5 r_this_picture i_this_picture_columns i_this_picture_rows)), ((r_this_picture 2), gA G 384 t_this_picture_pixels)]) (q0 := 3) X hK hA hH hl (ct_X5_isAsLargeAs l G (r_this 0) (r_this 4) r_this_picture r_this_decoded i_this_picture_columns i_this_picture_rows i_this_decoded_columns i_this_decoded_rows H.size o5 ho5) ⟨q_2, q_702, hd_X5_isAsLargeAs, rfl, rfl, ⟨Nat.le_of_ble_eq_true rfl, Nat.le_of_ble_eq_true rfl⟩, ⟨Nat.zero_le _, Nat.zero_le _⟩⟩ q_699 q_700 q_701 rfl rfl ⟨rfl, rfl, rfl, rfl, by decide, rfl, rfl⟩ rfl rfl (Nat.le_of_ble_eq_true rfl) dX8_isSame_12 (fun H locs hH => ?_)
  obtain ⟨k7, hk7, hf⟩ := sjn hf
  have J7 : ∀  (H : Heap) (locs : List Loc) (ls : Array Slot), k7 () = some out → gH G A s.heap H locs [(h_this, .inr (7, FX8 r_this i_this_layerCount i_this_hasDecoded i_this_codedCount i_this_codedWidth i_this_codedHeight i_this_replacedSize i_this_replacedPlainSize)), ((r_this 4), .inr (4, FX5 r_this_decoded i_this_decoded_columns i_this_decoded_rows)), ((r_this_decoded 2), gA G 384 t_this_decoded_pixels), ((r_this 0), .inr (4, FX5 r_this_picture i_this_picture_columns i_this_picture_rows)), ((r_this_picture 2), gA G 384 t_this_picture_pixels)] → lv_has ls 1 [] → W p l e (rm_X8_isSame (tc out)) s m args below meth c H locs 0 0 Q (F0 m 29 ls []) := by
    intro  H locs ls hf hH hl
    have hf := hk7 _ _ hf
    refine lv_iconst (v := (0 : Int32)) hx hb dX8_isSame_29 (by decide) ?_
    obtain rfl := Option.some.inj hf
    exact hE (0 : Int32) 0 _ _ _ _ rfl (show narrow .boolean (.int (0 : Int32)) = .int (0 : Int32) from rfl) hH dX8_isSame_30
  refine lv_if_eq (tgt := 29) hx hb dX8_isSame_15 (by decide) (fun c6 => ?_) (fun c6 => ?_)
  · have hf := spos hf c6
    exact J7  _ _ _ hf hH (lv_sub hl [] rfl)
  · have hf := sneg hf c6
    refine lv_aload_n hx hb dX8_isSame_18 rfl (lv_at hl 0 rfl) ?_
    obtain ⟨o8, ho8, hf⟩ := sbind hf
    refine g_cVi (isC := [0, 1, 2, 3, 4]) (isR := []) (isP := [0, 1, 2, 3, 4]) (wr := []) (w2 := [(h_this, .inr (7, FX8 r_this i_this_layerCount i_this_hasDecoded i_this_codedCount i_this_codedWidth i_this_codedHeight i_this_replacedSize i_this_replacedPlainSize)), ((r_this 4), .inr (4, FX5 r_this_decoded i_this_decoded_columns i_this_decoded_rows)), ((r_this_decoded 2), gA G 384 t_this_decoded_pixels), ((r_this 0), .inr (4, FX5 r_this_picture i_this_picture_columns i_this_picture_rows)), ((r_this_picture 2), gA G 384 t_this_picture_pixels)]) (q0 := 0) X hK hA hH hl (ct_X8_largestDifference l G h_this r_this r_this_decoded r_this_picture i_this_layerCount i_this_hasDecoded i_this_codedCount i_this_codedWidth i_this_codedHeight i_this_replacedSize i_this_replacedPlainSize i_this_decoded_columns i_this_decoded_rows i_this_picture_columns i_this_picture_rows t_this_decoded_pixels t_this_picture_pixels H.size o8 ho8) ⟨q_1, q_706, hd_X8_largestDifference, rfl, rfl, ⟨Nat.le_of_ble_eq_true rfl, Nat.le_of_ble_eq_true rfl⟩, ⟨Nat.zero_le _, Nat.zero_le _⟩⟩ q_703 q_705 qs_14 rfl rfl ⟨rfl, rfl, rfl, rfl, by decide, rfl, rfl⟩ rfl rfl (Nat.le_of_ble_eq_true rfl) dX8_isSame_19 (fun H locs hH => ?_)
    refine lv_if_ne (tgt := 29) hx hb dX8_isSame_22 (by decide) (fun c9 => ?_) (fun c9 => ?_)
    · have hf := sneg hf c9
      exact J7  _ _ _ hf hH (lv_sub hl [] rfl)
    · have hf := spos hf c9
      refine lv_iconst (v := (1 : Int32)) hx hb dX8_isSame_25 (by decide) ?_
      refine lv_goto (tgt := 30) hx hb dX8_isSame_26 (by decide) ?_
      obtain rfl := Option.some.inj hf
      exact hE (1 : Int32) 0 _ _ _ _ rfl (show narrow .boolean (.int (1 : Int32)) = .int (1 : Int32) from rfl) hH dX8_isSame_30

def lf_X8_requireSameSize (i_this_decoded_columns : Int32) (i_this_decoded_rows : Int32) (i_this_picture_columns : Int32) (i_this_picture_rows : Int32) : Option (Nat ⊕ (Unit)) :=
(lf_X5_isAsLargeAs i_this_picture_columns i_this_picture_rows i_this_decoded_columns i_this_decoded_rows).bind fun o1 => (if o1 = (0 : Int32) then some (Sum.inl 2) else some (Sum.inr ()))
abbrev rm_X8_requireSameSize (k : Nat) : Room := { frames := 6, cells := k, slots := 6 * k, locals := 98 }
theorem hd_X8_requireSameSize : yX8_requireSameSize.cls ≠ "java/lang/invoke/MethodHandle" ∧ yX8_requireSameSize.cls ≠ "java/lang/invoke/VarHandle" ∧ (parseMethodDescriptor yX8_requireSameSize.desc).map (fun d => d.parameters.length) = some 0 := by decide +kernel
set_option maxHeartbeats 4000000 in
set_option maxRecDepth 100000 in
theorem ct_X8_requireSameSize (l : Launch) (G : gG) (h_this : Nat) (r_this r_this_decoded r_this_picture : Nat → Nat) (i_this_layerCount i_this_hasDecoded i_this_codedCount i_this_codedWidth i_this_codedHeight i_this_replacedSize i_this_replacedPlainSize i_this_decoded_columns i_this_decoded_rows i_this_picture_columns i_this_picture_rows : Int32) (sz : Nat) (out : Nat ⊕ (Unit)) (hf : lf_X8_requireSameSize i_this_decoded_columns i_this_decoded_rows i_this_picture_columns i_this_picture_rows = some out) (hst : l.stackTraces = false) : gTv l G yX8_requireSameSize cX8_requireSameSize 1 (rm_X8_requireSameSize (tc out)) [.ref h_this] sz [(h_this, .inr (7, FX8 r_this i_this_layerCount i_this_hasDecoded i_this_codedCount i_this_codedWidth i_this_codedHeight i_this_replacedSize i_this_replacedPlainSize)), ((r_this 4), .inr (4, FX5 r_this_decoded i_this_decoded_columns i_this_decoded_rows)), ((r_this 0), .inr (4, FX5 r_this_picture i_this_picture_columns i_this_picture_rows))] out (fun x u => [(h_this, .inr (7, FX8 r_this i_this_layerCount i_this_hasDecoded i_this_codedCount i_this_codedWidth i_this_codedHeight i_this_replacedSize i_this_replacedPlainSize)), ((r_this 4), .inr (4, FX5 r_this_decoded i_this_decoded_columns i_this_decoded_rows)), ((r_this 0), .inr (4, FX5 r_this_picture i_this_picture_columns i_this_picture_rows))]) := by
  refine gTv_of (by decide +kernel) (Nat.le_of_ble_eq_true rfl) ?_
  intro p e s m args below meth c ls A Q X hK hA hsz hH hl hS hZ hno hQ hE
  subst hsz
  have hx := X.1
  have hb := X.2.1
  unfold lf_X8_requireSameSize at hf
  have hl : lv_has ls 1 [(0, .ref h_this)] := hl
  have hH : gH G A s.heap s.heap [] [(h_this, .inr (7, FX8 r_this i_this_layerCount i_this_hasDecoded i_this_codedCount i_this_codedWidth i_this_codedHeight i_this_replacedSize i_this_replacedPlainSize)), ((r_this 4), .inr (4, FX5 r_this_decoded i_this_decoded_columns i_this_decoded_rows)), ((r_this 0), .inr (4, FX5 r_this_picture i_this_picture_columns i_this_picture_rows))] := hH
  refine lv_aload_n hx hb dX8_requireSameSize_0 rfl (lv_at hl 0 rfl) ?_
  refine g_get (T := TX8) (N := 18) (ci := 7) (C := RX8) (v := .ref (r_this 0)) X hK hH in_RX8 0 rfl rfl 0 (by decide) q_212 (fun _ h9 => h9) rfl dX8_requireSameSize_1 ?_
  refine lv_aload_n hx hb dX8_requireSameSize_4 rfl (lv_at hl 0 rfl) ?_
  refine g_get (T := TX8) (N := 18) (ci := 7) (C := RX8) (v := .ref (r_this 4)) X hK hH in_RX8 0 rfl rfl 4 (by decide) q_216 (fun _ h9 => h9) rfl dX8_requireSameSize_5 ?_
  obtain ⟨o1, ho1, hf⟩ := sbind hf
  refine g_cVi (isC := [2, 1]) (isR := [0]) (isP := [0, 2, 1]) (wr := [(h_this, .inr (7, FX8 r_this i_this_layerCount i_this_hasDecoded i_this_codedCount i_this_codedWidth i_this_codedHeight i_this_replacedSize i_this_replacedPlainSize))]) (w2 := [(h_this, .inr (7, FX8 r_this i_this_layerCount i_this_hasDecoded i_this_codedCount i_this_codedWidth i_this_codedHeight i_this_replacedSize i_this_replacedPlainSize)), ((r_this 4), .inr (4, FX5 r_this_decoded i_this_decoded_columns i_this_decoded_rows)), ((r_this 0), .inr (4, FX5 r_this_picture i_this_picture_columns i_this_picture_rows))]) (q0 := 2) X hK hA hH hl (ct_X5_isAsLargeAs l G (r_this 0) (r_this 4) r_this_picture r_this_decoded i_this_picture_columns i_this_picture_rows i_this_decoded_columns i_this_decoded_rows s.heap.size o1 ho1) ⟨q_2, q_702, hd_X5_isAsLargeAs, rfl, rfl, ⟨Nat.le_of_ble_eq_true rfl, Nat.le_of_ble_eq_true rfl⟩, ⟨Nat.zero_le _, Nat.zero_le _⟩⟩ q_699 q_700 q_701 rfl rfl ⟨rfl, rfl, rfl, rfl, by decide, rfl, rfl⟩ rfl rfl (Nat.le_of_ble_eq_true rfl) dX8_requireSameSize_8 (fun H locs hH => ?_)
  refine lv_if_ne (tgt := 25) hx hb dX8_requireSameSize_11 (by decide) (fun c2 => ?_) (fun c2 => ?_)
  · have hf := sneg hf c2
    obtain rfl := Option.some.inj hf
    exact hE () 0 _ _ _ _ rfl hH dX8_requireSameSize_25
  · have hf := spos hf c2
    obtain rfl := Option.some.inj hf
    rw [hQ]
    exact g_throwW X hst hK hS hZ hH hl hno 2 atG2 q_476 (List.mem_of_getElem? (i := 12) rfl) dX8_requireSameSize_14 dX8_requireSameSize_17 dX8_requireSameSize_18 dX8_requireSameSize_21 dX8_requireSameSize_24 ⟨Nat.le_of_ble_eq_true rfl, Nat.le_of_ble_eq_true rfl⟩ ⟨Nat.le_of_ble_eq_true rfl, Nat.le_of_ble_eq_true rfl⟩

def lf_X8_squaredError (i_this_decoded_columns : Int32) (i_this_decoded_rows : Int32) (i_this_hasDecoded : Int32) (i_this_picture_columns : Int32) (i_this_picture_rows : Int32) (t_this_decoded_pixels : Nat → Int32) (t_this_picture_pixels : Nat → Int32) : Option (Nat ⊕ (Int32)) :=
(lf_X8_requireDecoded i_this_hasDecoded).bind fun o1 => Sum.elim (fun kk => some (Sum.inl kk)) (fun r2 => (lf_X8_requireSameSize i_this_decoded_columns i_this_decoded_rows i_this_picture_columns i_this_picture_rows).bind fun o5 => Sum.elim (fun kk => some (Sum.inl kk)) (fun r6 => (fixN FUEL (fun (self11 : (Int32 × Int32) → Option (Int32)) (z11 : Int32 × Int32) => (fun (x9 : Int32) (x10 : Int32) => (if i_this_picture_rows ≤ x10 then some x9 else (fixN FUEL (fun (self15 : (Int32 × Int32) → Option (Int32)) (z15 : Int32 × Int32) => (fun (x13 : Int32) (x14 : Int32) => (if i_this_picture_columns ≤ x14 then some x13 else (lf_X5_at i_this_picture_columns i_this_picture_rows t_this_picture_pixels x14 x10).bind fun o17 => (lf_X5_at i_this_decoded_columns i_this_decoded_rows t_this_decoded_pixels x14 x10).bind fun o18 => bnd (o17 - o18) fun x19 => bnd (x13 + (x19 * x19)) fun x20 => bnd (x14 + (1 : Int32)) fun x21 => self15 (x20, x21))) z15.1 z15.2) (x9, (0 : Int32))).bind fun o15 => bnd (x10 + (1 : Int32)) fun x22 => self11 (o15, x22))) z11.1 z11.2) ((0 : Int32), (0 : Int32))).bind fun o11 => some (Sum.inr o11)) o5) o1
abbrev rm_X8_squaredError (k : Nat) : Room := { frames := 7, cells := k, slots := 6 * k, locals := 118 }
theorem hd_X8_squaredError : yX8_squaredError.cls ≠ "java/lang/invoke/MethodHandle" ∧ yX8_squaredError.cls ≠ "java/lang/invoke/VarHandle" ∧ (parseMethodDescriptor yX8_squaredError.desc).map (fun d => d.parameters.length) = some 0 := by decide +kernel
set_option maxHeartbeats 4000000 in
set_option maxRecDepth 100000 in
theorem ct_X8_squaredError (l : Launch) (G : gG) (h_this : Nat) (r_this r_this_decoded r_this_picture : Nat → Nat) (i_this_layerCount i_this_hasDecoded i_this_codedCount i_this_codedWidth i_this_codedHeight i_this_replacedSize i_this_replacedPlainSize i_this_decoded_columns i_this_decoded_rows i_this_picture_columns i_this_picture_rows : Int32) (t_this_decoded_pixels t_this_picture_pixels : Nat → Int32) (sz : Nat) (out : Nat ⊕ (Int32)) (hf : lf_X8_squaredError i_this_decoded_columns i_this_decoded_rows i_this_hasDecoded i_this_picture_columns i_this_picture_rows t_this_decoded_pixels t_this_picture_pixels = some out) (hst : l.stackTraces = false) : gTi l G yX8_squaredError cX8_squaredError 5 .int (rm_X8_squaredError (tc out)) [.ref h_this] sz [(h_this, .inr (7, FX8 r_this i_this_layerCount i_this_hasDecoded i_this_codedCount i_this_codedWidth i_this_codedHeight i_this_replacedSize i_this_replacedPlainSize)), ((r_this 4), .inr (4, FX5 r_this_decoded i_this_decoded_columns i_this_decoded_rows)), ((r_this_decoded 2), gA G 384 t_this_decoded_pixels), ((r_this 0), .inr (4, FX5 r_this_picture i_this_picture_columns i_this_picture_rows)), ((r_this_picture 2), gA G 384 t_this_picture_pixels)] out (fun x => x) (fun x u => [(h_this, .inr (7, FX8 r_this i_this_layerCount i_this_hasDecoded i_this_codedCount i_this_codedWidth i_this_codedHeight i_this_replacedSize i_this_replacedPlainSize)), ((r_this 4), .inr (4, FX5 r_this_decoded i_this_decoded_columns i_this_decoded_rows)), ((r_this_decoded 2), gA G 384 t_this_decoded_pixels), ((r_this 0), .inr (4, FX5 r_this_picture i_this_picture_columns i_this_picture_rows)), ((r_this_picture 2), gA G 384 t_this_picture_pixels)]) := by
  refine gTi_of (by decide +kernel) (Nat.le_of_ble_eq_true rfl) ?_
  intro p e s m args below meth c ls A Q X hK hA hsz hH hl hS hZ hno hQ hE
  subst hsz
  have hx := X.1
  have hb := X.2.1
  unfold lf_X8_squaredError at hf
  have hl : lv_has ls 5 [(0, .ref h_this)] := hl
  have hH : gH G A s.heap s.heap [] [(h_this, .inr (7, FX8 r_this i_this_layerCount i_this_hasDecoded i_this_codedCount i_this_codedWidth i_this_codedHeight i_this_replacedSize i_this_replacedPlainSize)), ((r_this 4), .inr (4, FX5 r_this_decoded i_this_decoded_columns i_this_decoded_rows)), ((r_this_decoded 2), gA G 384 t_this_decoded_pixels), ((r_this 0), .inr (4, FX5 r_this_picture i_this_picture_columns i_this_picture_rows)), ((r_this_picture 2), gA G 384 t_this_picture_pixels)] := hH
  refine lv_aload_n hx hb dX8_squaredError_0 rfl (lv_at hl 0 rfl) ?_
  obtain ⟨o1, ho1, hf⟩ := sbind hf
  rcases o1 with k4 | r2
  · obtain rfl := Option.some.inj hf
    rw [hQ]
    exact g_tVx (isC := [0]) (isR := [1, 2, 3, 4]) (isP := [4, 0, 1, 2, 3]) (wr := [((r_this 4), .inr (4, FX5 r_this_decoded i_this_decoded_columns i_this_decoded_rows)), ((r_this_decoded 2), gA G 384 t_this_decoded_pixels), ((r_this 0), .inr (4, FX5 r_this_picture i_this_picture_columns i_this_picture_rows)), ((r_this_picture 2), gA G 384 t_this_picture_pixels)]) (q0 := 0) X hK hS hZ hno hA hH hl (ct_X8_requireDecoded l G h_this r_this i_this_layerCount i_this_hasDecoded i_this_codedCount i_this_codedWidth i_this_codedHeight i_this_replacedSize i_this_replacedPlainSize s.heap.size _ ho1 hst) ⟨q_1, q_671, hd_X8_requireDecoded, rfl, rfl, ⟨Nat.le_of_ble_eq_true rfl, Nat.le_of_ble_eq_true rfl⟩, ⟨Nat.le_of_ble_eq_true rfl, Nat.le_of_ble_eq_true rfl⟩⟩ q_668 q_670 qs_13 rfl rfl ⟨rfl, rfl, rfl, rfl, by decide, rfl, rfl⟩ rfl rfl (Nat.le_of_ble_eq_true rfl) dX8_squaredError_1
  have hf := selimr hf
  refine g_tVr (isC := [0]) (isR := [1, 2, 3, 4]) (isP := [4, 0, 1, 2, 3]) (wr := [((r_this 4), .inr (4, FX5 r_this_decoded i_this_decoded_columns i_this_decoded_rows)), ((r_this_decoded 2), gA G 384 t_this_decoded_pixels), ((r_this 0), .inr (4, FX5 r_this_picture i_this_picture_columns i_this_picture_rows)), ((r_this_picture 2), gA G 384 t_this_picture_pixels)]) (q0 := 0) (w2 := (fun u3 => [(h_this, .inr (7, FX8 r_this i_this_layerCount i_this_hasDecoded i_this_codedCount i_this_codedWidth i_this_codedHeight i_this_replacedSize i_this_replacedPlainSize)), ((r_this 4), .inr (4, FX5 r_this_decoded i_this_decoded_columns i_this_decoded_rows)), ((r_this_decoded 2), gA G 384 t_this_decoded_pixels), ((r_this 0), .inr (4, FX5 r_this_picture i_this_picture_columns i_this_picture_rows)), ((r_this_picture 2), gA G 384 t_this_picture_pixels)])) X hK hS hZ hA hH hl (ct_X8_requireDecoded l G h_this r_this i_this_layerCount i_this_hasDecoded i_this_codedCount i_this_codedWidth i_this_codedHeight i_this_replacedSize i_this_replacedPlainSize s.heap.size _ ho1 hst) ⟨q_1, q_671, hd_X8_requireDecoded, rfl, rfl, ⟨Nat.le_of_ble_eq_true rfl, Nat.le_of_ble_eq_true rfl⟩, ⟨Nat.zero_le _, Nat.zero_le _⟩⟩ q_668 q_670 qs_13 rfl rfl (fun _ => ⟨rfl, rfl, rfl, rfl, by decide, rfl, rfl⟩) rfl rfl (Nat.le_of_ble_eq_true rfl) dX8_squaredError_1 (fun u3 H locs hH => ?_)
  refine lv_aload_n hx hb dX8_squaredError_4 rfl (lv_at hl 0 rfl) ?_
  obtain ⟨o5, ho5, hf⟩ := sbind hf
  rcases o5 with k8 | r6
  · obtain rfl := Option.some.inj hf
    rw [hQ]
    exact g_tVx (isC := [0, 1, 3]) (isR := [2, 4]) (isP := [2, 3, 0, 4, 1]) (wr := [((r_this_decoded 2), gA G 384 t_this_decoded_pixels), ((r_this_picture 2), gA G 384 t_this_picture_pixels)]) (q0 := 0) X hK hS hZ hno hA hH hl (ct_X8_requireSameSize l G h_this r_this r_this_decoded r_this_picture i_this_layerCount i_this_hasDecoded i_this_codedCount i_this_codedWidth i_this_codedHeight i_this_replacedSize i_this_replacedPlainSize i_this_decoded_columns i_this_decoded_rows i_this_picture_columns i_this_picture_rows H.size _ ho5 hst) ⟨q_1, q_721, hd_X8_requireSameSize, rfl, rfl, ⟨Nat.le_of_ble_eq_true rfl, Nat.le_of_ble_eq_true rfl⟩, ⟨Nat.le_of_ble_eq_true rfl, Nat.le_of_ble_eq_true rfl⟩⟩ q_718 q_720 qs_15 rfl rfl ⟨rfl, rfl, rfl, rfl, by decide, rfl, rfl⟩ rfl rfl (Nat.le_of_ble_eq_true rfl) dX8_squaredError_5
  have hf := selimr hf
  refine g_tVr (isC := [0, 1, 3]) (isR := [2, 4]) (isP := [2, 3, 0, 4, 1]) (wr := [((r_this_decoded 2), gA G 384 t_this_decoded_pixels), ((r_this_picture 2), gA G 384 t_this_picture_pixels)]) (q0 := 0) (w2 := (fun u7 => [(h_this, .inr (7, FX8 r_this i_this_layerCount i_this_hasDecoded i_this_codedCount i_this_codedWidth i_this_codedHeight i_this_replacedSize i_this_replacedPlainSize)), ((r_this 4), .inr (4, FX5 r_this_decoded i_this_decoded_columns i_this_decoded_rows)), ((r_this_decoded 2), gA G 384 t_this_decoded_pixels), ((r_this 0), .inr (4, FX5 r_this_picture i_this_picture_columns i_this_picture_rows)), ((r_this_picture 2), gA G 384 t_this_picture_pixels)])) X hK hS hZ hA hH hl (ct_X8_requireSameSize l G h_this r_this r_this_decoded r_this_picture i_this_layerCount i_this_hasDecoded i_this_codedCount i_this_codedWidth i_this_codedHeight i_this_replacedSize i_this_replacedPlainSize i_this_decoded_columns i_this_decoded_rows i_this_picture_columns i_this_picture_rows H.size _ ho5 hst) ⟨q_1, q_721, hd_X8_requireSameSize, rfl, rfl, ⟨Nat.le_of_ble_eq_true rfl, Nat.le_of_ble_eq_true rfl⟩, ⟨Nat.zero_le _, Nat.zero_le _⟩⟩ q_718 q_720 qs_15 rfl rfl (fun _ => ⟨rfl, rfl, rfl, rfl, by decide, rfl, rfl⟩) rfl rfl (Nat.le_of_ble_eq_true rfl) dX8_squaredError_5 (fun u7 H locs hH => ?_)
  refine lv_iconst (v := (0 : Int32)) hx hb dX8_squaredError_8 (by decide) ?_
  refine lv_istore_n (lv' := [(1, .int (0 : Int32)), (0, .ref h_this)]) hx hb dX8_squaredError_9 rfl hl (by decide) rfl (fun ls hl => ?_)
  refine lv_iconst (v := (0 : Int32)) hx hb dX8_squaredError_10 (by decide) ?_
  refine lv_istore_n (lv' := [(2, .int (0 : Int32)), (1, .int (0 : Int32)), (0, .ref h_this)]) hx hb dX8_squaredError_11 rfl hl (by decide) rfl (fun ls hl => ?_)
  obtain ⟨o11, ho11, hf⟩ := sbind hf
  obtain ⟨FF11, hFF11, ho11⟩ := sfix ho11
  have L11 : ∀ (n : Nat) (x9 : Int32) (x10 : Int32) (b11 : Int32) (H : Heap) (locs : List Loc) (ls : Array Slot), fixN n FF11 (x9, x10) = some b11 → gH G A s.heap H locs [(h_this, .inr (7, FX8 r_this i_this_layerCount i_this_hasDecoded i_this_codedCount i_this_codedWidth i_this_codedHeight i_this_replacedSize i_this_replacedPlainSize)), ((r_this 4), .inr (4, FX5 r_this_decoded i_this_decoded_columns i_this_decoded_rows)), ((r_this_decoded 2), gA G 384 t_this_decoded_pixels), ((r_this 0), .inr (4, FX5 r_this_picture i_this_picture_columns i_this_picture_rows)), ((r_this_picture 2), gA G 384 t_this_picture_pixels)] → lv_has ls 5 [(0, .ref h_this), (1, .int x9), (2, .int x10)] → (∀ (H : Heap) (locs : List Loc) (ls : Array Slot), gH G A s.heap H locs [(h_this, .inr (7, FX8 r_this i_this_layerCount i_this_hasDecoded i_this_codedCount i_this_codedWidth i_this_codedHeight i_this_replacedSize i_this_replacedPlainSize)), ((r_this 4), .inr (4, FX5 r_this_decoded i_this_decoded_columns i_this_decoded_rows)), ((r_this_decoded 2), gA G 384 t_this_decoded_pixels), ((r_this 0), .inr (4, FX5 r_this_picture i_this_picture_columns i_this_picture_rows)), ((r_this_picture 2), gA G 384 t_this_picture_pixels)] → lv_has ls 5 [(1, .int b11)] → W p l e (rm_X8_squaredError (tc out)) s m args below meth c H locs 0 0 Q (F0 m 77 ls [])) → W p l e (rm_X8_squaredError (tc out)) s m args below meth c H locs 0 0 Q (F0 m 12 ls []) := by
    intro n
    induction n with
    | zero => intro x9 x10 b11 H locs ls hf; exact sfix0 hf
    | succ n ih =>
      intro x9 x10 b11 H locs ls hf hH hl KK
      obtain ⟨self11, hself11, hf⟩ := sstep hFF11 hf
      refine lv_iload_n hx hb dX8_squaredError_12 rfl (lv_at hl 2 rfl) ?_
      refine lv_aload_n hx hb dX8_squaredError_13 rfl (lv_at hl 0 rfl) ?_
      refine g_get (T := TX8) (N := 18) (ci := 7) (C := RX8) (v := .ref (r_this 0)) X hK hH in_RX8 0 rfl rfl 0 (by decide) q_212 (fun _ h9 => h9) rfl dX8_squaredError_14 ?_
      refine g_getN (T := TX5) (N := 3) (ci := 4) (C := RX5) (v := .int i_this_picture_rows) X hK hH in_RX5 3 rfl rfl 1 (by decide) qn_50 (fun _ h9 => h9) rfl dX8_squaredError_17 ?_
      refine lv_icmp_ge (tgt := 77) hx hb dX8_squaredError_20 (by decide) (fun c12 => ?_) (fun c12 => ?_)
      · have hf := spos hf c12
        obtain rfl := Option.some.inj hf
        exact KK _ _ _ hH (lv_sub hl [1] rfl)
      · have hf := sneg hf c12
        refine lv_iconst (v := (0 : Int32)) hx hb dX8_squaredError_23 (by decide) ?_
        refine lv_istore_n (lv' := [(3, .int (0 : Int32)), (0, .ref h_this), (1, .int x9), (2, .int x10)]) hx hb dX8_squaredError_24 rfl hl (by decide) rfl (fun ls hl => ?_)
        obtain ⟨o15, ho15, hf⟩ := sbind hf
        obtain ⟨FF15, hFF15, ho15⟩ := sfix ho15
        have L15 : ∀ (n : Nat) (x13 : Int32) (x14 : Int32) (b15 : Int32) (H : Heap) (locs : List Loc) (ls : Array Slot), fixN n FF15 (x13, x14) = some b15 → gH G A s.heap H locs [(h_this, .inr (7, FX8 r_this i_this_layerCount i_this_hasDecoded i_this_codedCount i_this_codedWidth i_this_codedHeight i_this_replacedSize i_this_replacedPlainSize)), ((r_this 4), .inr (4, FX5 r_this_decoded i_this_decoded_columns i_this_decoded_rows)), ((r_this_decoded 2), gA G 384 t_this_decoded_pixels), ((r_this 0), .inr (4, FX5 r_this_picture i_this_picture_columns i_this_picture_rows)), ((r_this_picture 2), gA G 384 t_this_picture_pixels)] → lv_has ls 5 [(0, .ref h_this), (1, .int x13), (2, .int x10), (3, .int x14)] → (∀ (H : Heap) (locs : List Loc) (ls : Array Slot), gH G A s.heap H locs [(h_this, .inr (7, FX8 r_this i_this_layerCount i_this_hasDecoded i_this_codedCount i_this_codedWidth i_this_codedHeight i_this_replacedSize i_this_replacedPlainSize)), ((r_this 4), .inr (4, FX5 r_this_decoded i_this_decoded_columns i_this_decoded_rows)), ((r_this_decoded 2), gA G 384 t_this_decoded_pixels), ((r_this 0), .inr (4, FX5 r_this_picture i_this_picture_columns i_this_picture_rows)), ((r_this_picture 2), gA G 384 t_this_picture_pixels)] → lv_has ls 5 [(0, .ref h_this), (1, .int b15), (2, .int x10)] → W p l e (rm_X8_squaredError (tc out)) s m args below meth c H locs 0 0 Q (F0 m 71 ls [])) → W p l e (rm_X8_squaredError (tc out)) s m args below meth c H locs 0 0 Q (F0 m 25 ls []) := by
          intro n
          induction n with
          | zero => intro x13 x14 b15 H locs ls hf; exact sfix0 hf
          | succ n ih =>
            intro x13 x14 b15 H locs ls hf hH hl KK
            obtain ⟨self15, hself15, hf⟩ := sstep hFF15 hf
            refine lv_iload_n hx hb dX8_squaredError_25 rfl (lv_at hl 3 rfl) ?_
            refine lv_aload_n hx hb dX8_squaredError_26 rfl (lv_at hl 0 rfl) ?_
            refine g_get (T := TX8) (N := 18) (ci := 7) (C := RX8) (v := .ref (r_this 0)) X hK hH in_RX8 0 rfl rfl 0 (by decide) q_212 (fun _ h9 => h9) rfl dX8_squaredError_27 ?_
            refine g_getN (T := TX5) (N := 3) (ci := 4) (C := RX5) (v := .int i_this_picture_columns) X hK hH in_RX5 3 rfl rfl 0 (by decide) qn_48 (fun _ h9 => h9) rfl dX8_squaredError_30 ?_
            refine lv_icmp_ge (tgt := 71) hx hb dX8_squaredError_33 (by decide) (fun c16 => ?_) (fun c16 => ?_)
            · have hf := spos hf c16
              obtain rfl := Option.some.inj hf
              exact KK _ _ _ hH (lv_sub hl [0, 1, 2] rfl)
            · have hf := sneg hf c16
              refine lv_aload_n hx hb dX8_squaredError_36 rfl (lv_at hl 0 rfl) ?_
              refine g_get (T := TX8) (N := 18) (ci := 7) (C := RX8) (v := .ref (r_this 0)) X hK hH in_RX8 0 rfl rfl 0 (by decide) q_212 (fun _ h9 => h9) rfl dX8_squaredError_37 ?_
              refine lv_iload_n hx hb dX8_squaredError_40 rfl (lv_at hl 3 rfl) ?_
              refine lv_iload_n hx hb dX8_squaredError_41 rfl (lv_at hl 2 rfl) ?_
              obtain ⟨o17, ho17, hf⟩ := sbind hf
              refine g_cVi (isC := [3, 4]) (isR := [0, 1, 2]) (isP := [0, 1, 2, 3, 4]) (wr := [(h_this, .inr (7, FX8 r_this i_this_layerCount i_this_hasDecoded i_this_codedCount i_this_codedWidth i_this_codedHeight i_this_replacedSize i_this_replacedPlainSize)), ((r_this 4), .inr (4, FX5 r_this_decoded i_this_decoded_columns i_this_decoded_rows)), ((r_this_decoded 2), gA G 384 t_this_decoded_pixels)]) (w2 := [(h_this, .inr (7, FX8 r_this i_this_layerCount i_this_hasDecoded i_this_codedCount i_this_codedWidth i_this_codedHeight i_this_replacedSize i_this_replacedPlainSize)), ((r_this 4), .inr (4, FX5 r_this_decoded i_this_decoded_columns i_this_decoded_rows)), ((r_this_decoded 2), gA G 384 t_this_decoded_pixels), ((r_this 0), .inr (4, FX5 r_this_picture i_this_picture_columns i_this_picture_rows)), ((r_this_picture 2), gA G 384 t_this_picture_pixels)]) (q0 := 3) X hK hA hH hl (ct_X5_at l G (r_this 0) r_this_picture i_this_picture_columns i_this_picture_rows t_this_picture_pixels x14 x10 H.size o17 ho17) ⟨q_2, q_418, hd_X5_at, rfl, rfl, ⟨Nat.le_of_ble_eq_true rfl, Nat.le_of_ble_eq_true rfl⟩, ⟨Nat.zero_le _, Nat.zero_le _⟩⟩ q_415 q_416 q_417 rfl rfl ⟨rfl, rfl, rfl, rfl, by decide, rfl, rfl⟩ rfl rfl (Nat.le_of_ble_eq_true rfl) dX8_squaredError_42 (fun H locs hH => ?_)
              refine lv_aload_n hx hb dX8_squaredError_45 rfl (lv_at hl 0 rfl) ?_
              refine g_get (T := TX8) (N := 18) (ci := 7) (C := RX8) (v := .ref (r_this 4)) X hK hH in_RX8 0 rfl rfl 4 (by decide) q_216 (fun _ h9 => h9) rfl dX8_squaredError_46 ?_
              refine lv_iload_n hx hb dX8_squaredError_49 rfl (lv_at hl 3 rfl) ?_
              refine lv_iload_n hx hb dX8_squaredError_50 rfl (lv_at hl 2 rfl) ?_
              obtain ⟨o18, ho18, hf⟩ := sbind hf
              refine g_cVi (isC := [1, 2]) (isR := [0, 3, 4]) (isP := [0, 3, 4, 1, 2]) (wr := [(h_this, .inr (7, FX8 r_this i_this_layerCount i_this_hasDecoded i_this_codedCount i_this_codedWidth i_this_codedHeight i_this_replacedSize i_this_replacedPlainSize)), ((r_this 0), .inr (4, FX5 r_this_picture i_this_picture_columns i_this_picture_rows)), ((r_this_picture 2), gA G 384 t_this_picture_pixels)]) (w2 := [(h_this, .inr (7, FX8 r_this i_this_layerCount i_this_hasDecoded i_this_codedCount i_this_codedWidth i_this_codedHeight i_this_replacedSize i_this_replacedPlainSize)), ((r_this 4), .inr (4, FX5 r_this_decoded i_this_decoded_columns i_this_decoded_rows)), ((r_this_decoded 2), gA G 384 t_this_decoded_pixels), ((r_this 0), .inr (4, FX5 r_this_picture i_this_picture_columns i_this_picture_rows)), ((r_this_picture 2), gA G 384 t_this_picture_pixels)]) (q0 := 1) X hK hA hH hl (ct_X5_at l G (r_this 4) r_this_decoded i_this_decoded_columns i_this_decoded_rows t_this_decoded_pixels x14 x10 H.size o18 ho18) ⟨q_2, q_418, hd_X5_at, rfl, rfl, ⟨Nat.le_of_ble_eq_true rfl, Nat.le_of_ble_eq_true rfl⟩, ⟨Nat.zero_le _, Nat.zero_le _⟩⟩ q_415 q_416 q_417 rfl rfl ⟨rfl, rfl, rfl, rfl, by decide, rfl, rfl⟩ rfl rfl (Nat.le_of_ble_eq_true rfl) dX8_squaredError_51 (fun H locs hH => ?_)
              refine lv_isub hx hb dX8_squaredError_54 ?_
              refine lv_topi (fun x19 ex19 => ?_)
              have hf := sbnd hf x19 ex19
              refine lv_istore (lv' := [(4, .int x19), (0, .ref h_this), (1, .int x13), (2, .int x10), (3, .int x14)]) hx hb dX8_squaredError_55 hl (by decide) rfl (fun ls hl => ?_)
              refine lv_iload_n hx hb dX8_squaredError_57 rfl (lv_at hl 2 rfl) ?_
              refine lv_iload hx hb dX8_squaredError_58 (lv_at hl 0 rfl) ?_
              refine lv_iload hx hb dX8_squaredError_60 (lv_at hl 0 rfl) ?_
              refine lv_imul hx hb dX8_squaredError_62 ?_
              refine lv_iadd hx hb dX8_squaredError_63 ?_
              refine lv_topi (fun x20 ex20 => ?_)
              have hf := sbnd hf x20 ex20
              refine lv_istore_n (lv' := [(1, .int x20), (4, .int x19), (0, .ref h_this), (2, .int x10), (3, .int x14)]) hx hb dX8_squaredError_64 rfl hl (by decide) rfl (fun ls hl => ?_)
              obtain ⟨x21, ex21⟩ : ∃ y : Int32, y = (x14 + (1 : Int32)) := ⟨_, rfl⟩
              have hf := sbnd hf x21 ex21
              refine lv_iinc (v := x21) (lv' := [(3, .int x21), (1, .int x20), (4, .int x19), (0, .ref h_this), (2, .int x10)]) hx hb dX8_squaredError_65 hl (k := 4) rfl (by rw [ex21]; rfl) (by decide) rfl (fun ls hl => ?_)
              refine lv_goto (tgt := 25) hx hb dX8_squaredError_68 (by decide) ?_
              exact ih x20 x21 _ _ _ _ (hself15 _ _ hf) hH (lv_sub hl [3, 1, 4, 0] rfl) KK
        refine L15 FUEL x9 (0 : Int32) o15 _ _ _ ho15 hH (lv_sub hl [1, 2, 3, 0] rfl) (fun H locs ls hH hl => ?_)
        obtain ⟨x22, ex22⟩ : ∃ y : Int32, y = (x10 + (1 : Int32)) := ⟨_, rfl⟩
        have hf := sbnd hf x22 ex22
        refine lv_iinc (v := x22) (lv' := [(2, .int x22), (0, .ref h_this), (1, .int o15)]) hx hb dX8_squaredError_71 hl (k := 2) rfl (by rw [ex22]; rfl) (by decide) rfl (fun ls hl => ?_)
        refine lv_goto (tgt := 12) hx hb dX8_squaredError_74 (by decide) ?_
        exact ih o15 x22 _ _ _ _ (hself11 _ _ hf) hH (lv_sub hl [1, 2, 0] rfl) KK
  refine L11 FUEL (0 : Int32) (0 : Int32) o11 _ _ _ ho11 hH (lv_sub hl [2, 1, 0] rfl) (fun H locs ls hH hl => ?_)
  refine lv_iload_n hx hb dX8_squaredError_77 rfl (lv_at hl 0 rfl) ?_
  obtain rfl := Option.some.inj hf
  exact hE o11 0 _ _ _ _ rfl rfl hH dX8_squaredError_78

def lf_X8_greatestError (i_this_decoded_columns : Int32) (i_this_decoded_rows : Int32) (i_this_hasDecoded : Int32) (i_this_picture_columns : Int32) (i_this_picture_rows : Int32) (t_this_decoded_pixels : Nat → Int32) (t_this_picture_pixels : Nat → Int32) : Option (Nat ⊕ (Int32)) :=
(lf_X8_requireDecoded i_this_hasDecoded).bind fun o1 => Sum.elim (fun kk => some (Sum.inl kk)) (fun r2 => (lf_X8_requireSameSize i_this_decoded_columns i_this_decoded_rows i_this_picture_columns i_this_picture_rows).bind fun o5 => Sum.elim (fun kk => some (Sum.inl kk)) (fun r6 => (lf_X8_largestDifference i_this_decoded_columns i_this_decoded_rows i_this_picture_columns i_this_picture_rows t_this_decoded_pixels t_this_picture_pixels).bind fun o9 => some (Sum.inr o9)) o5) o1
abbrev rm_X8_greatestError (k : Nat) : Room := { frames := 7, cells := k, slots := 6 * k, locals := 118 }
theorem hd_X8_greatestError : yX8_greatestError.cls ≠ "java/lang/invoke/MethodHandle" ∧ yX8_greatestError.cls ≠ "java/lang/invoke/VarHandle" ∧ (parseMethodDescriptor yX8_greatestError.desc).map (fun d => d.parameters.length) = some 0 := by decide +kernel
set_option maxHeartbeats 4000000 in
set_option maxRecDepth 100000 in
theorem ct_X8_greatestError (l : Launch) (G : gG) (h_this : Nat) (r_this r_this_decoded r_this_picture : Nat → Nat) (i_this_layerCount i_this_hasDecoded i_this_codedCount i_this_codedWidth i_this_codedHeight i_this_replacedSize i_this_replacedPlainSize i_this_decoded_columns i_this_decoded_rows i_this_picture_columns i_this_picture_rows : Int32) (t_this_decoded_pixels t_this_picture_pixels : Nat → Int32) (sz : Nat) (out : Nat ⊕ (Int32)) (hf : lf_X8_greatestError i_this_decoded_columns i_this_decoded_rows i_this_hasDecoded i_this_picture_columns i_this_picture_rows t_this_decoded_pixels t_this_picture_pixels = some out) (hst : l.stackTraces = false) : gTi l G yX8_greatestError cX8_greatestError 1 .int (rm_X8_greatestError (tc out)) [.ref h_this] sz [(h_this, .inr (7, FX8 r_this i_this_layerCount i_this_hasDecoded i_this_codedCount i_this_codedWidth i_this_codedHeight i_this_replacedSize i_this_replacedPlainSize)), ((r_this 4), .inr (4, FX5 r_this_decoded i_this_decoded_columns i_this_decoded_rows)), ((r_this_decoded 2), gA G 384 t_this_decoded_pixels), ((r_this 0), .inr (4, FX5 r_this_picture i_this_picture_columns i_this_picture_rows)), ((r_this_picture 2), gA G 384 t_this_picture_pixels)] out (fun x => x) (fun x u => [(h_this, .inr (7, FX8 r_this i_this_layerCount i_this_hasDecoded i_this_codedCount i_this_codedWidth i_this_codedHeight i_this_replacedSize i_this_replacedPlainSize)), ((r_this 4), .inr (4, FX5 r_this_decoded i_this_decoded_columns i_this_decoded_rows)), ((r_this_decoded 2), gA G 384 t_this_decoded_pixels), ((r_this 0), .inr (4, FX5 r_this_picture i_this_picture_columns i_this_picture_rows)), ((r_this_picture 2), gA G 384 t_this_picture_pixels)]) := by
  refine gTi_of (by decide +kernel) (Nat.le_of_ble_eq_true rfl) ?_
  intro p e s m args below meth c ls A Q X hK hA hsz hH hl hS hZ hno hQ hE
  subst hsz
  have hx := X.1
  have hb := X.2.1
  unfold lf_X8_greatestError at hf
  have hl : lv_has ls 1 [(0, .ref h_this)] := hl
  have hH : gH G A s.heap s.heap [] [(h_this, .inr (7, FX8 r_this i_this_layerCount i_this_hasDecoded i_this_codedCount i_this_codedWidth i_this_codedHeight i_this_replacedSize i_this_replacedPlainSize)), ((r_this 4), .inr (4, FX5 r_this_decoded i_this_decoded_columns i_this_decoded_rows)), ((r_this_decoded 2), gA G 384 t_this_decoded_pixels), ((r_this 0), .inr (4, FX5 r_this_picture i_this_picture_columns i_this_picture_rows)), ((r_this_picture 2), gA G 384 t_this_picture_pixels)] := hH
  refine lv_aload_n hx hb dX8_greatestError_0 rfl (lv_at hl 0 rfl) ?_
  obtain ⟨o1, ho1, hf⟩ := sbind hf
  rcases o1 with k4 | r2
  · obtain rfl := Option.some.inj hf
    rw [hQ]
    exact g_tVx (isC := [0]) (isR := [1, 2, 3, 4]) (isP := [4, 0, 1, 2, 3]) (wr := [((r_this 4), .inr (4, FX5 r_this_decoded i_this_decoded_columns i_this_decoded_rows)), ((r_this_decoded 2), gA G 384 t_this_decoded_pixels), ((r_this 0), .inr (4, FX5 r_this_picture i_this_picture_columns i_this_picture_rows)), ((r_this_picture 2), gA G 384 t_this_picture_pixels)]) (q0 := 0) X hK hS hZ hno hA hH hl (ct_X8_requireDecoded l G h_this r_this i_this_layerCount i_this_hasDecoded i_this_codedCount i_this_codedWidth i_this_codedHeight i_this_replacedSize i_this_replacedPlainSize s.heap.size _ ho1 hst) ⟨q_1, q_671, hd_X8_requireDecoded, rfl, rfl, ⟨Nat.le_of_ble_eq_true rfl, Nat.le_of_ble_eq_true rfl⟩, ⟨Nat.le_of_ble_eq_true rfl, Nat.le_of_ble_eq_true rfl⟩⟩ q_668 q_670 qs_13 rfl rfl ⟨rfl, rfl, rfl, rfl, by decide, rfl, rfl⟩ rfl rfl (Nat.le_of_ble_eq_true rfl) dX8_greatestError_1
  have hf := selimr hf
  refine g_tVr (isC := [0]) (isR := [1, 2, 3, 4]) (isP := [4, 0, 1, 2, 3]) (wr := [((r_this 4), .inr (4, FX5 r_this_decoded i_this_decoded_columns i_this_decoded_rows)), ((r_this_decoded 2), gA G 384 t_this_decoded_pixels), ((r_this 0), .inr (4, FX5 r_this_picture i_this_picture_columns i_this_picture_rows)), ((r_this_picture 2), gA G 384 t_this_picture_pixels)]) (q0 := 0) (w2 := (fun u3 => [(h_this, .inr (7, FX8 r_this i_this_layerCount i_this_hasDecoded i_this_codedCount i_this_codedWidth i_this_codedHeight i_this_replacedSize i_this_replacedPlainSize)), ((r_this 4), .inr (4, FX5 r_this_decoded i_this_decoded_columns i_this_decoded_rows)), ((r_this_decoded 2), gA G 384 t_this_decoded_pixels), ((r_this 0), .inr (4, FX5 r_this_picture i_this_picture_columns i_this_picture_rows)), ((r_this_picture 2), gA G 384 t_this_picture_pixels)])) X hK hS hZ hA hH hl (ct_X8_requireDecoded l G h_this r_this i_this_layerCount i_this_hasDecoded i_this_codedCount i_this_codedWidth i_this_codedHeight i_this_replacedSize i_this_replacedPlainSize s.heap.size _ ho1 hst) ⟨q_1, q_671, hd_X8_requireDecoded, rfl, rfl, ⟨Nat.le_of_ble_eq_true rfl, Nat.le_of_ble_eq_true rfl⟩, ⟨Nat.zero_le _, Nat.zero_le _⟩⟩ q_668 q_670 qs_13 rfl rfl (fun _ => ⟨rfl, rfl, rfl, rfl, by decide, rfl, rfl⟩) rfl rfl (Nat.le_of_ble_eq_true rfl) dX8_greatestError_1 (fun u3 H locs hH => ?_)
  refine lv_aload_n hx hb dX8_greatestError_4 rfl (lv_at hl 0 rfl) ?_
  obtain ⟨o5, ho5, hf⟩ := sbind hf
  rcases o5 with k8 | r6
  · obtain rfl := Option.some.inj hf
    rw [hQ]
    exact g_tVx (isC := [0, 1, 3]) (isR := [2, 4]) (isP := [2, 3, 0, 4, 1]) (wr := [((r_this_decoded 2), gA G 384 t_this_decoded_pixels), ((r_this_picture 2), gA G 384 t_this_picture_pixels)]) (q0 := 0) X hK hS hZ hno hA hH hl (ct_X8_requireSameSize l G h_this r_this r_this_decoded r_this_picture i_this_layerCount i_this_hasDecoded i_this_codedCount i_this_codedWidth i_this_codedHeight i_this_replacedSize i_this_replacedPlainSize i_this_decoded_columns i_this_decoded_rows i_this_picture_columns i_this_picture_rows H.size _ ho5 hst) ⟨q_1, q_721, hd_X8_requireSameSize, rfl, rfl, ⟨Nat.le_of_ble_eq_true rfl, Nat.le_of_ble_eq_true rfl⟩, ⟨Nat.le_of_ble_eq_true rfl, Nat.le_of_ble_eq_true rfl⟩⟩ q_718 q_720 qs_15 rfl rfl ⟨rfl, rfl, rfl, rfl, by decide, rfl, rfl⟩ rfl rfl (Nat.le_of_ble_eq_true rfl) dX8_greatestError_5
  have hf := selimr hf
  refine g_tVr (isC := [0, 1, 3]) (isR := [2, 4]) (isP := [2, 3, 0, 4, 1]) (wr := [((r_this_decoded 2), gA G 384 t_this_decoded_pixels), ((r_this_picture 2), gA G 384 t_this_picture_pixels)]) (q0 := 0) (w2 := (fun u7 => [(h_this, .inr (7, FX8 r_this i_this_layerCount i_this_hasDecoded i_this_codedCount i_this_codedWidth i_this_codedHeight i_this_replacedSize i_this_replacedPlainSize)), ((r_this 4), .inr (4, FX5 r_this_decoded i_this_decoded_columns i_this_decoded_rows)), ((r_this_decoded 2), gA G 384 t_this_decoded_pixels), ((r_this 0), .inr (4, FX5 r_this_picture i_this_picture_columns i_this_picture_rows)), ((r_this_picture 2), gA G 384 t_this_picture_pixels)])) X hK hS hZ hA hH hl (ct_X8_requireSameSize l G h_this r_this r_this_decoded r_this_picture i_this_layerCount i_this_hasDecoded i_this_codedCount i_this_codedWidth i_this_codedHeight i_this_replacedSize i_this_replacedPlainSize i_this_decoded_columns i_this_decoded_rows i_this_picture_columns i_this_picture_rows H.size _ ho5 hst) ⟨q_1, q_721, hd_X8_requireSameSize, rfl, rfl, ⟨Nat.le_of_ble_eq_true rfl, Nat.le_of_ble_eq_true rfl⟩, ⟨Nat.zero_le _, Nat.zero_le _⟩⟩ q_718 q_720 qs_15 rfl rfl (fun _ => ⟨rfl, rfl, rfl, rfl, by decide, rfl, rfl⟩) rfl rfl (Nat.le_of_ble_eq_true rfl) dX8_greatestError_5 (fun u7 H locs hH => ?_)
  refine lv_aload_n hx hb dX8_greatestError_8 rfl (lv_at hl 0 rfl) ?_
  obtain ⟨o9, ho9, hf⟩ := sbind hf
  refine g_cVi (isC := [0, 1, 2, 3, 4]) (isR := []) (isP := [0, 1, 2, 3, 4]) (wr := []) (w2 := [(h_this, .inr (7, FX8 r_this i_this_layerCount i_this_hasDecoded i_this_codedCount i_this_codedWidth i_this_codedHeight i_this_replacedSize i_this_replacedPlainSize)), ((r_this 4), .inr (4, FX5 r_this_decoded i_this_decoded_columns i_this_decoded_rows)), ((r_this_decoded 2), gA G 384 t_this_decoded_pixels), ((r_this 0), .inr (4, FX5 r_this_picture i_this_picture_columns i_this_picture_rows)), ((r_this_picture 2), gA G 384 t_this_picture_pixels)]) (q0 := 0) X hK hA hH hl (ct_X8_largestDifference l G h_this r_this r_this_decoded r_this_picture i_this_layerCount i_this_hasDecoded i_this_codedCount i_this_codedWidth i_this_codedHeight i_this_replacedSize i_this_replacedPlainSize i_this_decoded_columns i_this_decoded_rows i_this_picture_columns i_this_picture_rows t_this_decoded_pixels t_this_picture_pixels H.size o9 ho9) ⟨q_1, q_706, hd_X8_largestDifference, rfl, rfl, ⟨Nat.le_of_ble_eq_true rfl, Nat.le_of_ble_eq_true rfl⟩, ⟨Nat.zero_le _, Nat.zero_le _⟩⟩ q_703 q_705 qs_14 rfl rfl ⟨rfl, rfl, rfl, rfl, by decide, rfl, rfl⟩ rfl rfl (Nat.le_of_ble_eq_true rfl) dX8_greatestError_9 (fun H locs hH => ?_)
  obtain rfl := Option.some.inj hf
  exact hE o9 0 _ _ _ _ rfl rfl hH dX8_greatestError_12

def lf_X8_requireCodedLayer (i_this_codedCount : Int32) (p0 : Int32) : Option (Nat ⊕ (Unit)) :=
(if i_this_codedCount = (0 : Int32) then some (Sum.inl 3) else jn (fun (z3 : Unit) => some (Sum.inl 1)) (fun k3 => (if p0 < (0 : Int32) then k3 () else (if p0 < i_this_codedCount then some (Sum.inr ()) else k3 ()))))
abbrev rm_X8_requireCodedLayer (k : Nat) : Room := { frames := 6, cells := k, slots := 6 * k, locals := 98 }
theorem hd_X8_requireCodedLayer : yX8_requireCodedLayer.cls ≠ "java/lang/invoke/MethodHandle" ∧ yX8_requireCodedLayer.cls ≠ "java/lang/invoke/VarHandle" ∧ (parseMethodDescriptor yX8_requireCodedLayer.desc).map (fun d => d.parameters.length) = some 1 := by decide +kernel
set_option maxHeartbeats 4000000 in
set_option maxRecDepth 100000 in
theorem ct_X8_requireCodedLayer (l : Launch) (G : gG) (h_this : Nat) (r_this : Nat → Nat) (i_this_layerCount i_this_hasDecoded i_this_codedCount i_this_codedWidth i_this_codedHeight i_this_replacedSize i_this_replacedPlainSize : Int32) (p0 : Int32) (sz : Nat) (out : Nat ⊕ (Unit)) (hf : lf_X8_requireCodedLayer i_this_codedCount p0 = some out) (hst : l.stackTraces = false) : gTv l G yX8_requireCodedLayer cX8_requireCodedLayer 2 (rm_X8_requireCodedLayer (tc out)) [.ref h_this, .int p0] sz [(h_this, .inr (7, FX8 r_this i_this_layerCount i_this_hasDecoded i_this_codedCount i_this_codedWidth i_this_codedHeight i_this_replacedSize i_this_replacedPlainSize))] out (fun x u => [(h_this, .inr (7, FX8 r_this i_this_layerCount i_this_hasDecoded i_this_codedCount i_this_codedWidth i_this_codedHeight i_this_replacedSize i_this_replacedPlainSize))]) := by
  refine gTv_of (by decide +kernel) (Nat.le_of_ble_eq_true rfl) ?_
  intro p e s m args below meth c ls A Q X hK hA hsz hH hl hS hZ hno hQ hE
  subst hsz
  have hx := X.1
  have hb := X.2.1
  unfold lf_X8_requireCodedLayer at hf
  have hl : lv_has ls 2 [(0, .ref h_this), (1, .int p0)] := hl
  have hH : gH G A s.heap s.heap [] [(h_this, .inr (7, FX8 r_this i_this_layerCount i_this_hasDecoded i_this_codedCount i_this_codedWidth i_this_codedHeight i_this_replacedSize i_this_replacedPlainSize))] := hH
  refine lv_aload_n hx hb dX8_requireCodedLayer_0 rfl (lv_at hl 0 rfl) ?_
  refine g_get (T := TX8) (N := 18) (ci := 7) (C := RX8) (v := .int i_this_codedCount) X hK hH in_RX8 0 rfl rfl 9 (by decide) q_221 (fun _ h9 => h9) rfl dX8_requireCodedLayer_1 ?_
  refine lv_if_ne (tgt := 18) hx hb dX8_requireCodedLayer_4 (by decide) (fun c1 => ?_) (fun c1 => ?_)
  · have hf := sneg hf c1
    refine lv_iload_n hx hb dX8_requireCodedLayer_18 rfl (lv_at hl 1 rfl) ?_
    obtain ⟨k3, hk3, hf⟩ := sjn hf
    have J3 : ∀  (H : Heap) (locs : List Loc) (ls : Array Slot), k3 () = some out → gH G A s.heap H locs [(h_this, .inr (7, FX8 r_this i_this_layerCount i_this_hasDecoded i_this_codedCount i_this_codedWidth i_this_codedHeight i_this_replacedSize i_this_replacedPlainSize))] → lv_has ls 2 [] → W p l e (rm_X8_requireCodedLayer (tc out)) s m args below meth c H locs 0 0 Q (F0 m 30 ls []) := by
      intro  H locs ls hf hH hl
      have hf := hk3 _ _ hf
      obtain rfl := Option.some.inj hf
      rw [hQ]
      exact g_throwW X hst hK hS hZ hH hl hno 1 atG1 q_314 (List.mem_of_getElem? (i := 14) rfl) dX8_requireCodedLayer_30 dX8_requireCodedLayer_33 dX8_requireCodedLayer_34 dX8_requireCodedLayer_37 dX8_requireCodedLayer_40 ⟨Nat.le_of_ble_eq_true rfl, Nat.le_of_ble_eq_true rfl⟩ ⟨Nat.le_of_ble_eq_true rfl, Nat.le_of_ble_eq_true rfl⟩
    refine lv_if_lt (tgt := 30) hx hb dX8_requireCodedLayer_19 (by decide) (fun c2 => ?_) (fun c2 => ?_)
    · have hf := spos hf c2
      exact J3  _ _ _ hf hH (lv_sub hl [] rfl)
    · have hf := sneg hf c2
      refine lv_iload_n hx hb dX8_requireCodedLayer_22 rfl (lv_at hl 1 rfl) ?_
      refine lv_aload_n hx hb dX8_requireCodedLayer_23 rfl (lv_at hl 0 rfl) ?_
      refine g_get (T := TX8) (N := 18) (ci := 7) (C := RX8) (v := .int i_this_codedCount) X hK hH in_RX8 0 rfl rfl 9 (by decide) q_221 (fun _ h9 => h9) rfl dX8_requireCodedLayer_24 ?_
      refine lv_icmp_lt (tgt := 41) hx hb dX8_requireCodedLayer_27 (by decide) (fun c4 => ?_) (fun c4 => ?_)
      · have hf := spos hf c4
        obtain rfl := Option.some.inj hf
        exact hE () 0 _ _ _ _ rfl hH dX8_requireCodedLayer_41
      · have hf := sneg hf c4
        exact J3  _ _ _ hf hH (lv_sub hl [] rfl)
  · have hf := spos hf c1
    obtain rfl := Option.some.inj hf
    rw [hQ]
    exact g_throwW X hst hK hS hZ hH hl hno 3 atG3 q_672 (List.mem_of_getElem? (i := 13) rfl) dX8_requireCodedLayer_7 dX8_requireCodedLayer_10 dX8_requireCodedLayer_11 dX8_requireCodedLayer_14 dX8_requireCodedLayer_17 ⟨Nat.le_of_ble_eq_true rfl, Nat.le_of_ble_eq_true rfl⟩ ⟨Nat.le_of_ble_eq_true rfl, Nat.le_of_ble_eq_true rfl⟩

def lf_X8_blocks (i_this_codedCount : Int32) (i_this_codedLayers_0_blockCount : Int32) (i_this_codedLayers_1_blockCount : Int32) (i_this_codedLayers_2_blockCount : Int32) (p0 : Int32) : Option (Nat ⊕ (Int32)) :=
(lf_X8_requireCodedLayer i_this_codedCount p0).bind fun o1 => Sum.elim (fun kk => some (Sum.inl kk)) (fun r2 => (if p0 = (0 : Int32) then some (Sum.inr i_this_codedLayers_0_blockCount) else (if p0 = (1 : Int32) then some (Sum.inr i_this_codedLayers_1_blockCount) else (if p0 = (2 : Int32) then some (Sum.inr i_this_codedLayers_2_blockCount) else none)))) o1
abbrev rm_X8_blocks (k : Nat) : Room := { frames := 7, cells := k, slots := 6 * k, locals := 119 }
theorem hd_X8_blocks : yX8_blocks.cls ≠ "java/lang/invoke/MethodHandle" ∧ yX8_blocks.cls ≠ "java/lang/invoke/VarHandle" ∧ (parseMethodDescriptor yX8_blocks.desc).map (fun d => d.parameters.length) = some 1 := by decide +kernel
set_option maxHeartbeats 4000000 in
set_option maxRecDepth 100000 in
theorem ct_X8_blocks (l : Launch) (G : gG) (h_this : Nat) (r_this r_this_codedLayers_0 r_this_codedLayers_1 r_this_codedLayers_2 : Nat → Nat) (ly_this : Nat → Nat) (i_this_layerCount i_this_hasDecoded i_this_codedCount i_this_codedWidth i_this_codedHeight i_this_replacedSize i_this_replacedPlainSize i_this_codedLayers_0_step i_this_codedLayers_0_blockCount i_this_codedLayers_1_step i_this_codedLayers_1_blockCount i_this_codedLayers_2_step i_this_codedLayers_2_blockCount : Int32) (p0 : Int32) (sz : Nat) (out : Nat ⊕ (Int32)) (hf : lf_X8_blocks i_this_codedCount i_this_codedLayers_0_blockCount i_this_codedLayers_1_blockCount i_this_codedLayers_2_blockCount p0 = some out) (hst : l.stackTraces = false) : gTi l G yX8_blocks cX8_blocks 2 .int (rm_X8_blocks (tc out)) [.ref h_this, .int p0] sz [(h_this, .inr (7, FX8 r_this i_this_layerCount i_this_hasDecoded i_this_codedCount i_this_codedWidth i_this_codedHeight i_this_replacedSize i_this_replacedPlainSize)), ((r_this 8), gO G 3 (fun k => some (ly_this k))), ((ly_this 0), .inr (3, FX4 r_this_codedLayers_0 i_this_codedLayers_0_step i_this_codedLayers_0_blockCount)), ((ly_this 1), .inr (3, FX4 r_this_codedLayers_1 i_this_codedLayers_1_step i_this_codedLayers_1_blockCount)), ((ly_this 2), .inr (3, FX4 r_this_codedLayers_2 i_this_codedLayers_2_step i_this_codedLayers_2_blockCount))] out (fun x => x) (fun x u => [(h_this, .inr (7, FX8 r_this i_this_layerCount i_this_hasDecoded i_this_codedCount i_this_codedWidth i_this_codedHeight i_this_replacedSize i_this_replacedPlainSize)), ((r_this 8), gO G 3 (fun k => some (ly_this k))), ((ly_this 0), .inr (3, FX4 r_this_codedLayers_0 i_this_codedLayers_0_step i_this_codedLayers_0_blockCount)), ((ly_this 1), .inr (3, FX4 r_this_codedLayers_1 i_this_codedLayers_1_step i_this_codedLayers_1_blockCount)), ((ly_this 2), .inr (3, FX4 r_this_codedLayers_2 i_this_codedLayers_2_step i_this_codedLayers_2_blockCount))]) := by
  refine gTi_of (by decide +kernel) (Nat.le_of_ble_eq_true rfl) ?_
  intro p e s m args below meth c ls A Q X hK hA hsz hH hl hS hZ hno hQ hE
  subst hsz
  have hx := X.1
  have hb := X.2.1
  unfold lf_X8_blocks at hf
  have hl : lv_has ls 2 [(0, .ref h_this), (1, .int p0)] := hl
  have hH : gH G A s.heap s.heap [] [(h_this, .inr (7, FX8 r_this i_this_layerCount i_this_hasDecoded i_this_codedCount i_this_codedWidth i_this_codedHeight i_this_replacedSize i_this_replacedPlainSize)), ((r_this 8), gO G 3 (fun k => some (ly_this k))), ((ly_this 0), .inr (3, FX4 r_this_codedLayers_0 i_this_codedLayers_0_step i_this_codedLayers_0_blockCount)), ((ly_this 1), .inr (3, FX4 r_this_codedLayers_1 i_this_codedLayers_1_step i_this_codedLayers_1_blockCount)), ((ly_this 2), .inr (3, FX4 r_this_codedLayers_2 i_this_codedLayers_2_step i_this_codedLayers_2_blockCount))] := hH
  refine lv_aload_n hx hb dX8_blocks_0 rfl (lv_at hl 0 rfl) ?_
  refine lv_iload_n hx hb dX8_blocks_1 rfl (lv_at hl 1 rfl) ?_
  obtain ⟨o1, ho1, hf⟩ := sbind hf
  rcases o1 with k4 | r2
  · obtain rfl := Option.some.inj hf
    rw [hQ]
    exact g_tVx (isC := [0]) (isR := [1, 2, 3, 4]) (isP := [4, 0, 1, 2, 3]) (wr := [((r_this 8), gO G 3 (fun k => some (ly_this k))), ((ly_this 0), .inr (3, FX4 r_this_codedLayers_0 i_this_codedLayers_0_step i_this_codedLayers_0_blockCount)), ((ly_this 1), .inr (3, FX4 r_this_codedLayers_1 i_this_codedLayers_1_step i_this_codedLayers_1_blockCount)), ((ly_this 2), .inr (3, FX4 r_this_codedLayers_2 i_this_codedLayers_2_step i_this_codedLayers_2_blockCount))]) (q0 := 0) X hK hS hZ hno hA hH hl (ct_X8_requireCodedLayer l G h_this r_this i_this_layerCount i_this_hasDecoded i_this_codedCount i_this_codedWidth i_this_codedHeight i_this_replacedSize i_this_replacedPlainSize p0 s.heap.size _ ho1 hst) ⟨q_1, q_733, hd_X8_requireCodedLayer, rfl, rfl, ⟨Nat.le_of_ble_eq_true rfl, Nat.le_of_ble_eq_true rfl⟩, ⟨Nat.le_of_ble_eq_true rfl, Nat.le_of_ble_eq_true rfl⟩⟩ q_730 q_732 qs_16 rfl rfl ⟨rfl, rfl, rfl, rfl, by decide, rfl, rfl⟩ rfl rfl (Nat.le_of_ble_eq_true rfl) dX8_blocks_2
  have hf := selimr hf
  refine g_tVr (isC := [0]) (isR := [1, 2, 3, 4]) (isP := [4, 0, 1, 2, 3]) (wr := [((r_this 8), gO G 3 (fun k => some (ly_this k))), ((ly_this 0), .inr (3, FX4 r_this_codedLayers_0 i_this_codedLayers_0_step i_this_codedLayers_0_blockCount)), ((ly_this 1), .inr (3, FX4 r_this_codedLayers_1 i_this_codedLayers_1_step i_this_codedLayers_1_blockCount)), ((ly_this 2), .inr (3, FX4 r_this_codedLayers_2 i_this_codedLayers_2_step i_this_codedLayers_2_blockCount))]) (q0 := 0) (w2 := (fun u3 => [(h_this, .inr (7, FX8 r_this i_this_layerCount i_this_hasDecoded i_this_codedCount i_this_codedWidth i_this_codedHeight i_this_replacedSize i_this_replacedPlainSize)), ((r_this 8), gO G 3 (fun k => some (ly_this k))), ((ly_this 0), .inr (3, FX4 r_this_codedLayers_0 i_this_codedLayers_0_step i_this_codedLayers_0_blockCount)), ((ly_this 1), .inr (3, FX4 r_this_codedLayers_1 i_this_codedLayers_1_step i_this_codedLayers_1_blockCount)), ((ly_this 2), .inr (3, FX4 r_this_codedLayers_2 i_this_codedLayers_2_step i_this_codedLayers_2_blockCount))])) X hK hS hZ hA hH hl (ct_X8_requireCodedLayer l G h_this r_this i_this_layerCount i_this_hasDecoded i_this_codedCount i_this_codedWidth i_this_codedHeight i_this_replacedSize i_this_replacedPlainSize p0 s.heap.size _ ho1 hst) ⟨q_1, q_733, hd_X8_requireCodedLayer, rfl, rfl, ⟨Nat.le_of_ble_eq_true rfl, Nat.le_of_ble_eq_true rfl⟩, ⟨Nat.zero_le _, Nat.zero_le _⟩⟩ q_730 q_732 qs_16 rfl rfl (fun _ => ⟨rfl, rfl, rfl, rfl, by decide, rfl, rfl⟩) rfl rfl (Nat.le_of_ble_eq_true rfl) dX8_blocks_2 (fun u3 H locs hH => ?_)
  refine lv_aload_n hx hb dX8_blocks_5 rfl (lv_at hl 0 rfl) ?_
  refine g_get (T := TX8) (N := 18) (ci := 7) (C := RX8) (v := .ref (r_this 8)) X hK hH in_RX8 0 rfl rfl 8 (by decide) q_220 (fun _ h9 => h9) rfl dX8_blocks_6 ?_
  refine lv_iload_n hx hb dX8_blocks_9 rfl (lv_at hl 1 rfl) ?_
  by_cases c5 : p0 = (0 : Int32)
  · have hf := spos hf c5
    refine g_aald X hK hH 1 rfl (k := 0) (c5.trans (by decide : (0 : Int32) = nI 0)) (by decide) dX8_blocks_10 ?_
    refine g_getN (T := TX4) (N := 10) (ci := 3) (C := RX4) (v := .int i_this_codedLayers_0_blockCount) X hK hH in_RX4 2 rfl rfl 1 (by decide) qn_119 (fun _ h9 => h9) rfl dX8_blocks_11 ?_
    obtain rfl := Option.some.inj hf
    exact hE i_this_codedLayers_0_blockCount 0 _ _ _ _ rfl rfl hH dX8_blocks_14
  · have hf := sneg hf c5
    by_cases c6 : p0 = (1 : Int32)
    · have hf := spos hf c6
      refine g_aald X hK hH 1 rfl (k := 1) (c6.trans (by decide : (1 : Int32) = nI 1)) (by decide) dX8_blocks_10 ?_
      refine g_getN (T := TX4) (N := 10) (ci := 3) (C := RX4) (v := .int i_this_codedLayers_1_blockCount) X hK hH in_RX4 3 rfl rfl 1 (by decide) qn_119 (fun _ h9 => h9) rfl dX8_blocks_11 ?_
      obtain rfl := Option.some.inj hf
      exact hE i_this_codedLayers_1_blockCount 0 _ _ _ _ rfl rfl hH dX8_blocks_14
    · have hf := sneg hf c6
      by_cases c7 : p0 = (2 : Int32)
      · have hf := spos hf c7
        refine g_aald X hK hH 1 rfl (k := 2) (c7.trans (by decide : (2 : Int32) = nI 2)) (by decide) dX8_blocks_10 ?_
        refine g_getN (T := TX4) (N := 10) (ci := 3) (C := RX4) (v := .int i_this_codedLayers_2_blockCount) X hK hH in_RX4 4 rfl rfl 1 (by decide) qn_119 (fun _ h9 => h9) rfl dX8_blocks_11 ?_
        obtain rfl := Option.some.inj hf
        exact hE i_this_codedLayers_2_blockCount 0 _ _ _ _ rfl rfl hH dX8_blocks_14
      · have hf := sneg hf c7
        cases hf

def lf_X8_requireCodedPixel (i_this_codedCount : Int32) (i_this_codedHeight : Int32) (i_this_codedWidth : Int32) (p0 : Int32) (p1 : Int32) (p2 : Int32) : Option (Nat ⊕ (Unit)) :=
(lf_X8_requireCodedLayer i_this_codedCount p0).bind fun o1 => Sum.elim (fun kk => some (Sum.inl kk)) (fun r2 => jn (fun (z6 : Unit) => some (Sum.inl 1)) (fun k6 => (if p1 < (0 : Int32) then k6 () else (if i_this_codedWidth ≤ p1 then k6 () else (if p2 < (0 : Int32) then k6 () else (if p2 < i_this_codedHeight then some (Sum.inr ()) else k6 ())))))) o1
abbrev rm_X8_requireCodedPixel (k : Nat) : Room := { frames := 7, cells := k, slots := 6 * k, locals := 119 }
theorem hd_X8_requireCodedPixel : yX8_requireCodedPixel.cls ≠ "java/lang/invoke/MethodHandle" ∧ yX8_requireCodedPixel.cls ≠ "java/lang/invoke/VarHandle" ∧ (parseMethodDescriptor yX8_requireCodedPixel.desc).map (fun d => d.parameters.length) = some 3 := by decide +kernel
set_option maxHeartbeats 4000000 in
set_option maxRecDepth 100000 in
theorem ct_X8_requireCodedPixel (l : Launch) (G : gG) (h_this : Nat) (r_this : Nat → Nat) (i_this_layerCount i_this_hasDecoded i_this_codedCount i_this_codedWidth i_this_codedHeight i_this_replacedSize i_this_replacedPlainSize : Int32) (p0 p1 p2 : Int32) (sz : Nat) (out : Nat ⊕ (Unit)) (hf : lf_X8_requireCodedPixel i_this_codedCount i_this_codedHeight i_this_codedWidth p0 p1 p2 = some out) (hst : l.stackTraces = false) : gTv l G yX8_requireCodedPixel cX8_requireCodedPixel 4 (rm_X8_requireCodedPixel (tc out)) [.ref h_this, .int p0, .int p1, .int p2] sz [(h_this, .inr (7, FX8 r_this i_this_layerCount i_this_hasDecoded i_this_codedCount i_this_codedWidth i_this_codedHeight i_this_replacedSize i_this_replacedPlainSize))] out (fun x u => [(h_this, .inr (7, FX8 r_this i_this_layerCount i_this_hasDecoded i_this_codedCount i_this_codedWidth i_this_codedHeight i_this_replacedSize i_this_replacedPlainSize))]) := by
  refine gTv_of (by decide +kernel) (Nat.le_of_ble_eq_true rfl) ?_
  intro p e s m args below meth c ls A Q X hK hA hsz hH hl hS hZ hno hQ hE
  subst hsz
  have hx := X.1
  have hb := X.2.1
  unfold lf_X8_requireCodedPixel at hf
  have hl : lv_has ls 4 [(0, .ref h_this), (1, .int p0), (2, .int p1), (3, .int p2)] := hl
  have hH : gH G A s.heap s.heap [] [(h_this, .inr (7, FX8 r_this i_this_layerCount i_this_hasDecoded i_this_codedCount i_this_codedWidth i_this_codedHeight i_this_replacedSize i_this_replacedPlainSize))] := hH
  refine lv_aload_n hx hb dX8_requireCodedPixel_0 rfl (lv_at hl 0 rfl) ?_
  refine lv_iload_n hx hb dX8_requireCodedPixel_1 rfl (lv_at hl 1 rfl) ?_
  obtain ⟨o1, ho1, hf⟩ := sbind hf
  rcases o1 with k4 | r2
  · obtain rfl := Option.some.inj hf
    rw [hQ]
    exact g_tVx (isC := [0]) (isR := []) (isP := [0]) (wr := []) (q0 := 0) X hK hS hZ hno hA hH hl (ct_X8_requireCodedLayer l G h_this r_this i_this_layerCount i_this_hasDecoded i_this_codedCount i_this_codedWidth i_this_codedHeight i_this_replacedSize i_this_replacedPlainSize p0 s.heap.size _ ho1 hst) ⟨q_1, q_733, hd_X8_requireCodedLayer, rfl, rfl, ⟨Nat.le_of_ble_eq_true rfl, Nat.le_of_ble_eq_true rfl⟩, ⟨Nat.le_of_ble_eq_true rfl, Nat.le_of_ble_eq_true rfl⟩⟩ q_730 q_732 qs_16 rfl rfl ⟨rfl, rfl, rfl, rfl, by decide, rfl, rfl⟩ rfl rfl (Nat.le_of_ble_eq_true rfl) dX8_requireCodedPixel_2
  have hf := selimr hf
  refine g_tVr (isC := [0]) (isR := []) (isP := [0]) (wr := []) (q0 := 0) (w2 := (fun u3 => [(h_this, .inr (7, FX8 r_this i_this_layerCount i_this_hasDecoded i_this_codedCount i_this_codedWidth i_this_codedHeight i_this_replacedSize i_this_replacedPlainSize))])) X hK hS hZ hA hH hl (ct_X8_requireCodedLayer l G h_this r_this i_this_layerCount i_this_hasDecoded i_this_codedCount i_this_codedWidth i_this_codedHeight i_this_replacedSize i_this_replacedPlainSize p0 s.heap.size _ ho1 hst) ⟨q_1, q_733, hd_X8_requireCodedLayer, rfl, rfl, ⟨Nat.le_of_ble_eq_true rfl, Nat.le_of_ble_eq_true rfl⟩, ⟨Nat.zero_le _, Nat.zero_le _⟩⟩ q_730 q_732 qs_16 rfl rfl (fun _ => ⟨rfl, rfl, rfl, rfl, by decide, rfl, rfl⟩) rfl rfl (Nat.le_of_ble_eq_true rfl) dX8_requireCodedPixel_2 (fun u3 H locs hH => ?_)
  refine lv_iload_n hx hb dX8_requireCodedPixel_5 rfl (lv_at hl 2 rfl) ?_
  obtain ⟨k6, hk6, hf⟩ := sjn hf
  have J6 : ∀  (H : Heap) (locs : List Loc) (ls : Array Slot), k6 () = some out → gH G A s.heap H locs [(h_this, .inr (7, FX8 r_this i_this_layerCount i_this_hasDecoded i_this_codedCount i_this_codedWidth i_this_codedHeight i_this_replacedSize i_this_replacedPlainSize))] → lv_has ls 4 [] → W p l e (rm_X8_requireCodedPixel (tc out)) s m args below meth c H locs 0 0 Q (F0 m 29 ls []) := by
    intro  H locs ls hf hH hl
    have hf := hk6 _ _ hf
    obtain rfl := Option.some.inj hf
    rw [hQ]
    exact g_throwW X hst hK hS hZ hH hl hno 1 atG1 q_314 (List.mem_of_getElem? (i := 17) rfl) dX8_requireCodedPixel_29 dX8_requireCodedPixel_32 dX8_requireCodedPixel_33 dX8_requireCodedPixel_36 dX8_requireCodedPixel_39 ⟨Nat.le_of_ble_eq_true rfl, Nat.le_of_ble_eq_true rfl⟩ ⟨Nat.le_of_ble_eq_true rfl, Nat.le_of_ble_eq_true rfl⟩
  refine lv_if_lt (tgt := 29) hx hb dX8_requireCodedPixel_6 (by decide) (fun c5 => ?_) (fun c5 => ?_)
  · have hf := spos hf c5
    exact J6  _ _ _ hf hH (lv_sub hl [] rfl)
  · have hf := sneg hf c5
    refine lv_iload_n hx hb dX8_requireCodedPixel_9 rfl (lv_at hl 2 rfl) ?_
    refine lv_aload_n hx hb dX8_requireCodedPixel_10 rfl (lv_at hl 0 rfl) ?_
    refine g_get (T := TX8) (N := 18) (ci := 7) (C := RX8) (v := .int i_this_codedWidth) X hK hH in_RX8 0 rfl rfl 10 (by decide) q_222 (fun _ h9 => h9) rfl dX8_requireCodedPixel_11 ?_
    refine lv_icmp_ge (tgt := 29) hx hb dX8_requireCodedPixel_14 (by decide) (fun c7 => ?_) (fun c7 => ?_)
    · have hf := spos hf c7
      exact J6  _ _ _ hf hH (lv_sub hl [] rfl)
    · have hf := sneg hf c7
      refine lv_iload_n hx hb dX8_requireCodedPixel_17 rfl (lv_at hl 3 rfl) ?_
      refine lv_if_lt (tgt := 29) hx hb dX8_requireCodedPixel_18 (by decide) (fun c8 => ?_) (fun c8 => ?_)
      · have hf := spos hf c8
        exact J6  _ _ _ hf hH (lv_sub hl [] rfl)
      · have hf := sneg hf c8
        refine lv_iload_n hx hb dX8_requireCodedPixel_21 rfl (lv_at hl 3 rfl) ?_
        refine lv_aload_n hx hb dX8_requireCodedPixel_22 rfl (lv_at hl 0 rfl) ?_
        refine g_get (T := TX8) (N := 18) (ci := 7) (C := RX8) (v := .int i_this_codedHeight) X hK hH in_RX8 0 rfl rfl 11 (by decide) q_223 (fun _ h9 => h9) rfl dX8_requireCodedPixel_23 ?_
        refine lv_icmp_lt (tgt := 40) hx hb dX8_requireCodedPixel_26 (by decide) (fun c9 => ?_) (fun c9 => ?_)
        · have hf := spos hf c9
          obtain rfl := Option.some.inj hf
          exact hE () 0 _ _ _ _ rfl hH dX8_requireCodedPixel_40
        · have hf := sneg hf c9
          exact J6  _ _ _ hf hH (lv_sub hl [] rfl)

def lf_X8_blockSize (i_this_codedCount : Int32) (i_this_codedHeight : Int32) (i_this_codedWidth : Int32) (t_this_codedLayers_0_sizes : Nat → Int32) (t_this_codedLayers_1_sizes : Nat → Int32) (t_this_codedLayers_2_sizes : Nat → Int32) (p0 : Int32) (p1 : Int32) (p2 : Int32) : Option (Nat ⊕ (Int32)) :=
(lf_X8_requireCodedPixel i_this_codedCount i_this_codedHeight i_this_codedWidth p0 p1 p2).bind fun o1 => Sum.elim (fun kk => some (Sum.inl kk)) (fun r2 => (if p0 = (0 : Int32) then (lf_X4_sizeAt t_this_codedLayers_0_sizes p1 p2).bind fun o5 => some (Sum.inr o5) else (if p0 = (1 : Int32) then (lf_X4_sizeAt t_this_codedLayers_1_sizes p1 p2).bind fun o7 => some (Sum.inr o7) else (if p0 = (2 : Int32) then (lf_X4_sizeAt t_this_codedLayers_2_sizes p1 p2).bind fun o9 => some (Sum.inr o9) else none)))) o1
abbrev rm_X8_blockSize (k : Nat) : Room := { frames := 8, cells := k, slots := 6 * k, locals := 142 }
theorem hd_X8_blockSize : yX8_blockSize.cls ≠ "java/lang/invoke/MethodHandle" ∧ yX8_blockSize.cls ≠ "java/lang/invoke/VarHandle" ∧ (parseMethodDescriptor yX8_blockSize.desc).map (fun d => d.parameters.length) = some 3 := by decide +kernel
set_option maxHeartbeats 4000000 in
set_option maxRecDepth 100000 in
theorem ct_X8_blockSize (l : Launch) (G : gG) (h_this : Nat) (r_this r_this_codedLayers_0 r_this_codedLayers_1 r_this_codedLayers_2 : Nat → Nat) (ly_this : Nat → Nat) (i_this_layerCount i_this_hasDecoded i_this_codedCount i_this_codedWidth i_this_codedHeight i_this_replacedSize i_this_replacedPlainSize i_this_codedLayers_0_step i_this_codedLayers_0_blockCount i_this_codedLayers_1_step i_this_codedLayers_1_blockCount i_this_codedLayers_2_step i_this_codedLayers_2_blockCount : Int32) (t_this_codedLayers_0_sizes t_this_codedLayers_1_sizes t_this_codedLayers_2_sizes : Nat → Int32) (p0 p1 p2 : Int32) (sz : Nat) (out : Nat ⊕ (Int32)) (hf : lf_X8_blockSize i_this_codedCount i_this_codedHeight i_this_codedWidth t_this_codedLayers_0_sizes t_this_codedLayers_1_sizes t_this_codedLayers_2_sizes p0 p1 p2 = some out) (hst : l.stackTraces = false) : gTi l G yX8_blockSize cX8_blockSize 4 .int (rm_X8_blockSize (tc out)) [.ref h_this, .int p0, .int p1, .int p2] sz [(h_this, .inr (7, FX8 r_this i_this_layerCount i_this_hasDecoded i_this_codedCount i_this_codedWidth i_this_codedHeight i_this_replacedSize i_this_replacedPlainSize)), ((r_this 8), gO G 3 (fun k => some (ly_this k))), ((ly_this 0), .inr (3, FX4 r_this_codedLayers_0 i_this_codedLayers_0_step i_this_codedLayers_0_blockCount)), ((r_this_codedLayers_0 3), gA G 6 t_this_codedLayers_0_sizes), ((ly_this 1), .inr (3, FX4 r_this_codedLayers_1 i_this_codedLayers_1_step i_this_codedLayers_1_blockCount)), ((r_this_codedLayers_1 3), gA G 6 t_this_codedLayers_1_sizes), ((ly_this 2), .inr (3, FX4 r_this_codedLayers_2 i_this_codedLayers_2_step i_this_codedLayers_2_blockCount)), ((r_this_codedLayers_2 3), gA G 6 t_this_codedLayers_2_sizes)] out (fun x => x) (fun x u => [(h_this, .inr (7, FX8 r_this i_this_layerCount i_this_hasDecoded i_this_codedCount i_this_codedWidth i_this_codedHeight i_this_replacedSize i_this_replacedPlainSize)), ((r_this 8), gO G 3 (fun k => some (ly_this k))), ((ly_this 0), .inr (3, FX4 r_this_codedLayers_0 i_this_codedLayers_0_step i_this_codedLayers_0_blockCount)), ((r_this_codedLayers_0 3), gA G 6 t_this_codedLayers_0_sizes), ((ly_this 1), .inr (3, FX4 r_this_codedLayers_1 i_this_codedLayers_1_step i_this_codedLayers_1_blockCount)), ((r_this_codedLayers_1 3), gA G 6 t_this_codedLayers_1_sizes), ((ly_this 2), .inr (3, FX4 r_this_codedLayers_2 i_this_codedLayers_2_step i_this_codedLayers_2_blockCount)), ((r_this_codedLayers_2 3), gA G 6 t_this_codedLayers_2_sizes)]) := by
  refine gTi_of (by decide +kernel) (Nat.le_of_ble_eq_true rfl) ?_
  intro p e s m args below meth c ls A Q X hK hA hsz hH hl hS hZ hno hQ hE
  subst hsz
  have hx := X.1
  have hb := X.2.1
  unfold lf_X8_blockSize at hf
  have hl : lv_has ls 4 [(0, .ref h_this), (1, .int p0), (2, .int p1), (3, .int p2)] := hl
  have hH : gH G A s.heap s.heap [] [(h_this, .inr (7, FX8 r_this i_this_layerCount i_this_hasDecoded i_this_codedCount i_this_codedWidth i_this_codedHeight i_this_replacedSize i_this_replacedPlainSize)), ((r_this 8), gO G 3 (fun k => some (ly_this k))), ((ly_this 0), .inr (3, FX4 r_this_codedLayers_0 i_this_codedLayers_0_step i_this_codedLayers_0_blockCount)), ((r_this_codedLayers_0 3), gA G 6 t_this_codedLayers_0_sizes), ((ly_this 1), .inr (3, FX4 r_this_codedLayers_1 i_this_codedLayers_1_step i_this_codedLayers_1_blockCount)), ((r_this_codedLayers_1 3), gA G 6 t_this_codedLayers_1_sizes), ((ly_this 2), .inr (3, FX4 r_this_codedLayers_2 i_this_codedLayers_2_step i_this_codedLayers_2_blockCount)), ((r_this_codedLayers_2 3), gA G 6 t_this_codedLayers_2_sizes)] := hH
  refine lv_aload_n hx hb dX8_blockSize_0 rfl (lv_at hl 0 rfl) ?_
  refine lv_iload_n hx hb dX8_blockSize_1 rfl (lv_at hl 1 rfl) ?_
  refine lv_iload_n hx hb dX8_blockSize_2 rfl (lv_at hl 2 rfl) ?_
  refine lv_iload_n hx hb dX8_blockSize_3 rfl (lv_at hl 3 rfl) ?_
  obtain ⟨o1, ho1, hf⟩ := sbind hf
  rcases o1 with k4 | r2
  · obtain rfl := Option.some.inj hf
    rw [hQ]
    exact g_tVx (isC := [0]) (isR := [1, 2, 3, 4, 5, 6, 7]) (isP := [7, 0, 1, 2, 3, 4, 5, 6]) (wr := [((r_this 8), gO G 3 (fun k => some (ly_this k))), ((ly_this 0), .inr (3, FX4 r_this_codedLayers_0 i_this_codedLayers_0_step i_this_codedLayers_0_blockCount)), ((r_this_codedLayers_0 3), gA G 6 t_this_codedLayers_0_sizes), ((ly_this 1), .inr (3, FX4 r_this_codedLayers_1 i_this_codedLayers_1_step i_this_codedLayers_1_blockCount)), ((r_this_codedLayers_1 3), gA G 6 t_this_codedLayers_1_sizes), ((ly_this 2), .inr (3, FX4 r_this_codedLayers_2 i_this_codedLayers_2_step i_this_codedLayers_2_blockCount)), ((r_this_codedLayers_2 3), gA G 6 t_this_codedLayers_2_sizes)]) (q0 := 0) X hK hS hZ hno hA hH hl (ct_X8_requireCodedPixel l G h_this r_this i_this_layerCount i_this_hasDecoded i_this_codedCount i_this_codedWidth i_this_codedHeight i_this_replacedSize i_this_replacedPlainSize p0 p1 p2 s.heap.size _ ho1 hst) ⟨q_1, q_1427, hd_X8_requireCodedPixel, rfl, rfl, ⟨Nat.le_of_ble_eq_true rfl, Nat.le_of_ble_eq_true rfl⟩, ⟨Nat.le_of_ble_eq_true rfl, Nat.le_of_ble_eq_true rfl⟩⟩ q_1424 q_1426 qs_39 rfl rfl ⟨rfl, rfl, rfl, rfl, by decide, rfl, rfl⟩ rfl rfl (Nat.le_of_ble_eq_true rfl) dX8_blockSize_4
  have hf := selimr hf
  refine g_tVr (isC := [0]) (isR := [1, 2, 3, 4, 5, 6, 7]) (isP := [7, 0, 1, 2, 3, 4, 5, 6]) (wr := [((r_this 8), gO G 3 (fun k => some (ly_this k))), ((ly_this 0), .inr (3, FX4 r_this_codedLayers_0 i_this_codedLayers_0_step i_this_codedLayers_0_blockCount)), ((r_this_codedLayers_0 3), gA G 6 t_this_codedLayers_0_sizes), ((ly_this 1), .inr (3, FX4 r_this_codedLayers_1 i_this_codedLayers_1_step i_this_codedLayers_1_blockCount)), ((r_this_codedLayers_1 3), gA G 6 t_this_codedLayers_1_sizes), ((ly_this 2), .inr (3, FX4 r_this_codedLayers_2 i_this_codedLayers_2_step i_this_codedLayers_2_blockCount)), ((r_this_codedLayers_2 3), gA G 6 t_this_codedLayers_2_sizes)]) (q0 := 0) (w2 := (fun u3 => [(h_this, .inr (7, FX8 r_this i_this_layerCount i_this_hasDecoded i_this_codedCount i_this_codedWidth i_this_codedHeight i_this_replacedSize i_this_replacedPlainSize)), ((r_this 8), gO G 3 (fun k => some (ly_this k))), ((ly_this 0), .inr (3, FX4 r_this_codedLayers_0 i_this_codedLayers_0_step i_this_codedLayers_0_blockCount)), ((r_this_codedLayers_0 3), gA G 6 t_this_codedLayers_0_sizes), ((ly_this 1), .inr (3, FX4 r_this_codedLayers_1 i_this_codedLayers_1_step i_this_codedLayers_1_blockCount)), ((r_this_codedLayers_1 3), gA G 6 t_this_codedLayers_1_sizes), ((ly_this 2), .inr (3, FX4 r_this_codedLayers_2 i_this_codedLayers_2_step i_this_codedLayers_2_blockCount)), ((r_this_codedLayers_2 3), gA G 6 t_this_codedLayers_2_sizes)])) X hK hS hZ hA hH hl (ct_X8_requireCodedPixel l G h_this r_this i_this_layerCount i_this_hasDecoded i_this_codedCount i_this_codedWidth i_this_codedHeight i_this_replacedSize i_this_replacedPlainSize p0 p1 p2 s.heap.size _ ho1 hst) ⟨q_1, q_1427, hd_X8_requireCodedPixel, rfl, rfl, ⟨Nat.le_of_ble_eq_true rfl, Nat.le_of_ble_eq_true rfl⟩, ⟨Nat.zero_le _, Nat.zero_le _⟩⟩ q_1424 q_1426 qs_39 rfl rfl (fun _ => ⟨rfl, rfl, rfl, rfl, by decide, rfl, rfl⟩) rfl rfl (Nat.le_of_ble_eq_true rfl) dX8_blockSize_4 (fun u3 H locs hH => ?_)
  refine lv_aload_n hx hb dX8_blockSize_7 rfl (lv_at hl 0 rfl) ?_
  refine g_get (T := TX8) (N := 18) (ci := 7) (C := RX8) (v := .ref (r_this 8)) X hK hH in_RX8 0 rfl rfl 8 (by decide) q_220 (fun _ h9 => h9) rfl dX8_blockSize_8 ?_
  refine lv_iload_n hx hb dX8_blockSize_11 rfl (lv_at hl 1 rfl) ?_
  by_cases c6 : p0 = (0 : Int32)
  · have hf := spos hf c6
    refine g_aald X hK hH 1 rfl (k := 0) (c6.trans (by decide : (0 : Int32) = nI 0)) (by decide) dX8_blockSize_12 ?_
    refine lv_iload_n hx hb dX8_blockSize_13 rfl (lv_at hl 2 rfl) ?_
    refine lv_iload_n hx hb dX8_blockSize_14 rfl (lv_at hl 3 rfl) ?_
    obtain ⟨o5, ho5, hf⟩ := sbind hf
    refine g_cVi (isC := [2, 3]) (isR := [0, 1, 4, 5, 6, 7]) (isP := [0, 1, 6, 7, 2, 3, 4, 5]) (wr := [(h_this, .inr (7, FX8 r_this i_this_layerCount i_this_hasDecoded i_this_codedCount i_this_codedWidth i_this_codedHeight i_this_replacedSize i_this_replacedPlainSize)), ((r_this 8), gO G 3 (fun k => some (ly_this k))), ((ly_this 1), .inr (3, FX4 r_this_codedLayers_1 i_this_codedLayers_1_step i_this_codedLayers_1_blockCount)), ((r_this_codedLayers_1 3), gA G 6 t_this_codedLayers_1_sizes), ((ly_this 2), .inr (3, FX4 r_this_codedLayers_2 i_this_codedLayers_2_step i_this_codedLayers_2_blockCount)), ((r_this_codedLayers_2 3), gA G 6 t_this_codedLayers_2_sizes)]) (w2 := [(h_this, .inr (7, FX8 r_this i_this_layerCount i_this_hasDecoded i_this_codedCount i_this_codedWidth i_this_codedHeight i_this_replacedSize i_this_replacedPlainSize)), ((r_this 8), gO G 3 (fun k => some (ly_this k))), ((ly_this 0), .inr (3, FX4 r_this_codedLayers_0 i_this_codedLayers_0_step i_this_codedLayers_0_blockCount)), ((r_this_codedLayers_0 3), gA G 6 t_this_codedLayers_0_sizes), ((ly_this 1), .inr (3, FX4 r_this_codedLayers_1 i_this_codedLayers_1_step i_this_codedLayers_1_blockCount)), ((r_this_codedLayers_1 3), gA G 6 t_this_codedLayers_1_sizes), ((ly_this 2), .inr (3, FX4 r_this_codedLayers_2 i_this_codedLayers_2_step i_this_codedLayers_2_blockCount)), ((r_this_codedLayers_2 3), gA G 6 t_this_codedLayers_2_sizes)]) (q0 := 2) X hK hA hH hl (ct_X4_sizeAt l G (ly_this 0) r_this_codedLayers_0 i_this_codedLayers_0_step i_this_codedLayers_0_blockCount t_this_codedLayers_0_sizes p1 p2 H.size o5 ho5) ⟨q_4, q_557, hd_X4_sizeAt, rfl, rfl, ⟨Nat.le_of_ble_eq_true rfl, Nat.le_of_ble_eq_true rfl⟩, ⟨Nat.zero_le _, Nat.zero_le _⟩⟩ q_554 q_555 q_556 rfl rfl ⟨rfl, rfl, rfl, rfl, by decide, rfl, rfl⟩ rfl rfl (Nat.le_of_ble_eq_true rfl) dX8_blockSize_15 (fun H locs hH => ?_)
    obtain rfl := Option.some.inj hf
    exact hE o5 0 _ _ _ _ rfl rfl hH dX8_blockSize_18
  · have hf := sneg hf c6
    by_cases c8 : p0 = (1 : Int32)
    · have hf := spos hf c8
      refine g_aald X hK hH 1 rfl (k := 1) (c8.trans (by decide : (1 : Int32) = nI 1)) (by decide) dX8_blockSize_12 ?_
      refine lv_iload_n hx hb dX8_blockSize_13 rfl (lv_at hl 2 rfl) ?_
      refine lv_iload_n hx hb dX8_blockSize_14 rfl (lv_at hl 3 rfl) ?_
      obtain ⟨o7, ho7, hf⟩ := sbind hf
      refine g_cVi (isC := [4, 5]) (isR := [0, 1, 2, 3, 6, 7]) (isP := [0, 1, 2, 3, 6, 7, 4, 5]) (wr := [(h_this, .inr (7, FX8 r_this i_this_layerCount i_this_hasDecoded i_this_codedCount i_this_codedWidth i_this_codedHeight i_this_replacedSize i_this_replacedPlainSize)), ((r_this 8), gO G 3 (fun k => some (ly_this k))), ((ly_this 0), .inr (3, FX4 r_this_codedLayers_0 i_this_codedLayers_0_step i_this_codedLayers_0_blockCount)), ((r_this_codedLayers_0 3), gA G 6 t_this_codedLayers_0_sizes), ((ly_this 2), .inr (3, FX4 r_this_codedLayers_2 i_this_codedLayers_2_step i_this_codedLayers_2_blockCount)), ((r_this_codedLayers_2 3), gA G 6 t_this_codedLayers_2_sizes)]) (w2 := [(h_this, .inr (7, FX8 r_this i_this_layerCount i_this_hasDecoded i_this_codedCount i_this_codedWidth i_this_codedHeight i_this_replacedSize i_this_replacedPlainSize)), ((r_this 8), gO G 3 (fun k => some (ly_this k))), ((ly_this 0), .inr (3, FX4 r_this_codedLayers_0 i_this_codedLayers_0_step i_this_codedLayers_0_blockCount)), ((r_this_codedLayers_0 3), gA G 6 t_this_codedLayers_0_sizes), ((ly_this 1), .inr (3, FX4 r_this_codedLayers_1 i_this_codedLayers_1_step i_this_codedLayers_1_blockCount)), ((r_this_codedLayers_1 3), gA G 6 t_this_codedLayers_1_sizes), ((ly_this 2), .inr (3, FX4 r_this_codedLayers_2 i_this_codedLayers_2_step i_this_codedLayers_2_blockCount)), ((r_this_codedLayers_2 3), gA G 6 t_this_codedLayers_2_sizes)]) (q0 := 4) X hK hA hH hl (ct_X4_sizeAt l G (ly_this 1) r_this_codedLayers_1 i_this_codedLayers_1_step i_this_codedLayers_1_blockCount t_this_codedLayers_1_sizes p1 p2 H.size o7 ho7) ⟨q_4, q_557, hd_X4_sizeAt, rfl, rfl, ⟨Nat.le_of_ble_eq_true rfl, Nat.le_of_ble_eq_true rfl⟩, ⟨Nat.zero_le _, Nat.zero_le _⟩⟩ q_554 q_555 q_556 rfl rfl ⟨rfl, rfl, rfl, rfl, by decide, rfl, rfl⟩ rfl rfl (Nat.le_of_ble_eq_true rfl) dX8_blockSize_15 (fun H locs hH => ?_)
      obtain rfl := Option.some.inj hf
      exact hE o7 0 _ _ _ _ rfl rfl hH dX8_blockSize_18
    · have hf := sneg hf c8
      by_cases c10 : p0 = (2 : Int32)
      · have hf := spos hf c10
        refine g_aald X hK hH 1 rfl (k := 2) (c10.trans (by decide : (2 : Int32) = nI 2)) (by decide) dX8_blockSize_12 ?_
        refine lv_iload_n hx hb dX8_blockSize_13 rfl (lv_at hl 2 rfl) ?_
        refine lv_iload_n hx hb dX8_blockSize_14 rfl (lv_at hl 3 rfl) ?_
        obtain ⟨o9, ho9, hf⟩ := sbind hf
        refine g_cVi (isC := [6, 7]) (isR := [0, 1, 2, 3, 4, 5]) (isP := [0, 1, 2, 3, 4, 5, 6, 7]) (wr := [(h_this, .inr (7, FX8 r_this i_this_layerCount i_this_hasDecoded i_this_codedCount i_this_codedWidth i_this_codedHeight i_this_replacedSize i_this_replacedPlainSize)), ((r_this 8), gO G 3 (fun k => some (ly_this k))), ((ly_this 0), .inr (3, FX4 r_this_codedLayers_0 i_this_codedLayers_0_step i_this_codedLayers_0_blockCount)), ((r_this_codedLayers_0 3), gA G 6 t_this_codedLayers_0_sizes), ((ly_this 1), .inr (3, FX4 r_this_codedLayers_1 i_this_codedLayers_1_step i_this_codedLayers_1_blockCount)), ((r_this_codedLayers_1 3), gA G 6 t_this_codedLayers_1_sizes)]) (w2 := [(h_this, .inr (7, FX8 r_this i_this_layerCount i_this_hasDecoded i_this_codedCount i_this_codedWidth i_this_codedHeight i_this_replacedSize i_this_replacedPlainSize)), ((r_this 8), gO G 3 (fun k => some (ly_this k))), ((ly_this 0), .inr (3, FX4 r_this_codedLayers_0 i_this_codedLayers_0_step i_this_codedLayers_0_blockCount)), ((r_this_codedLayers_0 3), gA G 6 t_this_codedLayers_0_sizes), ((ly_this 1), .inr (3, FX4 r_this_codedLayers_1 i_this_codedLayers_1_step i_this_codedLayers_1_blockCount)), ((r_this_codedLayers_1 3), gA G 6 t_this_codedLayers_1_sizes), ((ly_this 2), .inr (3, FX4 r_this_codedLayers_2 i_this_codedLayers_2_step i_this_codedLayers_2_blockCount)), ((r_this_codedLayers_2 3), gA G 6 t_this_codedLayers_2_sizes)]) (q0 := 6) X hK hA hH hl (ct_X4_sizeAt l G (ly_this 2) r_this_codedLayers_2 i_this_codedLayers_2_step i_this_codedLayers_2_blockCount t_this_codedLayers_2_sizes p1 p2 H.size o9 ho9) ⟨q_4, q_557, hd_X4_sizeAt, rfl, rfl, ⟨Nat.le_of_ble_eq_true rfl, Nat.le_of_ble_eq_true rfl⟩, ⟨Nat.zero_le _, Nat.zero_le _⟩⟩ q_554 q_555 q_556 rfl rfl ⟨rfl, rfl, rfl, rfl, by decide, rfl, rfl⟩ rfl rfl (Nat.le_of_ble_eq_true rfl) dX8_blockSize_15 (fun H locs hH => ?_)
        obtain rfl := Option.some.inj hf
        exact hE o9 0 _ _ _ _ rfl rfl hH dX8_blockSize_18
      · have hf := sneg hf c10
        cases hf

def lf_X8_level (i_this_codedCount : Int32) (i_this_codedHeight : Int32) (i_this_codedWidth : Int32) (t_this_codedLayers_0_levels : Nat → Int32) (t_this_codedLayers_1_levels : Nat → Int32) (t_this_codedLayers_2_levels : Nat → Int32) (p0 : Int32) (p1 : Int32) (p2 : Int32) : Option (Nat ⊕ (Int32)) :=
(lf_X8_requireCodedPixel i_this_codedCount i_this_codedHeight i_this_codedWidth p0 p1 p2).bind fun o1 => Sum.elim (fun kk => some (Sum.inl kk)) (fun r2 => (if p0 = (0 : Int32) then (rdA 384 t_this_codedLayers_0_levels ((p2 * (16 : Int32)) + p1)).bind fun x5 => some (Sum.inr x5) else (if p0 = (1 : Int32) then (rdA 384 t_this_codedLayers_1_levels ((p2 * (16 : Int32)) + p1)).bind fun x7 => some (Sum.inr x7) else (if p0 = (2 : Int32) then (rdA 384 t_this_codedLayers_2_levels ((p2 * (16 : Int32)) + p1)).bind fun x9 => some (Sum.inr x9) else none)))) o1
abbrev rm_X8_level (k : Nat) : Room := { frames := 8, cells := k, slots := 6 * k, locals := 142 }
theorem hd_X8_level : yX8_level.cls ≠ "java/lang/invoke/MethodHandle" ∧ yX8_level.cls ≠ "java/lang/invoke/VarHandle" ∧ (parseMethodDescriptor yX8_level.desc).map (fun d => d.parameters.length) = some 3 := by decide +kernel
set_option maxHeartbeats 4000000 in
set_option maxRecDepth 100000 in
theorem ct_X8_level (l : Launch) (G : gG) (h_this : Nat) (r_this r_this_codedLayers_0 r_this_codedLayers_1 r_this_codedLayers_2 : Nat → Nat) (ly_this : Nat → Nat) (i_this_layerCount i_this_hasDecoded i_this_codedCount i_this_codedWidth i_this_codedHeight i_this_replacedSize i_this_replacedPlainSize i_this_codedLayers_0_step i_this_codedLayers_0_blockCount i_this_codedLayers_1_step i_this_codedLayers_1_blockCount i_this_codedLayers_2_step i_this_codedLayers_2_blockCount : Int32) (t_this_codedLayers_0_levels t_this_codedLayers_1_levels t_this_codedLayers_2_levels : Nat → Int32) (p0 p1 p2 : Int32) (sz : Nat) (out : Nat ⊕ (Int32)) (hf : lf_X8_level i_this_codedCount i_this_codedHeight i_this_codedWidth t_this_codedLayers_0_levels t_this_codedLayers_1_levels t_this_codedLayers_2_levels p0 p1 p2 = some out) (hst : l.stackTraces = false) : gTi l G yX8_level cX8_level 4 .int (rm_X8_level (tc out)) [.ref h_this, .int p0, .int p1, .int p2] sz [(h_this, .inr (7, FX8 r_this i_this_layerCount i_this_hasDecoded i_this_codedCount i_this_codedWidth i_this_codedHeight i_this_replacedSize i_this_replacedPlainSize)), ((r_this 8), gO G 3 (fun k => some (ly_this k))), ((ly_this 0), .inr (3, FX4 r_this_codedLayers_0 i_this_codedLayers_0_step i_this_codedLayers_0_blockCount)), ((r_this_codedLayers_0 6), gA G 384 t_this_codedLayers_0_levels), ((ly_this 1), .inr (3, FX4 r_this_codedLayers_1 i_this_codedLayers_1_step i_this_codedLayers_1_blockCount)), ((r_this_codedLayers_1 6), gA G 384 t_this_codedLayers_1_levels), ((ly_this 2), .inr (3, FX4 r_this_codedLayers_2 i_this_codedLayers_2_step i_this_codedLayers_2_blockCount)), ((r_this_codedLayers_2 6), gA G 384 t_this_codedLayers_2_levels)] out (fun x => x) (fun x u => [(h_this, .inr (7, FX8 r_this i_this_layerCount i_this_hasDecoded i_this_codedCount i_this_codedWidth i_this_codedHeight i_this_replacedSize i_this_replacedPlainSize)), ((r_this 8), gO G 3 (fun k => some (ly_this k))), ((ly_this 0), .inr (3, FX4 r_this_codedLayers_0 i_this_codedLayers_0_step i_this_codedLayers_0_blockCount)), ((r_this_codedLayers_0 6), gA G 384 t_this_codedLayers_0_levels), ((ly_this 1), .inr (3, FX4 r_this_codedLayers_1 i_this_codedLayers_1_step i_this_codedLayers_1_blockCount)), ((r_this_codedLayers_1 6), gA G 384 t_this_codedLayers_1_levels), ((ly_this 2), .inr (3, FX4 r_this_codedLayers_2 i_this_codedLayers_2_step i_this_codedLayers_2_blockCount)), ((r_this_codedLayers_2 6), gA G 384 t_this_codedLayers_2_levels)]) := by
  refine gTi_of (by decide +kernel) (Nat.le_of_ble_eq_true rfl) ?_
  intro p e s m args below meth c ls A Q X hK hA hsz hH hl hS hZ hno hQ hE
  subst hsz
  have hx := X.1
  have hb := X.2.1
  unfold lf_X8_level at hf
  have hl : lv_has ls 4 [(0, .ref h_this), (1, .int p0), (2, .int p1), (3, .int p2)] := hl
  have hH : gH G A s.heap s.heap [] [(h_this, .inr (7, FX8 r_this i_this_layerCount i_this_hasDecoded i_this_codedCount i_this_codedWidth i_this_codedHeight i_this_replacedSize i_this_replacedPlainSize)), ((r_this 8), gO G 3 (fun k => some (ly_this k))), ((ly_this 0), .inr (3, FX4 r_this_codedLayers_0 i_this_codedLayers_0_step i_this_codedLayers_0_blockCount)), ((r_this_codedLayers_0 6), gA G 384 t_this_codedLayers_0_levels), ((ly_this 1), .inr (3, FX4 r_this_codedLayers_1 i_this_codedLayers_1_step i_this_codedLayers_1_blockCount)), ((r_this_codedLayers_1 6), gA G 384 t_this_codedLayers_1_levels), ((ly_this 2), .inr (3, FX4 r_this_codedLayers_2 i_this_codedLayers_2_step i_this_codedLayers_2_blockCount)), ((r_this_codedLayers_2 6), gA G 384 t_this_codedLayers_2_levels)] := hH
  refine lv_aload_n hx hb dX8_level_0 rfl (lv_at hl 0 rfl) ?_
  refine lv_iload_n hx hb dX8_level_1 rfl (lv_at hl 1 rfl) ?_
  refine lv_iload_n hx hb dX8_level_2 rfl (lv_at hl 2 rfl) ?_
  refine lv_iload_n hx hb dX8_level_3 rfl (lv_at hl 3 rfl) ?_
  obtain ⟨o1, ho1, hf⟩ := sbind hf
  rcases o1 with k4 | r2
  · obtain rfl := Option.some.inj hf
    rw [hQ]
    exact g_tVx (isC := [0]) (isR := [1, 2, 3, 4, 5, 6, 7]) (isP := [7, 0, 1, 2, 3, 4, 5, 6]) (wr := [((r_this 8), gO G 3 (fun k => some (ly_this k))), ((ly_this 0), .inr (3, FX4 r_this_codedLayers_0 i_this_codedLayers_0_step i_this_codedLayers_0_blockCount)), ((r_this_codedLayers_0 6), gA G 384 t_this_codedLayers_0_levels), ((ly_this 1), .inr (3, FX4 r_this_codedLayers_1 i_this_codedLayers_1_step i_this_codedLayers_1_blockCount)), ((r_this_codedLayers_1 6), gA G 384 t_this_codedLayers_1_levels), ((ly_this 2), .inr (3, FX4 r_this_codedLayers_2 i_this_codedLayers_2_step i_this_codedLayers_2_blockCount)), ((r_this_codedLayers_2 6), gA G 384 t_this_codedLayers_2_levels)]) (q0 := 0) X hK hS hZ hno hA hH hl (ct_X8_requireCodedPixel l G h_this r_this i_this_layerCount i_this_hasDecoded i_this_codedCount i_this_codedWidth i_this_codedHeight i_this_replacedSize i_this_replacedPlainSize p0 p1 p2 s.heap.size _ ho1 hst) ⟨q_1, q_1427, hd_X8_requireCodedPixel, rfl, rfl, ⟨Nat.le_of_ble_eq_true rfl, Nat.le_of_ble_eq_true rfl⟩, ⟨Nat.le_of_ble_eq_true rfl, Nat.le_of_ble_eq_true rfl⟩⟩ q_1424 q_1426 qs_39 rfl rfl ⟨rfl, rfl, rfl, rfl, by decide, rfl, rfl⟩ rfl rfl (Nat.le_of_ble_eq_true rfl) dX8_level_4
  have hf := selimr hf
  refine g_tVr (isC := [0]) (isR := [1, 2, 3, 4, 5, 6, 7]) (isP := [7, 0, 1, 2, 3, 4, 5, 6]) (wr := [((r_this 8), gO G 3 (fun k => some (ly_this k))), ((ly_this 0), .inr (3, FX4 r_this_codedLayers_0 i_this_codedLayers_0_step i_this_codedLayers_0_blockCount)), ((r_this_codedLayers_0 6), gA G 384 t_this_codedLayers_0_levels), ((ly_this 1), .inr (3, FX4 r_this_codedLayers_1 i_this_codedLayers_1_step i_this_codedLayers_1_blockCount)), ((r_this_codedLayers_1 6), gA G 384 t_this_codedLayers_1_levels), ((ly_this 2), .inr (3, FX4 r_this_codedLayers_2 i_this_codedLayers_2_step i_this_codedLayers_2_blockCount)), ((r_this_codedLayers_2 6), gA G 384 t_this_codedLayers_2_levels)]) (q0 := 0) (w2 := (fun u3 => [(h_this, .inr (7, FX8 r_this i_this_layerCount i_this_hasDecoded i_this_codedCount i_this_codedWidth i_this_codedHeight i_this_replacedSize i_this_replacedPlainSize)), ((r_this 8), gO G 3 (fun k => some (ly_this k))), ((ly_this 0), .inr (3, FX4 r_this_codedLayers_0 i_this_codedLayers_0_step i_this_codedLayers_0_blockCount)), ((r_this_codedLayers_0 6), gA G 384 t_this_codedLayers_0_levels), ((ly_this 1), .inr (3, FX4 r_this_codedLayers_1 i_this_codedLayers_1_step i_this_codedLayers_1_blockCount)), ((r_this_codedLayers_1 6), gA G 384 t_this_codedLayers_1_levels), ((ly_this 2), .inr (3, FX4 r_this_codedLayers_2 i_this_codedLayers_2_step i_this_codedLayers_2_blockCount)), ((r_this_codedLayers_2 6), gA G 384 t_this_codedLayers_2_levels)])) X hK hS hZ hA hH hl (ct_X8_requireCodedPixel l G h_this r_this i_this_layerCount i_this_hasDecoded i_this_codedCount i_this_codedWidth i_this_codedHeight i_this_replacedSize i_this_replacedPlainSize p0 p1 p2 s.heap.size _ ho1 hst) ⟨q_1, q_1427, hd_X8_requireCodedPixel, rfl, rfl, ⟨Nat.le_of_ble_eq_true rfl, Nat.le_of_ble_eq_true rfl⟩, ⟨Nat.zero_le _, Nat.zero_le _⟩⟩ q_1424 q_1426 qs_39 rfl rfl (fun _ => ⟨rfl, rfl, rfl, rfl, by decide, rfl, rfl⟩) rfl rfl (Nat.le_of_ble_eq_true rfl) dX8_level_4 (fun u3 H locs hH => ?_)
  refine lv_aload_n hx hb dX8_level_7 rfl (lv_at hl 0 rfl) ?_
  refine g_get (T := TX8) (N := 18) (ci := 7) (C := RX8) (v := .ref (r_this 8)) X hK hH in_RX8 0 rfl rfl 8 (by decide) q_220 (fun _ h9 => h9) rfl dX8_level_8 ?_
  refine lv_iload_n hx hb dX8_level_11 rfl (lv_at hl 1 rfl) ?_
  by_cases c6 : p0 = (0 : Int32)
  · have hf := spos hf c6
    refine g_aald X hK hH 1 rfl (k := 0) (c6.trans (by decide : (0 : Int32) = nI 0)) (by decide) dX8_level_12 ?_
    refine g_getN (T := TX4) (N := 10) (ci := 3) (C := RX4) (v := .ref (r_this_codedLayers_0 6)) X hK hH in_RX4 2 rfl rfl 6 (by decide) qn_128 (fun _ h9 => h9) rfl dX8_level_13 ?_
    refine lv_iload_n hx hb dX8_level_16 rfl (lv_at hl 3 rfl) ?_
    refine lv_bipush (v := (16 : Int32)) hx hb dX8_level_17 (by decide) ?_
    refine lv_imul hx hb dX8_level_19 ?_
    refine lv_iload_n hx hb dX8_level_20 rfl (lv_at hl 2 rfl) ?_
    refine lv_iadd hx hb dX8_level_21 ?_
    obtain ⟨x5, hx5, hf⟩ := sbind hf
    refine g_ald X hK hH 3 rfl hx5 dX8_level_22 ?_
    obtain rfl := Option.some.inj hf
    exact hE x5 0 _ _ _ _ rfl rfl hH dX8_level_23
  · have hf := sneg hf c6
    by_cases c8 : p0 = (1 : Int32)
    · have hf := spos hf c8
      refine g_aald X hK hH 1 rfl (k := 1) (c8.trans (by decide : (1 : Int32) = nI 1)) (by decide) dX8_level_12 ?_
      refine g_getN (T := TX4) (N := 10) (ci := 3) (C := RX4) (v := .ref (r_this_codedLayers_1 6)) X hK hH in_RX4 4 rfl rfl 6 (by decide) qn_128 (fun _ h9 => h9) rfl dX8_level_13 ?_
      refine lv_iload_n hx hb dX8_level_16 rfl (lv_at hl 3 rfl) ?_
      refine lv_bipush (v := (16 : Int32)) hx hb dX8_level_17 (by decide) ?_
      refine lv_imul hx hb dX8_level_19 ?_
      refine lv_iload_n hx hb dX8_level_20 rfl (lv_at hl 2 rfl) ?_
      refine lv_iadd hx hb dX8_level_21 ?_
      obtain ⟨x7, hx7, hf⟩ := sbind hf
      refine g_ald X hK hH 5 rfl hx7 dX8_level_22 ?_
      obtain rfl := Option.some.inj hf
      exact hE x7 0 _ _ _ _ rfl rfl hH dX8_level_23
    · have hf := sneg hf c8
      by_cases c10 : p0 = (2 : Int32)
      · have hf := spos hf c10
        refine g_aald X hK hH 1 rfl (k := 2) (c10.trans (by decide : (2 : Int32) = nI 2)) (by decide) dX8_level_12 ?_
        refine g_getN (T := TX4) (N := 10) (ci := 3) (C := RX4) (v := .ref (r_this_codedLayers_2 6)) X hK hH in_RX4 6 rfl rfl 6 (by decide) qn_128 (fun _ h9 => h9) rfl dX8_level_13 ?_
        refine lv_iload_n hx hb dX8_level_16 rfl (lv_at hl 3 rfl) ?_
        refine lv_bipush (v := (16 : Int32)) hx hb dX8_level_17 (by decide) ?_
        refine lv_imul hx hb dX8_level_19 ?_
        refine lv_iload_n hx hb dX8_level_20 rfl (lv_at hl 2 rfl) ?_
        refine lv_iadd hx hb dX8_level_21 ?_
        obtain ⟨x9, hx9, hf⟩ := sbind hf
        refine g_ald X hK hH 7 rfl hx9 dX8_level_22 ?_
        obtain rfl := Option.some.inj hf
        exact hE x9 0 _ _ _ _ rfl rfl hH dX8_level_23
      · have hf := sneg hf c10
        cases hf

def lf_X8_cost (i_this_codedCount : Int32) (i_this_codedHeight : Int32) (i_this_codedWidth : Int32) (t_this_codedLayers_0_costs : Nat → Int32) (t_this_codedLayers_0_sizes : Nat → Int32) (t_this_codedLayers_1_costs : Nat → Int32) (t_this_codedLayers_1_sizes : Nat → Int32) (t_this_codedLayers_2_costs : Nat → Int32) (t_this_codedLayers_2_sizes : Nat → Int32) (p0 : Int32) (p1 : Int32) (p2 : Int32) : Option (Nat ⊕ (Int32)) :=
(lf_X8_requireCodedPixel i_this_codedCount i_this_codedHeight i_this_codedWidth p0 p1 p2).bind fun o1 => Sum.elim (fun kk => some (Sum.inl kk)) (fun r2 => (if p0 = (0 : Int32) then (if p0 = (0 : Int32) then (lf_X4_firstCell t_this_codedLayers_0_sizes p1 p2).bind fun o5 => (rdA 24 t_this_codedLayers_0_costs o5).bind fun x6 => some (Sum.inr x6) else (if p0 = (1 : Int32) then (lf_X4_firstCell t_this_codedLayers_1_sizes p1 p2).bind fun o8 => (rdA 24 t_this_codedLayers_0_costs o8).bind fun x9 => some (Sum.inr x9) else (if p0 = (2 : Int32) then (lf_X4_firstCell t_this_codedLayers_2_sizes p1 p2).bind fun o11 => (rdA 24 t_this_codedLayers_0_costs o11).bind fun x12 => some (Sum.inr x12) else none))) else (if p0 = (1 : Int32) then (if p0 = (0 : Int32) then (lf_X4_firstCell t_this_codedLayers_0_sizes p1 p2).bind fun o15 => (rdA 24 t_this_codedLayers_1_costs o15).bind fun x16 => some (Sum.inr x16) else (if p0 = (1 : Int32) then (lf_X4_firstCell t_this_codedLayers_1_sizes p1 p2).bind fun o18 => (rdA 24 t_this_codedLayers_1_costs o18).bind fun x19 => some (Sum.inr x19) else (if p0 = (2 : Int32) then (lf_X4_firstCell t_this_codedLayers_2_sizes p1 p2).bind fun o21 => (rdA 24 t_this_codedLayers_1_costs o21).bind fun x22 => some (Sum.inr x22) else none))) else (if p0 = (2 : Int32) then (if p0 = (0 : Int32) then (lf_X4_firstCell t_this_codedLayers_0_sizes p1 p2).bind fun o25 => (rdA 24 t_this_codedLayers_2_costs o25).bind fun x26 => some (Sum.inr x26) else (if p0 = (1 : Int32) then (lf_X4_firstCell t_this_codedLayers_1_sizes p1 p2).bind fun o28 => (rdA 24 t_this_codedLayers_2_costs o28).bind fun x29 => some (Sum.inr x29) else (if p0 = (2 : Int32) then (lf_X4_firstCell t_this_codedLayers_2_sizes p1 p2).bind fun o31 => (rdA 24 t_this_codedLayers_2_costs o31).bind fun x32 => some (Sum.inr x32) else none))) else none)))) o1
abbrev rm_X8_cost (k : Nat) : Room := { frames := 8, cells := k, slots := 6 * k, locals := 142 }
theorem hd_X8_cost : yX8_cost.cls ≠ "java/lang/invoke/MethodHandle" ∧ yX8_cost.cls ≠ "java/lang/invoke/VarHandle" ∧ (parseMethodDescriptor yX8_cost.desc).map (fun d => d.parameters.length) = some 3 := by decide +kernel
set_option maxHeartbeats 4000000 in
set_option maxRecDepth 100000 in
theorem ct_X8_cost (l : Launch) (G : gG) (h_this : Nat) (r_this r_this_codedLayers_0 r_this_codedLayers_1 r_this_codedLayers_2 : Nat → Nat) (ly_this : Nat → Nat) (i_this_layerCount i_this_hasDecoded i_this_codedCount i_this_codedWidth i_this_codedHeight i_this_replacedSize i_this_replacedPlainSize i_this_codedLayers_0_step i_this_codedLayers_0_blockCount i_this_codedLayers_1_step i_this_codedLayers_1_blockCount i_this_codedLayers_2_step i_this_codedLayers_2_blockCount : Int32) (t_this_codedLayers_0_costs t_this_codedLayers_0_sizes t_this_codedLayers_1_costs t_this_codedLayers_1_sizes t_this_codedLayers_2_costs t_this_codedLayers_2_sizes : Nat → Int32) (p0 p1 p2 : Int32) (sz : Nat) (out : Nat ⊕ (Int32)) (hf : lf_X8_cost i_this_codedCount i_this_codedHeight i_this_codedWidth t_this_codedLayers_0_costs t_this_codedLayers_0_sizes t_this_codedLayers_1_costs t_this_codedLayers_1_sizes t_this_codedLayers_2_costs t_this_codedLayers_2_sizes p0 p1 p2 = some out) (hst : l.stackTraces = false) : gTi l G yX8_cost cX8_cost 4 .int (rm_X8_cost (tc out)) [.ref h_this, .int p0, .int p1, .int p2] sz [(h_this, .inr (7, FX8 r_this i_this_layerCount i_this_hasDecoded i_this_codedCount i_this_codedWidth i_this_codedHeight i_this_replacedSize i_this_replacedPlainSize)), ((r_this 8), gO G 3 (fun k => some (ly_this k))), ((ly_this 0), .inr (3, FX4 r_this_codedLayers_0 i_this_codedLayers_0_step i_this_codedLayers_0_blockCount)), ((r_this_codedLayers_0 3), gA G 6 t_this_codedLayers_0_sizes), ((r_this_codedLayers_0 5), gA G 24 t_this_codedLayers_0_costs), ((ly_this 1), .inr (3, FX4 r_this_codedLayers_1 i_this_codedLayers_1_step i_this_codedLayers_1_blockCount)), ((r_this_codedLayers_1 3), gA G 6 t_this_codedLayers_1_sizes), ((r_this_codedLayers_1 5), gA G 24 t_this_codedLayers_1_costs), ((ly_this 2), .inr (3, FX4 r_this_codedLayers_2 i_this_codedLayers_2_step i_this_codedLayers_2_blockCount)), ((r_this_codedLayers_2 3), gA G 6 t_this_codedLayers_2_sizes), ((r_this_codedLayers_2 5), gA G 24 t_this_codedLayers_2_costs)] out (fun x => x) (fun x u => [(h_this, .inr (7, FX8 r_this i_this_layerCount i_this_hasDecoded i_this_codedCount i_this_codedWidth i_this_codedHeight i_this_replacedSize i_this_replacedPlainSize)), ((r_this 8), gO G 3 (fun k => some (ly_this k))), ((ly_this 0), .inr (3, FX4 r_this_codedLayers_0 i_this_codedLayers_0_step i_this_codedLayers_0_blockCount)), ((r_this_codedLayers_0 3), gA G 6 t_this_codedLayers_0_sizes), ((r_this_codedLayers_0 5), gA G 24 t_this_codedLayers_0_costs), ((ly_this 1), .inr (3, FX4 r_this_codedLayers_1 i_this_codedLayers_1_step i_this_codedLayers_1_blockCount)), ((r_this_codedLayers_1 3), gA G 6 t_this_codedLayers_1_sizes), ((r_this_codedLayers_1 5), gA G 24 t_this_codedLayers_1_costs), ((ly_this 2), .inr (3, FX4 r_this_codedLayers_2 i_this_codedLayers_2_step i_this_codedLayers_2_blockCount)), ((r_this_codedLayers_2 3), gA G 6 t_this_codedLayers_2_sizes), ((r_this_codedLayers_2 5), gA G 24 t_this_codedLayers_2_costs)]) := by
  refine gTi_of (by decide +kernel) (Nat.le_of_ble_eq_true rfl) ?_
  intro p e s m args below meth c ls A Q X hK hA hsz hH hl hS hZ hno hQ hE
  subst hsz
  have hx := X.1
  have hb := X.2.1
  unfold lf_X8_cost at hf
  have hl : lv_has ls 4 [(0, .ref h_this), (1, .int p0), (2, .int p1), (3, .int p2)] := hl
  have hH : gH G A s.heap s.heap [] [(h_this, .inr (7, FX8 r_this i_this_layerCount i_this_hasDecoded i_this_codedCount i_this_codedWidth i_this_codedHeight i_this_replacedSize i_this_replacedPlainSize)), ((r_this 8), gO G 3 (fun k => some (ly_this k))), ((ly_this 0), .inr (3, FX4 r_this_codedLayers_0 i_this_codedLayers_0_step i_this_codedLayers_0_blockCount)), ((r_this_codedLayers_0 3), gA G 6 t_this_codedLayers_0_sizes), ((r_this_codedLayers_0 5), gA G 24 t_this_codedLayers_0_costs), ((ly_this 1), .inr (3, FX4 r_this_codedLayers_1 i_this_codedLayers_1_step i_this_codedLayers_1_blockCount)), ((r_this_codedLayers_1 3), gA G 6 t_this_codedLayers_1_sizes), ((r_this_codedLayers_1 5), gA G 24 t_this_codedLayers_1_costs), ((ly_this 2), .inr (3, FX4 r_this_codedLayers_2 i_this_codedLayers_2_step i_this_codedLayers_2_blockCount)), ((r_this_codedLayers_2 3), gA G 6 t_this_codedLayers_2_sizes), ((r_this_codedLayers_2 5), gA G 24 t_this_codedLayers_2_costs)] := hH
  refine lv_aload_n hx hb dX8_cost_0 rfl (lv_at hl 0 rfl) ?_
  refine lv_iload_n hx hb dX8_cost_1 rfl (lv_at hl 1 rfl) ?_
  refine lv_iload_n hx hb dX8_cost_2 rfl (lv_at hl 2 rfl) ?_
  refine lv_iload_n hx hb dX8_cost_3 rfl (lv_at hl 3 rfl) ?_
  obtain ⟨o1, ho1, hf⟩ := sbind hf
  rcases o1 with k4 | r2
  · obtain rfl := Option.some.inj hf
    rw [hQ]
    exact g_tVx (isC := [0]) (isR := [1, 2, 3, 4, 5, 6, 7, 8, 9, 10]) (isP := [10, 0, 1, 2, 3, 4, 5, 6, 7, 8, 9]) (wr := [((r_this 8), gO G 3 (fun k => some (ly_this k))), ((ly_this 0), .inr (3, FX4 r_this_codedLayers_0 i_this_codedLayers_0_step i_this_codedLayers_0_blockCount)), ((r_this_codedLayers_0 3), gA G 6 t_this_codedLayers_0_sizes), ((r_this_codedLayers_0 5), gA G 24 t_this_codedLayers_0_costs), ((ly_this 1), .inr (3, FX4 r_this_codedLayers_1 i_this_codedLayers_1_step i_this_codedLayers_1_blockCount)), ((r_this_codedLayers_1 3), gA G 6 t_this_codedLayers_1_sizes), ((r_this_codedLayers_1 5), gA G 24 t_this_codedLayers_1_costs), ((ly_this 2), .inr (3, FX4 r_this_codedLayers_2 i_this_codedLayers_2_step i_this_codedLayers_2_blockCount)), ((r_this_codedLayers_2 3), gA G 6 t_this_codedLayers_2_sizes), ((r_this_codedLayers_2 5), gA G 24 t_this_codedLayers_2_costs)]) (q0 := 0) X hK hS hZ hno hA hH hl (ct_X8_requireCodedPixel l G h_this r_this i_this_layerCount i_this_hasDecoded i_this_codedCount i_this_codedWidth i_this_codedHeight i_this_replacedSize i_this_replacedPlainSize p0 p1 p2 s.heap.size _ ho1 hst) ⟨q_1, q_1427, hd_X8_requireCodedPixel, rfl, rfl, ⟨Nat.le_of_ble_eq_true rfl, Nat.le_of_ble_eq_true rfl⟩, ⟨Nat.le_of_ble_eq_true rfl, Nat.le_of_ble_eq_true rfl⟩⟩ q_1424 q_1426 qs_39 rfl rfl ⟨rfl, rfl, rfl, rfl, by decide, rfl, rfl⟩ rfl rfl (Nat.le_of_ble_eq_true rfl) dX8_cost_4
  have hf := selimr hf
  refine g_tVr (isC := [0]) (isR := [1, 2, 3, 4, 5, 6, 7, 8, 9, 10]) (isP := [10, 0, 1, 2, 3, 4, 5, 6, 7, 8, 9]) (wr := [((r_this 8), gO G 3 (fun k => some (ly_this k))), ((ly_this 0), .inr (3, FX4 r_this_codedLayers_0 i_this_codedLayers_0_step i_this_codedLayers_0_blockCount)), ((r_this_codedLayers_0 3), gA G 6 t_this_codedLayers_0_sizes), ((r_this_codedLayers_0 5), gA G 24 t_this_codedLayers_0_costs), ((ly_this 1), .inr (3, FX4 r_this_codedLayers_1 i_this_codedLayers_1_step i_this_codedLayers_1_blockCount)), ((r_this_codedLayers_1 3), gA G 6 t_this_codedLayers_1_sizes), ((r_this_codedLayers_1 5), gA G 24 t_this_codedLayers_1_costs), ((ly_this 2), .inr (3, FX4 r_this_codedLayers_2 i_this_codedLayers_2_step i_this_codedLayers_2_blockCount)), ((r_this_codedLayers_2 3), gA G 6 t_this_codedLayers_2_sizes), ((r_this_codedLayers_2 5), gA G 24 t_this_codedLayers_2_costs)]) (q0 := 0) (w2 := (fun u3 => [(h_this, .inr (7, FX8 r_this i_this_layerCount i_this_hasDecoded i_this_codedCount i_this_codedWidth i_this_codedHeight i_this_replacedSize i_this_replacedPlainSize)), ((r_this 8), gO G 3 (fun k => some (ly_this k))), ((ly_this 0), .inr (3, FX4 r_this_codedLayers_0 i_this_codedLayers_0_step i_this_codedLayers_0_blockCount)), ((r_this_codedLayers_0 3), gA G 6 t_this_codedLayers_0_sizes), ((r_this_codedLayers_0 5), gA G 24 t_this_codedLayers_0_costs), ((ly_this 1), .inr (3, FX4 r_this_codedLayers_1 i_this_codedLayers_1_step i_this_codedLayers_1_blockCount)), ((r_this_codedLayers_1 3), gA G 6 t_this_codedLayers_1_sizes), ((r_this_codedLayers_1 5), gA G 24 t_this_codedLayers_1_costs), ((ly_this 2), .inr (3, FX4 r_this_codedLayers_2 i_this_codedLayers_2_step i_this_codedLayers_2_blockCount)), ((r_this_codedLayers_2 3), gA G 6 t_this_codedLayers_2_sizes), ((r_this_codedLayers_2 5), gA G 24 t_this_codedLayers_2_costs)])) X hK hS hZ hA hH hl (ct_X8_requireCodedPixel l G h_this r_this i_this_layerCount i_this_hasDecoded i_this_codedCount i_this_codedWidth i_this_codedHeight i_this_replacedSize i_this_replacedPlainSize p0 p1 p2 s.heap.size _ ho1 hst) ⟨q_1, q_1427, hd_X8_requireCodedPixel, rfl, rfl, ⟨Nat.le_of_ble_eq_true rfl, Nat.le_of_ble_eq_true rfl⟩, ⟨Nat.zero_le _, Nat.zero_le _⟩⟩ q_1424 q_1426 qs_39 rfl rfl (fun _ => ⟨rfl, rfl, rfl, rfl, by decide, rfl, rfl⟩) rfl rfl (Nat.le_of_ble_eq_true rfl) dX8_cost_4 (fun u3 H locs hH => ?_)
  refine lv_aload_n hx hb dX8_cost_7 rfl (lv_at hl 0 rfl) ?_
  refine g_get (T := TX8) (N := 18) (ci := 7) (C := RX8) (v := .ref (r_this 8)) X hK hH in_RX8 0 rfl rfl 8 (by decide) q_220 (fun _ h9 => h9) rfl dX8_cost_8 ?_
  refine lv_iload_n hx hb dX8_cost_11 rfl (lv_at hl 1 rfl) ?_
  by_cases c14 : p0 = (0 : Int32)
  · have hf := spos hf c14
    refine g_aald X hK hH 1 rfl (k := 0) (c14.trans (by decide : (0 : Int32) = nI 0)) (by decide) dX8_cost_12 ?_
    refine g_getN (T := TX4) (N := 10) (ci := 3) (C := RX4) (v := .ref (r_this_codedLayers_0 5)) X hK hH in_RX4 2 rfl rfl 5 (by decide) qn_126 (fun _ h9 => h9) rfl dX8_cost_13 ?_
    refine lv_aload_n hx hb dX8_cost_16 rfl (lv_at hl 0 rfl) ?_
    refine g_get (T := TX8) (N := 18) (ci := 7) (C := RX8) (v := .ref (r_this 8)) X hK hH in_RX8 0 rfl rfl 8 (by decide) q_220 (fun _ h9 => h9) rfl dX8_cost_17 ?_
    refine lv_iload_n hx hb dX8_cost_20 rfl (lv_at hl 1 rfl) ?_
    by_cases c7 : p0 = (0 : Int32)
    · have hf := spos hf c7
      refine g_aald X hK hH 1 rfl (k := 0) (c7.trans (by decide : (0 : Int32) = nI 0)) (by decide) dX8_cost_21 ?_
      refine lv_iload_n hx hb dX8_cost_22 rfl (lv_at hl 2 rfl) ?_
      refine lv_iload_n hx hb dX8_cost_23 rfl (lv_at hl 3 rfl) ?_
      obtain ⟨o5, ho5, hf⟩ := sbind hf
      refine g_cVi (isC := [2, 3]) (isR := [0, 1, 4, 5, 6, 7, 8, 9, 10]) (isP := [0, 1, 9, 10, 2, 3, 4, 5, 6, 7, 8]) (wr := [(h_this, .inr (7, FX8 r_this i_this_layerCount i_this_hasDecoded i_this_codedCount i_this_codedWidth i_this_codedHeight i_this_replacedSize i_this_replacedPlainSize)), ((r_this 8), gO G 3 (fun k => some (ly_this k))), ((r_this_codedLayers_0 5), gA G 24 t_this_codedLayers_0_costs), ((ly_this 1), .inr (3, FX4 r_this_codedLayers_1 i_this_codedLayers_1_step i_this_codedLayers_1_blockCount)), ((r_this_codedLayers_1 3), gA G 6 t_this_codedLayers_1_sizes), ((r_this_codedLayers_1 5), gA G 24 t_this_codedLayers_1_costs), ((ly_this 2), .inr (3, FX4 r_this_codedLayers_2 i_this_codedLayers_2_step i_this_codedLayers_2_blockCount)), ((r_this_codedLayers_2 3), gA G 6 t_this_codedLayers_2_sizes), ((r_this_codedLayers_2 5), gA G 24 t_this_codedLayers_2_costs)]) (w2 := [(h_this, .inr (7, FX8 r_this i_this_layerCount i_this_hasDecoded i_this_codedCount i_this_codedWidth i_this_codedHeight i_this_replacedSize i_this_replacedPlainSize)), ((r_this 8), gO G 3 (fun k => some (ly_this k))), ((ly_this 0), .inr (3, FX4 r_this_codedLayers_0 i_this_codedLayers_0_step i_this_codedLayers_0_blockCount)), ((r_this_codedLayers_0 3), gA G 6 t_this_codedLayers_0_sizes), ((r_this_codedLayers_0 5), gA G 24 t_this_codedLayers_0_costs), ((ly_this 1), .inr (3, FX4 r_this_codedLayers_1 i_this_codedLayers_1_step i_this_codedLayers_1_blockCount)), ((r_this_codedLayers_1 3), gA G 6 t_this_codedLayers_1_sizes), ((r_this_codedLayers_1 5), gA G 24 t_this_codedLayers_1_costs), ((ly_this 2), .inr (3, FX4 r_this_codedLayers_2 i_this_codedLayers_2_step i_this_codedLayers_2_blockCount)), ((r_this_codedLayers_2 3), gA G 6 t_this_codedLayers_2_sizes), ((r_this_codedLayers_2 5), gA G 24 t_this_codedLayers_2_costs)]) (q0 := 2) X hK hA hH hl (ct_X4_firstCell l G (ly_this 0) r_this_codedLayers_0 i_this_codedLayers_0_step i_this_codedLayers_0_blockCount t_this_codedLayers_0_sizes p1 p2 H.size o5 ho5) ⟨q_4, q_605, hd_X4_firstCell, rfl, rfl, ⟨Nat.le_of_ble_eq_true rfl, Nat.le_of_ble_eq_true rfl⟩, ⟨Nat.zero_le _, Nat.zero_le _⟩⟩ q_602 q_603 q_604 rfl rfl ⟨rfl, rfl, rfl, rfl, by decide, rfl, rfl⟩ rfl rfl (Nat.le_of_ble_eq_true rfl) dX8_cost_24 (fun H locs hH => ?_)
      obtain ⟨x6, hx6, hf⟩ := sbind hf
      refine g_ald X hK hH 4 rfl hx6 dX8_cost_27 ?_
      obtain rfl := Option.some.inj hf
      exact hE x6 0 _ _ _ _ rfl rfl hH dX8_cost_28
    · have hf := sneg hf c7
      by_cases c10 : p0 = (1 : Int32)
      · have hf := spos hf c10
        refine g_aald X hK hH 1 rfl (k := 1) (c10.trans (by decide : (1 : Int32) = nI 1)) (by decide) dX8_cost_21 ?_
        refine lv_iload_n hx hb dX8_cost_22 rfl (lv_at hl 2 rfl) ?_
        refine lv_iload_n hx hb dX8_cost_23 rfl (lv_at hl 3 rfl) ?_
        obtain ⟨o8, ho8, hf⟩ := sbind hf
        refine g_cVi (isC := [5, 6]) (isR := [0, 1, 2, 3, 4, 7, 8, 9, 10]) (isP := [0, 1, 2, 3, 4, 9, 10, 5, 6, 7, 8]) (wr := [(h_this, .inr (7, FX8 r_this i_this_layerCount i_this_hasDecoded i_this_codedCount i_this_codedWidth i_this_codedHeight i_this_replacedSize i_this_replacedPlainSize)), ((r_this 8), gO G 3 (fun k => some (ly_this k))), ((ly_this 0), .inr (3, FX4 r_this_codedLayers_0 i_this_codedLayers_0_step i_this_codedLayers_0_blockCount)), ((r_this_codedLayers_0 3), gA G 6 t_this_codedLayers_0_sizes), ((r_this_codedLayers_0 5), gA G 24 t_this_codedLayers_0_costs), ((r_this_codedLayers_1 5), gA G 24 t_this_codedLayers_1_costs), ((ly_this 2), .inr (3, FX4 r_this_codedLayers_2 i_this_codedLayers_2_step i_this_codedLayers_2_blockCount)), ((r_this_codedLayers_2 3), gA G 6 t_this_codedLayers_2_sizes), ((r_this_codedLayers_2 5), gA G 24 t_this_codedLayers_2_costs)]) (w2 := [(h_this, .inr (7, FX8 r_this i_this_layerCount i_this_hasDecoded i_this_codedCount i_this_codedWidth i_this_codedHeight i_this_replacedSize i_this_replacedPlainSize)), ((r_this 8), gO G 3 (fun k => some (ly_this k))), ((ly_this 0), .inr (3, FX4 r_this_codedLayers_0 i_this_codedLayers_0_step i_this_codedLayers_0_blockCount)), ((r_this_codedLayers_0 3), gA G 6 t_this_codedLayers_0_sizes), ((r_this_codedLayers_0 5), gA G 24 t_this_codedLayers_0_costs), ((ly_this 1), .inr (3, FX4 r_this_codedLayers_1 i_this_codedLayers_1_step i_this_codedLayers_1_blockCount)), ((r_this_codedLayers_1 3), gA G 6 t_this_codedLayers_1_sizes), ((r_this_codedLayers_1 5), gA G 24 t_this_codedLayers_1_costs), ((ly_this 2), .inr (3, FX4 r_this_codedLayers_2 i_this_codedLayers_2_step i_this_codedLayers_2_blockCount)), ((r_this_codedLayers_2 3), gA G 6 t_this_codedLayers_2_sizes), ((r_this_codedLayers_2 5), gA G 24 t_this_codedLayers_2_costs)]) (q0 := 5) X hK hA hH hl (ct_X4_firstCell l G (ly_this 1) r_this_codedLayers_1 i_this_codedLayers_1_step i_this_codedLayers_1_blockCount t_this_codedLayers_1_sizes p1 p2 H.size o8 ho8) ⟨q_4, q_605, hd_X4_firstCell, rfl, rfl, ⟨Nat.le_of_ble_eq_true rfl, Nat.le_of_ble_eq_true rfl⟩, ⟨Nat.zero_le _, Nat.zero_le _⟩⟩ q_602 q_603 q_604 rfl rfl ⟨rfl, rfl, rfl, rfl, by decide, rfl, rfl⟩ rfl rfl (Nat.le_of_ble_eq_true rfl) dX8_cost_24 (fun H locs hH => ?_)
        obtain ⟨x9, hx9, hf⟩ := sbind hf
        refine g_ald X hK hH 4 rfl hx9 dX8_cost_27 ?_
        obtain rfl := Option.some.inj hf
        exact hE x9 0 _ _ _ _ rfl rfl hH dX8_cost_28
      · have hf := sneg hf c10
        by_cases c13 : p0 = (2 : Int32)
        · have hf := spos hf c13
          refine g_aald X hK hH 1 rfl (k := 2) (c13.trans (by decide : (2 : Int32) = nI 2)) (by decide) dX8_cost_21 ?_
          refine lv_iload_n hx hb dX8_cost_22 rfl (lv_at hl 2 rfl) ?_
          refine lv_iload_n hx hb dX8_cost_23 rfl (lv_at hl 3 rfl) ?_
          obtain ⟨o11, ho11, hf⟩ := sbind hf
          refine g_cVi (isC := [8, 9]) (isR := [0, 1, 2, 3, 4, 5, 6, 7, 10]) (isP := [0, 1, 2, 3, 4, 5, 6, 7, 9, 10, 8]) (wr := [(h_this, .inr (7, FX8 r_this i_this_layerCount i_this_hasDecoded i_this_codedCount i_this_codedWidth i_this_codedHeight i_this_replacedSize i_this_replacedPlainSize)), ((r_this 8), gO G 3 (fun k => some (ly_this k))), ((ly_this 0), .inr (3, FX4 r_this_codedLayers_0 i_this_codedLayers_0_step i_this_codedLayers_0_blockCount)), ((r_this_codedLayers_0 3), gA G 6 t_this_codedLayers_0_sizes), ((r_this_codedLayers_0 5), gA G 24 t_this_codedLayers_0_costs), ((ly_this 1), .inr (3, FX4 r_this_codedLayers_1 i_this_codedLayers_1_step i_this_codedLayers_1_blockCount)), ((r_this_codedLayers_1 3), gA G 6 t_this_codedLayers_1_sizes), ((r_this_codedLayers_1 5), gA G 24 t_this_codedLayers_1_costs), ((r_this_codedLayers_2 5), gA G 24 t_this_codedLayers_2_costs)]) (w2 := [(h_this, .inr (7, FX8 r_this i_this_layerCount i_this_hasDecoded i_this_codedCount i_this_codedWidth i_this_codedHeight i_this_replacedSize i_this_replacedPlainSize)), ((r_this 8), gO G 3 (fun k => some (ly_this k))), ((ly_this 0), .inr (3, FX4 r_this_codedLayers_0 i_this_codedLayers_0_step i_this_codedLayers_0_blockCount)), ((r_this_codedLayers_0 3), gA G 6 t_this_codedLayers_0_sizes), ((r_this_codedLayers_0 5), gA G 24 t_this_codedLayers_0_costs), ((ly_this 1), .inr (3, FX4 r_this_codedLayers_1 i_this_codedLayers_1_step i_this_codedLayers_1_blockCount)), ((r_this_codedLayers_1 3), gA G 6 t_this_codedLayers_1_sizes), ((r_this_codedLayers_1 5), gA G 24 t_this_codedLayers_1_costs), ((ly_this 2), .inr (3, FX4 r_this_codedLayers_2 i_this_codedLayers_2_step i_this_codedLayers_2_blockCount)), ((r_this_codedLayers_2 3), gA G 6 t_this_codedLayers_2_sizes), ((r_this_codedLayers_2 5), gA G 24 t_this_codedLayers_2_costs)]) (q0 := 8) X hK hA hH hl (ct_X4_firstCell l G (ly_this 2) r_this_codedLayers_2 i_this_codedLayers_2_step i_this_codedLayers_2_blockCount t_this_codedLayers_2_sizes p1 p2 H.size o11 ho11) ⟨q_4, q_605, hd_X4_firstCell, rfl, rfl, ⟨Nat.le_of_ble_eq_true rfl, Nat.le_of_ble_eq_true rfl⟩, ⟨Nat.zero_le _, Nat.zero_le _⟩⟩ q_602 q_603 q_604 rfl rfl ⟨rfl, rfl, rfl, rfl, by decide, rfl, rfl⟩ rfl rfl (Nat.le_of_ble_eq_true rfl) dX8_cost_24 (fun H locs hH => ?_)
          obtain ⟨x12, hx12, hf⟩ := sbind hf
          refine g_ald X hK hH 4 rfl hx12 dX8_cost_27 ?_
          obtain rfl := Option.some.inj hf
          exact hE x12 0 _ _ _ _ rfl rfl hH dX8_cost_28
        · have hf := sneg hf c13
          cases hf
  · have hf := sneg hf c14
    by_cases c24 : p0 = (1 : Int32)
    · have hf := spos hf c24
      refine g_aald X hK hH 1 rfl (k := 1) (c24.trans (by decide : (1 : Int32) = nI 1)) (by decide) dX8_cost_12 ?_
      refine g_getN (T := TX4) (N := 10) (ci := 3) (C := RX4) (v := .ref (r_this_codedLayers_1 5)) X hK hH in_RX4 5 rfl rfl 5 (by decide) qn_126 (fun _ h9 => h9) rfl dX8_cost_13 ?_
      refine lv_aload_n hx hb dX8_cost_16 rfl (lv_at hl 0 rfl) ?_
      refine g_get (T := TX8) (N := 18) (ci := 7) (C := RX8) (v := .ref (r_this 8)) X hK hH in_RX8 0 rfl rfl 8 (by decide) q_220 (fun _ h9 => h9) rfl dX8_cost_17 ?_
      refine lv_iload_n hx hb dX8_cost_20 rfl (lv_at hl 1 rfl) ?_
      by_cases c17 : p0 = (0 : Int32)
      · have hf := spos hf c17
        refine g_aald X hK hH 1 rfl (k := 0) (c17.trans (by decide : (0 : Int32) = nI 0)) (by decide) dX8_cost_21 ?_
        refine lv_iload_n hx hb dX8_cost_22 rfl (lv_at hl 2 rfl) ?_
        refine lv_iload_n hx hb dX8_cost_23 rfl (lv_at hl 3 rfl) ?_
        obtain ⟨o15, ho15, hf⟩ := sbind hf
        refine g_cVi (isC := [2, 3]) (isR := [0, 1, 4, 5, 6, 7, 8, 9, 10]) (isP := [0, 1, 9, 10, 2, 3, 4, 5, 6, 7, 8]) (wr := [(h_this, .inr (7, FX8 r_this i_this_layerCount i_this_hasDecoded i_this_codedCount i_this_codedWidth i_this_codedHeight i_this_replacedSize i_this_replacedPlainSize)), ((r_this 8), gO G 3 (fun k => some (ly_this k))), ((r_this_codedLayers_0 5), gA G 24 t_this_codedLayers_0_costs), ((ly_this 1), .inr (3, FX4 r_this_codedLayers_1 i_this_codedLayers_1_step i_this_codedLayers_1_blockCount)), ((r_this_codedLayers_1 3), gA G 6 t_this_codedLayers_1_sizes), ((r_this_codedLayers_1 5), gA G 24 t_this_codedLayers_1_costs), ((ly_this 2), .inr (3, FX4 r_this_codedLayers_2 i_this_codedLayers_2_step i_this_codedLayers_2_blockCount)), ((r_this_codedLayers_2 3), gA G 6 t_this_codedLayers_2_sizes), ((r_this_codedLayers_2 5), gA G 24 t_this_codedLayers_2_costs)]) (w2 := [(h_this, .inr (7, FX8 r_this i_this_layerCount i_this_hasDecoded i_this_codedCount i_this_codedWidth i_this_codedHeight i_this_replacedSize i_this_replacedPlainSize)), ((r_this 8), gO G 3 (fun k => some (ly_this k))), ((ly_this 0), .inr (3, FX4 r_this_codedLayers_0 i_this_codedLayers_0_step i_this_codedLayers_0_blockCount)), ((r_this_codedLayers_0 3), gA G 6 t_this_codedLayers_0_sizes), ((r_this_codedLayers_0 5), gA G 24 t_this_codedLayers_0_costs), ((ly_this 1), .inr (3, FX4 r_this_codedLayers_1 i_this_codedLayers_1_step i_this_codedLayers_1_blockCount)), ((r_this_codedLayers_1 3), gA G 6 t_this_codedLayers_1_sizes), ((r_this_codedLayers_1 5), gA G 24 t_this_codedLayers_1_costs), ((ly_this 2), .inr (3, FX4 r_this_codedLayers_2 i_this_codedLayers_2_step i_this_codedLayers_2_blockCount)), ((r_this_codedLayers_2 3), gA G 6 t_this_codedLayers_2_sizes), ((r_this_codedLayers_2 5), gA G 24 t_this_codedLayers_2_costs)]) (q0 := 2) X hK hA hH hl (ct_X4_firstCell l G (ly_this 0) r_this_codedLayers_0 i_this_codedLayers_0_step i_this_codedLayers_0_blockCount t_this_codedLayers_0_sizes p1 p2 H.size o15 ho15) ⟨q_4, q_605, hd_X4_firstCell, rfl, rfl, ⟨Nat.le_of_ble_eq_true rfl, Nat.le_of_ble_eq_true rfl⟩, ⟨Nat.zero_le _, Nat.zero_le _⟩⟩ q_602 q_603 q_604 rfl rfl ⟨rfl, rfl, rfl, rfl, by decide, rfl, rfl⟩ rfl rfl (Nat.le_of_ble_eq_true rfl) dX8_cost_24 (fun H locs hH => ?_)
        obtain ⟨x16, hx16, hf⟩ := sbind hf
        refine g_ald X hK hH 7 rfl hx16 dX8_cost_27 ?_
        obtain rfl := Option.some.inj hf
        exact hE x16 0 _ _ _ _ rfl rfl hH dX8_cost_28
      · have hf := sneg hf c17
        by_cases c20 : p0 = (1 : Int32)
        · have hf := spos hf c20
          refine g_aald X hK hH 1 rfl (k := 1) (c20.trans (by decide : (1 : Int32) = nI 1)) (by decide) dX8_cost_21 ?_
          refine lv_iload_n hx hb dX8_cost_22 rfl (lv_at hl 2 rfl) ?_
          refine lv_iload_n hx hb dX8_cost_23 rfl (lv_at hl 3 rfl) ?_
          obtain ⟨o18, ho18, hf⟩ := sbind hf
          refine g_cVi (isC := [5, 6]) (isR := [0, 1, 2, 3, 4, 7, 8, 9, 10]) (isP := [0, 1, 2, 3, 4, 9, 10, 5, 6, 7, 8]) (wr := [(h_this, .inr (7, FX8 r_this i_this_layerCount i_this_hasDecoded i_this_codedCount i_this_codedWidth i_this_codedHeight i_this_replacedSize i_this_replacedPlainSize)), ((r_this 8), gO G 3 (fun k => some (ly_this k))), ((ly_this 0), .inr (3, FX4 r_this_codedLayers_0 i_this_codedLayers_0_step i_this_codedLayers_0_blockCount)), ((r_this_codedLayers_0 3), gA G 6 t_this_codedLayers_0_sizes), ((r_this_codedLayers_0 5), gA G 24 t_this_codedLayers_0_costs), ((r_this_codedLayers_1 5), gA G 24 t_this_codedLayers_1_costs), ((ly_this 2), .inr (3, FX4 r_this_codedLayers_2 i_this_codedLayers_2_step i_this_codedLayers_2_blockCount)), ((r_this_codedLayers_2 3), gA G 6 t_this_codedLayers_2_sizes), ((r_this_codedLayers_2 5), gA G 24 t_this_codedLayers_2_costs)]) (w2 := [(h_this, .inr (7, FX8 r_this i_this_layerCount i_this_hasDecoded i_this_codedCount i_this_codedWidth i_this_codedHeight i_this_replacedSize i_this_replacedPlainSize)), ((r_this 8), gO G 3 (fun k => some (ly_this k))), ((ly_this 0), .inr (3, FX4 r_this_codedLayers_0 i_this_codedLayers_0_step i_this_codedLayers_0_blockCount)), ((r_this_codedLayers_0 3), gA G 6 t_this_codedLayers_0_sizes), ((r_this_codedLayers_0 5), gA G 24 t_this_codedLayers_0_costs), ((ly_this 1), .inr (3, FX4 r_this_codedLayers_1 i_this_codedLayers_1_step i_this_codedLayers_1_blockCount)), ((r_this_codedLayers_1 3), gA G 6 t_this_codedLayers_1_sizes), ((r_this_codedLayers_1 5), gA G 24 t_this_codedLayers_1_costs), ((ly_this 2), .inr (3, FX4 r_this_codedLayers_2 i_this_codedLayers_2_step i_this_codedLayers_2_blockCount)), ((r_this_codedLayers_2 3), gA G 6 t_this_codedLayers_2_sizes), ((r_this_codedLayers_2 5), gA G 24 t_this_codedLayers_2_costs)]) (q0 := 5) X hK hA hH hl (ct_X4_firstCell l G (ly_this 1) r_this_codedLayers_1 i_this_codedLayers_1_step i_this_codedLayers_1_blockCount t_this_codedLayers_1_sizes p1 p2 H.size o18 ho18) ⟨q_4, q_605, hd_X4_firstCell, rfl, rfl, ⟨Nat.le_of_ble_eq_true rfl, Nat.le_of_ble_eq_true rfl⟩, ⟨Nat.zero_le _, Nat.zero_le _⟩⟩ q_602 q_603 q_604 rfl rfl ⟨rfl, rfl, rfl, rfl, by decide, rfl, rfl⟩ rfl rfl (Nat.le_of_ble_eq_true rfl) dX8_cost_24 (fun H locs hH => ?_)
          obtain ⟨x19, hx19, hf⟩ := sbind hf
          refine g_ald X hK hH 7 rfl hx19 dX8_cost_27 ?_
          obtain rfl := Option.some.inj hf
          exact hE x19 0 _ _ _ _ rfl rfl hH dX8_cost_28
        · have hf := sneg hf c20
          by_cases c23 : p0 = (2 : Int32)
          · have hf := spos hf c23
            refine g_aald X hK hH 1 rfl (k := 2) (c23.trans (by decide : (2 : Int32) = nI 2)) (by decide) dX8_cost_21 ?_
            refine lv_iload_n hx hb dX8_cost_22 rfl (lv_at hl 2 rfl) ?_
            refine lv_iload_n hx hb dX8_cost_23 rfl (lv_at hl 3 rfl) ?_
            obtain ⟨o21, ho21, hf⟩ := sbind hf
            refine g_cVi (isC := [8, 9]) (isR := [0, 1, 2, 3, 4, 5, 6, 7, 10]) (isP := [0, 1, 2, 3, 4, 5, 6, 7, 9, 10, 8]) (wr := [(h_this, .inr (7, FX8 r_this i_this_layerCount i_this_hasDecoded i_this_codedCount i_this_codedWidth i_this_codedHeight i_this_replacedSize i_this_replacedPlainSize)), ((r_this 8), gO G 3 (fun k => some (ly_this k))), ((ly_this 0), .inr (3, FX4 r_this_codedLayers_0 i_this_codedLayers_0_step i_this_codedLayers_0_blockCount)), ((r_this_codedLayers_0 3), gA G 6 t_this_codedLayers_0_sizes), ((r_this_codedLayers_0 5), gA G 24 t_this_codedLayers_0_costs), ((ly_this 1), .inr (3, FX4 r_this_codedLayers_1 i_this_codedLayers_1_step i_this_codedLayers_1_blockCount)), ((r_this_codedLayers_1 3), gA G 6 t_this_codedLayers_1_sizes), ((r_this_codedLayers_1 5), gA G 24 t_this_codedLayers_1_costs), ((r_this_codedLayers_2 5), gA G 24 t_this_codedLayers_2_costs)]) (w2 := [(h_this, .inr (7, FX8 r_this i_this_layerCount i_this_hasDecoded i_this_codedCount i_this_codedWidth i_this_codedHeight i_this_replacedSize i_this_replacedPlainSize)), ((r_this 8), gO G 3 (fun k => some (ly_this k))), ((ly_this 0), .inr (3, FX4 r_this_codedLayers_0 i_this_codedLayers_0_step i_this_codedLayers_0_blockCount)), ((r_this_codedLayers_0 3), gA G 6 t_this_codedLayers_0_sizes), ((r_this_codedLayers_0 5), gA G 24 t_this_codedLayers_0_costs), ((ly_this 1), .inr (3, FX4 r_this_codedLayers_1 i_this_codedLayers_1_step i_this_codedLayers_1_blockCount)), ((r_this_codedLayers_1 3), gA G 6 t_this_codedLayers_1_sizes), ((r_this_codedLayers_1 5), gA G 24 t_this_codedLayers_1_costs), ((ly_this 2), .inr (3, FX4 r_this_codedLayers_2 i_this_codedLayers_2_step i_this_codedLayers_2_blockCount)), ((r_this_codedLayers_2 3), gA G 6 t_this_codedLayers_2_sizes), ((r_this_codedLayers_2 5), gA G 24 t_this_codedLayers_2_costs)]) (q0 := 8) X hK hA hH hl (ct_X4_firstCell l G (ly_this 2) r_this_codedLayers_2 i_this_codedLayers_2_step i_this_codedLayers_2_blockCount t_this_codedLayers_2_sizes p1 p2 H.size o21 ho21) ⟨q_4, q_605, hd_X4_firstCell, rfl, rfl, ⟨Nat.le_of_ble_eq_true rfl, Nat.le_of_ble_eq_true rfl⟩, ⟨Nat.zero_le _, Nat.zero_le _⟩⟩ q_602 q_603 q_604 rfl rfl ⟨rfl, rfl, rfl, rfl, by decide, rfl, rfl⟩ rfl rfl (Nat.le_of_ble_eq_true rfl) dX8_cost_24 (fun H locs hH => ?_)
            obtain ⟨x22, hx22, hf⟩ := sbind hf
            refine g_ald X hK hH 7 rfl hx22 dX8_cost_27 ?_
            obtain rfl := Option.some.inj hf
            exact hE x22 0 _ _ _ _ rfl rfl hH dX8_cost_28
          · have hf := sneg hf c23
            cases hf
    · have hf := sneg hf c24
      by_cases c34 : p0 = (2 : Int32)
      · have hf := spos hf c34
        refine g_aald X hK hH 1 rfl (k := 2) (c34.trans (by decide : (2 : Int32) = nI 2)) (by decide) dX8_cost_12 ?_
        refine g_getN (T := TX4) (N := 10) (ci := 3) (C := RX4) (v := .ref (r_this_codedLayers_2 5)) X hK hH in_RX4 8 rfl rfl 5 (by decide) qn_126 (fun _ h9 => h9) rfl dX8_cost_13 ?_
        refine lv_aload_n hx hb dX8_cost_16 rfl (lv_at hl 0 rfl) ?_
        refine g_get (T := TX8) (N := 18) (ci := 7) (C := RX8) (v := .ref (r_this 8)) X hK hH in_RX8 0 rfl rfl 8 (by decide) q_220 (fun _ h9 => h9) rfl dX8_cost_17 ?_
        refine lv_iload_n hx hb dX8_cost_20 rfl (lv_at hl 1 rfl) ?_
        by_cases c27 : p0 = (0 : Int32)
        · have hf := spos hf c27
          refine g_aald X hK hH 1 rfl (k := 0) (c27.trans (by decide : (0 : Int32) = nI 0)) (by decide) dX8_cost_21 ?_
          refine lv_iload_n hx hb dX8_cost_22 rfl (lv_at hl 2 rfl) ?_
          refine lv_iload_n hx hb dX8_cost_23 rfl (lv_at hl 3 rfl) ?_
          obtain ⟨o25, ho25, hf⟩ := sbind hf
          refine g_cVi (isC := [2, 3]) (isR := [0, 1, 4, 5, 6, 7, 8, 9, 10]) (isP := [0, 1, 9, 10, 2, 3, 4, 5, 6, 7, 8]) (wr := [(h_this, .inr (7, FX8 r_this i_this_layerCount i_this_hasDecoded i_this_codedCount i_this_codedWidth i_this_codedHeight i_this_replacedSize i_this_replacedPlainSize)), ((r_this 8), gO G 3 (fun k => some (ly_this k))), ((r_this_codedLayers_0 5), gA G 24 t_this_codedLayers_0_costs), ((ly_this 1), .inr (3, FX4 r_this_codedLayers_1 i_this_codedLayers_1_step i_this_codedLayers_1_blockCount)), ((r_this_codedLayers_1 3), gA G 6 t_this_codedLayers_1_sizes), ((r_this_codedLayers_1 5), gA G 24 t_this_codedLayers_1_costs), ((ly_this 2), .inr (3, FX4 r_this_codedLayers_2 i_this_codedLayers_2_step i_this_codedLayers_2_blockCount)), ((r_this_codedLayers_2 3), gA G 6 t_this_codedLayers_2_sizes), ((r_this_codedLayers_2 5), gA G 24 t_this_codedLayers_2_costs)]) (w2 := [(h_this, .inr (7, FX8 r_this i_this_layerCount i_this_hasDecoded i_this_codedCount i_this_codedWidth i_this_codedHeight i_this_replacedSize i_this_replacedPlainSize)), ((r_this 8), gO G 3 (fun k => some (ly_this k))), ((ly_this 0), .inr (3, FX4 r_this_codedLayers_0 i_this_codedLayers_0_step i_this_codedLayers_0_blockCount)), ((r_this_codedLayers_0 3), gA G 6 t_this_codedLayers_0_sizes), ((r_this_codedLayers_0 5), gA G 24 t_this_codedLayers_0_costs), ((ly_this 1), .inr (3, FX4 r_this_codedLayers_1 i_this_codedLayers_1_step i_this_codedLayers_1_blockCount)), ((r_this_codedLayers_1 3), gA G 6 t_this_codedLayers_1_sizes), ((r_this_codedLayers_1 5), gA G 24 t_this_codedLayers_1_costs), ((ly_this 2), .inr (3, FX4 r_this_codedLayers_2 i_this_codedLayers_2_step i_this_codedLayers_2_blockCount)), ((r_this_codedLayers_2 3), gA G 6 t_this_codedLayers_2_sizes), ((r_this_codedLayers_2 5), gA G 24 t_this_codedLayers_2_costs)]) (q0 := 2) X hK hA hH hl (ct_X4_firstCell l G (ly_this 0) r_this_codedLayers_0 i_this_codedLayers_0_step i_this_codedLayers_0_blockCount t_this_codedLayers_0_sizes p1 p2 H.size o25 ho25) ⟨q_4, q_605, hd_X4_firstCell, rfl, rfl, ⟨Nat.le_of_ble_eq_true rfl, Nat.le_of_ble_eq_true rfl⟩, ⟨Nat.zero_le _, Nat.zero_le _⟩⟩ q_602 q_603 q_604 rfl rfl ⟨rfl, rfl, rfl, rfl, by decide, rfl, rfl⟩ rfl rfl (Nat.le_of_ble_eq_true rfl) dX8_cost_24 (fun H locs hH => ?_)
          obtain ⟨x26, hx26, hf⟩ := sbind hf
          refine g_ald X hK hH 10 rfl hx26 dX8_cost_27 ?_
          obtain rfl := Option.some.inj hf
          exact hE x26 0 _ _ _ _ rfl rfl hH dX8_cost_28
        · have hf := sneg hf c27
          by_cases c30 : p0 = (1 : Int32)
          · have hf := spos hf c30
            refine g_aald X hK hH 1 rfl (k := 1) (c30.trans (by decide : (1 : Int32) = nI 1)) (by decide) dX8_cost_21 ?_
            refine lv_iload_n hx hb dX8_cost_22 rfl (lv_at hl 2 rfl) ?_
            refine lv_iload_n hx hb dX8_cost_23 rfl (lv_at hl 3 rfl) ?_
            obtain ⟨o28, ho28, hf⟩ := sbind hf
            refine g_cVi (isC := [5, 6]) (isR := [0, 1, 2, 3, 4, 7, 8, 9, 10]) (isP := [0, 1, 2, 3, 4, 9, 10, 5, 6, 7, 8]) (wr := [(h_this, .inr (7, FX8 r_this i_this_layerCount i_this_hasDecoded i_this_codedCount i_this_codedWidth i_this_codedHeight i_this_replacedSize i_this_replacedPlainSize)), ((r_this 8), gO G 3 (fun k => some (ly_this k))), ((ly_this 0), .inr (3, FX4 r_this_codedLayers_0 i_this_codedLayers_0_step i_this_codedLayers_0_blockCount)), ((r_this_codedLayers_0 3), gA G 6 t_this_codedLayers_0_sizes), ((r_this_codedLayers_0 5), gA G 24 t_this_codedLayers_0_costs), ((r_this_codedLayers_1 5), gA G 24 t_this_codedLayers_1_costs), ((ly_this 2), .inr (3, FX4 r_this_codedLayers_2 i_this_codedLayers_2_step i_this_codedLayers_2_blockCount)), ((r_this_codedLayers_2 3), gA G 6 t_this_codedLayers_2_sizes), ((r_this_codedLayers_2 5), gA G 24 t_this_codedLayers_2_costs)]) (w2 := [(h_this, .inr (7, FX8 r_this i_this_layerCount i_this_hasDecoded i_this_codedCount i_this_codedWidth i_this_codedHeight i_this_replacedSize i_this_replacedPlainSize)), ((r_this 8), gO G 3 (fun k => some (ly_this k))), ((ly_this 0), .inr (3, FX4 r_this_codedLayers_0 i_this_codedLayers_0_step i_this_codedLayers_0_blockCount)), ((r_this_codedLayers_0 3), gA G 6 t_this_codedLayers_0_sizes), ((r_this_codedLayers_0 5), gA G 24 t_this_codedLayers_0_costs), ((ly_this 1), .inr (3, FX4 r_this_codedLayers_1 i_this_codedLayers_1_step i_this_codedLayers_1_blockCount)), ((r_this_codedLayers_1 3), gA G 6 t_this_codedLayers_1_sizes), ((r_this_codedLayers_1 5), gA G 24 t_this_codedLayers_1_costs), ((ly_this 2), .inr (3, FX4 r_this_codedLayers_2 i_this_codedLayers_2_step i_this_codedLayers_2_blockCount)), ((r_this_codedLayers_2 3), gA G 6 t_this_codedLayers_2_sizes), ((r_this_codedLayers_2 5), gA G 24 t_this_codedLayers_2_costs)]) (q0 := 5) X hK hA hH hl (ct_X4_firstCell l G (ly_this 1) r_this_codedLayers_1 i_this_codedLayers_1_step i_this_codedLayers_1_blockCount t_this_codedLayers_1_sizes p1 p2 H.size o28 ho28) ⟨q_4, q_605, hd_X4_firstCell, rfl, rfl, ⟨Nat.le_of_ble_eq_true rfl, Nat.le_of_ble_eq_true rfl⟩, ⟨Nat.zero_le _, Nat.zero_le _⟩⟩ q_602 q_603 q_604 rfl rfl ⟨rfl, rfl, rfl, rfl, by decide, rfl, rfl⟩ rfl rfl (Nat.le_of_ble_eq_true rfl) dX8_cost_24 (fun H locs hH => ?_)
            obtain ⟨x29, hx29, hf⟩ := sbind hf
            refine g_ald X hK hH 10 rfl hx29 dX8_cost_27 ?_
            obtain rfl := Option.some.inj hf
            exact hE x29 0 _ _ _ _ rfl rfl hH dX8_cost_28
          · have hf := sneg hf c30
            by_cases c33 : p0 = (2 : Int32)
            · have hf := spos hf c33
              refine g_aald X hK hH 1 rfl (k := 2) (c33.trans (by decide : (2 : Int32) = nI 2)) (by decide) dX8_cost_21 ?_
              refine lv_iload_n hx hb dX8_cost_22 rfl (lv_at hl 2 rfl) ?_
              refine lv_iload_n hx hb dX8_cost_23 rfl (lv_at hl 3 rfl) ?_
              obtain ⟨o31, ho31, hf⟩ := sbind hf
              refine g_cVi (isC := [8, 9]) (isR := [0, 1, 2, 3, 4, 5, 6, 7, 10]) (isP := [0, 1, 2, 3, 4, 5, 6, 7, 9, 10, 8]) (wr := [(h_this, .inr (7, FX8 r_this i_this_layerCount i_this_hasDecoded i_this_codedCount i_this_codedWidth i_this_codedHeight i_this_replacedSize i_this_replacedPlainSize)), ((r_this 8), gO G 3 (fun k => some (ly_this k))), ((ly_this 0), .inr (3, FX4 r_this_codedLayers_0 i_this_codedLayers_0_step i_this_codedLayers_0_blockCount)), ((r_this_codedLayers_0 3), gA G 6 t_this_codedLayers_0_sizes), ((r_this_codedLayers_0 5), gA G 24 t_this_codedLayers_0_costs), ((ly_this 1), .inr (3, FX4 r_this_codedLayers_1 i_this_codedLayers_1_step i_this_codedLayers_1_blockCount)), ((r_this_codedLayers_1 3), gA G 6 t_this_codedLayers_1_sizes), ((r_this_codedLayers_1 5), gA G 24 t_this_codedLayers_1_costs), ((r_this_codedLayers_2 5), gA G 24 t_this_codedLayers_2_costs)]) (w2 := [(h_this, .inr (7, FX8 r_this i_this_layerCount i_this_hasDecoded i_this_codedCount i_this_codedWidth i_this_codedHeight i_this_replacedSize i_this_replacedPlainSize)), ((r_this 8), gO G 3 (fun k => some (ly_this k))), ((ly_this 0), .inr (3, FX4 r_this_codedLayers_0 i_this_codedLayers_0_step i_this_codedLayers_0_blockCount)), ((r_this_codedLayers_0 3), gA G 6 t_this_codedLayers_0_sizes), ((r_this_codedLayers_0 5), gA G 24 t_this_codedLayers_0_costs), ((ly_this 1), .inr (3, FX4 r_this_codedLayers_1 i_this_codedLayers_1_step i_this_codedLayers_1_blockCount)), ((r_this_codedLayers_1 3), gA G 6 t_this_codedLayers_1_sizes), ((r_this_codedLayers_1 5), gA G 24 t_this_codedLayers_1_costs), ((ly_this 2), .inr (3, FX4 r_this_codedLayers_2 i_this_codedLayers_2_step i_this_codedLayers_2_blockCount)), ((r_this_codedLayers_2 3), gA G 6 t_this_codedLayers_2_sizes), ((r_this_codedLayers_2 5), gA G 24 t_this_codedLayers_2_costs)]) (q0 := 8) X hK hA hH hl (ct_X4_firstCell l G (ly_this 2) r_this_codedLayers_2 i_this_codedLayers_2_step i_this_codedLayers_2_blockCount t_this_codedLayers_2_sizes p1 p2 H.size o31 ho31) ⟨q_4, q_605, hd_X4_firstCell, rfl, rfl, ⟨Nat.le_of_ble_eq_true rfl, Nat.le_of_ble_eq_true rfl⟩, ⟨Nat.zero_le _, Nat.zero_le _⟩⟩ q_602 q_603 q_604 rfl rfl ⟨rfl, rfl, rfl, rfl, by decide, rfl, rfl⟩ rfl rfl (Nat.le_of_ble_eq_true rfl) dX8_cost_24 (fun H locs hH => ?_)
              obtain ⟨x32, hx32, hf⟩ := sbind hf
              refine g_ald X hK hH 10 rfl hx32 dX8_cost_27 ?_
              obtain rfl := Option.some.inj hf
              exact hE x32 0 _ _ _ _ rfl rfl hH dX8_cost_28
            · have hf := sneg hf c33
              cases hf
      · have hf := sneg hf c34
        cases hf

def lf_X8_partSize (i_this_codedCount : Int32) (i_this_codedHeight : Int32) (t_this_codedLayers_0_partSizes : Nat → Int32) (t_this_codedLayers_1_partSizes : Nat → Int32) (t_this_codedLayers_2_partSizes : Nat → Int32) (p0 : Int32) (p1 : Int32) : Option (Nat ⊕ (Int32)) :=
(lf_X8_requireCodedLayer i_this_codedCount p0).bind fun o1 => Sum.elim (fun kk => some (Sum.inl kk)) (fun r2 => (lf_X8_requireSlice p1 i_this_codedHeight).bind fun o5 => Sum.elim (fun kk => some (Sum.inl kk)) (fun r6 => (if p0 = (0 : Int32) then (rdA 3 t_this_codedLayers_0_partSizes p1).bind fun x9 => some (Sum.inr x9) else (if p0 = (1 : Int32) then (rdA 3 t_this_codedLayers_1_partSizes p1).bind fun x11 => some (Sum.inr x11) else (if p0 = (2 : Int32) then (rdA 3 t_this_codedLayers_2_partSizes p1).bind fun x13 => some (Sum.inr x13) else none)))) o5) o1
abbrev rm_X8_partSize (k : Nat) : Room := { frames := 7, cells := k, slots := 6 * k, locals := 119 }
theorem hd_X8_partSize : yX8_partSize.cls ≠ "java/lang/invoke/MethodHandle" ∧ yX8_partSize.cls ≠ "java/lang/invoke/VarHandle" ∧ (parseMethodDescriptor yX8_partSize.desc).map (fun d => d.parameters.length) = some 2 := by decide +kernel
set_option maxHeartbeats 4000000 in
set_option maxRecDepth 100000 in
theorem ct_X8_partSize (l : Launch) (G : gG) (h_this : Nat) (r_this r_this_codedLayers_0 r_this_codedLayers_1 r_this_codedLayers_2 : Nat → Nat) (ly_this : Nat → Nat) (i_this_layerCount i_this_hasDecoded i_this_codedCount i_this_codedWidth i_this_codedHeight i_this_replacedSize i_this_replacedPlainSize i_this_codedLayers_0_step i_this_codedLayers_0_blockCount i_this_codedLayers_1_step i_this_codedLayers_1_blockCount i_this_codedLayers_2_step i_this_codedLayers_2_blockCount : Int32) (t_this_codedLayers_0_partSizes t_this_codedLayers_1_partSizes t_this_codedLayers_2_partSizes : Nat → Int32) (p0 p1 : Int32) (sz : Nat) (out : Nat ⊕ (Int32)) (hf : lf_X8_partSize i_this_codedCount i_this_codedHeight t_this_codedLayers_0_partSizes t_this_codedLayers_1_partSizes t_this_codedLayers_2_partSizes p0 p1 = some out) (hst : l.stackTraces = false) : gTi l G yX8_partSize cX8_partSize 3 .int (rm_X8_partSize (tc out)) [.ref h_this, .int p0, .int p1] sz [(h_this, .inr (7, FX8 r_this i_this_layerCount i_this_hasDecoded i_this_codedCount i_this_codedWidth i_this_codedHeight i_this_replacedSize i_this_replacedPlainSize)), ((r_this 8), gO G 3 (fun k => some (ly_this k))), ((ly_this 0), .inr (3, FX4 r_this_codedLayers_0 i_this_codedLayers_0_step i_this_codedLayers_0_blockCount)), ((r_this_codedLayers_0 2), gA G 3 t_this_codedLayers_0_partSizes), ((ly_this 1), .inr (3, FX4 r_this_codedLayers_1 i_this_codedLayers_1_step i_this_codedLayers_1_blockCount)), ((r_this_codedLayers_1 2), gA G 3 t_this_codedLayers_1_partSizes), ((ly_this 2), .inr (3, FX4 r_this_codedLayers_2 i_this_codedLayers_2_step i_this_codedLayers_2_blockCount)), ((r_this_codedLayers_2 2), gA G 3 t_this_codedLayers_2_partSizes)] out (fun x => x) (fun x u => [(h_this, .inr (7, FX8 r_this i_this_layerCount i_this_hasDecoded i_this_codedCount i_this_codedWidth i_this_codedHeight i_this_replacedSize i_this_replacedPlainSize)), ((r_this 8), gO G 3 (fun k => some (ly_this k))), ((ly_this 0), .inr (3, FX4 r_this_codedLayers_0 i_this_codedLayers_0_step i_this_codedLayers_0_blockCount)), ((r_this_codedLayers_0 2), gA G 3 t_this_codedLayers_0_partSizes), ((ly_this 1), .inr (3, FX4 r_this_codedLayers_1 i_this_codedLayers_1_step i_this_codedLayers_1_blockCount)), ((r_this_codedLayers_1 2), gA G 3 t_this_codedLayers_1_partSizes), ((ly_this 2), .inr (3, FX4 r_this_codedLayers_2 i_this_codedLayers_2_step i_this_codedLayers_2_blockCount)), ((r_this_codedLayers_2 2), gA G 3 t_this_codedLayers_2_partSizes)]) := by
  refine gTi_of (by decide +kernel) (Nat.le_of_ble_eq_true rfl) ?_
  intro p e s m args below meth c ls A Q X hK hA hsz hH hl hS hZ hno hQ hE
  subst hsz
  have hx := X.1
  have hb := X.2.1
  unfold lf_X8_partSize at hf
  have hl : lv_has ls 3 [(0, .ref h_this), (1, .int p0), (2, .int p1)] := hl
  have hH : gH G A s.heap s.heap [] [(h_this, .inr (7, FX8 r_this i_this_layerCount i_this_hasDecoded i_this_codedCount i_this_codedWidth i_this_codedHeight i_this_replacedSize i_this_replacedPlainSize)), ((r_this 8), gO G 3 (fun k => some (ly_this k))), ((ly_this 0), .inr (3, FX4 r_this_codedLayers_0 i_this_codedLayers_0_step i_this_codedLayers_0_blockCount)), ((r_this_codedLayers_0 2), gA G 3 t_this_codedLayers_0_partSizes), ((ly_this 1), .inr (3, FX4 r_this_codedLayers_1 i_this_codedLayers_1_step i_this_codedLayers_1_blockCount)), ((r_this_codedLayers_1 2), gA G 3 t_this_codedLayers_1_partSizes), ((ly_this 2), .inr (3, FX4 r_this_codedLayers_2 i_this_codedLayers_2_step i_this_codedLayers_2_blockCount)), ((r_this_codedLayers_2 2), gA G 3 t_this_codedLayers_2_partSizes)] := hH
  refine lv_aload_n hx hb dX8_partSize_0 rfl (lv_at hl 0 rfl) ?_
  refine lv_iload_n hx hb dX8_partSize_1 rfl (lv_at hl 1 rfl) ?_
  obtain ⟨o1, ho1, hf⟩ := sbind hf
  rcases o1 with k4 | r2
  · obtain rfl := Option.some.inj hf
    rw [hQ]
    exact g_tVx (isC := [0]) (isR := [1, 2, 3, 4, 5, 6, 7]) (isP := [7, 0, 1, 2, 3, 4, 5, 6]) (wr := [((r_this 8), gO G 3 (fun k => some (ly_this k))), ((ly_this 0), .inr (3, FX4 r_this_codedLayers_0 i_this_codedLayers_0_step i_this_codedLayers_0_blockCount)), ((r_this_codedLayers_0 2), gA G 3 t_this_codedLayers_0_partSizes), ((ly_this 1), .inr (3, FX4 r_this_codedLayers_1 i_this_codedLayers_1_step i_this_codedLayers_1_blockCount)), ((r_this_codedLayers_1 2), gA G 3 t_this_codedLayers_1_partSizes), ((ly_this 2), .inr (3, FX4 r_this_codedLayers_2 i_this_codedLayers_2_step i_this_codedLayers_2_blockCount)), ((r_this_codedLayers_2 2), gA G 3 t_this_codedLayers_2_partSizes)]) (q0 := 0) X hK hS hZ hno hA hH hl (ct_X8_requireCodedLayer l G h_this r_this i_this_layerCount i_this_hasDecoded i_this_codedCount i_this_codedWidth i_this_codedHeight i_this_replacedSize i_this_replacedPlainSize p0 s.heap.size _ ho1 hst) ⟨q_1, q_733, hd_X8_requireCodedLayer, rfl, rfl, ⟨Nat.le_of_ble_eq_true rfl, Nat.le_of_ble_eq_true rfl⟩, ⟨Nat.le_of_ble_eq_true rfl, Nat.le_of_ble_eq_true rfl⟩⟩ q_730 q_732 qs_16 rfl rfl ⟨rfl, rfl, rfl, rfl, by decide, rfl, rfl⟩ rfl rfl (Nat.le_of_ble_eq_true rfl) dX8_partSize_2
  have hf := selimr hf
  refine g_tVr (isC := [0]) (isR := [1, 2, 3, 4, 5, 6, 7]) (isP := [7, 0, 1, 2, 3, 4, 5, 6]) (wr := [((r_this 8), gO G 3 (fun k => some (ly_this k))), ((ly_this 0), .inr (3, FX4 r_this_codedLayers_0 i_this_codedLayers_0_step i_this_codedLayers_0_blockCount)), ((r_this_codedLayers_0 2), gA G 3 t_this_codedLayers_0_partSizes), ((ly_this 1), .inr (3, FX4 r_this_codedLayers_1 i_this_codedLayers_1_step i_this_codedLayers_1_blockCount)), ((r_this_codedLayers_1 2), gA G 3 t_this_codedLayers_1_partSizes), ((ly_this 2), .inr (3, FX4 r_this_codedLayers_2 i_this_codedLayers_2_step i_this_codedLayers_2_blockCount)), ((r_this_codedLayers_2 2), gA G 3 t_this_codedLayers_2_partSizes)]) (q0 := 0) (w2 := (fun u3 => [(h_this, .inr (7, FX8 r_this i_this_layerCount i_this_hasDecoded i_this_codedCount i_this_codedWidth i_this_codedHeight i_this_replacedSize i_this_replacedPlainSize)), ((r_this 8), gO G 3 (fun k => some (ly_this k))), ((ly_this 0), .inr (3, FX4 r_this_codedLayers_0 i_this_codedLayers_0_step i_this_codedLayers_0_blockCount)), ((r_this_codedLayers_0 2), gA G 3 t_this_codedLayers_0_partSizes), ((ly_this 1), .inr (3, FX4 r_this_codedLayers_1 i_this_codedLayers_1_step i_this_codedLayers_1_blockCount)), ((r_this_codedLayers_1 2), gA G 3 t_this_codedLayers_1_partSizes), ((ly_this 2), .inr (3, FX4 r_this_codedLayers_2 i_this_codedLayers_2_step i_this_codedLayers_2_blockCount)), ((r_this_codedLayers_2 2), gA G 3 t_this_codedLayers_2_partSizes)])) X hK hS hZ hA hH hl (ct_X8_requireCodedLayer l G h_this r_this i_this_layerCount i_this_hasDecoded i_this_codedCount i_this_codedWidth i_this_codedHeight i_this_replacedSize i_this_replacedPlainSize p0 s.heap.size _ ho1 hst) ⟨q_1, q_733, hd_X8_requireCodedLayer, rfl, rfl, ⟨Nat.le_of_ble_eq_true rfl, Nat.le_of_ble_eq_true rfl⟩, ⟨Nat.zero_le _, Nat.zero_le _⟩⟩ q_730 q_732 qs_16 rfl rfl (fun _ => ⟨rfl, rfl, rfl, rfl, by decide, rfl, rfl⟩) rfl rfl (Nat.le_of_ble_eq_true rfl) dX8_partSize_2 (fun u3 H locs hH => ?_)
  refine lv_iload_n hx hb dX8_partSize_5 rfl (lv_at hl 2 rfl) ?_
  refine lv_aload_n hx hb dX8_partSize_6 rfl (lv_at hl 0 rfl) ?_
  refine g_get (T := TX8) (N := 18) (ci := 7) (C := RX8) (v := .int i_this_codedHeight) X hK hH in_RX8 0 rfl rfl 11 (by decide) q_223 (fun _ h9 => h9) rfl dX8_partSize_7 ?_
  obtain ⟨o5, ho5, hf⟩ := sbind hf
  rcases o5 with k8 | r6
  · obtain rfl := Option.some.inj hf
    rw [hQ]
    exact g_tSx (isC := []) (isR := [0, 1, 2, 3, 4, 5, 6, 7]) (isP := [0, 1, 2, 3, 4, 5, 6, 7]) (wr := [(h_this, .inr (7, FX8 r_this i_this_layerCount i_this_hasDecoded i_this_codedCount i_this_codedWidth i_this_codedHeight i_this_replacedSize i_this_replacedPlainSize)), ((r_this 8), gO G 3 (fun k => some (ly_this k))), ((ly_this 0), .inr (3, FX4 r_this_codedLayers_0 i_this_codedLayers_0_step i_this_codedLayers_0_blockCount)), ((r_this_codedLayers_0 2), gA G 3 t_this_codedLayers_0_partSizes), ((ly_this 1), .inr (3, FX4 r_this_codedLayers_1 i_this_codedLayers_1_step i_this_codedLayers_1_blockCount)), ((r_this_codedLayers_1 2), gA G 3 t_this_codedLayers_1_partSizes), ((ly_this 2), .inr (3, FX4 r_this_codedLayers_2 i_this_codedLayers_2_step i_this_codedLayers_2_blockCount)), ((r_this_codedLayers_2 2), gA G 3 t_this_codedLayers_2_partSizes)]) X hK hS hZ hno hA hH hl (ct_X8_requireSlice l G p1 i_this_codedHeight H.size _ ho5 hst) ⟨q_1, q_690, hd_X8_requireSlice, rfl, rfl, ⟨Nat.le_of_ble_eq_true rfl, Nat.le_of_ble_eq_true rfl⟩, ⟨Nat.le_of_ble_eq_true rfl, Nat.le_of_ble_eq_true rfl⟩⟩ q_688 q_689 ⟨rfl, rfl, rfl, rfl, by decide, rfl, rfl⟩ rfl rfl (Nat.le_of_ble_eq_true rfl) dX8_partSize_10
  have hf := selimr hf
  refine g_tSr (isC := []) (isR := [0, 1, 2, 3, 4, 5, 6, 7]) (isP := [0, 1, 2, 3, 4, 5, 6, 7]) (wr := [(h_this, .inr (7, FX8 r_this i_this_layerCount i_this_hasDecoded i_this_codedCount i_this_codedWidth i_this_codedHeight i_this_replacedSize i_this_replacedPlainSize)), ((r_this 8), gO G 3 (fun k => some (ly_this k))), ((ly_this 0), .inr (3, FX4 r_this_codedLayers_0 i_this_codedLayers_0_step i_this_codedLayers_0_blockCount)), ((r_this_codedLayers_0 2), gA G 3 t_this_codedLayers_0_partSizes), ((ly_this 1), .inr (3, FX4 r_this_codedLayers_1 i_this_codedLayers_1_step i_this_codedLayers_1_blockCount)), ((r_this_codedLayers_1 2), gA G 3 t_this_codedLayers_1_partSizes), ((ly_this 2), .inr (3, FX4 r_this_codedLayers_2 i_this_codedLayers_2_step i_this_codedLayers_2_blockCount)), ((r_this_codedLayers_2 2), gA G 3 t_this_codedLayers_2_partSizes)]) (w2 := (fun u7 => [(h_this, .inr (7, FX8 r_this i_this_layerCount i_this_hasDecoded i_this_codedCount i_this_codedWidth i_this_codedHeight i_this_replacedSize i_this_replacedPlainSize)), ((r_this 8), gO G 3 (fun k => some (ly_this k))), ((ly_this 0), .inr (3, FX4 r_this_codedLayers_0 i_this_codedLayers_0_step i_this_codedLayers_0_blockCount)), ((r_this_codedLayers_0 2), gA G 3 t_this_codedLayers_0_partSizes), ((ly_this 1), .inr (3, FX4 r_this_codedLayers_1 i_this_codedLayers_1_step i_this_codedLayers_1_blockCount)), ((r_this_codedLayers_1 2), gA G 3 t_this_codedLayers_1_partSizes), ((ly_this 2), .inr (3, FX4 r_this_codedLayers_2 i_this_codedLayers_2_step i_this_codedLayers_2_blockCount)), ((r_this_codedLayers_2 2), gA G 3 t_this_codedLayers_2_partSizes)])) X hK hS hZ hA hH hl (ct_X8_requireSlice l G p1 i_this_codedHeight H.size _ ho5 hst) ⟨q_1, q_690, hd_X8_requireSlice, rfl, rfl, ⟨Nat.le_of_ble_eq_true rfl, Nat.le_of_ble_eq_true rfl⟩, ⟨Nat.zero_le _, Nat.zero_le _⟩⟩ q_688 q_689 (fun _ => ⟨rfl, rfl, rfl, rfl, by decide, rfl, rfl⟩) rfl rfl (Nat.le_of_ble_eq_true rfl) dX8_partSize_10 (fun u7 H locs hH => ?_)
  refine lv_aload_n hx hb dX8_partSize_13 rfl (lv_at hl 0 rfl) ?_
  refine g_get (T := TX8) (N := 18) (ci := 7) (C := RX8) (v := .ref (r_this 8)) X hK hH in_RX8 0 rfl rfl 8 (by decide) q_220 (fun _ h9 => h9) rfl dX8_partSize_14 ?_
  refine lv_iload_n hx hb dX8_partSize_17 rfl (lv_at hl 1 rfl) ?_
  by_cases c10 : p0 = (0 : Int32)
  · have hf := spos hf c10
    refine g_aald X hK hH 1 rfl (k := 0) (c10.trans (by decide : (0 : Int32) = nI 0)) (by decide) dX8_partSize_18 ?_
    refine g_getN (T := TX4) (N := 10) (ci := 3) (C := RX4) (v := .ref (r_this_codedLayers_0 2)) X hK hH in_RX4 2 rfl rfl 2 (by decide) qn_121 (fun _ h9 => h9) rfl dX8_partSize_19 ?_
    refine lv_iload_n hx hb dX8_partSize_22 rfl (lv_at hl 2 rfl) ?_
    obtain ⟨x9, hx9, hf⟩ := sbind hf
    refine g_ald X hK hH 3 rfl hx9 dX8_partSize_23 ?_
    obtain rfl := Option.some.inj hf
    exact hE x9 0 _ _ _ _ rfl rfl hH dX8_partSize_24
  · have hf := sneg hf c10
    by_cases c12 : p0 = (1 : Int32)
    · have hf := spos hf c12
      refine g_aald X hK hH 1 rfl (k := 1) (c12.trans (by decide : (1 : Int32) = nI 1)) (by decide) dX8_partSize_18 ?_
      refine g_getN (T := TX4) (N := 10) (ci := 3) (C := RX4) (v := .ref (r_this_codedLayers_1 2)) X hK hH in_RX4 4 rfl rfl 2 (by decide) qn_121 (fun _ h9 => h9) rfl dX8_partSize_19 ?_
      refine lv_iload_n hx hb dX8_partSize_22 rfl (lv_at hl 2 rfl) ?_
      obtain ⟨x11, hx11, hf⟩ := sbind hf
      refine g_ald X hK hH 5 rfl hx11 dX8_partSize_23 ?_
      obtain rfl := Option.some.inj hf
      exact hE x11 0 _ _ _ _ rfl rfl hH dX8_partSize_24
    · have hf := sneg hf c12
      by_cases c14 : p0 = (2 : Int32)
      · have hf := spos hf c14
        refine g_aald X hK hH 1 rfl (k := 2) (c14.trans (by decide : (2 : Int32) = nI 2)) (by decide) dX8_partSize_18 ?_
        refine g_getN (T := TX4) (N := 10) (ci := 3) (C := RX4) (v := .ref (r_this_codedLayers_2 2)) X hK hH in_RX4 6 rfl rfl 2 (by decide) qn_121 (fun _ h9 => h9) rfl dX8_partSize_19 ?_
        refine lv_iload_n hx hb dX8_partSize_22 rfl (lv_at hl 2 rfl) ?_
        obtain ⟨x13, hx13, hf⟩ := sbind hf
        refine g_ald X hK hH 7 rfl hx13 dX8_partSize_23 ?_
        obtain rfl := Option.some.inj hf
        exact hE x13 0 _ _ _ _ rfl rfl hH dX8_partSize_24
      · have hf := sneg hf c14
        cases hf
