theorem nI_n {n : Nat} (h : n < 2 ^ 31) : ¬ nI n < 0 := nI_pos h
abbrev rm_copyOf (n : Nat) : Room := { frames := 1, cells := 1, slots := 2 * n, locals := 100 }
theorem hd_copyOf : yJ7_copyOf_59c91.cls ≠ "java/lang/invoke/MethodHandle" ∧ yJ7_copyOf_59c91.cls ≠ "java/lang/invoke/VarHandle" ∧ (parseMethodDescriptor yJ7_copyOf_59c91.desc).map (fun d => d.parameters.length) = some 2 := by decide +kernel
set_option maxHeartbeats 4000000 in
set_option maxRecDepth 100000 in
/-- Arrays.copyOf(a, 2 n) of a row of n: a new row, twice as long -/
theorem ct_copyOf (l : Launch) (G : gG) (a n : Nat) (t : Nat → Int32) (hn : 1 ≤ n) (hn2 : 2 * n ≤ GLIM) (sz : Nat) :
    Met l yJ7_copyOf_59c91 (gw yJ7_copyOf_59c91 cJ7_copyOf_59c91 3 (some (.array .int))) (rm_copyOf n) (gP G [.ref a, .int (nI (2 * n))] sz [(a, gA G n t)]) (va_Qr (fun (_ : Unit) => True) (fun _ q => gB G [(a, gA G n t), (q, gA G (2 * n) (va_cpy t (fun _ => 0) 0 0 n))] (va_A [(a, gA G n t)] sz)) (va_A [(a, gA G n t)] sz)) 1 (2 * n) (va_A [(a, gA G n t)] sz) := by
  have hlim : 2 * n ≤ 32768 := hn2
  refine g_start (Qc := fun A => va_Qr (fun (_ : Unit) => True) (fun _ q => gB G [(a, gA G n t), (q, gA G (2 * n) (va_cpy t (fun _ => 0) 0 0 n))] A) A) (by decide +kernel) (Nat.le_of_ble_eq_true rfl) ?_
  intro p e s m below meth c ls A X hK hA hsz hH hl
  have hx := X.1
  have hb := X.2.1
  have hl : lv_has ls 3 [(0, .ref a), (1, .int (nI (2 * n)))] := hl
  refine lv_iload_n hx hb dJ7_copyOf_59c91_0 rfl (lv_at hl 1 rfl) ?_
  refine lv_aload_n hx hb dJ7_copyOf_59c91_1 rfl (lv_at hl 0 rfl) ?_
  refine g_alen X hK hH 0 rfl dJ7_copyOf_59c91_2 ?_
  refine lv_icmp_ne (tgt := 14) hx hb dJ7_copyOf_59c91_3 (by decide) (fun c1 => ?_) (fun c1 => ?_)
  rotate_left
  · exact absurd ((nI_eq (by omega) (by omega)).mp c1) (by omega)
  refine lv_iload_n hx hb dJ7_copyOf_59c91_14 rfl (lv_at hl 1 rfl) ?_
  refine g_newI X hK hA hH q_59 (N := 2 * n) (nI_pos (by omega)) (nI_clamp (by omega)) (by omega) (Nat.le_of_eq rfl) (by show 0 + 2 * n ≤ 2 * n; omega) dJ7_copyOf_59c91_15 (fun q H hH => ?_)
  have hH : gH G A s.heap H [] [(a, gA G n t), (q, gA G (2 * n) (fun _ => 0))] := hH
  refine lv_astore_n (lv' := [(2, .ref q), (0, .ref a), (1, .int (nI (2 * n)))]) hx hb dJ7_copyOf_59c91_17 rfl hl (by decide) rfl (fun ls hl => ?_)
  refine lv_aload_n hx hb dJ7_copyOf_59c91_18 rfl (lv_at hl 1 rfl) ?_
  refine lv_iconst (v := 0) hx hb dJ7_copyOf_59c91_19 (by decide) ?_
  refine lv_aload_n hx hb dJ7_copyOf_59c91_20 rfl (lv_at hl 0 rfl) ?_
  refine lv_iconst (v := 0) hx hb dJ7_copyOf_59c91_21 (by decide) ?_
  refine lv_aload_n hx hb dJ7_copyOf_59c91_22 rfl (lv_at hl 1 rfl) ?_
  refine g_alen X hK hH 0 rfl dJ7_copyOf_59c91_23 ?_
  refine lv_iload_n hx hb dJ7_copyOf_59c91_24 rfl (lv_at hl 2 rfl) ?_
  refine g_min X hl q_795 q_511 q_16 q_512 ⟨Nat.le_of_ble_eq_true rfl, Nat.le_of_ble_eq_true rfl⟩ ⟨Nat.le_of_eq rfl, by show 0 + 2 * n ≤ 2 * n; omega⟩ dJ7_copyOf_59c91_25 ?_
  have hmin : jmin (Int32.ofNat n) (nI (2 * n)) = nI n := by
    unfold jmin
    exact if_neg (nI_nlt (a := 2 * n) (b := n) (by omega) (by omega))
  rw [hmin]
  have hz0 : (0 : Int32).toNatClampNeg = 0 := by decide
  refine va_copyi (own := RJ7) hx hb (X.2.2.2.1.trans hl.1.symm) X.2.2.2.2.2.1 (X.2.2.2.2.1 _ q_796) (X.2.2.2.2.1 _ (lw_in 838 (by decide +kernel) (by decide +kernel))) (X.2.2.2.2.1 _ q_797) (X.2.2.2.2.1 _ q_27) hK.1 hH.1 hH.2.1 hH.2.2 0 1 0 0 rfl rfl rfl rfl rfl (by decide) (by decide) (nI_pos (by omega)) (by rw [hz0, nI_clamp (by omega)]; omega) (by rw [hz0, nI_clamp (by omega)]; omega) (fun _ _ => rfl) (Nat.le_of_ble_eq_true rfl) (by show 0 + (nativeFrameWords "java/lang/System" "arraycopy" 5 + 11) ≤ 100; decide +kernel) dJ7_copyOf_59c91_28 (fun H locs hP hD hS => ?_)
  rw [hz0, nI_clamp (by omega)] at hP hD
  have hP : va_P G.1 vwCl [(a, gA G n t), (q, gA G (2 * n) (va_cpy t (fun _ => 0) 0 0 n))] H := hP
  have hD : va_D A [(a, gA G n t), (q, gA G (2 * n) (va_cpy t (fun _ => 0) 0 0 n))] := hD
  refine lv_aload_n hx hb dJ7_copyOf_59c91_31 rfl (lv_at hl 0 rfl) ?_
  refine W.widen (k := 1) (n := 2 * n) (Nat.le_refl _) (by omega) ?_
  exact W.aret (v := .ref q) hx hb X.2.2.1 (Or.inr ⟨_, rfl⟩) (Or.inr ⟨q, rfl⟩) (fun t2 ht hW => ⟨⟨(), q, rfl, trivial, by rw [ht]; exact hP, hD⟩, hS.F ht⟩) hS.2.2 dJ7_copyOf_59c91_32 X.2.2.2.2.2.2
/-- ByteRow.append: the row grows where it is full -/
def lf_X3_append (i_this_count : Int32) (n_this_bytes : Nat) (t_this_bytes : Nat → Int32) (p0 : Int32) : Option (Int32 × (Nat → Int32) × Nat) :=
  if 1 ≤ n_this_bytes ∧ n_this_bytes ≤ GLIM then
    (if i_this_count < Int32.ofNat n_this_bytes then (wrA n_this_bytes t_this_bytes i_this_count p0).bind fun g => some (i_this_count + 1, g, n_this_bytes)
     else if 2 * n_this_bytes ≤ GLIM then (wrA (2 * n_this_bytes) (va_cpy t_this_bytes (fun _ => 0) 0 0 n_this_bytes) i_this_count p0).bind fun g => some (i_this_count + 1, g, 2 * n_this_bytes) else none)
  else none
abbrev rm_X3_append (n : Nat) : Room := { frames := 2, cells := GLIM - n, slots := 2 * (GLIM - n), locals := 8 + (3 + 11) + 100 }
theorem hd_X3_append : yX3_append.cls ≠ "java/lang/invoke/MethodHandle" ∧ yX3_append.cls ≠ "java/lang/invoke/VarHandle" ∧ (parseMethodDescriptor yX3_append.desc).map (fun d => d.parameters.length) = some 1 := by decide +kernel
set_option maxHeartbeats 4000000 in
set_option maxRecDepth 100000 in
theorem ct_X3_append (l : Launch) (G : gG) (h_this : Nat) (r_this : Nat → Nat) (q_this_bytes n_this_bytes : Nat) (i_this_count : Int32) (t_this_bytes : Nat → Int32) (p0 : Int32) (sz : Nat) (out : Int32 × (Nat → Int32) × Nat) (hf : lf_X3_append i_this_count n_this_bytes t_this_bytes p0 = some out) :
    gVe l G yX3_append cX3_append 2 (rm_X3_append n_this_bytes) [.ref h_this, .int p0] sz [(h_this, .inr (2, FX3 r_this q_this_bytes i_this_count)), (q_this_bytes, gA G n_this_bytes t_this_bytes)] (fun u => [(h_this, .inr (2, FX3 r_this u out.1)), (u, gA G out.2.2 out.2.1)]) (out.2.2 - n_this_bytes) (2 * (out.2.2 - n_this_bytes)) := by
  refine gVe_of (by decide +kernel) (Nat.le_of_ble_eq_true rfl) ?_
  intro p e s m args below meth c ls A Q X hK hA hsz hH hl hE
  subst hsz
  have hx := X.1
  have hb := X.2.1
  unfold lf_X3_append at hf
  have hl : lv_has ls 2 [(0, .ref h_this), (1, .int p0)] := hl
  have hH : gH G A s.heap s.heap [] [(h_this, .inr (2, FX3 r_this q_this_bytes i_this_count)), (q_this_bytes, gA G n_this_bytes t_this_bytes)] := hH
  by_cases hlim : 1 ≤ n_this_bytes ∧ n_this_bytes ≤ GLIM
  rotate_left
  · rw [if_neg hlim] at hf; cases hf
  rw [if_pos hlim] at hf
  have hG : GLIM = 32768 := rfl
  refine lv_aload_n hx hb dX3_append_0 rfl (lv_at hl 0 rfl) ?_
  refine g_get (T := TX3) (N := 2) (ci := 2) (C := RX3) (v := .int i_this_count) X hK hH in_RX3 0 rfl rfl 1 (by decide) q_68 (fun _ h9 => h9) rfl dX3_append_1 ?_
  refine lv_aload_n hx hb dX3_append_4 rfl (lv_at hl 0 rfl) ?_
  refine g_get (T := TX3) (N := 2) (ci := 2) (C := RX3) (v := .ref q_this_bytes) X hK hH in_RX3 0 rfl rfl 0 (by decide) q_66 (fun _ h9 => h9) rfl dX3_append_5 ?_
  refine g_alen X hK hH 1 rfl dX3_append_8 ?_
  have J : ∀ (n : Nat) (t : Nat → Int32) (q cells slots : Nat) (H : Heap) (locs : List Loc) (ls : Array Slot), ((wrA n t i_this_count p0).bind fun g => some (i_this_count + 1, g, n)) = some out → cells ≤ n - n_this_bytes → slots ≤ 2 * (n - n_this_bytes) → gH G A s.heap H locs [(h_this, .inr (2, FX3 r_this q i_this_count)), (q, gA G n t)] → lv_has ls 2 [(0, .ref h_this), (1, .int p0)] → W p l e (rm_X3_append n_this_bytes) s m args below meth c H locs cells slots Q (F0 m 30 ls []) := by
    intro n t q cells slots H locs ls hf h1 h2 hH hl
    refine lv_aload_n hx hb dX3_append_30 rfl (lv_at hl 0 rfl) ?_
    refine g_get (T := TX3) (N := 2) (ci := 2) (C := RX3) (v := .ref q) X hK hH in_RX3 0 rfl rfl 0 (by decide) q_66 (fun _ h9 => h9) rfl dX3_append_31 ?_
    refine lv_aload_n hx hb dX3_append_34 rfl (lv_at hl 0 rfl) ?_
    refine g_get (T := TX3) (N := 2) (ci := 2) (C := RX3) (v := .int i_this_count) X hK hH in_RX3 0 rfl rfl 1 (by decide) q_68 (fun _ h9 => h9) rfl dX3_append_35 ?_
    refine lv_iload_n hx hb dX3_append_38 rfl (lv_at hl 1 rfl) ?_
    obtain ⟨g8, hg8, hf⟩ := sbind hf
    refine g_ast (w1 := [(h_this, .inr (2, FX3 r_this q i_this_count)), (q, gA G n g8)]) X hK hH 1 rfl hg8 dX3_append_39 rfl (fun H locs hH => ?_)
    refine lv_aload_n hx hb dX3_append_40 rfl (lv_at hl 0 rfl) ?_
    refine lv_dup hx hb dX3_append_41 rfl ?_
    refine g_get (T := TX3) (N := 2) (ci := 2) (C := RX3) (v := .int i_this_count) X hK hH in_RX3 0 rfl rfl 1 (by decide) q_68 (fun _ h9 => h9) rfl dX3_append_42 ?_
    refine lv_iconst (v := (1 : Int32)) hx hb dX3_append_45 (by decide) ?_
    refine lv_iadd hx hb dX3_append_46 ?_
    refine g_put (w1 := [(h_this, .inr (2, FX3 r_this q (i_this_count + 1))), (q, gA G n g8)]) (T := TX3) (N := 2) (ci := 2) (C := RX3) (ty := .int) (v := .int (i_this_count + 1)) X hK hH in_RX3 tyX3 tyX3_ok nmX3 0 rfl rfl 1 (by decide) q_68 (fun _ h9 => h9) rfl (by decide +kernel) rfl rfl (Nat.le_of_ble_eq_true rfl) dX3_append_47 FX3_count rfl (fun H locs hH => ?_)
    obtain rfl := Option.some.inj hf
    exact hE q _ _ _ _ _ _ h1 h2 hH dX3_append_50
  refine lv_icmp_lt (tgt := 30) hx hb dX3_append_9 (by decide) (fun c1 => ?_) (fun c1 => ?_)
  · have hf := spos hf c1
    exact J _ _ _ _ _ _ _ _ hf (Nat.zero_le _) (Nat.zero_le _) hH hl
  · have hf := sneg hf c1
    by_cases hn2 : 2 * n_this_bytes ≤ GLIM
    rotate_left
    · rw [if_neg hn2] at hf; cases hf
    rw [if_pos hn2] at hf
    refine lv_aload_n hx hb dX3_append_12 rfl (lv_at hl 0 rfl) ?_
    refine lv_aload_n hx hb dX3_append_13 rfl (lv_at hl 0 rfl) ?_
    refine g_get (T := TX3) (N := 2) (ci := 2) (C := RX3) (v := .ref q_this_bytes) X hK hH in_RX3 0 rfl rfl 0 (by decide) q_66 (fun _ h9 => h9) rfl dX3_append_14 ?_
    refine lv_aload_n hx hb dX3_append_17 rfl (lv_at hl 0 rfl) ?_
    refine g_get (T := TX3) (N := 2) (ci := 2) (C := RX3) (v := .ref q_this_bytes) X hK hH in_RX3 0 rfl rfl 0 (by decide) q_66 (fun _ h9 => h9) rfl dX3_append_18 ?_
    refine g_alen X hK hH 1 rfl dX3_append_21 ?_
    refine lv_iconst (v := (2 : Int32)) hx hb dX3_append_22 (by decide) ?_
    refine lv_imul hx hb dX3_append_23 ?_
    have e2 : Int32.ofNat n_this_bytes * (2 : Int32) = nI (2 * n_this_bytes) := by
      have h := pk_mul n_this_bytes 2
      rw [Nat.mul_comm 2]; exact h
    rw [e2]
    have hC := g_fm (ww := [(h_this, .inr (2, FX3 r_this q_this_bytes i_this_count)), (q_this_bytes, gA G n_this_bytes t_this_bytes)]) (w2 := [(q_this_bytes, gA G n_this_bytes t_this_bytes)]) (is := [1]) rfl
    have J1 : gJ [(h_this, .inr (2, FX3 r_this q_this_bytes i_this_count)), (q_this_bytes, gA G n_this_bytes t_this_bytes)] [(q_this_bytes, gA G n_this_bytes t_this_bytes)] [] [(h_this, .inr (2, FX3 r_this q_this_bytes i_this_count))] [1] [0] [0] [(h_this, .inr (2, FX3 r_this q_this_bytes i_this_count))] := ⟨rfl, rfl, rfl, rfl, by decide, rfl, rfl⟩
    have hF := va_free hH.2.1 hH.2.2 hA [1] (wc := [(q_this_bytes, gA G n_this_bytes t_this_bytes)]) rfl
    refine va_callr (va_runS (As := [.ref q_this_bytes, .int (nI (2 * n_this_bytes))]) (rest := [.ref h_this]) (g_fix X) (ct_copyOf l G q_this_bytes n_this_bytes t_this_bytes hlim.1 hn2 s.heap.size) ⟨callB_of 2 X.2.2.2.2.1 (gw_in q_787) rfl rfl rfl (X.2.2.2.2.1 _ q_15) (X.2.2.2.2.1 _ q_785) hd_copyOf ⟨Nat.le_of_ble_eq_true rfl, Nat.le_of_ble_eq_true rfl⟩, X.2.2.2.2.1 _ q_786⟩ (g_pre hK hA hH J1) rfl rfl hl.1 rfl (lv_room (Nat.le_of_ble_eq_true rfl)) dX3_append_24 ⟨by show 0 + 1 ≤ GLIM - n_this_bytes; omega, by show 0 + 2 * n_this_bytes ≤ 2 * (GLIM - n_this_bytes); omega⟩) hH.2.2 (fun q _ h => hF q h) hF (fun u ra t H1 locs1 ht hvm hw hB hz1 hk1 hS => ?_)
    have J2 : gJ [(h_this, .inr (2, FX3 r_this q_this_bytes i_this_count)), (q_this_bytes, gA G n_this_bytes t_this_bytes)] [(q_this_bytes, gA G n_this_bytes t_this_bytes)] [(q_this_bytes, gA G n_this_bytes t_this_bytes), (ra, gA G (2 * n_this_bytes) (va_cpy t_this_bytes (fun _ => 0) 0 0 n_this_bytes))] [(h_this, .inr (2, FX3 r_this q_this_bytes i_this_count)), (ra, gA G (2 * n_this_bytes) (va_cpy t_this_bytes (fun _ => 0) 0 0 n_this_bytes))] [1] [0] [0, 2] [(h_this, .inr (2, FX3 r_this q_this_bytes i_this_count))] := ⟨rfl, rfl, rfl, rfl, by decide, rfl, rfl⟩
    have hH := g_join hA hH J2 ht hB hk1 hS
    refine g_put (w1 := [(h_this, .inr (2, FX3 r_this ra i_this_count)), (ra, gA G (2 * n_this_bytes) (va_cpy t_this_bytes (fun _ => 0) 0 0 n_this_bytes))]) (T := TX3) (N := 2) (ci := 2) (C := RX3) (ty := .array .int) (v := .ref ra) X hK hH in_RX3 tyX3 tyX3_ok nmX3 0 rfl rfl 0 (by decide) q_66 (fun _ h9 => h9) rfl (by decide +kernel) rfl rfl (Nat.le_of_ble_eq_true rfl) dX3_append_27 FX3_bytes rfl (fun H locs hH => ?_)
    exact J _ _ _ _ _ _ _ _ hf (by omega) (by omega) hH hl
