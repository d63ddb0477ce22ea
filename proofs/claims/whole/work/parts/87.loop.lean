/-! ===== the law's switch and its loop ===== -/
theorem LI_S {A : Nat → Prop} {H0 H : Heap} {locs : List Loc} {G : gG} {E : gE} {hx hm ho hd : Nat} {r_this r_this_picture r_this_codedLayers_0 r_this_codedLayers_0_prediction r_this_codedLayers_0_transform r_this_codedLayers_1 r_this_codedLayers_1_prediction r_this_codedLayers_1_transform r_this_codedLayers_2 r_this_codedLayers_2_prediction r_this_codedLayers_2_transform r_this_stream r_this_writer ly_this r_this_decoded r_this_decodedLayer r_this_decodedLayer_prediction r_this_decodedLayer_transform r_this_reader r9 : Nat → Nat} {n_stream_bytes : Nat} (h : LI A H0 G E hx hm ho hd r_this r_this_picture r_this_codedLayers_0 r_this_codedLayers_0_prediction r_this_codedLayers_0_transform r_this_codedLayers_1 r_this_codedLayers_1_prediction r_this_codedLayers_1_transform r_this_codedLayers_2 r_this_codedLayers_2_prediction r_this_codedLayers_2_transform r_this_stream r_this_writer ly_this r_this_decoded r_this_decodedLayer r_this_decodedLayer_prediction r_this_decodedLayer_transform r_this_reader r9 n_stream_bytes H locs) : va_S A H0 H locs := by
  obtain ⟨v, h, hH⟩ := h
  exact hH.2.2
set_option maxHeartbeats 300000 in
set_option maxRecDepth 100000 in
theorem law_body {G : gG} {E : gE} {hx hm ho hd : Nat} {r_this r_this_picture r_this_codedLayers_0 r_this_codedLayers_0_prediction r_this_codedLayers_0_transform r_this_codedLayers_1 r_this_codedLayers_1_prediction r_this_codedLayers_1_transform r_this_codedLayers_2 r_this_codedLayers_2_prediction r_this_codedLayers_2_transform r_this_stream r_this_writer ly_this r_this_decoded r_this_decodedLayer r_this_decodedLayer_prediction r_this_decodedLayer_transform r_this_reader r9 : Nat → Nat} {n_stream_bytes : Nat} {H : Heap} {locs : List Loc} {ls : Array Slot} {cells slots : Nat} {Q : State → Prop} {A : Nat → Prop} {b L j : Nat} {xs : Nat → Int32} {p : Program} {l : Launch} {e : Env} {s : State} {m : MethodId} {args : Array Value} {below : List Frame} {meth : Method} {c : Code} (K : LC p l s m args meth c A G E b L xs) (hj : 6 * j + 6 ≤ L) (hc : cells + 40000 ≤ room_1.cells ∧ slots + 80000 ≤ room_1.slots) (hn : n_stream_bytes ≤ GLIM) (hI : LI A s.heap G E hx hm ho hd r_this r_this_picture r_this_codedLayers_0 r_this_codedLayers_0_prediction r_this_codedLayers_0_transform r_this_codedLayers_1 r_this_codedLayers_1_prediction r_this_codedLayers_1_transform r_this_codedLayers_2 r_this_codedLayers_2_prediction r_this_codedLayers_2_transform r_this_stream r_this_writer ly_this r_this_decoded r_this_decodedLayer r_this_decodedLayer_prediction r_this_decodedLayer_transform r_this_reader r9 n_stream_bytes H locs) (hl : lv_has ls 8 (lvL b hx hm ho hd (nI (6 * j))))
    (next : ∀ (n2 : Nat) (H1 : Heap) (locs1 : List Loc) (ls1 : Array Slot) (k1 k2 : Nat), n_stream_bytes ≤ n2 → n2 ≤ GLIM → k1 ≤ cells + (n2 - n_stream_bytes) + 1 → k2 ≤ slots + 2 * (n2 - n_stream_bytes) + 6 → LI A s.heap G E hx hm ho hd r_this r_this_picture r_this_codedLayers_0 r_this_codedLayers_0_prediction r_this_codedLayers_0_transform r_this_codedLayers_1 r_this_codedLayers_1_prediction r_this_codedLayers_1_transform r_this_codedLayers_2 r_this_codedLayers_2_prediction r_this_codedLayers_2_transform r_this_stream r_this_writer ly_this r_this_decoded r_this_decodedLayer r_this_decodedLayer_prediction r_this_decodedLayer_transform r_this_reader r9 n2 H1 locs1 → lv_has ls1 8 (lvL b hx hm ho hd (nI (6 * j))) → W p l e room_1 s m args below meth c H1 locs1 k1 k2 Q (F0 m 1895 ls1 [])) : W p l e room_1 s m args below meth c H locs cells slots Q (F0 m 38 ls []) := by
  obtain ⟨X, hK, hL, hN, hS, hZ, hMM, hA, ⟨hXs, hbl, hbA⟩, hst, hLe⟩ := id K
  have hx0 := X.1
  have hb := X.2.1
  obtain ⟨v, h, hH⟩ := hI
  refine lv_aload_n hx0 hb dL_law_38 rfl (lv_at hl 1 rfl) ?_
  refine lv_iload hx0 hb dL_law_39 (lv_at hl 0 rfl) ?_
  refine va_sld hx0 hb hXs hbl hbA hH.2.2 (vp_in_nI (by omega) (by omega)) dL_law_41 ?_
  rw [nI_clamp (by omega)]
  refine lv_bipush (v := (31 : Int32)) hx0 hb dL_law_42 (by decide) ?_
  refine lv_iand hx0 hb dL_law_44 ?_
  obtain ⟨k, hk, ek⟩ := pk_andE (xs (6 * j)) (m := 31) 5 (by decide)
  rw [ek]
  have hk32 : k < 32 := hk
  have hk' : k = 0 ∨ k = 1 ∨ k = 2 ∨ k = 3 ∨ k = 4 ∨ k = 5 ∨ k = 6 ∨ k = 7 ∨ k = 8 ∨ k = 9 ∨ k = 10 ∨ k = 11 ∨ k = 12 ∨ k = 13 ∨ k = 14 ∨ k = 15 ∨ k = 16 ∨ k = 17 ∨ k = 18 ∨ k = 19 ∨ k = 20 ∨ k = 21 ∨ k = 22 ∨ k = 23 ∨ k = 24 ∨ k = 25 ∨ k = 26 ∨ k = 27 ∨ k = 28 ∨ k = 29 ∨ k = 30 ∨ k = 31 := by omega
  rcases hk' with rfl | rfl | rfl | rfl | rfl | rfl | rfl | rfl | rfl | rfl | rfl | rfl | rfl | rfl | rfl | rfl | rfl | rfl | rfl | rfl | rfl | rfl | rfl | rfl | rfl | rfl | rfl | rfl | rfl | rfl | rfl | rfl
  · exact lv_tableIn (off := 139) (tgt := 184) hx0 hb dL_law_45 (by decide) (by decide) (by decide) (by decide) (law_resize K hj hc h hn hH hl next)
  · exact lv_tableIn (off := 207) (tgt := 252) hx0 hb dL_law_45 (by decide) (by decide) (by decide) (by decide) (law_set K hj hc h hn hH hl next)
  · exact lv_tableIn (off := 287) (tgt := 332) hx0 hb dL_law_45 (by decide) (by decide) (by decide) (by decide) (law_fill K hj hc h hn hH hl next)
  · exact lv_tableIn (off := 391) (tgt := 436) hx0 hb dL_law_45 (by decide) (by decide) (by decide) (by decide) (law_ramp K hj hc h hn hH hl next)
  · exact lv_tableIn (off := 471) (tgt := 516) hx0 hb dL_law_45 (by decide) (by decide) (by decide) (by decide) (law_pixel K hj hc h hn hH hl next)
  · exact lv_tableIn (off := 539) (tgt := 584) hx0 hb dL_law_45 (by decide) (by decide) (by decide) (by decide) (law_width K hj hc h hn hH hl next)
  · exact lv_tableIn (off := 552) (tgt := 597) hx0 hb dL_law_45 (by decide) (by decide) (by decide) (by decide) (law_height K hj hc h hn hH hl next)
  · exact lv_tableIn (off := 565) (tgt := 610) hx0 hb dL_law_45 (by decide) (by decide) (by decide) (by decide) (law_setSteps K hj hc h hn hH hl next)
  · exact lv_tableIn (off := 645) (tgt := 690) hx0 hb dL_law_45 (by decide) (by decide) (by decide) (by decide) (law_isLossless K hj hc h hn hH hl next)
  · exact lv_tableIn (off := 658) (tgt := 703) hx0 hb dL_law_45 (by decide) (by decide) (by decide) (by decide) (law_encode K hj hc h hn hH hl next)
  · exact lv_tableIn (off := 671) (tgt := 716) hx0 hb dL_law_45 (by decide) (by decide) (by decide) (by decide) (law_encodePlain K hj hc h hn hH hl next)
  · exact lv_tableIn (off := 684) (tgt := 729) hx0 hb dL_law_45 (by decide) (by decide) (by decide) (by decide) (law_size K hj hc h hn hH hl next)
  · exact lv_tableIn (off := 697) (tgt := 742) hx0 hb dL_law_45 (by decide) (by decide) (by decide) (by decide) (law_byteAt K hj hc h hn hH hl next)
  · exact lv_tableIn (off := 753) (tgt := 798) hx0 hb dL_law_45 (by decide) (by decide) (by decide) (by decide) (law_setByte K hj hc h hn hH hl next)
  · exact lv_tableIn (off := 821) (tgt := 866) hx0 hb dL_law_45 (by decide) (by decide) (by decide) (by decide) (law_cut K hj hc h hn hH hl next)
  · exact lv_tableIn (off := 877) (tgt := 922) hx0 hb dL_law_45 (by decide) (by decide) (by decide) (by decide) (law_decode K hj hc h hn hH hl next)
  · exact lv_tableIn (off := 933) (tgt := 978) hx0 hb dL_law_45 (by decide) (by decide) (by decide) (by decide) (law_decodedWidth K hj hc h hn hH hl next)
  · exact lv_tableIn (off := 977) (tgt := 1022) hx0 hb dL_law_45 (by decide) (by decide) (by decide) (by decide) (law_decodedHeight K hj hc h hn hH hl next)
  · exact lv_tableIn (off := 1021) (tgt := 1066) hx0 hb dL_law_45 (by decide) (by decide) (by decide) (by decide) (law_decodedPixel K hj hc h hn hH hl next)
  · exact lv_tableIn (off := 1089) (tgt := 1134) hx0 hb dL_law_45 (by decide) (by decide) (by decide) (by decide) (law_fault K hj hc h hn hH hl next)
  · exact lv_tableIn (off := 1145) (tgt := 1190) hx0 hb dL_law_45 (by decide) (by decide) (by decide) (by decide) (law_layersUsed K hj hc h hn hH hl next)
  · exact lv_tableIn (off := 1201) (tgt := 1246) hx0 hb dL_law_45 (by decide) (by decide) (by decide) (by decide) (law_isSame K hj hc h hn hH hl next)
  · exact lv_tableIn (off := 1252) (tgt := 1297) hx0 hb dL_law_45 (by decide) (by decide) (by decide) (by decide) (law_squaredError K hj hc h hn hH hl next)
  · exact lv_tableIn (off := 1296) (tgt := 1341) hx0 hb dL_law_45 (by decide) (by decide) (by decide) (by decide) (law_greatestError K hj hc h hn hH hl next)
  · exact lv_tableIn (off := 1340) (tgt := 1385) hx0 hb dL_law_45 (by decide) (by decide) (by decide) (by decide) (law_blocks K hj hc h hn hH hl next)
  · exact lv_tableIn (off := 1396) (tgt := 1441) hx0 hb dL_law_45 (by decide) (by decide) (by decide) (by decide) (law_blockSize K hj hc h hn hH hl next)
  · exact lv_tableIn (off := 1476) (tgt := 1521) hx0 hb dL_law_45 (by decide) (by decide) (by decide) (by decide) (law_mode K hj hc h hn hH hl next)
  · exact lv_tableIn (off := 1556) (tgt := 1601) hx0 hb dL_law_45 (by decide) (by decide) (by decide) (by decide) (law_level K hj hc h hn hH hl next)
  · exact lv_tableIn (off := 1636) (tgt := 1681) hx0 hb dL_law_45 (by decide) (by decide) (by decide) (by decide) (law_cost K hj hc h hn hH hl next)
  · exact lv_tableIn (off := 1716) (tgt := 1761) hx0 hb dL_law_45 (by decide) (by decide) (by decide) (by decide) (law_partSize K hj hc h hn hH hl next)
  · exact lv_tableIn (off := 1784) (tgt := 1829) hx0 hb dL_law_45 (by decide) (by decide) (by decide) (by decide) (law_ratio K hj hc h hn hH hl next)
  · exact lv_tableOut (tgt := 1895) hx0 hb dL_law_45 (Or.inr (by decide)) (by decide) (next n_stream_bytes _ _ _ _ _ (Nat.le_refl _) hn (by omega) (by omega) (LI_mk h hH) hl)
theorem law_cmp {L j : Nat} (hL : L ≤ 3072) (hj : 6 * j ≤ 3078) : nI L - 6 < nI (6 * j) ↔ L < 6 * j + 6 := by
  rw [show (6 : Int32) = nI 6 from rfl, Int32.lt_iff_toInt_lt, pk_sub_toInt (by omega) (by omega), nI_toInt (by omega)]
  omega
set_option maxHeartbeats 300000 in
set_option maxRecDepth 100000 in
theorem law_loop {G : gG} {E : gE} {hx hm ho hd : Nat} {r_this r_this_picture r_this_codedLayers_0 r_this_codedLayers_0_prediction r_this_codedLayers_0_transform r_this_codedLayers_1 r_this_codedLayers_1_prediction r_this_codedLayers_1_transform r_this_codedLayers_2 r_this_codedLayers_2_prediction r_this_codedLayers_2_transform r_this_stream r_this_writer ly_this r_this_decoded r_this_decodedLayer r_this_decodedLayer_prediction r_this_decodedLayer_transform r_this_reader r9 : Nat → Nat} {Q : State → Prop} {A : Nat → Prop} {b L : Nat} {xs : Nat → Int32} {p : Program} {l : Launch} {e : Env} {s : State} {m : MethodId} {args : Array Value} {below : List Frame} {meth : Method} {c : Code} (K : LC p l s m args meth c A G E b L xs)
    (fin : ∀ (H : Heap) (locs : List Loc) (ls : Array Slot) (k1 k2 : Nat), va_S A s.heap H locs → k1 ≤ 600000 → k2 ≤ 7000000 → W p l e room_1 s m args below meth c H locs k1 k2 Q (F0 m 1901 ls [])) :
    ∀ (f j n : Nat) (H : Heap) (locs : List Loc) (ls : Array Slot) (k1 k2 : Nat), L ≤ 6 * j + 6 * f + 5 → 6 * j ≤ 3078 → k1 ≤ 1000 + n + j → k2 ≤ 200000 + 2 * n + 6 * j → n ≤ GLIM → LI A s.heap G E hx hm ho hd r_this r_this_picture r_this_codedLayers_0 r_this_codedLayers_0_prediction r_this_codedLayers_0_transform r_this_codedLayers_1 r_this_codedLayers_1_prediction r_this_codedLayers_1_transform r_this_codedLayers_2 r_this_codedLayers_2_prediction r_this_codedLayers_2_transform r_this_stream r_this_writer ly_this r_this_decoded r_this_decodedLayer r_this_decodedLayer_prediction r_this_decodedLayer_transform r_this_reader r9 n H locs → lv_has ls 8 (lvL b hx hm ho hd (nI (6 * j))) → W p l e room_1 s m args below meth c H locs k1 k2 Q (F0 m 28 ls []) := by
  have hG : GLIM = 32768 := rfl
  obtain ⟨X, hK, hL, hN, hS, hZ, hMM, hA, ⟨hXs, hbl, hbA⟩, hst, hLe⟩ := id K
  have hx0 := X.1
  have hb := X.2.1
  intro f
  induction f with
  | zero =>
    intro j n H locs ls k1 k2 h1 h2 h3 h4 h5 hI hl
    refine lv_iload hx0 hb dL_law_28 (lv_at hl 0 rfl) ?_
    refine lv_aload_n hx0 hb dL_law_30 rfl (lv_at hl 1 rfl) ?_
    refine va_slen hx0 hb hXs hbl hbA (LI_S hI) dL_law_31 ?_
    refine lv_bipush (v := (6 : Int32)) hx0 hb dL_law_32 (by decide) ?_
    refine lv_isub hx0 hb dL_law_34 ?_
    refine lv_icmp_gt (tgt := 1901) hx0 hb dL_law_35 (by decide) (fun c1 => ?_) (fun c1 => ?_)
    · exact fin H locs ls k1 k2 (LI_S hI) (by omega) (by omega)
    · exact absurd ((law_cmp hLe h2).mpr (by omega)) c1
  | succ f ih =>
    intro j n H locs ls k1 k2 h1 h2 h3 h4 h5 hI hl
    refine lv_iload hx0 hb dL_law_28 (lv_at hl 0 rfl) ?_
    refine lv_aload_n hx0 hb dL_law_30 rfl (lv_at hl 1 rfl) ?_
    refine va_slen hx0 hb hXs hbl hbA (LI_S hI) dL_law_31 ?_
    refine lv_bipush (v := (6 : Int32)) hx0 hb dL_law_32 (by decide) ?_
    refine lv_isub hx0 hb dL_law_34 ?_
    refine lv_icmp_gt (tgt := 1901) hx0 hb dL_law_35 (by decide) (fun c1 => ?_) (fun c1 => ?_)
    · exact fin H locs ls k1 k2 (LI_S hI) (by omega) (by omega)
    · have hj : 6 * j + 6 ≤ L := Nat.not_lt.mp (fun q => c1 ((law_cmp hLe h2).mpr q))
      refine law_body K hj ⟨by show k1 + 40000 ≤ 601024; omega, by show k2 + 80000 ≤ 7293034; omega⟩ h5 hI hl (fun n2 H1 locs1 ls1 q1 q2 g1 g2 g3 g4 hI1 hl1 => ?_)
      refine lv_iinc (v := nI (6 * (j + 1))) (lv' := lvL b hx hm ho hd (nI (6 * (j + 1)))) (k := 0) hx0 hb dL_law_1895 hl1 rfl (by rw [show Int32.ofInt 6 = nI 6 from by decide, nI_add]; congr 1) (by decide) rfl (fun ls2 hl2 => ?_)
      refine lv_goto (tgt := 28) hx0 hb dL_law_1898 (by decide) ?_
      exact ih (j + 1) n2 H1 locs1 ls2 q1 q2 (by omega) (by omega) (by omega) (by omega) g2 hI1 hl2
