/-! ===== encode, both sides ===== -/
/-- a layer as it was coded, as both sides have it -/
def lyP (l W H : Nat) (lC mC cC sC : Nat → Int32) (blk : Int32) (pC lM mM cM sM blocks parts : Nat → Int32) : Prop :=
  (∀ px py, px < W → py < H * 8 → pxR l px py lC mC cC sC lM mM cM sM ∧ ∃ m, m < 4 ∧ mM (384 * l + (16 * py + px)) = nI m) ∧ blocks l = blk ∧ ∀ s, s < H → parts (3 * l + s) = pC s
theorem lyP_of {l W S : Nat} {tC lC mC cC sC rC lM mM cM sM rM pC blocks parts : Nat → Int32} {blk : Int32} (h : lyR l W S 0 tC lC mC cC sC rC lM mM cM sM rM) (hb : blocks l = blk) (hp : ∀ s, s < S → parts (3 * l + s) = pC s) : lyP l W S lC mC cC sC blk pC lM mM cM sM blocks parts :=
  ⟨fun px py hpx hpy => by
    obtain ⟨⟨h1, -, m, h2, h3⟩, -⟩ := h px py hpx (by omega)
    exact ⟨h1, m, h2, h1.2.2.1.trans h3⟩, hb, hp⟩
theorem lyP_keep {l d W S : Nat} {lC mC cC sC lM mM cM sM lM2 mM2 cM2 sM2 pC blocks parts blocks2 parts2 : Nat → Int32} {blk : Int32} (hS : S ≤ 3) (hW : W ≤ 16) (hd : l ≠ d) (h : lyP l W S lC mC cC sC blk pC lM mM cM sM blocks parts) (h1 : frm d lM lM2) (h2 : frm d mM mM2) (h3 : frm d cM cM2) (h4 : frm d sM sM2) (h5 : ∀ j, j ≠ d → blocks2 j = blocks j) (h6 : ∀ j, (j < 3 * d ∨ 3 * d + 3 ≤ j) → parts2 j = parts j) : lyP l W S lC mC cC sC blk pC lM2 mM2 cM2 sM2 blocks2 parts2 := by
  obtain ⟨g1, g2, g3⟩ := h
  refine ⟨fun px py hpx hpy => ?_, by rw [h5 l hd, g2], fun s hs => by rw [h6 _ (by omega), g3 s hs]⟩
  obtain ⟨⟨a1, a2, a3, a4⟩, m, a5, a6⟩ := g1 px py hpx hpy
  have e : 384 * l + (16 * py + px) < 384 * d ∨ 384 * d + 384 ≤ 384 * l + (16 * py + px) := by omega
  exact ⟨⟨(h1 _ e).trans a1, (h4 _ e).trans a2, (h2 _ e).trans a3, (h3 _ e).trans a4⟩, m, a5, (h2 _ e).trans a6⟩
/-- the targets of both sides, and how large they are -/
def tgR (l W H : Nat) (tC tM : Nat → Int32) : Prop := ∀ px py, px < W → py < H → tC (16 * py + px) = tM (16 * py + px) ∧ (if l = 0 then 0 else -151) ≤ (tC (16 * py + px)).toInt ∧ (tC (16 * py + px)).toInt ≤ (if l = 0 then 255 else 151)
theorem tgR_next {l W S : Nat} {tC tM tC2 tM2 lC mC cC sC rC lM mM cM sM rM : Nat → Int32} (hW : W ≤ 16) (hS : S ≤ 3) (h : tgR l W (8 * S) tC tM) (hR : lyR l W S 0 tC lC mC cC sC rC lM mM cM sM rM) (h1 : ∀ k, k < 384 → tC2 k = tC k - rC k) (h2 : ∀ k, k < 384 → tM2 k = tM k - rM k) : tgR (l + 1) W (8 * S) tC2 tM2 := by
  intro px py hpx hpy
  obtain ⟨-, a2, a3, -⟩ := hR px py hpx (by omega)
  obtain ⟨b1, b2, b3⟩ := h px py hpx hpy
  have hb : -2000 ≤ (tC (16 * py + px)).toInt ∧ (tC (16 * py + px)).toInt ≤ 2000 := by
    by_cases hl : l = 0
    · rw [if_pos hl] at b2 b3
      omega
    · rw [if_neg hl] at b2 b3
      omega
  rw [h1 _ (by omega), h2 _ (by omega), b1, a2]
  refine ⟨rfl, ?_⟩
  rw [if_neg (by omega), if_neg (by omega), ← b1, ← a2, ti_sub (by omega) (by omega)]
  omega
theorem ok_mheader {w h : Nat} {a b c : Int32} {st0 : Nat → Int32} {x : Int32} : Ok (lf_X9_header a b (nI h) c (nI w) st0 x) (fun o => o = (nI h, nI w, nI 3, upd (upd (upd st0 0 x) 1 (nI w)) 2 (nI h))) := by
  unfold lf_X9_header
  exact Ok.wr 0 rfl (by decide) (by decide) (Ok.wr 1 rfl (by decide) (by decide) (Ok.wr 2 rfl (by decide) (by decide) (Ok.some rfl)))
set_option maxHeartbeats 8000000 in
theorem ok_encode {w h nL : Nat} {st : Nat → Nat} {c0 : Nat} {m_bm m_bits m_cdH m_cdL m_cdW m_fsz m_high m_kind m_low m_mean m_pend m_size m_start : Int32} {a_blocks a_costs a_counts a_levels a_line a_modes a_one a_oneR a_parts a_pic a_result a_sizes a_steps a_stream a_target a_work : Nat → Int32} {i_codedCount i_codedHeight i_L0_blockCount i_L0_p_average i_L0_p_size i_L0_step i_L1_blockCount i_L1_p_average i_L1_p_size i_L1_step i_L2_blockCount i_L2_p_average i_L2_p_size i_L2_step i_codedWidth i_replacedPlainSize i_replacedSize i_stream_count i_writer_bitCount i_writer_high i_writer_low i_writer_pending : Int32} {n_stream_bytes : Nat} {t_L0_costs t_L0_levels t_L0_modes t_L0_partSizes t_L0_p_above t_L0_p_left t_L0_result t_L0_sizes t_L0_t_line t_L0_t_places t_L1_costs t_L1_levels t_L1_modes t_L1_partSizes t_L1_p_above t_L1_p_left t_L1_result t_L1_sizes t_L1_t_line t_L1_t_places t_L2_costs t_L2_levels t_L2_modes t_L2_partSizes t_L2_p_above t_L2_p_left t_L2_result t_L2_sizes t_L2_t_line t_L2_t_places t_picture_pixels t_steps t_stream_bytes t_target t_writer_bytes t_writer_ones t_writer_zeros : Nat → Int32}
    (hw1 : 1 ≤ w) (hw2 : w ≤ 16) (hh1 : 1 ≤ h) (hh2 : h ≤ 24) (hn1 : 1 ≤ nL) (hn3 : nL ≤ 3) (hsC : ∀ k, k < nL → t_steps k = nI (st k) ∧ a_steps k = nI (st k) ∧ 1 ≤ st k ∧ st k ≤ 32) (hai : aI c0 n_stream_bytes)
    (hpic : ∀ x y, x < w → y < h → t_picture_pixels (16 * y + x) = a_pic (16 * y + x) ∧ ∃ v, v < 256 ∧ a_pic (16 * y + x) = nI v) :
    Ok2 (lf_X9_encode m_bm m_bits m_cdH m_cdL m_cdW m_fsz (nI h) m_high m_kind (nI nL) m_low m_mean m_pend m_size m_start (nI w) a_blocks a_costs a_counts a_levels a_line a_modes a_one a_oneR a_parts a_pic a_result a_sizes a_steps a_stream a_target a_work) (lf_X8_encode i_codedCount i_codedHeight i_L0_blockCount i_L0_p_average i_L0_p_size i_L0_step i_L1_blockCount i_L1_p_average i_L1_p_size i_L1_step i_L2_blockCount i_L2_p_average i_L2_p_size i_L2_step i_codedWidth (nI nL) (nI w) (nI h) i_replacedPlainSize i_replacedSize i_stream_count i_writer_bitCount i_writer_high i_writer_low i_writer_pending t_L0_costs t_L0_levels t_L0_modes t_L0_partSizes t_L0_p_above t_L0_p_left t_L0_result t_L0_sizes t_L0_t_line t_L0_t_places t_L1_costs t_L1_levels t_L1_modes t_L1_partSizes t_L1_p_above t_L1_p_left t_L1_result t_L1_sizes t_L1_t_line t_L1_t_places t_L2_costs t_L2_levels t_L2_modes t_L2_partSizes t_L2_p_above t_L2_p_left t_L2_result t_L2_sizes t_L2_t_line t_L2_t_places t_picture_pixels t_steps n_stream_bytes t_stream_bytes t_target t_writer_bytes t_writer_ones t_writer_zeros) (fun o k => ∃ sz2, sz2 ≤ 18466 ∧ o.1 = nI sz2 ∧ o.2.2.2.1 = nI h ∧ o.2.2.2.2.1 = nI nL ∧ o.2.2.2.2.2.1 = nI w ∧ o.2.2.2.2.2.2.1 = nI sz2 ∧ o.2.2.2.2.2.2.2.2.1 = 1 ∧ o.2.2.2.2.2.2.2.2.2.2.2.2.1 = nI sz2 ∧ k.1 = nI sz2 ∧ k.2.1 = nI nL ∧ k.2.2.1 = nI h ∧ k.2.2.2.2.2.2.2.2.2.2.2.2.2.2.2.1 = nI w ∧ k.2.2.2.2.2.2.2.2.2.2.2.2.2.2.2.2.1 = nI (3 + w * h) ∧ k.2.2.2.2.2.2.2.2.2.2.2.2.2.2.2.2.2.1 = nI sz2 ∧ k.2.2.2.2.2.2.2.2.2.2.2.2.2.2.2.2.2.2.1 = nI sz2 ∧ aI sz2 k.2.2.2.2.2.2.2.2.2.2.2.2.2.2.2.2.2.2.2.2.2.2.2.2.2.2.2.2.2.2.2.2.2.2.2.2.2.2.2.2.2.2.2.2.2.2.2.2.2.2.2.2.2.2.2.2.2.2 ∧ n_stream_bytes ≤ k.2.2.2.2.2.2.2.2.2.2.2.2.2.2.2.2.2.2.2.2.2.2.2.2.2.2.2.2.2.2.2.2.2.2.2.2.2.2.2.2.2.2.2.2.2.2.2.2.2.2.2.2.2.2.2.2.2.2 ∧ k.2.2.2.2.2.2.2.2.2.2.2.2.2.2.2.2.2.2.2.2.2.2.2.2.2.2.2.2.2.2.2.2.2.2.2.2.2.2.2.2.2.2.2.2.2.2.2.2.2.2.2.2.2.2.2.2.2.2 ≤ GLIM ∧ sR sz2 o.2.2.2.2.2.2.2.2.2.2.2.2.2.2.2.2.2.2.2.2.2.2.2.2.2.1 k.2.2.2.2.2.2.2.2.2.2.2.2.2.2.2.2.2.2.2.2.2.2.2.2.2.2.2.2.2.2.2.2.2.2.2.2.2.2.2.2.2.2.2.2.2.2.2.2.2.2.2.2.2.1 ∧ (0 < nL → lyP 0 (8 * ((w + 7) / 8)) ((h + 7) / 8) k.2.2.2.2.2.2.2.2.2.2.2.2.2.2.2.2.2.2.2.2.2.2.2.2.1 k.2.2.2.2.2.2.2.2.2.2.2.2.2.2.2.2.2.2.2.2.2.2.2.2.2.1 k.2.2.2.2.2.2.2.2.2.2.2.2.2.2.2.2.2.2.2.2.2.2.2.1 k.2.2.2.2.2.2.2.2.2.2.2.2.2.2.2.2.2.2.2.2.2.2.2.2.2.2.2.2.2.2.1 k.2.2.2.1 k.2.2.2.2.2.2.2.2.2.2.2.2.2.2.2.2.2.2.2.2.2.2.2.2.2.2.1 o.2.2.2.2.2.2.2.2.2.2.2.2.2.2.2.2.2.1 o.2.2.2.2.2.2.2.2.2.2.2.2.2.2.2.2.2.2.2.1 o.2.2.2.2.2.2.2.2.2.2.2.2.2.2.2.1 o.2.2.2.2.2.2.2.2.2.2.2.2.2.2.2.2.2.2.2.2.2.2.2.2.1 o.2.2.2.2.2.2.2.2.2.2.2.2.2.2.1 o.2.2.2.2.2.2.2.2.2.2.2.2.2.2.2.2.2.2.2.2.2.2.1) ∧ (1 < nL → lyP 1 (8 * ((w + 7) / 8)) ((h + 7) / 8) k.2.2.2.2.2.2.2.2.2.2.2.2.2.2.2.2.2.2.2.2.2.2.2.2.2.2.2.2.2.2.2.2.2.2.1 k.2.2.2.2.2.2.2.2.2.2.2.2.2.2.2.2.2.2.2.2.2.2.2.2.2.2.2.2.2.2.2.2.2.2.2.1 k.2.2.2.2.2.2.2.2.2.2.2.2.2.2.2.2.2.2.2.2.2.2.2.2.2.2.2.2.2.2.2.2.2.1 k.2.2.2.2.2.2.2.2.2.2.2.2.2.2.2.2.2.2.2.2.2.2.2.2.2.2.2.2.2.2.2.2.2.2.2.2.2.2.2.2.1 k.2.2.2.2.2.2.2.1 k.2.2.2.2.2.2.2.2.2.2.2.2.2.2.2.2.2.2.2.2.2.2.2.2.2.2.2.2.2.2.2.2.2.2.2.2.1 o.2.2.2.2.2.2.2.2.2.2.2.2.2.2.2.2.2.1 o.2.2.2.2.2.2.2.2.2.2.2.2.2.2.2.2.2.2.2.1 o.2.2.2.2.2.2.2.2.2.2.2.2.2.2.2.1 o.2.2.2.2.2.2.2.2.2.2.2.2.2.2.2.2.2.2.2.2.2.2.2.2.1 o.2.2.2.2.2.2.2.2.2.2.2.2.2.2.1 o.2.2.2.2.2.2.2.2.2.2.2.2.2.2.2.2.2.2.2.2.2.2.1) ∧ (2 < nL → lyP 2 (8 * ((w + 7) / 8)) ((h + 7) / 8) k.2.2.2.2.2.2.2.2.2.2.2.2.2.2.2.2.2.2.2.2.2.2.2.2.2.2.2.2.2.2.2.2.2.2.2.2.2.2.2.2.2.2.2.2.1 k.2.2.2.2.2.2.2.2.2.2.2.2.2.2.2.2.2.2.2.2.2.2.2.2.2.2.2.2.2.2.2.2.2.2.2.2.2.2.2.2.2.2.2.2.2.1 k.2.2.2.2.2.2.2.2.2.2.2.2.2.2.2.2.2.2.2.2.2.2.2.2.2.2.2.2.2.2.2.2.2.2.2.2.2.2.2.2.2.2.2.1 k.2.2.2.2.2.2.2.2.2.2.2.2.2.2.2.2.2.2.2.2.2.2.2.2.2.2.2.2.2.2.2.2.2.2.2.2.2.2.2.2.2.2.2.2.2.2.2.2.2.2.1 k.2.2.2.2.2.2.2.2.2.2.2.1 k.2.2.2.2.2.2.2.2.2.2.2.2.2.2.2.2.2.2.2.2.2.2.2.2.2.2.2.2.2.2.2.2.2.2.2.2.2.2.2.2.2.2.2.2.2.2.1 o.2.2.2.2.2.2.2.2.2.2.2.2.2.2.2.2.2.1 o.2.2.2.2.2.2.2.2.2.2.2.2.2.2.2.2.2.2.2.1 o.2.2.2.2.2.2.2.2.2.2.2.2.2.2.2.1 o.2.2.2.2.2.2.2.2.2.2.2.2.2.2.2.2.2.2.2.2.2.2.2.2.1 o.2.2.2.2.2.2.2.2.2.2.2.2.2.2.1 o.2.2.2.2.2.2.2.2.2.2.2.2.2.2.2.2.2.2.2.2.2.2.1)) := by
  obtain ⟨q1, q2, q3⟩ := aI_le hai
  unfold lf_X9_encode lf_X8_encode
  refine Ok2.rpos q1 (Ok2.r _ (ok_codedHeader (st := st) (w := w) (h := h) hn3 (fun k hk => (hsC k hk).1) hai) ?_)
  rintro ⟨c1, t1, n1⟩ ⟨f1, f2, f3, f4, f5⟩
  dsimp only at f1 f2 f3 f4 f5 ⊢
  subst f1
  refine Ok2.rpos ⟨f3, f4⟩ (Ok2.r _ (ok_extend (tg := t_target) hw1 hw2 hh1 hh2) ?_)
  intro tgC htC
  refine Ok2.l _ ok_mheader ?_
  rintro o1 rfl
  dsimp only
  refine Ok2.lwr 3 rfl (by decide) (by decide) ?_
  refine Ok2.l (fun o => o.1 = nI (4 + nL) ∧ ∀ i, i < 4 + nL → o.2 i = nI (hdr w h nL st i)) (Ok.fix (fun k z => z.1 = nI k ∧ z.2.1 = nI (4 + k) ∧ ∀ i, i < 4 + k → z.2.2 i = nI (hdr w h nL st i)) nL (by omega) ⟨rfl, rfl, fun i hi => ?_⟩ ?_) ?_
  · have hi4 : i = 0 ∨ i = 1 ∨ i = 2 ∨ i = 3 := by omega
    rcases hi4 with rfl | rfl | rfl | rfl <;> rfl
  · rintro k ⟨x3, v4, g5⟩ self hk ⟨h1, h2, h3⟩ K
    dsimp only at h1 h2 h3 ⊢
    subst h1 h2
    by_cases hc : k < nL
    · obtain ⟨-, e2, -⟩ := hsC k hc
      refine Ok.neg (by simp (disch := omega) only [lI0, lI1, lI2, lI3, lI4, lI5, lI7, lI8, lI9, lI10, lI11, lI12, lI15, lI16, lI17, lI20, lI24, lI32, lI33, lI40, lI63, lI64, lI80, lI82, lI101, lI110, lI115, lI251, lI255, lI256, lI384, lI16384, lI20000, lI32768, lI49152, lI65535, nI_add, pk_mul, pk_sub, pk_div, nI_leI, nI_ltI, nI_eq] <;> omega) (Ok.rd k rfl (by omega) (by decide) (Ok.wr (4 + k) rfl (by omega) (by decide) (Ok.bnd (K _ hc ⟨(by first | (simp (disch := omega) only [lI0, lI1, lI2, lI3, lI4, lI5, lI7, lI8, lI9, lI10, lI11, lI12, lI15, lI16, lI17, lI20, lI24, lI32, lI33, lI40, lI63, lI64, lI80, lI82, lI101, lI110, lI115, lI251, lI255, lI256, lI384, lI16384, lI20000, lI32768, lI49152, lI65535, nI_add, pk_mul, pk_sub, pk_div] <;> (apply congrArg nI; omega)) | rfl), (by first | (simp (disch := omega) only [lI0, lI1, lI2, lI3, lI4, lI5, lI7, lI8, lI9, lI10, lI11, lI12, lI15, lI16, lI17, lI20, lI24, lI32, lI33, lI40, lI63, lI64, lI80, lI82, lI101, lI110, lI115, lI251, lI255, lI256, lI384, lI16384, lI20000, lI32768, lI49152, lI65535, nI_add, pk_mul, pk_sub, pk_div] <;> (apply congrArg nI; omega)) | rfl), fun i hi => ?_⟩))))
      dsimp only
      by_cases h9 : i = 4 + k
      · rw [h9, upd_eq, e2]
        unfold hdr
        rw [if_neg (by omega), if_neg (by omega), if_neg (by omega), if_neg (by omega), show 4 + k - 4 = k from by omega]
      · rw [upd_ne h9, h3 i (by omega)]
    · have hk2 : k = nL := by omega
      subst hk2
      exact Ok.pos (by simp (disch := omega) only [lI0, lI1, lI2, lI3, lI4, lI5, lI7, lI8, lI9, lI10, lI11, lI12, lI15, lI16, lI17, lI20, lI24, lI32, lI33, lI40, lI63, lI64, lI80, lI82, lI101, lI110, lI115, lI251, lI255, lI256, lI384, lI16384, lI20000, lI32768, lI49152, lI65535, nI_add, pk_mul, pk_sub, pk_div, nI_leI, nI_ltI, nI_eq] <;> omega) (Ok.some ⟨rfl, h3⟩)
  rintro ⟨sz1, st1⟩ ⟨h1, h2⟩
  dsimp only at h1 h2 ⊢
  subst h1
  refine Ok2.lbnd ?_
  rw [show (nI h + (7 : Int32)) / (8 : Int32) = nI ((h + 7) / 8) from (by first | (simp (disch := omega) only [lI0, lI1, lI2, lI3, lI4, lI5, lI7, lI8, lI9, lI10, lI11, lI12, lI15, lI16, lI17, lI20, lI24, lI32, lI33, lI40, lI63, lI64, lI80, lI82, lI101, lI110, lI115, lI251, lI255, lI256, lI384, lI16384, lI20000, lI32768, lI49152, lI65535, nI_add, pk_mul, pk_sub, pk_div] <;> (apply congrArg nI; omega)) | rfl)]
  refine Ok2.l (fun o => ∀ px py, px < 16 → py < 8 * ((h + 7) / 8) → o (16 * py + px) = exS w h a_pic px py) (Ok.fix (fun i z => z.1 = nI i ∧ ∀ px py, px < 16 → py < i → z.2 (16 * py + px) = exS w h a_pic px py) (8 * ((h + 7) / 8)) (by omega) ⟨rfl, fun px py _ hp => absurd hp (by omega)⟩ ?_) ?_
  · rintro i ⟨x5, g6⟩ self hi ⟨h3, h4⟩ K
    dsimp only at h3 h4 ⊢
    subst h3
    by_cases hc : i < 8 * ((h + 7) / 8)
    · refine Ok.neg (by simp (disch := omega) only [lI0, lI1, lI2, lI3, lI4, lI5, lI7, lI8, lI9, lI10, lI11, lI12, lI15, lI16, lI17, lI20, lI24, lI32, lI33, lI40, lI63, lI64, lI80, lI82, lI101, lI110, lI115, lI251, lI255, lI256, lI384, lI16384, lI20000, lI32768, lI49152, lI65535, nI_add, pk_mul, pk_sub, pk_div, nI_leI, nI_ltI, nI_eq] <;> omega) (Ok.bind (fun o => ∀ px py, px < 16 → py < i + 1 → o (16 * py + px) = exS w h a_pic px py) (Ok.fix (fun k z => z.1 = nI k ∧ ∀ px py, px < 16 → (py < i ∨ py = i ∧ px < k) → z.2 (16 * py + px) = exS w h a_pic px py) 16 (by omega) ⟨rfl, fun px py hp hq => h4 px py hp (by omega)⟩ ?_) (fun o ho => Ok.bnd (K _ hc ⟨(by first | (simp (disch := omega) only [lI0, lI1, lI2, lI3, lI4, lI5, lI7, lI8, lI9, lI10, lI11, lI12, lI15, lI16, lI17, lI20, lI24, lI32, lI33, lI40, lI63, lI64, lI80, lI82, lI101, lI110, lI115, lI251, lI255, lI256, lI384, lI16384, lI20000, lI32768, lI49152, lI65535, nI_add, pk_mul, pk_sub, pk_div] <;> (apply congrArg nI; omega)) | rfl), ho⟩)))
      rintro k ⟨x9, g10⟩ self2 hk ⟨h5, h6⟩ K2
      dsimp only at h5 h6 ⊢
      subst h5
      by_cases hc2 : k < 16
      · refine Ok.neg (by simp (disch := omega) only [lI0, lI1, lI2, lI3, lI4, lI5, lI7, lI8, lI9, lI10, lI11, lI12, lI15, lI16, lI17, lI20, lI24, lI32, lI33, lI40, lI63, lI64, lI80, lI82, lI101, lI110, lI115, lI251, lI255, lI256, lI384, lI16384, lI20000, lI32768, lI49152, lI65535, nI_add, pk_mul, pk_sub, pk_div, nI_leI, nI_ltI, nI_eq] <;> omega) ?_
        refine Ok.jnR (fun s => s = nI (if i < h then i else h - 1)) (fun kk hk => ?_) (fun s hs => ?_)
        · by_cases h7 : i < h
          · exact Ok.neg (by simp (disch := omega) only [lI0, lI1, lI2, lI3, lI4, lI5, lI7, lI8, lI9, lI10, lI11, lI12, lI15, lI16, lI17, lI20, lI24, lI32, lI33, lI40, lI63, lI64, lI80, lI82, lI101, lI110, lI115, lI251, lI255, lI256, lI384, lI16384, lI20000, lI32768, lI49152, lI65535, nI_add, pk_mul, pk_sub, pk_div, nI_leI, nI_ltI, nI_eq] <;> omega) (hk _ (by rw [if_pos h7]))
          · exact Ok.pos (by simp (disch := omega) only [lI0, lI1, lI2, lI3, lI4, lI5, lI7, lI8, lI9, lI10, lI11, lI12, lI15, lI16, lI17, lI20, lI24, lI32, lI33, lI40, lI63, lI64, lI80, lI82, lI101, lI110, lI115, lI251, lI255, lI256, lI384, lI16384, lI20000, lI32768, lI49152, lI65535, nI_add, pk_mul, pk_sub, pk_div, nI_leI, nI_ltI, nI_eq] <;> omega) (hk _ (by
              rw [if_neg h7]
              (first | (simp (disch := omega) only [lI0, lI1, lI2, lI3, lI4, lI5, lI7, lI8, lI9, lI10, lI11, lI12, lI15, lI16, lI17, lI20, lI24, lI32, lI33, lI40, lI63, lI64, lI80, lI82, lI101, lI110, lI115, lI251, lI255, lI256, lI384, lI16384, lI20000, lI32768, lI49152, lI65535, nI_add, pk_mul, pk_sub, pk_div] <;> (apply congrArg nI; omega)) | rfl)))
        subst hs
        refine Ok.jnR (fun s => s = nI (if k < w then k else w - 1)) (fun kk hk => ?_) (fun s hs => ?_)
        · by_cases h7 : k < w
          · exact Ok.neg (by simp (disch := omega) only [lI0, lI1, lI2, lI3, lI4, lI5, lI7, lI8, lI9, lI10, lI11, lI12, lI15, lI16, lI17, lI20, lI24, lI32, lI33, lI40, lI63, lI64, lI80, lI82, lI101, lI110, lI115, lI251, lI255, lI256, lI384, lI16384, lI20000, lI32768, lI49152, lI65535, nI_add, pk_mul, pk_sub, pk_div, nI_leI, nI_ltI, nI_eq] <;> omega) (hk _ (by rw [if_pos h7]))
          · exact Ok.pos (by simp (disch := omega) only [lI0, lI1, lI2, lI3, lI4, lI5, lI7, lI8, lI9, lI10, lI11, lI12, lI15, lI16, lI17, lI20, lI24, lI32, lI33, lI40, lI63, lI64, lI80, lI82, lI101, lI110, lI115, lI251, lI255, lI256, lI384, lI16384, lI20000, lI32768, lI49152, lI65535, nI_add, pk_mul, pk_sub, pk_div, nI_leI, nI_ltI, nI_eq] <;> omega) (hk _ (by
              rw [if_neg h7]
              (first | (simp (disch := omega) only [lI0, lI1, lI2, lI3, lI4, lI5, lI7, lI8, lI9, lI10, lI11, lI12, lI15, lI16, lI17, lI20, lI24, lI32, lI33, lI40, lI63, lI64, lI80, lI82, lI101, lI110, lI115, lI251, lI255, lI256, lI384, lI16384, lI20000, lI32768, lI49152, lI65535, nI_add, pk_mul, pk_sub, pk_div] <;> (apply congrArg nI; omega)) | rfl)))
        subst hs
        have e7 : (if i < h then i else h - 1) < 24 := by split <;> omega
        have e8 : (if k < w then k else w - 1) < 16 := by split <;> omega
        refine Ok.rd (16 * (if i < h then i else h - 1) + (if k < w then k else w - 1)) (by first | (simp (disch := omega) only [lI0, lI1, lI2, lI3, lI4, lI5, lI7, lI8, lI9, lI10, lI11, lI12, lI15, lI16, lI17, lI20, lI24, lI32, lI33, lI40, lI63, lI64, lI80, lI82, lI101, lI110, lI115, lI251, lI255, lI256, lI384, lI16384, lI20000, lI32768, lI49152, lI65535, nI_add, pk_mul, pk_sub, pk_div] <;> (apply congrArg nI; omega)) | rfl) (by omega) (by decide) (Ok.wr (16 * i + k) (by first | (simp (disch := omega) only [lI0, lI1, lI2, lI3, lI4, lI5, lI7, lI8, lI9, lI10, lI11, lI12, lI15, lI16, lI17, lI20, lI24, lI32, lI33, lI40, lI63, lI64, lI80, lI82, lI101, lI110, lI115, lI251, lI255, lI256, lI384, lI16384, lI20000, lI32768, lI49152, lI65535, nI_add, pk_mul, pk_sub, pk_div] <;> (apply congrArg nI; omega)) | rfl) (by omega) (by decide) (Ok.bnd (K2 _ hc2 ⟨(by first | (simp (disch := omega) only [lI0, lI1, lI2, lI3, lI4, lI5, lI7, lI8, lI9, lI10, lI11, lI12, lI15, lI16, lI17, lI20, lI24, lI32, lI33, lI40, lI63, lI64, lI80, lI82, lI101, lI110, lI115, lI251, lI255, lI256, lI384, lI16384, lI20000, lI32768, lI49152, lI65535, nI_add, pk_mul, pk_sub, pk_div] <;> (apply congrArg nI; omega)) | rfl), fun px py hp hq => ?_⟩)))
        dsimp only
        by_cases h8 : py = i ∧ px = k
        · obtain ⟨rfl, rfl⟩ := h8
          rw [upd_eq]
          rfl
        · rw [upd_ne (by omega)]
          exact h6 px py hp (by omega)
      · have hk2 : k = 16 := by omega
        subst hk2
        exact Ok.pos (by simp (disch := omega) only [lI0, lI1, lI2, lI3, lI4, lI5, lI7, lI8, lI9, lI10, lI11, lI12, lI15, lI16, lI17, lI20, lI24, lI32, lI33, lI40, lI63, lI64, lI80, lI82, lI101, lI110, lI115, lI251, lI255, lI256, lI384, lI16384, lI20000, lI32768, lI49152, lI65535, nI_add, pk_mul, pk_sub, pk_div, nI_leI, nI_ltI, nI_eq] <;> omega) (Ok.some fun px py hp hq => h6 px py hp (by omega))
    · have hi2 : i = 8 * ((h + 7) / 8) := by omega
      subst hi2
      exact Ok.pos (by simp (disch := omega) only [lI0, lI1, lI2, lI3, lI4, lI5, lI7, lI8, lI9, lI10, lI11, lI12, lI15, lI16, lI17, lI20, lI24, lI32, lI33, lI40, lI63, lI64, lI80, lI82, lI101, lI110, lI115, lI251, lI255, lI256, lI384, lI16384, lI20000, lI32768, lI49152, lI65535, nI_add, pk_mul, pk_sub, pk_div, nI_leI, nI_ltI, nI_eq] <;> omega) (Ok.some h4)
  intro tgM htM
  have htg : tgR 0 (8 * ((w + 7) / 8)) (8 * ((h + 7) / 8)) tgC tgM := by
    intro px py hpx hpy
    have hxx : (if px < w then px else w - 1) < w := by split <;> omega
    have hyy : (if py < h then py else h - 1) < h := by split <;> omega
    obtain ⟨e1, v, e2, e3⟩ := hpic _ _ hxx hyy
    have e4 : tgC (16 * py + px) = nI v := (htC px py hpx hpy).trans (e1.trans e3)
    have e5 : tgM (16 * py + px) = nI v := (htM px py (by omega) hpy).trans e3
    rw [e4, e5, nI_toInt (by omega)]
    exact ⟨rfl, by rw [if_pos rfl]; omega, by rw [if_pos rfl]; omega⟩
  have hsr : sR (4 + nL) st1 t1 := fun i hi => ⟨(f5 i hi).trans (h2 i hi).symm, _, hdr_lt hw2 hh2 hn3 (fun k hk => (hsC k hk).2.2.2) hi, h2 i hi⟩
  refine Ok2.bind (fun o k => ∃ sz2, sz2 ≤ 18466 ∧ o.2.2.2.2.2.2.1 = nI sz2 ∧ k.2.2.2.2.2.2.2.2.2.2.2.2.1 = nI sz2 ∧ aI sz2 k.2.2.2.2.2.2.2.2.2.2.2.2.2.2.2.2.2.2.2.2.2.2.2.2.2.2.2.2.2.2.2.2.2.2.2.2.2.2.2.2.2.2.2.2.2.2.2.2.2.2.2.2 ∧ n_stream_bytes ≤ k.2.2.2.2.2.2.2.2.2.2.2.2.2.2.2.2.2.2.2.2.2.2.2.2.2.2.2.2.2.2.2.2.2.2.2.2.2.2.2.2.2.2.2.2.2.2.2.2.2.2.2.2 ∧ k.2.2.2.2.2.2.2.2.2.2.2.2.2.2.2.2.2.2.2.2.2.2.2.2.2.2.2.2.2.2.2.2.2.2.2.2.2.2.2.2.2.2.2.2.2.2.2.2.2.2.2.2 ≤ GLIM ∧ sR sz2 o.2.2.2.2.2.2.2.2.2.2.2.2.2.2.2.2.2.2.2.1 k.2.2.2.2.2.2.2.2.2.2.2.2.2.2.2.2.2.2.2.2.2.2.2.2.2.2.2.2.2.2.2.2.2.2.2.2.2.2.2.2.2.2.2.2.2.2.2.1 ∧ (0 < nL → lyP 0 (8 * ((w + 7) / 8)) ((h + 7) / 8) k.2.2.2.2.2.2.2.2.2.2.2.2.2.2.2.2.2.2.1 k.2.2.2.2.2.2.2.2.2.2.2.2.2.2.2.2.2.2.2.1 k.2.2.2.2.2.2.2.2.2.2.2.2.2.2.2.2.2.1 k.2.2.2.2.2.2.2.2.2.2.2.2.2.2.2.2.2.2.2.2.2.2.2.2.1 k.1 k.2.2.2.2.2.2.2.2.2.2.2.2.2.2.2.2.2.2.2.2.1 o.2.2.2.2.2.2.2.2.2.2.2.1 o.2.2.2.2.2.2.2.2.2.2.2.2.2.1 o.2.2.2.2.2.2.2.2.2.1 o.2.2.2.2.2.2.2.2.2.2.2.2.2.2.2.2.2.2.1 o.2.2.2.2.2.2.2.2.1 o.2.2.2.2.2.2.2.2.2.2.2.2.2.2.2.2.1) ∧ (1 < nL → lyP 1 (8 * ((w + 7) / 8)) ((h + 7) / 8) k.2.2.2.2.2.2.2.2.2.2.2.2.2.2.2.2.2.2.2.2.2.2.2.2.2.2.2.2.1 k.2.2.2.2.2.2.2.2.2.2.2.2.2.2.2.2.2.2.2.2.2.2.2.2.2.2.2.2.2.1 k.2.2.2.2.2.2.2.2.2.2.2.2.2.2.2.2.2.2.2.2.2.2.2.2.2.2.2.1 k.2.2.2.2.2.2.2.2.2.2.2.2.2.2.2.2.2.2.2.2.2.2.2.2.2.2.2.2.2.2.2.2.2.2.1 k.2.2.2.2.1 k.2.2.2.2.2.2.2.2.2.2.2.2.2.2.2.2.2.2.2.2.2.2.2.2.2.2.2.2.2.2.1 o.2.2.2.2.2.2.2.2.2.2.2.1 o.2.2.2.2.2.2.2.2.2.2.2.2.2.1 o.2.2.2.2.2.2.2.2.2.1 o.2.2.2.2.2.2.2.2.2.2.2.2.2.2.2.2.2.2.1 o.2.2.2.2.2.2.2.2.1 o.2.2.2.2.2.2.2.2.2.2.2.2.2.2.2.2.1) ∧ (2 < nL → lyP 2 (8 * ((w + 7) / 8)) ((h + 7) / 8) k.2.2.2.2.2.2.2.2.2.2.2.2.2.2.2.2.2.2.2.2.2.2.2.2.2.2.2.2.2.2.2.2.2.2.2.2.2.2.1 k.2.2.2.2.2.2.2.2.2.2.2.2.2.2.2.2.2.2.2.2.2.2.2.2.2.2.2.2.2.2.2.2.2.2.2.2.2.2.2.1 k.2.2.2.2.2.2.2.2.2.2.2.2.2.2.2.2.2.2.2.2.2.2.2.2.2.2.2.2.2.2.2.2.2.2.2.2.2.1 k.2.2.2.2.2.2.2.2.2.2.2.2.2.2.2.2.2.2.2.2.2.2.2.2.2.2.2.2.2.2.2.2.2.2.2.2.2.2.2.2.2.2.2.2.1 k.2.2.2.2.2.2.2.2.1 k.2.2.2.2.2.2.2.2.2.2.2.2.2.2.2.2.2.2.2.2.2.2.2.2.2.2.2.2.2.2.2.2.2.2.2.2.2.2.2.2.1 o.2.2.2.2.2.2.2.2.2.2.2.1 o.2.2.2.2.2.2.2.2.2.2.2.2.2.1 o.2.2.2.2.2.2.2.2.2.1 o.2.2.2.2.2.2.2.2.2.2.2.2.2.2.2.2.2.2.1 o.2.2.2.2.2.2.2.2.1 o.2.2.2.2.2.2.2.2.2.2.2.2.2.2.2.2.1)) (Ok2.fix (fun l x z => ∃ sz2, sz2 ≤ 7 + 6153 * l ∧ x.1 = nI l ∧ z.1 = nI l ∧ x.2.2.2.2.2.2.2.1 = nI sz2 ∧ z.2.2.2.2.2.2.2.2.2.2.2.2.2.1 = nI sz2 ∧ aI sz2 z.2.2.2.2.2.2.2.2.2.2.2.2.2.2.2.2.2.2.2.2.2.2.2.2.2.2.2.2.2.2.2.2.2.2.2.2.2.2.2.2.2.2.2.2.2.2.2.2.2.2.2.2.2 ∧ n_stream_bytes ≤ z.2.2.2.2.2.2.2.2.2.2.2.2.2.2.2.2.2.2.2.2.2.2.2.2.2.2.2.2.2.2.2.2.2.2.2.2.2.2.2.2.2.2.2.2.2.2.2.2.2.2.2.2.2 ∧ z.2.2.2.2.2.2.2.2.2.2.2.2.2.2.2.2.2.2.2.2.2.2.2.2.2.2.2.2.2.2.2.2.2.2.2.2.2.2.2.2.2.2.2.2.2.2.2.2.2.2.2.2.2 ≤ GLIM ∧ sR sz2 x.2.2.2.2.2.2.2.2.2.2.2.2.2.2.2.2.2.2.2.2.1 z.2.2.2.2.2.2.2.2.2.2.2.2.2.2.2.2.2.2.2.2.2.2.2.2.2.2.2.2.2.2.2.2.2.2.2.2.2.2.2.2.2.2.2.2.2.2.2.2.1 ∧ tgR l (8 * ((w + 7) / 8)) (8 * ((h + 7) / 8)) z.2.2.2.2.2.2.2.2.2.2.2.2.2.2.2.2.2.2.2.2.2.2.2.2.2.2.2.2.2.2.2.2.2.2.2.2.2.2.2.2.2.2.2.2.2.2.2.2.2.1 x.2.2.2.2.2.2.2.2.2.2.2.2.2.2.2.2.2.2.2.2.2.1 ∧ (0 < l → lyP 0 (8 * ((w + 7) / 8)) ((h + 7) / 8) z.2.2.2.2.2.2.2.2.2.2.2.2.2.2.2.2.2.2.2.1 z.2.2.2.2.2.2.2.2.2.2.2.2.2.2.2.2.2.2.2.2.1 z.2.2.2.2.2.2.2.2.2.2.2.2.2.2.2.2.2.2.1 z.2.2.2.2.2.2.2.2.2.2.2.2.2.2.2.2.2.2.2.2.2.2.2.2.2.1 z.2.1 z.2.2.2.2.2.2.2.2.2.2.2.2.2.2.2.2.2.2.2.2.2.1 x.2.2.2.2.2.2.2.2.2.2.2.2.1 x.2.2.2.2.2.2.2.2.2.2.2.2.2.2.1 x.2.2.2.2.2.2.2.2.2.2.1 x.2.2.2.2.2.2.2.2.2.2.2.2.2.2.2.2.2.2.2.1 x.2.2.2.2.2.2.2.2.2.1 x.2.2.2.2.2.2.2.2.2.2.2.2.2.2.2.2.2.1) ∧ (1 < l → lyP 1 (8 * ((w + 7) / 8)) ((h + 7) / 8) z.2.2.2.2.2.2.2.2.2.2.2.2.2.2.2.2.2.2.2.2.2.2.2.2.2.2.2.2.2.1 z.2.2.2.2.2.2.2.2.2.2.2.2.2.2.2.2.2.2.2.2.2.2.2.2.2.2.2.2.2.2.1 z.2.2.2.2.2.2.2.2.2.2.2.2.2.2.2.2.2.2.2.2.2.2.2.2.2.2.2.2.1 z.2.2.2.2.2.2.2.2.2.2.2.2.2.2.2.2.2.2.2.2.2.2.2.2.2.2.2.2.2.2.2.2.2.2.2.1 z.2.2.2.2.2.1 z.2.2.2.2.2.2.2.2.2.2.2.2.2.2.2.2.2.2.2.2.2.2.2.2.2.2.2.2.2.2.2.1 x.2.2.2.2.2.2.2.2.2.2.2.2.1 x.2.2.2.2.2.2.2.2.2.2.2.2.2.2.1 x.2.2.2.2.2.2.2.2.2.2.1 x.2.2.2.2.2.2.2.2.2.2.2.2.2.2.2.2.2.2.2.1 x.2.2.2.2.2.2.2.2.2.1 x.2.2.2.2.2.2.2.2.2.2.2.2.2.2.2.2.2.1) ∧ (2 < l → lyP 2 (8 * ((w + 7) / 8)) ((h + 7) / 8) z.2.2.2.2.2.2.2.2.2.2.2.2.2.2.2.2.2.2.2.2.2.2.2.2.2.2.2.2.2.2.2.2.2.2.2.2.2.2.2.1 z.2.2.2.2.2.2.2.2.2.2.2.2.2.2.2.2.2.2.2.2.2.2.2.2.2.2.2.2.2.2.2.2.2.2.2.2.2.2.2.2.1 z.2.2.2.2.2.2.2.2.2.2.2.2.2.2.2.2.2.2.2.2.2.2.2.2.2.2.2.2.2.2.2.2.2.2.2.2.2.2.1 z.2.2.2.2.2.2.2.2.2.2.2.2.2.2.2.2.2.2.2.2.2.2.2.2.2.2.2.2.2.2.2.2.2.2.2.2.2.2.2.2.2.2.2.2.2.1 z.2.2.2.2.2.2.2.2.2.1 z.2.2.2.2.2.2.2.2.2.2.2.2.2.2.2.2.2.2.2.2.2.2.2.2.2.2.2.2.2.2.2.2.2.2.2.2.2.2.2.2.2.1 x.2.2.2.2.2.2.2.2.2.2.2.2.1 x.2.2.2.2.2.2.2.2.2.2.2.2.2.2.1 x.2.2.2.2.2.2.2.2.2.2.1 x.2.2.2.2.2.2.2.2.2.2.2.2.2.2.2.2.2.2.2.1 x.2.2.2.2.2.2.2.2.2.1 x.2.2.2.2.2.2.2.2.2.2.2.2.2.2.2.2.2.1)) nL (by omega) ⟨4 + nL, by omega, rfl, rfl, rfl, rfl, f2, f3, f4, hsr, htg, fun h => absurd h (by omega), fun h => absurd h (by omega), fun h => absurd h (by omega)⟩ ?_) ?_
  · rintro l ⟨x0, xbm, xbits, xhigh, xlow, xmean, xpend, xsize, xstart, xblocks, xcosts, xcounts, xlevels, xline, xmodes, xone, xoneR, xparts, xresult, xsizes, xstream, xtarget, xwork⟩ ⟨z0, zb0, zv0, zs0, zst0, zb1, zv1, zs1, zst1, zb2, zv2, zs2, zst2, zcnt, zbc, zch, zcl, zcp, zco0, zle0, zmo0, zpa0, zab0, zlf0, zre0, zsi0, zli0, zpl0, zco1, zle1, zmo1, zpa1, zab1, zlf1, zre1, zsi1, zli1, zpl1, zco2, zle2, zmo2, zpa2, zab2, zlf2, zre2, zsi2, zli2, zpl2, zcy, ztg, zwb, zon, zze, zn⟩ s1 s2 hl ⟨sz2, g1, g2, g3, g4, g5, g6, g7, g8, g9, g10, p0, p1, p2⟩ K
    dsimp only at g2 g3 g4 g5 g6 g7 g8 g9 g10 p0 p1 p2 ⊢
    subst g2 g3 g4 g5
    by_cases hc : l < nL
    · refine Ok2.lneg (by simp (disch := omega) only [lI0, lI1, lI2, lI3, lI4, lI5, lI7, lI8, lI9, lI10, lI11, lI12, lI15, lI16, lI17, lI20, lI24, lI32, lI33, lI40, lI63, lI64, lI80, lI82, lI101, lI110, lI115, lI251, lI255, lI256, lI384, lI16384, lI20000, lI32768, lI49152, lI65535, nI_add, pk_mul, pk_sub, pk_div, nI_leI, nI_ltI, nI_eq] <;> omega) (Ok2.rneg (by simp (disch := omega) only [lI0, lI1, lI2, lI3, lI4, lI5, lI7, lI8, lI9, lI10, lI11, lI12, lI15, lI16, lI17, lI20, lI24, lI32, lI33, lI40, lI63, lI64, lI80, lI82, lI101, lI110, lI115, lI251, lI255, lI256, lI384, lI16384, lI20000, lI32768, lI49152, lI65535, nI_add, pk_mul, pk_sub, pk_div, nI_leI, nI_ltI, nI_eq] <;> omega) (Ok2.lwr l rfl (by omega) (by decide) ?_))
      obtain ⟨s1c, s1m, s2c, s3c⟩ := hsC l hc
      have hl3 : l = 0 ∨ l = 1 ∨ l = 2 := by omega
      rcases hl3 with rfl | rfl | rfl
      · refine Ok2.rpos rfl (Ok2.rrd 0 rfl (by decide) (by decide) ?_)
        rw [s1c]
        refine Ok2.bind _ (ok_layer (w := w) (h := h) (S := (h + 7) / 8) (l := 0) (st := st 0) (a := 0) (b := 255) (tC := ztg) hw1 hw2 hh2 rfl (by decide) s1m (by omega) s3c (by decide) (by decide) (by decide) (by decide) (by decide) (by omega) g6 g9 upd_eq (fun px py hx hy => g10 px py hx hy)) ?_
        rintro ⟨obm, obits, ohigh, olow, omean, opend, osize, ostart, oblocks, ocosts, ocounts, olevels, oline, omodes, oone, ooneR, oparts, oresult, osizes, ostream, owork⟩ ⟨kcnt, kbc, kch, kcl, kcp, kblk, kavg, kps, kcy, kwb, kon, kze, kcC, klC, kmC, kpC, kab, klf, krC, ksC, kln, kpl, kn⟩ ⟨sz3, b1, b2, b3, b4, b5, b6, b7, b8, ⟨b9, b10⟩, ⟨b11, b12⟩, b13, b14, b15, b16⟩
        dsimp only at b2 b3 b4 b5 b6 b7 b8 b9 b10 b11 b12 b13 b14 b15 b16 ⊢
        subst b2 b3
        refine Ok2.rpos ⟨b5, b6⟩ (Ok2.r _ ok_subtract ?_)
        intro tg2 htg2
        refine Ok2.l (fun o => ∀ k, k < 384 → o k = xtarget k - oresult k) (Ok.fix (fun k z => z.1 = nI k ∧ (∀ j, j < k → z.2 j = xtarget j - oresult j) ∧ ∀ j, k ≤ j → z.2 j = xtarget j) 384 (by omega) ⟨rfl, fun j hj => absurd hj (by omega), fun j _ => rfl⟩ ?_) ?_
        · rintro k ⟨y1, y2⟩ self hk ⟨r1, r2, r3⟩ K2
          dsimp only at r1 r2 r3 ⊢
          subst r1
          by_cases hc2 : k < 384
          · refine Ok.neg (by simp (disch := omega) only [lI0, lI1, lI2, lI3, lI4, lI5, lI7, lI8, lI9, lI10, lI11, lI12, lI15, lI16, lI17, lI20, lI24, lI32, lI33, lI40, lI63, lI64, lI80, lI82, lI101, lI110, lI115, lI251, lI255, lI256, lI384, lI16384, lI20000, lI32768, lI49152, lI65535, nI_add, pk_mul, pk_sub, pk_div, nI_leI, nI_ltI, nI_eq] <;> omega) (Ok.rd k rfl hc2 (by decide) (Ok.rd k rfl hc2 (by decide) (Ok.wr k rfl hc2 (by decide) (Ok.bnd (K2 _ hc2 ⟨(by first | (simp (disch := omega) only [lI0, lI1, lI2, lI3, lI4, lI5, lI7, lI8, lI9, lI10, lI11, lI12, lI15, lI16, lI17, lI20, lI24, lI32, lI33, lI40, lI63, lI64, lI80, lI82, lI101, lI110, lI115, lI251, lI255, lI256, lI384, lI16384, lI20000, lI32768, lI49152, lI65535, nI_add, pk_mul, pk_sub, pk_div] <;> (apply congrArg nI; omega)) | rfl), fun j hj => ?_, fun j hj => ?_⟩)))))
            · dsimp only
              by_cases r4 : j = k
              · rw [r4, upd_eq, r3 k (Nat.le_refl _)]
              · rw [upd_ne r4]
                exact r2 j (by omega)
            · dsimp only
              rw [upd_ne (by omega)]
              exact r3 j (by omega)
          · have hk2 : k = 384 := by omega
            subst hk2
            exact Ok.pos (by simp (disch := omega) only [lI0, lI1, lI2, lI3, lI4, lI5, lI7, lI8, lI9, lI10, lI11, lI12, lI15, lI16, lI17, lI20, lI24, lI32, lI33, lI40, lI63, lI64, lI80, lI82, lI101, lI110, lI115, lI251, lI255, lI256, lI384, lI16384, lI20000, lI32768, lI49152, lI65535, nI_add, pk_mul, pk_sub, pk_div, nI_leI, nI_ltI, nI_eq] <;> omega) (Ok.some r2)
        intro tm2 htm2
        refine Ok2.lbnd (Ok2.rbnd (K _ _ hc ⟨sz3, by omega, (by first | (simp (disch := omega) only [lI0, lI1, lI2, lI3, lI4, lI5, lI7, lI8, lI9, lI10, lI11, lI12, lI15, lI16, lI17, lI20, lI24, lI32, lI33, lI40, lI63, lI64, lI80, lI82, lI101, lI110, lI115, lI251, lI255, lI256, lI384, lI16384, lI20000, lI32768, lI49152, lI65535, nI_add, pk_mul, pk_sub, pk_div] <;> (apply congrArg nI; omega)) | rfl), (by first | (simp (disch := omega) only [lI0, lI1, lI2, lI3, lI4, lI5, lI7, lI8, lI9, lI10, lI11, lI12, lI15, lI16, lI17, lI20, lI24, lI32, lI33, lI40, lI63, lI64, lI80, lI82, lI101, lI110, lI115, lI251, lI255, lI256, lI384, lI16384, lI20000, lI32768, lI49152, lI65535, nI_add, pk_mul, pk_sub, pk_div] <;> (apply congrArg nI; omega)) | rfl), rfl, rfl, b4, Nat.le_trans g7 b5, b6, b7, ?_, ?_, ?_, ?_⟩))
        · exact tgR_next (l := 0) (by omega) (by omega) g10 b8 htg2 htm2
        · intro _
          exact lyP_of b8 b9 b11
        · intro hh
          exact absurd hh (by decide)
        · intro hh
          exact absurd hh (by decide)
      · refine Ok2.rneg (by decide) (Ok2.rpos rfl (Ok2.rrd 1 rfl (by decide) (by decide) ?_))
        rw [s1c]
        refine Ok2.bind _ (ok_layer (w := w) (h := h) (S := (h + 7) / 8) (l := 1) (st := st 1) (a := -151) (b := 151) (tC := ztg) hw1 hw2 hh2 rfl (by decide) s1m (by omega) s3c (by decide) (by decide) (by decide) (by decide) (by decide) (by omega) g6 g9 upd_eq (fun px py hx hy => g10 px py hx hy)) ?_
        rintro ⟨obm, obits, ohigh, olow, omean, opend, osize, ostart, oblocks, ocosts, ocounts, olevels, oline, omodes, oone, ooneR, oparts, oresult, osizes, ostream, owork⟩ ⟨kcnt, kbc, kch, kcl, kcp, kblk, kavg, kps, kcy, kwb, kon, kze, kcC, klC, kmC, kpC, kab, klf, krC, ksC, kln, kpl, kn⟩ ⟨sz3, b1, b2, b3, b4, b5, b6, b7, b8, ⟨b9, b10⟩, ⟨b11, b12⟩, b13, b14, b15, b16⟩
        dsimp only at b2 b3 b4 b5 b6 b7 b8 b9 b10 b11 b12 b13 b14 b15 b16 ⊢
        subst b2 b3
        refine Ok2.rpos ⟨b5, b6⟩ (Ok2.r _ ok_subtract ?_)
        intro tg2 htg2
        refine Ok2.l (fun o => ∀ k, k < 384 → o k = xtarget k - oresult k) (Ok.fix (fun k z => z.1 = nI k ∧ (∀ j, j < k → z.2 j = xtarget j - oresult j) ∧ ∀ j, k ≤ j → z.2 j = xtarget j) 384 (by omega) ⟨rfl, fun j hj => absurd hj (by omega), fun j _ => rfl⟩ ?_) ?_
        · rintro k ⟨y1, y2⟩ self hk ⟨r1, r2, r3⟩ K2
          dsimp only at r1 r2 r3 ⊢
          subst r1
          by_cases hc2 : k < 384
          · refine Ok.neg (by simp (disch := omega) only [lI0, lI1, lI2, lI3, lI4, lI5, lI7, lI8, lI9, lI10, lI11, lI12, lI15, lI16, lI17, lI20, lI24, lI32, lI33, lI40, lI63, lI64, lI80, lI82, lI101, lI110, lI115, lI251, lI255, lI256, lI384, lI16384, lI20000, lI32768, lI49152, lI65535, nI_add, pk_mul, pk_sub, pk_div, nI_leI, nI_ltI, nI_eq] <;> omega) (Ok.rd k rfl hc2 (by decide) (Ok.rd k rfl hc2 (by decide) (Ok.wr k rfl hc2 (by decide) (Ok.bnd (K2 _ hc2 ⟨(by first | (simp (disch := omega) only [lI0, lI1, lI2, lI3, lI4, lI5, lI7, lI8, lI9, lI10, lI11, lI12, lI15, lI16, lI17, lI20, lI24, lI32, lI33, lI40, lI63, lI64, lI80, lI82, lI101, lI110, lI115, lI251, lI255, lI256, lI384, lI16384, lI20000, lI32768, lI49152, lI65535, nI_add, pk_mul, pk_sub, pk_div] <;> (apply congrArg nI; omega)) | rfl), fun j hj => ?_, fun j hj => ?_⟩)))))
            · dsimp only
              by_cases r4 : j = k
              · rw [r4, upd_eq, r3 k (Nat.le_refl _)]
              · rw [upd_ne r4]
                exact r2 j (by omega)
            · dsimp only
              rw [upd_ne (by omega)]
              exact r3 j (by omega)
          · have hk2 : k = 384 := by omega
            subst hk2
            exact Ok.pos (by simp (disch := omega) only [lI0, lI1, lI2, lI3, lI4, lI5, lI7, lI8, lI9, lI10, lI11, lI12, lI15, lI16, lI17, lI20, lI24, lI32, lI33, lI40, lI63, lI64, lI80, lI82, lI101, lI110, lI115, lI251, lI255, lI256, lI384, lI16384, lI20000, lI32768, lI49152, lI65535, nI_add, pk_mul, pk_sub, pk_div, nI_leI, nI_ltI, nI_eq] <;> omega) (Ok.some r2)
        intro tm2 htm2
        refine Ok2.lbnd (Ok2.rbnd (K _ _ hc ⟨sz3, by omega, (by first | (simp (disch := omega) only [lI0, lI1, lI2, lI3, lI4, lI5, lI7, lI8, lI9, lI10, lI11, lI12, lI15, lI16, lI17, lI20, lI24, lI32, lI33, lI40, lI63, lI64, lI80, lI82, lI101, lI110, lI115, lI251, lI255, lI256, lI384, lI16384, lI20000, lI32768, lI49152, lI65535, nI_add, pk_mul, pk_sub, pk_div] <;> (apply congrArg nI; omega)) | rfl), (by first | (simp (disch := omega) only [lI0, lI1, lI2, lI3, lI4, lI5, lI7, lI8, lI9, lI10, lI11, lI12, lI15, lI16, lI17, lI20, lI24, lI32, lI33, lI40, lI63, lI64, lI80, lI82, lI101, lI110, lI115, lI251, lI255, lI256, lI384, lI16384, lI20000, lI32768, lI49152, lI65535, nI_add, pk_mul, pk_sub, pk_div] <;> (apply congrArg nI; omega)) | rfl), rfl, rfl, b4, Nat.le_trans g7 b5, b6, b7, ?_, ?_, ?_, ?_⟩))
        · exact tgR_next (l := 1) (by omega) (by omega) g10 b8 htg2 htm2
        · intro _
          exact lyP_keep (d := 1) (by omega) (by omega) (by decide) (p0 (by decide)) b13 b14 b15 b16 (fun j hj => (b10 j hj).trans (upd_ne hj)) b12
        · intro _
          exact lyP_of b8 b9 b11
        · intro hh
          exact absurd hh (by decide)
      · refine Ok2.rneg (by decide) (Ok2.rneg (by decide) (Ok2.rpos rfl (Ok2.rrd 2 rfl (by decide) (by decide) ?_)))
        rw [s1c]
        refine Ok2.bind _ (ok_layer (w := w) (h := h) (S := (h + 7) / 8) (l := 2) (st := st 2) (a := -151) (b := 151) (tC := ztg) hw1 hw2 hh2 rfl (by decide) s1m (by omega) s3c (by decide) (by decide) (by decide) (by decide) (by decide) (by omega) g6 g9 upd_eq (fun px py hx hy => g10 px py hx hy)) ?_
        rintro ⟨obm, obits, ohigh, olow, omean, opend, osize, ostart, oblocks, ocosts, ocounts, olevels, oline, omodes, oone, ooneR, oparts, oresult, osizes, ostream, owork⟩ ⟨kcnt, kbc, kch, kcl, kcp, kblk, kavg, kps, kcy, kwb, kon, kze, kcC, klC, kmC, kpC, kab, klf, krC, ksC, kln, kpl, kn⟩ ⟨sz3, b1, b2, b3, b4, b5, b6, b7, b8, ⟨b9, b10⟩, ⟨b11, b12⟩, b13, b14, b15, b16⟩
        dsimp only at b2 b3 b4 b5 b6 b7 b8 b9 b10 b11 b12 b13 b14 b15 b16 ⊢
        subst b2 b3
        refine Ok2.rpos ⟨b5, b6⟩ (Ok2.r _ ok_subtract ?_)
        intro tg2 htg2
        refine Ok2.l (fun o => ∀ k, k < 384 → o k = xtarget k - oresult k) (Ok.fix (fun k z => z.1 = nI k ∧ (∀ j, j < k → z.2 j = xtarget j - oresult j) ∧ ∀ j, k ≤ j → z.2 j = xtarget j) 384 (by omega) ⟨rfl, fun j hj => absurd hj (by omega), fun j _ => rfl⟩ ?_) ?_
        · rintro k ⟨y1, y2⟩ self hk ⟨r1, r2, r3⟩ K2
          dsimp only at r1 r2 r3 ⊢
          subst r1
          by_cases hc2 : k < 384
          · refine Ok.neg (by simp (disch := omega) only [lI0, lI1, lI2, lI3, lI4, lI5, lI7, lI8, lI9, lI10, lI11, lI12, lI15, lI16, lI17, lI20, lI24, lI32, lI33, lI40, lI63, lI64, lI80, lI82, lI101, lI110, lI115, lI251, lI255, lI256, lI384, lI16384, lI20000, lI32768, lI49152, lI65535, nI_add, pk_mul, pk_sub, pk_div, nI_leI, nI_ltI, nI_eq] <;> omega) (Ok.rd k rfl hc2 (by decide) (Ok.rd k rfl hc2 (by decide) (Ok.wr k rfl hc2 (by decide) (Ok.bnd (K2 _ hc2 ⟨(by first | (simp (disch := omega) only [lI0, lI1, lI2, lI3, lI4, lI5, lI7, lI8, lI9, lI10, lI11, lI12, lI15, lI16, lI17, lI20, lI24, lI32, lI33, lI40, lI63, lI64, lI80, lI82, lI101, lI110, lI115, lI251, lI255, lI256, lI384, lI16384, lI20000, lI32768, lI49152, lI65535, nI_add, pk_mul, pk_sub, pk_div] <;> (apply congrArg nI; omega)) | rfl), fun j hj => ?_, fun j hj => ?_⟩)))))
            · dsimp only
              by_cases r4 : j = k
              · rw [r4, upd_eq, r3 k (Nat.le_refl _)]
              · rw [upd_ne r4]
                exact r2 j (by omega)
            · dsimp only
              rw [upd_ne (by omega)]
              exact r3 j (by omega)
          · have hk2 : k = 384 := by omega
            subst hk2
            exact Ok.pos (by simp (disch := omega) only [lI0, lI1, lI2, lI3, lI4, lI5, lI7, lI8, lI9, lI10, lI11, lI12, lI15, lI16, lI17, lI20, lI24, lI32, lI33, lI40, lI63, lI64, lI80, lI82, lI101, lI110, lI115, lI251, lI255, lI256, lI384, lI16384, lI20000, lI32768, lI49152, lI65535, nI_add, pk_mul, pk_sub, pk_div, nI_leI, nI_ltI, nI_eq] <;> omega) (Ok.some r2)
        intro tm2 htm2
        refine Ok2.lbnd (Ok2.rbnd (K _ _ hc ⟨sz3, by omega, (by first | (simp (disch := omega) only [lI0, lI1, lI2, lI3, lI4, lI5, lI7, lI8, lI9, lI10, lI11, lI12, lI15, lI16, lI17, lI20, lI24, lI32, lI33, lI40, lI63, lI64, lI80, lI82, lI101, lI110, lI115, lI251, lI255, lI256, lI384, lI16384, lI20000, lI32768, lI49152, lI65535, nI_add, pk_mul, pk_sub, pk_div] <;> (apply congrArg nI; omega)) | rfl), (by first | (simp (disch := omega) only [lI0, lI1, lI2, lI3, lI4, lI5, lI7, lI8, lI9, lI10, lI11, lI12, lI15, lI16, lI17, lI20, lI24, lI32, lI33, lI40, lI63, lI64, lI80, lI82, lI101, lI110, lI115, lI251, lI255, lI256, lI384, lI16384, lI20000, lI32768, lI49152, lI65535, nI_add, pk_mul, pk_sub, pk_div] <;> (apply congrArg nI; omega)) | rfl), rfl, rfl, b4, Nat.le_trans g7 b5, b6, b7, ?_, ?_, ?_, ?_⟩))
        · exact tgR_next (l := 2) (by omega) (by omega) g10 b8 htg2 htm2
        · intro _
          exact lyP_keep (d := 2) (by omega) (by omega) (by decide) (p0 (by decide)) b13 b14 b15 b16 (fun j hj => (b10 j hj).trans (upd_ne hj)) b12
        · intro _
          exact lyP_keep (d := 2) (by omega) (by omega) (by decide) (p1 (by decide)) b13 b14 b15 b16 (fun j hj => (b10 j hj).trans (upd_ne hj)) b12
        · intro _
          exact lyP_of b8 b9 b11
    · have hl2 : l = nL := by omega
      subst hl2
      exact Ok2.lpos (by simp (disch := omega) only [lI0, lI1, lI2, lI3, lI4, lI5, lI7, lI8, lI9, lI10, lI11, lI12, lI15, lI16, lI17, lI20, lI24, lI32, lI33, lI40, lI63, lI64, lI80, lI82, lI101, lI110, lI115, lI251, lI255, lI256, lI384, lI16384, lI20000, lI32768, lI49152, lI65535, nI_add, pk_mul, pk_sub, pk_div, nI_leI, nI_ltI, nI_eq] <;> omega) (Ok2.rpos (by simp (disch := omega) only [lI0, lI1, lI2, lI3, lI4, lI5, lI7, lI8, lI9, lI10, lI11, lI12, lI15, lI16, lI17, lI20, lI24, lI32, lI33, lI40, lI63, lI64, lI80, lI82, lI101, lI110, lI115, lI251, lI255, lI256, lI384, lI16384, lI20000, lI32768, lI49152, lI65535, nI_add, pk_mul, pk_sub, pk_div, nI_leI, nI_ltI, nI_eq] <;> omega) (Ok2.some ⟨sz2, by omega, rfl, rfl, g6, g7, g8, g9, p0, p1, p2⟩))
  · rintro ⟨obm, obits, ohigh, olow, omean, opend, osize, ostart, oblocks, ocosts, ocounts, olevels, oline, omodes, oone, ooneR, oparts, oresult, osizes, ostream, otarget, owork⟩ ⟨kb0, kv0, ks0, kst0, kb1, kv1, ks1, kst1, kb2, kv2, ks2, kst2, kcnt, kbc, kch, kcl, kcp, kco0, kle0, kmo0, kpa0, kab0, klf0, kre0, ksi0, kli0, kpl0, kco1, kle1, kmo1, kpa1, kab1, klf1, kre1, ksi1, kli1, kpl1, kco2, kle2, kmo2, kpa2, kab2, klf2, kre2, ksi2, kli2, kpl2, kcy, ktg, kwb, kon, kze, kn⟩ ⟨sz2, g1, g2, g3, g4, g5, g6, g7, p0, p1, p2⟩
    dsimp only at g2 g3 g4 g5 g6 g7 p0 p1 p2 ⊢
    subst g2 g3
    refine Ok2.rE _ rfl (Ok2.some ⟨sz2, g1, rfl, rfl, rfl, rfl, rfl, rfl, rfl, rfl, rfl, rfl, rfl, ?_, rfl, rfl, g4, g5, g6, g7, p0, p1, p2⟩)
    dsimp only
    (first | (simp (disch := omega) only [lI0, lI1, lI2, lI3, lI4, lI5, lI7, lI8, lI9, lI10, lI11, lI12, lI15, lI16, lI17, lI20, lI24, lI32, lI33, lI40, lI63, lI64, lI80, lI82, lI101, lI110, lI115, lI251, lI255, lI256, lI384, lI16384, lI20000, lI32768, lI49152, lI65535, nI_add, pk_mul, pk_sub, pk_div] <;> (apply congrArg nI; omega)) | rfl)
