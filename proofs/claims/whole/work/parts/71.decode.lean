/-! ===== decode, both sides ===== -/
/-- what was decoded, the pixels bytes -/
def decR (w h : Nat) (dm pc fm fc um uc : Nat → Int32) : Prop := (∀ x y, x < w → y < h → dm (16 * y + x) = pc (16 * y + x) ∧ ∃ v, v < 256 ∧ dm (16 * y + x) = nI v) ∧ (∀ s, s < 3 → fm s = fc s ∧ (fm s = 110 ∨ fm s = 101 ∨ fm s = 115)) ∧ ∀ s, s < 3 → um s = uc s
theorem ok_forget {fc uc : Nat → Int32} : Ok (lf_X8_forgetSlices fc uc) (fun o => ∀ s, s < 3 → o.1 s = 110 ∧ o.2 s = 0) := by
  unfold lf_X8_forgetSlices
  refine Ok.bind (fun o => ∀ s, s < 3 → o.1 s = 110 ∧ o.2 s = 0) (Ok.fix (fun k z => z.1 = nI k ∧ ∀ s, s < k → z.2.1 s = 110 ∧ z.2.2 s = 0) 3 (by decide) ⟨rfl, fun s hs => absurd hs (by omega)⟩ ?_) (fun o ho => Ok.some ho)
  rintro k ⟨x1, g2, g3⟩ self hk ⟨h1, h2⟩ K
  dsimp only at h1 h2 ⊢
  subst h1
  by_cases hc : k < 3
  · refine Ok.neg (by simp (disch := omega) only [lI0, lI1, lI2, lI3, lI4, lI5, lI7, lI8, lI9, lI10, lI11, lI12, lI15, lI16, lI17, lI20, lI24, lI32, lI33, lI40, lI63, lI64, lI80, lI82, lI101, lI110, lI115, lI251, lI255, lI256, lI384, lI16384, lI20000, lI32768, lI49152, lI65535, nI_add, pk_mul, pk_sub, pk_div, nI_leI, nI_ltI, nI_eq] <;> omega) (Ok.wr k rfl hc (by decide) (Ok.wr k rfl hc (by decide) (Ok.bnd (K _ hc ⟨(by first | (simp (disch := omega) only [lI0, lI1, lI2, lI3, lI4, lI5, lI7, lI8, lI9, lI10, lI11, lI12, lI15, lI16, lI17, lI20, lI24, lI32, lI33, lI40, lI63, lI64, lI80, lI82, lI101, lI110, lI115, lI251, lI255, lI256, lI384, lI16384, lI20000, lI32768, lI49152, lI65535, nI_add, pk_mul, pk_sub, pk_div] <;> (apply congrArg nI; omega)) | rfl), fun s hs => ?_⟩))))
    dsimp only
    by_cases h3 : s = k
    · subst h3
      rw [upd_eq, upd_eq]
      exact ⟨by decide, rfl⟩
    · rw [upd_ne h3, upd_ne h3]
      exact h2 s (by omega)
  · have hk2 : k = 3 := by omega
    subst hk2
    exact Ok.pos (by simp (disch := omega) only [lI0, lI1, lI2, lI3, lI4, lI5, lI7, lI8, lI9, lI10, lI11, lI12, lI15, lI16, lI17, lI20, lI24, lI32, lI33, lI40, lI63, lI64, lI80, lI82, lI101, lI110, lI115, lI251, lI255, lI256, lI384, lI16384, lI20000, lI32768, lI49152, lI65535, nI_add, pk_mul, pk_sub, pk_div, nI_leI, nI_ltI, nI_eq] <;> omega) (Ok.some h2)
def clB (v : Int32) : Int32 := if 0 ≤ v then (if v ≤ 255 then v else 255) else 0
theorem clB_j (v : Int32) : jmax 0 (jmin 255 v) = clB v := by
  unfold jmax jmin clB
  by_cases h1 : v < 255
  · rw [if_pos h1]
    by_cases h2 : 0 < v
    · rw [if_pos h2, if_pos (Int32.le_of_lt h2), if_pos (Int32.le_of_lt h1)]
    · rw [if_neg h2]
      by_cases h3 : 0 ≤ v
      · rw [if_pos h3, if_pos (Int32.le_of_lt h1)]
        exact Int32.le_antisymm h3 (Int32.not_lt.mp h2)
      · rw [if_neg h3]
  · rw [if_neg h1, if_pos (by decide)]
    have h2 : (255 : Int32) ≤ v := Int32.not_lt.mp h1
    rw [if_pos (Int32.le_trans (by decide : (0 : Int32) ≤ 255) h2)]
    by_cases h3 : v ≤ 255
    · rw [if_pos h3]
      exact Int32.le_antisymm h2 h3
    · rw [if_neg h3]
theorem clB_byte (v : Int32) : ∃ k, k < 256 ∧ clB v = nI k := by
  unfold clB
  by_cases h1 : 0 ≤ v
  · rw [if_pos h1]
    by_cases h2 : v ≤ 255
    · rw [if_pos h2]
      obtain ⟨j, hj, e⟩ := nI_of2 (x := v) (M := 255) (n := 255) (by decide) (Int32.not_lt.mpr h1) h2
      exact ⟨j, by omega, e⟩
    · rw [if_neg h2]
      exact ⟨255, by decide, rfl⟩
  · rw [if_neg h1]
    exact ⟨0, by decide, rfl⟩
theorem clB_nI {k : Nat} (hk : k < 256) : clB (nI k) = nI k := by
  unfold clB
  rw [if_pos (by simp (disch := omega) only [lI0, lI1, lI2, lI3, lI4, lI5, lI7, lI8, lI9, lI10, lI11, lI12, lI15, lI16, lI17, lI20, lI24, lI32, lI33, lI40, lI63, lI64, lI80, lI82, lI101, lI110, lI115, lI251, lI255, lI256, lI384, lI16384, lI20000, lI32768, lI49152, lI65535, nI_add, pk_mul, pk_sub, pk_div, nI_leI, nI_ltI, nI_eq] <;> omega), if_pos (by simp (disch := omega) only [lI0, lI1, lI2, lI3, lI4, lI5, lI7, lI8, lI9, lI10, lI11, lI12, lI15, lI16, lI17, lI20, lI24, lI32, lI33, lI40, lI63, lI64, lI80, lI82, lI101, lI110, lI115, lI251, lI255, lI256, lI384, lI16384, lI20000, lI32768, lI49152, lI65535, nI_add, pk_mul, pk_sub, pk_div, nI_leI, nI_ltI, nI_eq] <;> omega)]
theorem ok_X5_clamp {pix : Nat → Int32} : Ok (lf_X5_clamp pix) (fun o => ∀ i, i < 384 → o i = clB (pix i)) := by
  unfold lf_X5_clamp
  refine Ok.bind (fun o => ∀ i, i < 384 → o i = clB (pix i)) (Ok.fix (fun k z => z.1 = nI k ∧ ∀ i, i < 384 → z.2 i = if i < k then clB (pix i) else pix i) 384 (by decide) ⟨rfl, fun i _ => rfl⟩ ?_) (fun o ho => Ok.some ho)
  rintro k ⟨x1, g2⟩ self hk ⟨h1, h2⟩ K
  dsimp only at h1 h2 ⊢
  subst h1
  by_cases hc : k < 384
  · refine Ok.neg (by simp (disch := omega) only [lI0, lI1, lI2, lI3, lI4, lI5, lI7, lI8, lI9, lI10, lI11, lI12, lI15, lI16, lI17, lI20, lI24, lI32, lI33, lI40, lI63, lI64, lI80, lI82, lI101, lI110, lI115, lI251, lI255, lI256, lI384, lI16384, lI20000, lI32768, lI49152, lI65535, nI_add, pk_mul, pk_sub, pk_div, nI_leI, nI_ltI, nI_eq] <;> omega) (Ok.rd k rfl hc (by decide) (Ok.wr k rfl hc (by decide) (Ok.bnd (K _ hc ⟨(by first | (simp (disch := omega) only [lI0, lI1, lI2, lI3, lI4, lI5, lI7, lI8, lI9, lI10, lI11, lI12, lI15, lI16, lI17, lI20, lI24, lI32, lI33, lI40, lI63, lI64, lI80, lI82, lI101, lI110, lI115, lI251, lI255, lI256, lI384, lI16384, lI20000, lI32768, lI49152, lI65535, nI_add, pk_mul, pk_sub, pk_div] <;> (apply congrArg nI; omega)) | rfl), fun i hi => ?_⟩))))
    dsimp only
    by_cases h3 : i = k
    · subst h3
      rw [upd_eq, h2 i hi, if_neg (by omega), if_pos (by omega), clB_j]
    · rw [upd_ne h3, h2 i hi]
      by_cases h4 : i < k
      · rw [if_pos h4, if_pos (by omega)]
      · rw [if_neg h4, if_neg (by omega)]
  · have hk2 : k = 384 := by omega
    subst hk2
    refine Ok.pos (by simp (disch := omega) only [lI0, lI1, lI2, lI3, lI4, lI5, lI7, lI8, lI9, lI10, lI11, lI12, lI15, lI16, lI17, lI20, lI24, lI32, lI33, lI40, lI63, lI64, lI80, lI82, lI101, lI110, lI115, lI251, lI255, lI256, lI384, lI16384, lI20000, lI32768, lI49152, lI65535, nI_add, pk_mul, pk_sub, pk_div, nI_leI, nI_ltI, nI_eq] <;> omega) (Ok.some fun i hi => ?_)
    rw [h2 i hi, if_pos hi]
theorem Ok2.jj {φ ψ β γ : Type} {K : φ → Option β} {B : (φ → Option β) → Option β} {L : ψ → Option γ} {C : (ψ → Option γ) → Option γ} {R : β → γ → Prop} (P : φ → ψ → Prop) (h1 : ∀ (k : φ → Option β) (l : ψ → Option γ), (∀ x y, P x y → Ok2 (k x) (l y) R) → Ok2 (B k) (C l) R) (h2 : ∀ x y, P x y → Ok2 (K x) (L y) R) : Ok2 (jn K B) (jn L C) R := h1 K L h2
set_option maxHeartbeats 4000000 in
theorem ok_decode {sz n : Nat} {stm cy : Nat → Int32} {i_m_bits i_m_code i_m_decodedH i_m_decodedW i_m_end i_m_high i_m_isDecoded i_m_low i_m_mean i_m_pending i_m_start i_m_thrown : Int32} {t_m_counts t_m_decoded t_m_faults t_m_line t_m_one t_m_result t_m_used t_m_whole t_m_work : Nat → Int32} {i_c_decoded_columns i_c_decoded_rows i_c_decodedLayer_prediction_average i_c_decodedLayer_prediction_size i_c_decodedLayer_step i_c_hasDecoded i_c_reader_code i_c_reader_end i_c_reader_high i_c_reader_low i_c_reader_position : Int32} {t_c_decoded_pixels t_c_decodedLayer_levels t_c_decodedLayer_modes t_c_decodedLayer_prediction_above t_c_decodedLayer_prediction_left t_c_decodedLayer_result t_c_decodedLayer_sizes t_c_decodedLayer_transform_line t_c_decodedLayer_transform_places t_c_faults t_c_reader_ones t_c_reader_zeros t_c_usedLayers : Nat → Int32} (p0 : Int32)
    (hsz : sz ≤ 18500) (ha : aI sz n) (hR : sR sz stm cy) :
    Ok2 (lf_X9_decode i_m_bits i_m_code i_m_decodedH i_m_decodedW i_m_end i_m_high i_m_isDecoded i_m_low i_m_mean i_m_pending (nI sz) i_m_start i_m_thrown t_m_counts t_m_decoded t_m_faults t_m_line t_m_one t_m_result stm t_m_used t_m_whole t_m_work p0) (lf_X8_decode i_c_decoded_columns i_c_decoded_rows i_c_decodedLayer_prediction_average i_c_decodedLayer_prediction_size i_c_decodedLayer_step i_c_hasDecoded i_c_reader_code i_c_reader_end i_c_reader_high i_c_reader_low i_c_reader_position (nI sz) t_c_decoded_pixels t_c_decodedLayer_levels t_c_decodedLayer_modes t_c_decodedLayer_prediction_above t_c_decodedLayer_prediction_left t_c_decodedLayer_result t_c_decodedLayer_sizes t_c_decodedLayer_transform_line t_c_decodedLayer_transform_places t_c_faults t_c_reader_ones t_c_reader_zeros n cy t_c_usedLayers p0) (fun o k => (∃ kd th, k = Sum.inl kd ∧ (kd = 0 ∧ th = 1 ∨ kd = 2 ∧ th = 2) ∧ o = (0, i_m_bits, i_m_code, i_m_decodedH, i_m_decodedW, i_m_end, i_m_high, i_m_isDecoded, i_m_low, i_m_mean, i_m_pending, i_m_start, th, t_m_counts, t_m_decoded, t_m_faults, t_m_line, t_m_one, t_m_result, t_m_used, t_m_whole, t_m_work)) ∨ ∃ r w h, k = Sum.inr r ∧ 1 ≤ w ∧ w ≤ 16 ∧ 1 ≤ h ∧ h ≤ 24 ∧ o.1 = r.1 ∧ o.2.2.2.1 = nI h ∧ o.2.2.2.2.1 = nI w ∧ o.2.2.2.2.2.2.2.1 = 1 ∧ o.2.2.2.2.2.2.2.2.2.2.2.2.1 = 0 ∧ r.2.1 = nI w ∧ r.2.2.1 = nI h ∧ r.2.2.2.2.2.2.1 = 1 ∧ decR w h o.2.2.2.2.2.2.2.2.2.2.2.2.2.2.1 r.2.2.2.2.2.2.2.2.2.2.2.2.1 o.2.2.2.2.2.2.2.2.2.2.2.2.2.2.2.1 r.2.2.2.2.2.2.2.2.2.2.2.2.2.2.2.2.2.2.2.2.2.1 o.2.2.2.2.2.2.2.2.2.2.2.2.2.2.2.2.2.2.2.1 r.2.2.2.2.2.2.2.2.2.2.2.2.2.2.2.2.2.2.2.2.2.2.2.2) := by
  obtain ⟨q1, q2, q3⟩ := aI_le ha
  obtain ⟨b, hbs⟩ : ∃ b : Nat → Nat, ∀ i, i < sz → stm i = nI (b i) ∧ b i < 256 := by
    refine ⟨fun i => (stm i).toNatClampNeg, fun i hi => ?_⟩
    obtain ⟨-, v, hv1, hv2⟩ := hR i hi
    dsimp only
    rw [hv2, nI_clamp (by omega)]
    exact ⟨rfl, hv1⟩
  have hbc : ∀ i, i < sz → cy i = nI (b i) ∧ b i < 256 := fun i hi => by
    rw [(hR i hi).1]
    exact hbs i hi
  have hat : ∀ i, i < sz → lf_X3_at (nI sz) n cy (nI i) = some (nI (b i)) := fun i hi => by
    rw [eq_X3_at q3 q1 (by omega), if_pos hi, (hbc i hi).1]
  unfold lf_X9_decode lf_X8_decode
  by_cases hp : ¬ p0 < 1 ∧ p0 ≤ 3
  · obtain ⟨q, hq, e⟩ := nI_of2 (x := p0) (M := 3) (n := 3) (by decide) (fun h => hp.1 (Int32.lt_trans h (by decide))) hp.2
    subst e
    have hq1 : 1 ≤ q := by
      have h2 := hp.1
      rcases Nat.lt_or_ge q 1 with h | h
      · have h3 : q = 0 := by omega
        subst h3
        exact absurd (by decide) h2
      · exact h
    refine Ok2.lE _ (eq_isIn (a := 1) (c := 3) (by omega) (by decide) (by decide)) ?_
    rw [if_pos (⟨hq1, hq⟩ : 1 ≤ q ∧ q ≤ 3)]
    refine Ok2.lneg (by decide) (Ok2.rjnI (Ok2.rneg hp.1 (Ok2.rpos hp.2 ?_)))
    obtain ⟨oh, eh, hh⟩ := ok_isHeader hsz hbs
    obtain ⟨oc, ec, hc⟩ := ok_validHeader q3 q1 hbc
    refine Ok2.lE _ eh (Ok2.rE _ ec ?_)
    by_cases hv : hvN sz b
    · have e1 : oh = 1 := by
        rcases hh with h | h
        · exact h.1
        · exact absurd hv h.2
      have e2 : oc = 1 := by
        rcases hc with h | h
        · exact h.1
        · exact absurd hv h.2
      subst e1 e2
      obtain ⟨v1, v2, ⟨v3, v4⟩, ⟨v5, v6⟩, v7⟩ := hv
      refine Ok2.lneg (by decide) (Ok2.rneg (by decide) (Ok2.lrd 1 rfl (by decide) (by decide) (Ok2.lrd 2 rfl (by decide) (by decide) (Ok2.lbnd ?_))))
      rw [(hbs 1 (by omega)).1, (hbs 2 (by omega)).1]
      refine Ok2.rE _ (hat 1 (by omega)) (Ok2.rE _ (hat 2 (by omega)) ?_)
      generalize hw : b 1 = w at *
      generalize hh1 : b 2 = h at *
      obtain ⟨S, hS⟩ : ∃ S, S = (h + 7) / 8 := ⟨_, rfl⟩
      rw [show (nI h + (7 : Int32)) / (8 : Int32) = nI S from by rw [hS]; (first | (simp (disch := omega) only [lI0, lI1, lI2, lI3, lI4, lI5, lI7, lI8, lI9, lI10, lI11, lI12, lI15, lI16, lI17, lI20, lI24, lI32, lI33, lI40, lI63, lI64, lI80, lI82, lI101, lI110, lI115, lI251, lI255, lI256, lI384, lI16384, lI20000, lI32768, lI49152, lI65535, nI_add, pk_mul, pk_sub, pk_div] <;> (apply congrArg nI; omega)) | rfl)]
      refine Ok2.l (fun o => ∀ s, s < 3 → o.1 s = 110 ∧ o.2 s = 0) (Ok.fix (fun k z => z.1 = nI k ∧ ∀ s, s < k → z.2.1 s = 110 ∧ z.2.2 s = 0) 3 (by decide) ⟨rfl, fun s hs => absurd hs (by omega)⟩ ?_) ?_
      · rintro k ⟨x1, g2, g3⟩ self hk ⟨h1, h2⟩ K
        dsimp only at h1 h2 ⊢
        subst h1
        by_cases hc : k < 3
        · refine Ok.neg (by simp (disch := omega) only [lI0, lI1, lI2, lI3, lI4, lI5, lI7, lI8, lI9, lI10, lI11, lI12, lI15, lI16, lI17, lI20, lI24, lI32, lI33, lI40, lI63, lI64, lI80, lI82, lI101, lI110, lI115, lI251, lI255, lI256, lI384, lI16384, lI20000, lI32768, lI49152, lI65535, nI_add, pk_mul, pk_sub, pk_div, nI_leI, nI_ltI, nI_eq] <;> omega) (Ok.wr k rfl hc (by decide) (Ok.wr k rfl hc (by decide) (Ok.bnd (K _ hc ⟨(by first | (simp (disch := omega) only [lI0, lI1, lI2, lI3, lI4, lI5, lI7, lI8, lI9, lI10, lI11, lI12, lI15, lI16, lI17, lI20, lI24, lI32, lI33, lI40, lI63, lI64, lI80, lI82, lI101, lI110, lI115, lI251, lI255, lI256, lI384, lI16384, lI20000, lI32768, lI49152, lI65535, nI_add, pk_mul, pk_sub, pk_div] <;> (apply congrArg nI; omega)) | rfl), fun s hs => ?_⟩))))
          dsimp only
          by_cases h3 : s = k
          · subst h3
            rw [upd_eq, upd_eq]
            exact ⟨rfl, rfl⟩
          · rw [upd_ne h3, upd_ne h3]
            exact h2 s (by omega)
        · have hk2 : k = 3 := by omega
          subst hk2
          exact Ok.pos (by simp (disch := omega) only [lI0, lI1, lI2, lI3, lI4, lI5, lI7, lI8, lI9, lI10, lI11, lI12, lI15, lI16, lI17, lI20, lI24, lI32, lI33, lI40, lI63, lI64, lI80, lI82, lI101, lI110, lI115, lI251, lI255, lI256, lI384, lI16384, lI20000, lI32768, lI49152, lI65535, nI_add, pk_mul, pk_sub, pk_div, nI_leI, nI_ltI, nI_eq] <;> omega) (Ok.some h2)
      rintro ⟨fm, um⟩ hfu
      dsimp only at hfu ⊢
      refine Ok2.l (fun o => ∀ i, i < 384 → o i = 0) (Ok.fix (fun k z => z.1 = nI k ∧ ∀ i, i < k → z.2 i = 0) 384 (by decide) ⟨rfl, fun s hs => absurd hs (by omega)⟩ ?_) ?_
      · rintro k ⟨x1, g2⟩ self hk ⟨h1, h2⟩ K
        dsimp only at h1 h2 ⊢
        subst h1
        by_cases hc : k < 384
        · refine Ok.neg (by simp (disch := omega) only [lI0, lI1, lI2, lI3, lI4, lI5, lI7, lI8, lI9, lI10, lI11, lI12, lI15, lI16, lI17, lI20, lI24, lI32, lI33, lI40, lI63, lI64, lI80, lI82, lI101, lI110, lI115, lI251, lI255, lI256, lI384, lI16384, lI20000, lI32768, lI49152, lI65535, nI_add, pk_mul, pk_sub, pk_div, nI_leI, nI_ltI, nI_eq] <;> omega) (Ok.wr k rfl hc (by decide) (Ok.bnd (K _ hc ⟨(by first | (simp (disch := omega) only [lI0, lI1, lI2, lI3, lI4, lI5, lI7, lI8, lI9, lI10, lI11, lI12, lI15, lI16, lI17, lI20, lI24, lI32, lI33, lI40, lI63, lI64, lI80, lI82, lI101, lI110, lI115, lI251, lI255, lI256, lI384, lI16384, lI20000, lI32768, lI49152, lI65535, nI_add, pk_mul, pk_sub, pk_div] <;> (apply congrArg nI; omega)) | rfl), fun s hs => ?_⟩)))
          dsimp only
          by_cases h3 : s = k
          · subst h3
            rw [upd_eq]
          · rw [upd_ne h3]
            exact h2 s (by omega)
        · have hk2 : k = 384 := by omega
          subst hk2
          exact Ok.pos (by simp (disch := omega) only [lI0, lI1, lI2, lI3, lI4, lI5, lI7, lI8, lI9, lI10, lI11, lI12, lI15, lI16, lI17, lI20, lI24, lI32, lI33, lI40, lI63, lI64, lI80, lI82, lI101, lI110, lI115, lI251, lI255, lI256, lI384, lI16384, lI20000, lI32768, lI49152, lI65535, nI_add, pk_mul, pk_sub, pk_div, nI_leI, nI_ltI, nI_eq] <;> omega) (Ok.some h2)
      intro wm hwm
      unfold lf_X5_clear
      obtain ⟨pc, epc, hpc, -⟩ := ok_fill (n := 384) (t := t_c_decoded_pixels) (x := (0 : Int32)) (by decide)
      refine Ok2.rE (nI w, nI h, pc) (by rw [epc]; rfl) (Ok2.r _ ok_forget ?_)
      rintro ⟨fc, uc⟩ hfu2
      dsimp only at hfu2 ⊢
      have hP : dPix w h wm pc fm fc um uc := by
        refine ⟨fun x y hx hy => ?_, fun s hs => ?_, fun s hs => ?_⟩
        · rw [hwm _ (by omega), hpc _ (by omega)]
        · rw [(hfu s hs).1, (hfu2 s hs).1]
          exact ⟨rfl, Or.inl rfl⟩
        · rw [(hfu s hs).2, (hfu2 s hs).2]
      refine Ok2.lrd 0 rfl (by decide) (by decide) (Ok2.rE _ (hat 0 (by omega)) ?_)
      rw [(hbs 0 (by omega)).1]
      refine Ok2.jj (fun x y => (∀ i j, i < w → j < h → clB (x.2.2.2.2.2.2.2.2.2.2.2.2.2.2.1 (16 * j + i)) = y.2.2.2.2.2.2.2.2.1 (16 * j + i)) ∧ (∀ s, s < 3 → x.2.2.2.2.2.2.2.2.2.1 s = y.2.2.2.2.2.2.2.2.2.2.2.2.2.2.2.2.2.1 s ∧ (x.2.2.2.2.2.2.2.2.2.1 s = 110 ∨ x.2.2.2.2.2.2.2.2.2.1 s = 101 ∨ x.2.2.2.2.2.2.2.2.2.1 s = 115)) ∧ ∀ s, s < 3 → x.2.2.2.2.2.2.2.2.2.2.2.2.2.1 s = y.2.2.2.2.2.2.2.2.2.2.2.2.2.2.2.2.2.2.2.2 s) (fun k l hk => ?_) (fun x y hxy => ?_)
      · by_cases h8 : b 0 = 82
        · refine Ok2.lpos (by simp (disch := omega) only [lI0, lI1, lI2, lI3, lI4, lI5, lI7, lI8, lI9, lI10, lI11, lI12, lI15, lI16, lI17, lI20, lI24, lI32, lI33, lI40, lI63, lI64, lI80, lI82, lI101, lI110, lI115, lI251, lI255, lI256, lI384, lI16384, lI20000, lI32768, lI49152, lI65535, nI_add, pk_mul, pk_sub, pk_div, nI_leI, nI_ltI, nI_eq] <;> omega) (Ok2.rpos (by simp (disch := omega) only [lI0, lI1, lI2, lI3, lI4, lI5, lI7, lI8, lI9, lI10, lI11, lI12, lI15, lI16, lI17, lI20, lI24, lI32, lI33, lI40, lI63, lI64, lI80, lI82, lI101, lI110, lI115, lI251, lI255, lI256, lI384, lI16384, lI20000, lI32768, lI49152, lI65535, nI_add, pk_mul, pk_sub, pk_div, nI_leI, nI_ltI, nI_eq] <;> omega) (Ok2.bind _ (ok_plain v3 v4 v6 hS ha hsz hR hP (fun i j hi hj => ⟨0, by decide, hwm _ (by omega)⟩)) ?_))
          rintro ⟨o1, o2, o3⟩ ⟨k1, k2, k3⟩ ⟨⟨r1, r2, r3⟩, r4⟩
          refine hk _ _ ⟨fun i j hi hj => ?_, r2, r3⟩
          obtain ⟨v, hv1, hv2⟩ := r4 i j hi hj
          dsimp only at hv2 r1 ⊢
          rw [← r1 i j hi hj, hv2, clB_nI hv1]
        · refine Ok2.lneg (by simp (disch := omega) only [lI0, lI1, lI2, lI3, lI4, lI5, lI7, lI8, lI9, lI10, lI11, lI12, lI15, lI16, lI17, lI20, lI24, lI32, lI33, lI40, lI63, lI64, lI80, lI82, lI101, lI110, lI115, lI251, lI255, lI256, lI384, lI16384, lI20000, lI32768, lI49152, lI65535, nI_add, pk_mul, pk_sub, pk_div, nI_leI, nI_ltI, nI_eq] <;> omega) (Ok2.rneg (by simp (disch := omega) only [lI0, lI1, lI2, lI3, lI4, lI5, lI7, lI8, lI9, lI10, lI11, lI12, lI15, lI16, lI17, lI20, lI24, lI32, lI33, lI40, lI63, lI64, lI80, lI82, lI101, lI110, lI115, lI251, lI255, lI256, lI384, lI16384, lI20000, lI32768, lI49152, lI65535, nI_add, pk_mul, pk_sub, pk_div, nI_leI, nI_ltI, nI_eq] <;> omega) ?_)
          obtain ⟨w1, w2, w3, w4, -⟩ : svN sz b := by
            rcases v7 with h9 | h9
            · exact absurd h9 h8
            · exact h9
          refine Ok2.lrd 3 rfl (by decide) (by decide) (Ok2.rE _ (hat 3 (by omega)) ?_)
          have e3 := (hbs 3 (by omega)).1
          rw [e3]
          obtain ⟨many, hmany, hm1⟩ : ∃ many, (many = if b 3 ≤ q then b 3 else q) ∧ many ≤ b 3 := by
            refine ⟨_, rfl, ?_⟩
            split <;> omega
          rw [show jmin (nI q) (nI (b 3)) = nI many from by
            unfold jmin
            rw [hmany]
            by_cases h9 : b 3 < q
            · rw [if_pos (by simp (disch := omega) only [lI0, lI1, lI2, lI3, lI4, lI5, lI7, lI8, lI9, lI10, lI11, lI12, lI15, lI16, lI17, lI20, lI24, lI32, lI33, lI40, lI63, lI64, lI80, lI82, lI101, lI110, lI115, lI251, lI255, lI256, lI384, lI16384, lI20000, lI32768, lI49152, lI65535, nI_add, pk_mul, pk_sub, pk_div, nI_leI, nI_ltI, nI_eq] <;> omega), if_pos (by omega)]
            · rw [if_neg (by simp (disch := omega) only [lI0, lI1, lI2, lI3, lI4, lI5, lI7, lI8, lI9, lI10, lI11, lI12, lI15, lI16, lI17, lI20, lI24, lI32, lI33, lI40, lI63, lI64, lI80, lI82, lI101, lI110, lI115, lI251, lI255, lI256, lI384, lI16384, lI20000, lI32768, lI49152, lI65535, nI_add, pk_mul, pk_sub, pk_div, nI_leI, nI_ltI, nI_eq] <;> omega)]
              refine congrArg nI ?_
              split <;> omega]
          refine Ok2.ljn (fun x => x = nI many) (fun k2 hk2 => ?_) (fun x hx => ?_)
          · by_cases h9 : b 3 ≤ q
            · refine Ok2.lpos (by simp (disch := omega) only [lI0, lI1, lI2, lI3, lI4, lI5, lI7, lI8, lI9, lI10, lI11, lI12, lI15, lI16, lI17, lI20, lI24, lI32, lI33, lI40, lI63, lI64, lI80, lI82, lI101, lI110, lI115, lI251, lI255, lI256, lI384, lI16384, lI20000, lI32768, lI49152, lI65535, nI_add, pk_mul, pk_sub, pk_div, nI_leI, nI_ltI, nI_eq] <;> omega) (Ok2.lrd 3 rfl (by decide) (by decide) (hk2 _ ?_))
              rw [e3, hmany, if_pos h9]
            · refine Ok2.lneg (by simp (disch := omega) only [lI0, lI1, lI2, lI3, lI4, lI5, lI7, lI8, lI9, lI10, lI11, lI12, lI15, lI16, lI17, lI20, lI24, lI32, lI33, lI40, lI63, lI64, lI80, lI82, lI101, lI110, lI115, lI251, lI255, lI256, lI384, lI16384, lI20000, lI32768, lI49152, lI65535, nI_add, pk_mul, pk_sub, pk_div, nI_leI, nI_ltI, nI_eq] <;> omega) (hk2 _ ?_)
              rw [hmany, if_neg h9]
          subst hx
          refine Ok2.bind _ (ok_layers (tiles := 0) v3 v4 v6 hS hsz ha hR w3 e3 w4 hm1 hP) ?_
          rintro ⟨o1, o2, o3, o4, o5, o6, o7, o8, o9, o10, o11, o12, o13, o14, o15, o16⟩ ⟨k1, k2, k3, k4, k5, k6, k7, k8, k9, k10, k11, k12, k13, k14, k15, k16, k17, k18, k19, k20, k21⟩ ⟨r1, r2, r3⟩
          refine Ok2.r _ ok_X5_clamp fun pc2 hpc2 => ?_
          refine hk _ _ ⟨fun i j hi hj => ?_, r2, r3⟩
          dsimp only at r1 hpc2 ⊢
          rw [r1 i j hi hj, hpc2 _ (by omega)]
      · obtain ⟨x1, x2, x3, x4, x5, x6, x7, x8, x9, x10, x11, x12, x13, x14, x15, x16⟩ := x
        obtain ⟨y1, y2, y3, y4, y5, y6, y7, y8, y9, y10, y11, y12, y13, y14, y15, y16, y17, y18, y19, y20, y21⟩ := y
        obtain ⟨r1, r2, r3⟩ := hxy
        dsimp only at r1 r2 r3 ⊢
        refine Ok2.l (fun o => ∀ i, i < 384 → o i = clB (x15 i)) (Ok.fix (fun k z => z.1 = nI k ∧ ∀ i, i < k → z.2 i = clB (x15 i)) 384 (by decide) ⟨rfl, fun s hs => absurd hs (by omega)⟩ ?_) ?_
        · rintro k ⟨z1, g2⟩ self hk ⟨h1, h2⟩ K
          dsimp only at h1 h2 ⊢
          subst h1
          by_cases hc : k < 384
          · refine Ok.neg (by simp (disch := omega) only [lI0, lI1, lI2, lI3, lI4, lI5, lI7, lI8, lI9, lI10, lI11, lI12, lI15, lI16, lI17, lI20, lI24, lI32, lI33, lI40, lI63, lI64, lI80, lI82, lI101, lI110, lI115, lI251, lI255, lI256, lI384, lI16384, lI20000, lI32768, lI49152, lI65535, nI_add, pk_mul, pk_sub, pk_div, nI_leI, nI_ltI, nI_eq] <;> omega) (Ok.rd k rfl hc (by decide) (Ok.jnR (fun s => s = clB (x15 k)) (fun k2 hk2 => ?_) (fun s hs => ?_)))
            · unfold clB at hk2
              by_cases h3 : 0 ≤ x15 k
              · refine Ok.pos h3 (Ok.rd k rfl hc (by decide) ?_)
                by_cases h4 : x15 k ≤ 255
                · refine Ok.pos h4 (Ok.rd k rfl hc (by decide) (hk2 _ ?_))
                  rw [if_pos h3, if_pos h4]
                · refine Ok.neg h4 (hk2 _ ?_)
                  rw [if_pos h3, if_neg h4]
              · refine Ok.neg h3 (hk2 _ ?_)
                rw [if_neg h3]
            · subst hs
              refine Ok.wr k rfl hc (by decide) (Ok.bnd (K _ hc ⟨(by first | (simp (disch := omega) only [lI0, lI1, lI2, lI3, lI4, lI5, lI7, lI8, lI9, lI10, lI11, lI12, lI15, lI16, lI17, lI20, lI24, lI32, lI33, lI40, lI63, lI64, lI80, lI82, lI101, lI110, lI115, lI251, lI255, lI256, lI384, lI16384, lI20000, lI32768, lI49152, lI65535, nI_add, pk_mul, pk_sub, pk_div] <;> (apply congrArg nI; omega)) | rfl), fun i hi => ?_⟩))
              dsimp only
              by_cases h3 : i = k
              · subst h3
                rw [upd_eq]
              · rw [upd_ne h3]
                exact h2 i (by omega)
          · have hk2 : k = 384 := by omega
            subst hk2
            exact Ok.pos (by simp (disch := omega) only [lI0, lI1, lI2, lI3, lI4, lI5, lI7, lI8, lI9, lI10, lI11, lI12, lI15, lI16, lI17, lI20, lI24, lI32, lI33, lI40, lI63, lI64, lI80, lI82, lI101, lI110, lI115, lI251, lI255, lI256, lI384, lI16384, lI20000, lI32768, lI49152, lI65535, nI_add, pk_mul, pk_sub, pk_div, nI_leI, nI_ltI, nI_eq] <;> omega) (Ok.some h2)
        intro dm hdm
        refine Ok2.bind (fun a c => a = c) ?_ ?_
        · unfold lf_X8_countFaultySlices
          refine Ok2.rbs (Ok2.fix (fun s (a : Int32 × Int32) (c : Int32 × Int32) => a.1 = c.1 ∧ a.2 = nI s ∧ c.2 = nI s) S (by omega) ⟨rfl, rfl, rfl⟩ ?_) (fun _ => rfl)
          rintro s ⟨a1, a2⟩ ⟨c1, c2⟩ s1 s2 hs ⟨e3, e4, e5⟩ K
          dsimp only at e3 e4 e5 ⊢
          subst e3 e4 e5
          refine Ok2.rE _ (eq_slicesOf v6) ?_
          rw [← hS]
          by_cases hc : s < S
          · refine Ok2.lneg (by simp (disch := omega) only [lI0, lI1, lI2, lI3, lI4, lI5, lI7, lI8, lI9, lI10, lI11, lI12, lI15, lI16, lI17, lI20, lI24, lI32, lI33, lI40, lI63, lI64, lI80, lI82, lI101, lI110, lI115, lI251, lI255, lI256, lI384, lI16384, lI20000, lI32768, lI49152, lI65535, nI_add, pk_mul, pk_sub, pk_div, nI_leI, nI_ltI, nI_eq] <;> omega) (Ok2.rneg (by simp (disch := omega) only [lI0, lI1, lI2, lI3, lI4, lI5, lI7, lI8, lI9, lI10, lI11, lI12, lI15, lI16, lI17, lI20, lI24, lI32, lI33, lI40, lI63, lI64, lI80, lI82, lI101, lI110, lI115, lI251, lI255, lI256, lI384, lI16384, lI20000, lI32768, lI49152, lI65535, nI_add, pk_mul, pk_sub, pk_div, nI_leI, nI_ltI, nI_eq] <;> omega) (Ok2.lrd s rfl (by omega) (by decide) (Ok2.rrd s rfl (by omega) (by decide) ?_)))
            rw [← (r2 s (by omega)).1]
            refine Ok2.ljnI (Ok2.rjnI ?_)
            by_cases h9 : x10 s = 110
            · exact Ok2.lpos h9 (Ok2.rpos h9 (Ok2.lbnd (Ok2.lbnd (Ok2.rbnd (K _ _ hc ⟨Int32.add_zero _, (by first | (simp (disch := omega) only [lI0, lI1, lI2, lI3, lI4, lI5, lI7, lI8, lI9, lI10, lI11, lI12, lI15, lI16, lI17, lI20, lI24, lI32, lI33, lI40, lI63, lI64, lI80, lI82, lI101, lI110, lI115, lI251, lI255, lI256, lI384, lI16384, lI20000, lI32768, lI49152, lI65535, nI_add, pk_mul, pk_sub, pk_div] <;> (apply congrArg nI; omega)) | rfl), (by first | (simp (disch := omega) only [lI0, lI1, lI2, lI3, lI4, lI5, lI7, lI8, lI9, lI10, lI11, lI12, lI15, lI16, lI17, lI20, lI24, lI32, lI33, lI40, lI63, lI64, lI80, lI82, lI101, lI110, lI115, lI251, lI255, lI256, lI384, lI16384, lI20000, lI32768, lI49152, lI65535, nI_add, pk_mul, pk_sub, pk_div] <;> (apply congrArg nI; omega)) | rfl)⟩)))))
            · exact Ok2.lneg h9 (Ok2.rneg h9 (Ok2.lbnd (Ok2.lbnd (Ok2.rbnd (Ok2.rbnd (K _ _ hc ⟨rfl, (by first | (simp (disch := omega) only [lI0, lI1, lI2, lI3, lI4, lI5, lI7, lI8, lI9, lI10, lI11, lI12, lI15, lI16, lI17, lI20, lI24, lI32, lI33, lI40, lI63, lI64, lI80, lI82, lI101, lI110, lI115, lI251, lI255, lI256, lI384, lI16384, lI20000, lI32768, lI49152, lI65535, nI_add, pk_mul, pk_sub, pk_div] <;> (apply congrArg nI; omega)) | rfl), (by first | (simp (disch := omega) only [lI0, lI1, lI2, lI3, lI4, lI5, lI7, lI8, lI9, lI10, lI11, lI12, lI15, lI16, lI17, lI20, lI24, lI32, lI33, lI40, lI63, lI64, lI80, lI82, lI101, lI110, lI115, lI251, lI255, lI256, lI384, lI16384, lI20000, lI32768, lI49152, lI65535, nI_add, pk_mul, pk_sub, pk_div] <;> (apply congrArg nI; omega)) | rfl)⟩))))))
          · have hs2 : s = S := by omega
            subst hs2
            exact Ok2.lpos (by simp (disch := omega) only [lI0, lI1, lI2, lI3, lI4, lI5, lI7, lI8, lI9, lI10, lI11, lI12, lI15, lI16, lI17, lI20, lI24, lI32, lI33, lI40, lI63, lI64, lI80, lI82, lI101, lI110, lI115, lI251, lI255, lI256, lI384, lI16384, lI20000, lI32768, lI49152, lI65535, nI_add, pk_mul, pk_sub, pk_div, nI_leI, nI_ltI, nI_eq] <;> omega) (Ok2.rpos (by simp (disch := omega) only [lI0, lI1, lI2, lI3, lI4, lI5, lI7, lI8, lI9, lI10, lI11, lI12, lI15, lI16, lI17, lI20, lI24, lI32, lI33, lI40, lI63, lI64, lI80, lI82, lI101, lI110, lI115, lI251, lI255, lI256, lI384, lI16384, lI20000, lI32768, lI49152, lI65535, nI_add, pk_mul, pk_sub, pk_div, nI_leI, nI_ltI, nI_eq] <;> omega) (Ok2.some rfl))
        · rintro a c rfl
          refine Ok2.some (Or.inr ⟨_, w, h, rfl, v3, v4, v5, v6, rfl, rfl, rfl, rfl, rfl, rfl, rfl, rfl, fun i j hi hj => ⟨?_, ?_⟩, r2, r3⟩)
          · dsimp only
            rw [hdm _ (by omega), r1 i j hi hj]
          · dsimp only
            rw [hdm _ (by omega)]
            exact clB_byte _
    · have e1 : oh = 0 := by
        rcases hh with h | h
        · exact absurd h.2 hv
        · exact h.1
      have e2 : oc = 0 := by
        rcases hc with h | h
        · exact absurd h.2 hv
        · exact h.1
      subst e1 e2
      refine Ok2.lpos rfl (Ok2.rpos rfl (Ok2.lE _ (rfl : lf_X9_fail i_m_thrown 2 = some ((0 : Int32), (2 : Int32))) ?_))
      exact Ok2.some (Or.inl ⟨2, 2, rfl, Or.inr ⟨rfl, rfl⟩, rfl⟩)
  · have e1 : lf_X9_isIn p0 1 3 = some 0 := by
      suffices hs : Ok (lf_X9_isIn p0 1 3) (fun o => o = 0) by
        obtain ⟨o, h1, h2⟩ := hs
        rw [h1, h2]
      unfold lf_X9_isIn
      refine Ok.jnI (Ok.ite (fun _ => Ok.some rfl) fun h1 => Ok.ite (fun _ => Ok.some rfl) fun h2 => absurd ⟨h1, Int32.not_lt.mp h2⟩ hp)
    refine Ok2.lE _ e1 (Ok2.lpos rfl (Ok2.lE _ (rfl : lf_X9_fail i_m_thrown 1 = some ((0 : Int32), (1 : Int32))) (Ok2.rjnI ?_)))
    refine Ok2.mono (S := fun o k => o = (0, i_m_bits, i_m_code, i_m_decodedH, i_m_decodedW, i_m_end, i_m_high, i_m_isDecoded, i_m_low, i_m_mean, i_m_pending, i_m_start, 1, t_m_counts, t_m_decoded, t_m_faults, t_m_line, t_m_one, t_m_result, t_m_used, t_m_whole, t_m_work) ∧ k = Sum.inl 0) ?_ (fun o k hok => Or.inl ⟨0, 1, hok.2, Or.inl ⟨rfl, rfl⟩, hok.1⟩)
    by_cases h1 : p0 < 1
    · exact Ok2.rpos h1 (Ok2.some ⟨rfl, rfl⟩)
    · exact Ok2.rneg h1 (Ok2.rneg (fun h2 => hp ⟨h1, h2⟩) (Ok2.some ⟨rfl, rfl⟩))
