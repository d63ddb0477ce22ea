/-! ===== header, extended picture, target ===== -/
theorem eq_X5_has {w h x y : Nat} (hw : w < 2 ^ 31) (hh : h < 2 ^ 31) (hx : x < 2 ^ 31) (hy : y < 2 ^ 31) : lf_X5_has (nI w) (nI h) (nI x) (nI y) = some (if x < w ∧ y < h then 1 else 0) := by
  suffices hs : Ok (lf_X5_has (nI w) (nI h) (nI x) (nI y)) (fun o => o = if x < w ∧ y < h then 1 else 0) by
    obtain ⟨o, h1, h2⟩ := hs
    rw [h1, h2]
  unfold lf_X5_has
  refine Ok.jnI ?_
  refine Ok.neg (by simp (disch := omega) only [lI0, lI1, lI2, lI3, lI4, lI5, lI7, lI8, lI9, lI10, lI11, lI12, lI15, lI16, lI17, lI20, lI24, lI32, lI33, lI40, lI63, lI64, lI80, lI82, lI101, lI110, lI115, lI251, lI255, lI256, lI384, lI16384, lI20000, lI32768, lI49152, lI65535, nI_add, pk_mul, pk_sub, pk_div, nI_leI, nI_ltI, nI_eq] <;> omega) ?_
  by_cases h1 : x < w
  · refine Ok.neg (by simp (disch := omega) only [lI0, lI1, lI2, lI3, lI4, lI5, lI7, lI8, lI9, lI10, lI11, lI12, lI15, lI16, lI17, lI20, lI24, lI32, lI33, lI40, lI63, lI64, lI80, lI82, lI101, lI110, lI115, lI251, lI255, lI256, lI384, lI16384, lI20000, lI32768, lI49152, lI65535, nI_add, pk_mul, pk_sub, pk_div, nI_leI, nI_ltI, nI_eq] <;> omega) (Ok.neg (by simp (disch := omega) only [lI0, lI1, lI2, lI3, lI4, lI5, lI7, lI8, lI9, lI10, lI11, lI12, lI15, lI16, lI17, lI20, lI24, lI32, lI33, lI40, lI63, lI64, lI80, lI82, lI101, lI110, lI115, lI251, lI255, lI256, lI384, lI16384, lI20000, lI32768, lI49152, lI65535, nI_add, pk_mul, pk_sub, pk_div, nI_leI, nI_ltI, nI_eq] <;> omega) ?_)
    by_cases h2 : y < h
    · refine Ok.neg (by simp (disch := omega) only [lI0, lI1, lI2, lI3, lI4, lI5, lI7, lI8, lI9, lI10, lI11, lI12, lI15, lI16, lI17, lI20, lI24, lI32, lI33, lI40, lI63, lI64, lI80, lI82, lI101, lI110, lI115, lI251, lI255, lI256, lI384, lI16384, lI20000, lI32768, lI49152, lI65535, nI_add, pk_mul, pk_sub, pk_div, nI_leI, nI_ltI, nI_eq] <;> omega) (Ok.some ?_)
      rw [if_pos ⟨h1, h2⟩]
    · refine Ok.pos (by simp (disch := omega) only [lI0, lI1, lI2, lI3, lI4, lI5, lI7, lI8, lI9, lI10, lI11, lI12, lI15, lI16, lI17, lI20, lI24, lI32, lI33, lI40, lI63, lI64, lI80, lI82, lI101, lI110, lI115, lI251, lI255, lI256, lI384, lI16384, lI20000, lI32768, lI49152, lI65535, nI_add, pk_mul, pk_sub, pk_div, nI_leI, nI_ltI, nI_eq] <;> omega) (Ok.some ?_)
      rw [if_neg (fun h => h2 h.2)]
  · refine Ok.pos (by simp (disch := omega) only [lI0, lI1, lI2, lI3, lI4, lI5, lI7, lI8, lI9, lI10, lI11, lI12, lI15, lI16, lI17, lI20, lI24, lI32, lI33, lI40, lI63, lI64, lI80, lI82, lI101, lI110, lI115, lI251, lI255, lI256, lI384, lI16384, lI20000, lI32768, lI49152, lI65535, nI_add, pk_mul, pk_sub, pk_div, nI_leI, nI_ltI, nI_eq] <;> omega) (Ok.some ?_)
    rw [if_neg (fun h => h1 h.1)]
theorem eq_X5_at {w h x y : Nat} {pix : Nat → Int32} (hw : w ≤ 16) (hh : h ≤ 24) (hx : x < w) (hy : y < h) : lf_X5_at (nI w) (nI h) pix (nI x) (nI y) = some (pix (16 * y + x)) := by
  suffices hs : Ok (lf_X5_at (nI w) (nI h) pix (nI x) (nI y)) (fun o => o = pix (16 * y + x)) by
    obtain ⟨o, h1, h2⟩ := hs
    rw [h1, h2]
  unfold lf_X5_at
  refine Ok.bindE _ (eq_X5_has (by omega) (by omega) (by omega) (by omega)) ?_
  rw [show (if x < w ∧ y < h then (1 : Int32) else 0) = 1 from if_pos ⟨hx, hy⟩]
  exact Ok.neg (by decide) (Ok.rd (16 * y + x) (by first | (simp (disch := omega) only [lI0, lI1, lI2, lI3, lI4, lI5, lI7, lI8, lI9, lI10, lI11, lI12, lI15, lI16, lI17, lI20, lI24, lI32, lI33, lI40, lI63, lI64, lI80, lI82, lI101, lI110, lI115, lI251, lI255, lI256, lI384, lI16384, lI20000, lI32768, lI49152, lI65535, nI_add, pk_mul, pk_sub, pk_div] <;> (apply congrArg nI; omega)) | rfl) (by omega) (by decide) (Ok.some rfl))
def hdr (w h nL : Nat) (st : Nat → Nat) (i : Nat) : Nat := if i = 0 then 80 else if i = 1 then w else if i = 2 then h else if i = 3 then nL else st (i - 4)
theorem hdr_lt {w h nL : Nat} {st : Nat → Nat} (hw : w ≤ 16) (hh : h ≤ 24) (hn : nL ≤ 3) (hs : ∀ k, k < nL → st k ≤ 32) {i : Nat} (hi : i < 4 + nL) : hdr w h nL st i < 256 := by
  unfold hdr
  split
  · decide
  · split
    · omega
    · split
      · omega
      · split
        · omega
        · have := hs (i - 4) (by omega)
          omega
theorem ok_codedHeader {w h nL n : Nat} {st : Nat → Nat} {steps cy : Nat → Int32} {cnt : Int32} {c0 : Nat} (hn : nL ≤ 3) (hs : ∀ k, k < nL → steps k = nI (st k)) (ha : aI c0 n) :
    Ok (lf_X8_writeCodedHeader (nI nL) (nI w) (nI h) cnt steps n cy) (fun o => o.1 = nI (4 + nL) ∧ aI (4 + nL) o.2.2 ∧ n ≤ o.2.2 ∧ o.2.2 ≤ GLIM ∧ ∀ i, i < 4 + nL → o.2.1 i = nI (hdr w h nL st i)) := by
  obtain ⟨g1, g2, g3⟩ := aI_le ha
  have ha0 : aI 0 n := ⟨ha.1, by omega⟩
  unfold lf_X8_writeCodedHeader
  refine Ok.pos g1 (Ok.bindE (nI 0) rfl (Ok.bind _ (ok_append ha0 (by omega)) ?_))
  rintro ⟨c1, t1, n1⟩ ⟨f1, f2, f3, f4, f5, f6⟩
  dsimp only at f1 f2 f3 f4 f5 f6 ⊢
  subst f1
  refine Ok.pos ⟨f3, f4⟩ (Ok.bind _ (ok_append f2 (by omega)) ?_)
  rintro ⟨c2, t2, n2⟩ ⟨h1, h2, h3, h4, h5, h6⟩
  dsimp only at h1 h2 h3 h4 h5 h6 ⊢
  subst h1
  refine Ok.pos ⟨h3, h4⟩ (Ok.bind _ (ok_append h2 (by omega)) ?_)
  rintro ⟨c3, t3, n3⟩ ⟨j1, j2, j3, j4, j5, j6⟩
  dsimp only at j1 j2 j3 j4 j5 j6 ⊢
  subst j1
  refine Ok.pos ⟨j3, j4⟩ (Ok.bind _ (ok_append j2 (by omega)) ?_)
  rintro ⟨c4, t4, n4⟩ ⟨k1, k2, k3, k4, k5, k6⟩
  dsimp only at k1 k2 k3 k4 k5 k6 ⊢
  subst k1
  refine Ok.pos ⟨k3, k4⟩ (Ok.bind (fun o => o.1 = nI (4 + nL) ∧ aI (4 + nL) o.2.2 ∧ n ≤ o.2.2 ∧ o.2.2 ≤ GLIM ∧ ∀ i, i < 4 + nL → o.2.1 i = nI (hdr w h nL st i)) (Ok.fix (fun k z => z.1 = nI k ∧ z.2.1 = nI (4 + k) ∧ aI (4 + k) z.2.2.2 ∧ n ≤ z.2.2.2 ∧ z.2.2.2 ≤ GLIM ∧ ∀ i, i < 4 + k → z.2.2.1 i = nI (hdr w h nL st i)) nL (by omega) ⟨rfl, rfl, k2, by dsimp only; omega, k4, fun i hi => ?_⟩ ?_) (fun o ho => Ok.some ho))
  · dsimp only
    have hi4 : i = 0 ∨ i = 1 ∨ i = 2 ∨ i = 3 := by omega
    rcases hi4 with rfl | rfl | rfl | rfl
    · rw [k5 _ (by omega), j5 _ (by omega), h5 _ (by omega), f6]
      rfl
    · rw [k5 _ (by omega), j5 _ (by omega), h6]
      rfl
    · rw [k5 _ (by omega), j6]
      rfl
    · rw [k6]
      rfl
  · rintro k ⟨x10, v11, g12, n13⟩ self hk ⟨l1, l2, l3, l4, l5, l6⟩ K
    dsimp only at l1 l2 l3 l4 l5 l6 ⊢
    subst l1 l2
    by_cases hc : k < nL
    · refine Ok.neg (by simp (disch := omega) only [lI0, lI1, lI2, lI3, lI4, lI5, lI7, lI8, lI9, lI10, lI11, lI12, lI15, lI16, lI17, lI20, lI24, lI32, lI33, lI40, lI63, lI64, lI80, lI82, lI101, lI110, lI115, lI251, lI255, lI256, lI384, lI16384, lI20000, lI32768, lI49152, lI65535, nI_add, pk_mul, pk_sub, pk_div, nI_leI, nI_ltI, nI_eq] <;> omega) (Ok.rd k rfl (by omega) (by decide) (Ok.bind _ (ok_append l3 (by omega)) ?_))
      rintro ⟨c5, t5, n5⟩ ⟨m1, m2, m3, m4, m5, m6⟩
      dsimp only at m1 m2 m3 m4 m5 m6 ⊢
      subst m1
      refine Ok.pos ⟨m3, m4⟩ (Ok.bnd (K _ hc ⟨(by first | (simp (disch := omega) only [lI0, lI1, lI2, lI3, lI4, lI5, lI7, lI8, lI9, lI10, lI11, lI12, lI15, lI16, lI17, lI20, lI24, lI32, lI33, lI40, lI63, lI64, lI80, lI82, lI101, lI110, lI115, lI251, lI255, lI256, lI384, lI16384, lI20000, lI32768, lI49152, lI65535, nI_add, pk_mul, pk_sub, pk_div] <;> (apply congrArg nI; omega)) | rfl), rfl, m2, by dsimp only; omega, m4, fun i hi => ?_⟩))
      dsimp only
      by_cases h9 : i = 4 + k
      · rw [h9, m6, hs k hc]
        unfold hdr
        rw [if_neg (by omega), if_neg (by omega), if_neg (by omega), if_neg (by omega), show 4 + k - 4 = k from by omega]
      · rw [m5 i (by omega), l6 i (by omega)]
    · have hk2 : k = nL := by omega
      subst hk2
      exact Ok.pos (by simp (disch := omega) only [lI0, lI1, lI2, lI3, lI4, lI5, lI7, lI8, lI9, lI10, lI11, lI12, lI15, lI16, lI17, lI20, lI24, lI32, lI33, lI40, lI63, lI64, lI80, lI82, lI101, lI110, lI115, lI251, lI255, lI256, lI384, lI16384, lI20000, lI32768, lI49152, lI65535, nI_add, pk_mul, pk_sub, pk_div, nI_leI, nI_ltI, nI_eq] <;> omega) (Ok.some ⟨rfl, l3, l4, l5, l6⟩)
/-- the picture, extended -/
def exS (w h : Nat) (pic : Nat → Int32) (px py : Nat) : Int32 := pic (16 * (if py < h then py else h - 1) + if px < w then px else w - 1)
theorem ok_extend {w h : Nat} {pix tg : Nat → Int32} (hw1 : 1 ≤ w) (hw : w ≤ 16) (hh1 : 1 ≤ h) (hh : h ≤ 24) : Ok (lf_X8_extendPicture (nI w) (nI h) pix tg) (fun o => ∀ px py, px < 8 * ((w + 7) / 8) → py < 8 * ((h + 7) / 8) → o (16 * py + px) = exS w h pix px py) := by
  unfold lf_X8_extendPicture
  refine Ok.bindE _ (eq_tilesOf (by omega)) (Ok.bnd (Ok.bindE _ (eq_slicesOf hh) (Ok.bnd ?_)))
  generalize hT : (w + 7) / 8 = T
  generalize hS : (h + 7) / 8 = S
  rw [show nI T * (8 : Int32) = nI (8 * T) from (by first | (simp (disch := omega) only [lI0, lI1, lI2, lI3, lI4, lI5, lI7, lI8, lI9, lI10, lI11, lI12, lI15, lI16, lI17, lI20, lI24, lI32, lI33, lI40, lI63, lI64, lI80, lI82, lI101, lI110, lI115, lI251, lI255, lI256, lI384, lI16384, lI20000, lI32768, lI49152, lI65535, nI_add, pk_mul, pk_sub, pk_div] <;> (apply congrArg nI; omega)) | rfl), show nI S * (8 : Int32) = nI (8 * S) from (by first | (simp (disch := omega) only [lI0, lI1, lI2, lI3, lI4, lI5, lI7, lI8, lI9, lI10, lI11, lI12, lI15, lI16, lI17, lI20, lI24, lI32, lI33, lI40, lI63, lI64, lI80, lI82, lI101, lI110, lI115, lI251, lI255, lI256, lI384, lI16384, lI20000, lI32768, lI49152, lI65535, nI_add, pk_mul, pk_sub, pk_div] <;> (apply congrArg nI; omega)) | rfl)]
  refine Ok.bind (fun o => ∀ px py, px < 8 * T → py < 8 * S → o (16 * py + px) = exS w h pix px py) (Ok.fix (fun i z => z.1 = nI i ∧ ∀ px py, px < 8 * T → py < i → z.2 (16 * py + px) = exS w h pix px py) (8 * S) (by omega) ⟨rfl, fun px py _ hp => absurd hp (by omega)⟩ ?_) (fun o ho => Ok.some ho)
  rintro i ⟨x5, g6⟩ self hi ⟨h1, h2⟩ K
  dsimp only at h1 h2 ⊢
  subst h1
  by_cases hc : i < 8 * S
  · refine Ok.neg (by simp (disch := omega) only [lI0, lI1, lI2, lI3, lI4, lI5, lI7, lI8, lI9, lI10, lI11, lI12, lI15, lI16, lI17, lI20, lI24, lI32, lI33, lI40, lI63, lI64, lI80, lI82, lI101, lI110, lI115, lI251, lI255, lI256, lI384, lI16384, lI20000, lI32768, lI49152, lI65535, nI_add, pk_mul, pk_sub, pk_div, nI_leI, nI_ltI, nI_eq] <;> omega) (Ok.bind (fun o => ∀ px py, px < 8 * T → py < i + 1 → o (16 * py + px) = exS w h pix px py) (Ok.fix (fun k z => z.1 = nI k ∧ ∀ px py, px < 8 * T → (py < i ∨ py = i ∧ px < k) → z.2 (16 * py + px) = exS w h pix px py) (8 * T) (by omega) ⟨rfl, fun px py hp hq => h2 px py hp (by omega)⟩ ?_) (fun o ho => Ok.bnd (K _ hc ⟨(by first | (simp (disch := omega) only [lI0, lI1, lI2, lI3, lI4, lI5, lI7, lI8, lI9, lI10, lI11, lI12, lI15, lI16, lI17, lI20, lI24, lI32, lI33, lI40, lI63, lI64, lI80, lI82, lI101, lI110, lI115, lI251, lI255, lI256, lI384, lI16384, lI20000, lI32768, lI49152, lI65535, nI_add, pk_mul, pk_sub, pk_div] <;> (apply congrArg nI; omega)) | rfl), ho⟩)))
    rintro k ⟨x9, g10⟩ self2 hk ⟨h3, h4⟩ K2
    dsimp only at h3 h4 ⊢
    subst h3
    by_cases hc2 : k < 8 * T
    · have e1 : jmin (nI k) (nI w - (1 : Int32)) = nI (if k < w then k else w - 1) := by
        unfold jmin
        rw [show nI w - (1 : Int32) = nI (w - 1) from (by first | (simp (disch := omega) only [lI0, lI1, lI2, lI3, lI4, lI5, lI7, lI8, lI9, lI10, lI11, lI12, lI15, lI16, lI17, lI20, lI24, lI32, lI33, lI40, lI63, lI64, lI80, lI82, lI101, lI110, lI115, lI251, lI255, lI256, lI384, lI16384, lI20000, lI32768, lI49152, lI65535, nI_add, pk_mul, pk_sub, pk_div] <;> (apply congrArg nI; omega)) | rfl)]
        by_cases h5 : k < w
        · rw [if_neg (by simp (disch := omega) only [lI0, lI1, lI2, lI3, lI4, lI5, lI7, lI8, lI9, lI10, lI11, lI12, lI15, lI16, lI17, lI20, lI24, lI32, lI33, lI40, lI63, lI64, lI80, lI82, lI101, lI110, lI115, lI251, lI255, lI256, lI384, lI16384, lI20000, lI32768, lI49152, lI65535, nI_add, pk_mul, pk_sub, pk_div, nI_leI, nI_ltI, nI_eq] <;> omega), if_pos h5]
        · rw [if_pos (by simp (disch := omega) only [lI0, lI1, lI2, lI3, lI4, lI5, lI7, lI8, lI9, lI10, lI11, lI12, lI15, lI16, lI17, lI20, lI24, lI32, lI33, lI40, lI63, lI64, lI80, lI82, lI101, lI110, lI115, lI251, lI255, lI256, lI384, lI16384, lI20000, lI32768, lI49152, lI65535, nI_add, pk_mul, pk_sub, pk_div, nI_leI, nI_ltI, nI_eq] <;> omega), if_neg h5]
      have e2 : jmin (nI i) (nI h - (1 : Int32)) = nI (if i < h then i else h - 1) := by
        unfold jmin
        rw [show nI h - (1 : Int32) = nI (h - 1) from (by first | (simp (disch := omega) only [lI0, lI1, lI2, lI3, lI4, lI5, lI7, lI8, lI9, lI10, lI11, lI12, lI15, lI16, lI17, lI20, lI24, lI32, lI33, lI40, lI63, lI64, lI80, lI82, lI101, lI110, lI115, lI251, lI255, lI256, lI384, lI16384, lI20000, lI32768, lI49152, lI65535, nI_add, pk_mul, pk_sub, pk_div] <;> (apply congrArg nI; omega)) | rfl)]
        by_cases h5 : i < h
        · rw [if_neg (by simp (disch := omega) only [lI0, lI1, lI2, lI3, lI4, lI5, lI7, lI8, lI9, lI10, lI11, lI12, lI15, lI16, lI17, lI20, lI24, lI32, lI33, lI40, lI63, lI64, lI80, lI82, lI101, lI110, lI115, lI251, lI255, lI256, lI384, lI16384, lI20000, lI32768, lI49152, lI65535, nI_add, pk_mul, pk_sub, pk_div, nI_leI, nI_ltI, nI_eq] <;> omega), if_pos h5]
        · rw [if_pos (by simp (disch := omega) only [lI0, lI1, lI2, lI3, lI4, lI5, lI7, lI8, lI9, lI10, lI11, lI12, lI15, lI16, lI17, lI20, lI24, lI32, lI33, lI40, lI63, lI64, lI80, lI82, lI101, lI110, lI115, lI251, lI255, lI256, lI384, lI16384, lI20000, lI32768, lI49152, lI65535, nI_add, pk_mul, pk_sub, pk_div, nI_leI, nI_ltI, nI_eq] <;> omega), if_neg h5]
      refine Ok.neg (by simp (disch := omega) only [lI0, lI1, lI2, lI3, lI4, lI5, lI7, lI8, lI9, lI10, lI11, lI12, lI15, lI16, lI17, lI20, lI24, lI32, lI33, lI40, lI63, lI64, lI80, lI82, lI101, lI110, lI115, lI251, lI255, lI256, lI384, lI16384, lI20000, lI32768, lI49152, lI65535, nI_add, pk_mul, pk_sub, pk_div, nI_leI, nI_ltI, nI_eq] <;> omega) ?_
      rw [e1, e2]
      refine Ok.bindE _ (eq_X5_at hw hh (by split <;> omega) (by split <;> omega)) ?_
      refine Ok.wr (16 * i + k) (by first | (simp (disch := omega) only [lI0, lI1, lI2, lI3, lI4, lI5, lI7, lI8, lI9, lI10, lI11, lI12, lI15, lI16, lI17, lI20, lI24, lI32, lI33, lI40, lI63, lI64, lI80, lI82, lI101, lI110, lI115, lI251, lI255, lI256, lI384, lI16384, lI20000, lI32768, lI49152, lI65535, nI_add, pk_mul, pk_sub, pk_div] <;> (apply congrArg nI; omega)) | rfl) (by omega) (by decide) (Ok.bnd (K2 _ hc2 ⟨(by first | (simp (disch := omega) only [lI0, lI1, lI2, lI3, lI4, lI5, lI7, lI8, lI9, lI10, lI11, lI12, lI15, lI16, lI17, lI20, lI24, lI32, lI33, lI40, lI63, lI64, lI80, lI82, lI101, lI110, lI115, lI251, lI255, lI256, lI384, lI16384, lI20000, lI32768, lI49152, lI65535, nI_add, pk_mul, pk_sub, pk_div] <;> (apply congrArg nI; omega)) | rfl), fun px py hp hq => ?_⟩))
      dsimp only
      by_cases h6 : py = i ∧ px = k
      · obtain ⟨rfl, rfl⟩ := h6
        rw [upd_eq]
        rfl
      · rw [upd_ne (by omega)]
        exact h4 px py hp (by omega)
    · have hk2 : k = 8 * T := by omega
      subst hk2
      exact Ok.pos (by simp (disch := omega) only [lI0, lI1, lI2, lI3, lI4, lI5, lI7, lI8, lI9, lI10, lI11, lI12, lI15, lI16, lI17, lI20, lI24, lI32, lI33, lI40, lI63, lI64, lI80, lI82, lI101, lI110, lI115, lI251, lI255, lI256, lI384, lI16384, lI20000, lI32768, lI49152, lI65535, nI_add, pk_mul, pk_sub, pk_div, nI_leI, nI_ltI, nI_eq] <;> omega) (Ok.some fun px py hp hq => h4 px py hp (by omega))
  · have hi2 : i = 8 * S := by omega
    subst hi2
    exact Ok.pos (by simp (disch := omega) only [lI0, lI1, lI2, lI3, lI4, lI5, lI7, lI8, lI9, lI10, lI11, lI12, lI15, lI16, lI17, lI20, lI24, lI32, lI33, lI40, lI63, lI64, lI80, lI82, lI101, lI110, lI115, lI251, lI255, lI256, lI384, lI16384, lI20000, lI32768, lI49152, lI65535, nI_add, pk_mul, pk_sub, pk_div, nI_leI, nI_ltI, nI_eq] <;> omega) (Ok.some h2)
theorem ok_subtract {tg rs : Nat → Int32} : Ok (lf_X8_subtractFromTarget tg rs) (fun o => ∀ k, k < 384 → o k = tg k - rs k) := by
  unfold lf_X8_subtractFromTarget
  refine Ok.bind (fun o => ∀ k, k < 384 → o k = tg k - rs k) (Ok.fix (fun k z => z.1 = nI k ∧ (∀ j, j < k → z.2 j = tg j - rs j) ∧ ∀ j, k ≤ j → z.2 j = tg j) 384 (by omega) ⟨rfl, fun j hj => absurd hj (by omega), fun j _ => rfl⟩ ?_) (fun o ho => Ok.some ho)
  rintro k ⟨x1, g2⟩ self hk ⟨h1, h2, h3⟩ K
  dsimp only at h1 h2 h3 ⊢
  subst h1
  by_cases hc : k < 384
  · refine Ok.neg (by simp (disch := omega) only [lI0, lI1, lI2, lI3, lI4, lI5, lI7, lI8, lI9, lI10, lI11, lI12, lI15, lI16, lI17, lI20, lI24, lI32, lI33, lI40, lI63, lI64, lI80, lI82, lI101, lI110, lI115, lI251, lI255, lI256, lI384, lI16384, lI20000, lI32768, lI49152, lI65535, nI_add, pk_mul, pk_sub, pk_div, nI_leI, nI_ltI, nI_eq] <;> omega) (Ok.rd k rfl hc (by decide) (Ok.rd k rfl hc (by decide) (Ok.wr k rfl hc (by decide) (Ok.bnd (K _ hc ⟨(by first | (simp (disch := omega) only [lI0, lI1, lI2, lI3, lI4, lI5, lI7, lI8, lI9, lI10, lI11, lI12, lI15, lI16, lI17, lI20, lI24, lI32, lI33, lI40, lI63, lI64, lI80, lI82, lI101, lI110, lI115, lI251, lI255, lI256, lI384, lI16384, lI20000, lI32768, lI49152, lI65535, nI_add, pk_mul, pk_sub, pk_div] <;> (apply congrArg nI; omega)) | rfl), fun j hj => ?_, fun j hj => ?_⟩)))))
    · dsimp only
      by_cases h4 : j = k
      · rw [h4, upd_eq, h3 k (Nat.le_refl _)]
      · rw [upd_ne h4]
        exact h2 j (by omega)
    · dsimp only
      rw [upd_ne (by omega)]
      exact h3 j (by omega)
  · have hk2 : k = 384 := by omega
    subst hk2
    exact Ok.pos (by simp (disch := omega) only [lI0, lI1, lI2, lI3, lI4, lI5, lI7, lI8, lI9, lI10, lI11, lI12, lI15, lI16, lI17, lI20, lI24, lI32, lI33, lI40, lI63, lI64, lI80, lI82, lI101, lI110, lI115, lI251, lI255, lI256, lI384, lI16384, lI20000, lI32768, lI49152, lI65535, nI_add, pk_mul, pk_sub, pk_div, nI_leI, nI_ltI, nI_eq] <;> omega) (Ok.some h2)
