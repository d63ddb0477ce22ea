/-! ===== plain streams read, both sides ===== -/
theorem eq_X5_put {w h x y : Nat} {pix : Nat → Int32} {v : Int32} (hw : w ≤ 16) (hh : h ≤ 24) (hx : x < w) (hy : y < h) : lf_X5_put (nI w) (nI h) pix (nI x) (nI y) v = some (upd pix (16 * y + x) v) := by
  suffices hs : Ok (lf_X5_put (nI w) (nI h) pix (nI x) (nI y) v) (fun o => o = upd pix (16 * y + x) v) by
    obtain ⟨o, h1, h2⟩ := hs
    rw [h1, h2]
  unfold lf_X5_put
  refine Ok.bindE _ (eq_X5_has (by omega) (by omega) (by omega) (by omega)) ?_
  rw [show (if x < w ∧ y < h then (1 : Int32) else 0) = 1 from if_pos ⟨hx, hy⟩]
  exact Ok.neg (by decide) (Ok.wr (16 * y + x) (by first | (simp (disch := omega) only [lI0, lI1, lI2, lI3, lI4, lI5, lI7, lI8, lI9, lI10, lI11, lI12, lI15, lI16, lI17, lI20, lI24, lI32, lI33, lI40, lI63, lI64, lI80, lI82, lI101, lI110, lI115, lI251, lI255, lI256, lI384, lI16384, lI20000, lI32768, lI49152, lI65535, nI_add, pk_mul, pk_sub, pk_div] <;> (apply congrArg nI; omega)) | rfl) (by omega) (by decide) (Ok.some rfl))
/-- rows a to e of a plain stream's pixels, the others kept -/
def plR (w h a e : Nat) (stm pix o : Nat → Int32) : Prop := ∀ x y, x < w → y < h → o (16 * y + x) = if a ≤ y ∧ y < e then stm (3 + y * w + x) else pix (16 * y + x)
theorem ok_plainRows {w h a e sz n : Nat} {stm cy pix : Nat → Int32} {p0 p1 : Int32} (e0 : p0 = nI a) (e1 : p1 = nI e) (hw : w ≤ 16) (hh : h ≤ 24) (hsz : sz ≤ n) (hn : n ≤ 32768) (hR : sR sz stm cy) (hae : a ≤ e) (heh : e ≤ h) (hes : 3 + e * w ≤ sz) : Ok (lf_X8_readPlainRows (nI w) (nI h) (nI sz) pix n cy p0 p1) (plR w h a e stm pix) := by
  subst e0 e1
  unfold lf_X8_readPlainRows
  refine Ok.bind (plR w h a e stm pix) (Ok.fix (fun i z => z.1 = nI (a + i) ∧ plR w h a (a + i) stm pix z.2) (e - a) (by omega) ⟨rfl, fun x y _ _ => (if_neg (by omega)).symm⟩ ?_) (fun o ho => Ok.some ho)
  rintro i ⟨x1, g2⟩ self hi ⟨h1, h2⟩ K
  dsimp only at h1 h2 ⊢
  subst h1
  by_cases hc : i < e - a
  · have hm1 : (a + i) * w + w ≤ e * w := by
      rw [← Nat.succ_mul]
      exact Nat.mul_le_mul_right w (by omega)
    refine Ok.neg (by simp (disch := omega) only [lI0, lI1, lI2, lI3, lI4, lI5, lI7, lI8, lI9, lI10, lI11, lI12, lI15, lI16, lI17, lI20, lI24, lI32, lI33, lI40, lI63, lI64, lI80, lI82, lI101, lI110, lI115, lI251, lI255, lI256, lI384, lI16384, lI20000, lI32768, lI49152, lI65535, nI_add, pk_mul, pk_sub, pk_div, nI_leI, nI_ltI, nI_eq] <;> omega) (Ok.bind (plR w h a (a + (i + 1)) stm pix) (Ok.fix (fun k z => z.1 = nI k ∧ ∀ x y, x < w → y < h → z.2 (16 * y + x) = if a ≤ y ∧ (y < a + i ∨ y = a + i ∧ x < k) then stm (3 + y * w + x) else pix (16 * y + x)) w (by omega) ⟨rfl, fun x y hx hy => ?_⟩ ?_) (fun o ho => Ok.bnd (K _ hc ⟨(by first | (simp (disch := omega) only [lI0, lI1, lI2, lI3, lI4, lI5, lI7, lI8, lI9, lI10, lI11, lI12, lI15, lI16, lI17, lI20, lI24, lI32, lI33, lI40, lI63, lI64, lI80, lI82, lI101, lI110, lI115, lI251, lI255, lI256, lI384, lI16384, lI20000, lI32768, lI49152, lI65535, nI_add, pk_mul, pk_sub, pk_div] <;> (apply congrArg nI; omega)) | rfl), ho⟩)))
    · dsimp only
      rw [h2 x y hx hy]
      by_cases h3 : a ≤ y ∧ y < a + i
      · rw [if_pos h3, if_pos (by omega)]
      · rw [if_neg h3, if_neg (by omega)]
    · rintro k ⟨x5, g6⟩ self2 hk ⟨h3, h4⟩ K2
      dsimp only at h3 h4 ⊢
      subst h3
      by_cases hc2 : k < w
      · refine Ok.neg (by simp (disch := omega) only [lI0, lI1, lI2, lI3, lI4, lI5, lI7, lI8, lI9, lI10, lI11, lI12, lI15, lI16, lI17, lI20, lI24, lI32, lI33, lI40, lI63, lI64, lI80, lI82, lI101, lI110, lI115, lI251, lI255, lI256, lI384, lI16384, lI20000, lI32768, lI49152, lI65535, nI_add, pk_mul, pk_sub, pk_div, nI_leI, nI_ltI, nI_eq] <;> omega) ?_
        rw [show (3 : Int32) + nI (a + i) * nI w + nI k = nI (3 + (a + i) * w + k) from (by first | (simp (disch := omega) only [lI0, lI1, lI2, lI3, lI4, lI5, lI7, lI8, lI9, lI10, lI11, lI12, lI15, lI16, lI17, lI20, lI24, lI32, lI33, lI40, lI63, lI64, lI80, lI82, lI101, lI110, lI115, lI251, lI255, lI256, lI384, lI16384, lI20000, lI32768, lI49152, lI65535, nI_add, pk_mul, pk_sub, pk_div] <;> (apply congrArg nI; omega)) | rfl)]
        refine Ok.bindE _ (eq_X3_at hsz hn (by omega)) ?_
        rw [if_pos (by omega), (hR _ (by omega)).1]
        refine Ok.bindE _ (eq_X5_put hw hh hc2 (by omega)) (Ok.bnd (K2 _ hc2 ⟨(by first | (simp (disch := omega) only [lI0, lI1, lI2, lI3, lI4, lI5, lI7, lI8, lI9, lI10, lI11, lI12, lI15, lI16, lI17, lI20, lI24, lI32, lI33, lI40, lI63, lI64, lI80, lI82, lI101, lI110, lI115, lI251, lI255, lI256, lI384, lI16384, lI20000, lI32768, lI49152, lI65535, nI_add, pk_mul, pk_sub, pk_div] <;> (apply congrArg nI; omega)) | rfl), fun x y hx hy => ?_⟩))
        dsimp only
        by_cases h5 : y = a + i ∧ x = k
        · obtain ⟨rfl, rfl⟩ := h5
          rw [upd_eq, if_pos (by omega)]
        · rw [upd_ne (by omega), h4 x y hx hy]
          by_cases h6 : a ≤ y ∧ (y < a + i ∨ y = a + i ∧ x < k)
          · rw [if_pos h6, if_pos (by omega)]
          · rw [if_neg h6, if_neg (by omega)]
      · have hk2 : k = w := by omega
        subst hk2
        refine Ok.pos (by simp (disch := omega) only [lI0, lI1, lI2, lI3, lI4, lI5, lI7, lI8, lI9, lI10, lI11, lI12, lI15, lI16, lI17, lI20, lI24, lI32, lI33, lI40, lI63, lI64, lI80, lI82, lI101, lI110, lI115, lI251, lI255, lI256, lI384, lI16384, lI20000, lI32768, lI49152, lI65535, nI_add, pk_mul, pk_sub, pk_div, nI_leI, nI_ltI, nI_eq] <;> omega) (Ok.some fun x y hx hy => ?_)
        rw [h4 x y hx hy]
        by_cases h6 : a ≤ y ∧ (y < a + i ∨ y = a + i ∧ x < k)
        · rw [if_pos h6, if_pos (by omega)]
        · rw [if_neg h6, if_neg (by omega)]
  · have hi2 : a + i = e := by omega
    refine Ok.pos (by simp (disch := omega) only [lI0, lI1, lI2, lI3, lI4, lI5, lI7, lI8, lI9, lI10, lI11, lI12, lI15, lI16, lI17, lI20, lI24, lI32, lI33, lI40, lI63, lI64, lI80, lI82, lI101, lI110, lI115, lI251, lI255, lI256, lI384, lI16384, lI20000, lI32768, lI49152, lI65535, nI_add, pk_mul, pk_sub, pk_div, nI_leI, nI_ltI, nI_eq] <;> omega) (Ok.some ?_)
    rw [← hi2]
    exact h2
set_option maxHeartbeats 1000000 in
theorem ok_plain {w h S sz n : Nat} {stm cy wm pc fm fc um uc : Nat → Int32} (hw1 : 1 ≤ w) (hw2 : w ≤ 16) (hh2 : h ≤ 24) (hS : S = (h + 7) / 8) (ha : aI sz n) (hsz : sz ≤ 18500) (hR : sR sz stm cy) (hP : dPix w h wm pc fm fc um uc) (hb : ∀ x y, x < w → y < h → ∃ v, v < 256 ∧ wm (16 * y + x) = nI v) :
    Ok2 (lf_X9_takePlain (nI h) (nI w) (nI sz) fm stm um wm (nI S)) (lf_X8_readPlainPixels (nI w) (nI h) (nI sz) pc fc n cy uc) (fun o k => dPix w h o.2.2 k.1 o.1 k.2.1 o.2.1 k.2.2 ∧ ∀ x y, x < w → y < h → ∃ v, v < 256 ∧ o.2.2 (16 * y + x) = nI v) := by
  obtain ⟨q1, q2, q3⟩ := aI_le ha
  unfold lf_X9_takePlain lf_X8_readPlainPixels
  refine Ok2.bind (fun o k => dPix w h o.2.2 k.1 o.1 k.2.1 o.2.1 k.2.2 ∧ ∀ x y, x < w → y < h → ∃ v, v < 256 ∧ o.2.2 (16 * y + x) = nI v) ?_ (fun o k hok => Ok2.some hok)
  refine Ok2.fix (fun s x z => x.1 = nI s ∧ z.1 = nI s ∧ dPix w h x.2.2.2 z.2.1 x.2.1 z.2.2.1 x.2.2.1 z.2.2.2 ∧ ∀ i j, i < w → j < h → ∃ v, v < 256 ∧ x.2.2.2 (16 * j + i) = nI v) S (by omega) ⟨rfl, rfl, hP, hb⟩ ?_
  rintro s ⟨x1, g2, g3, g4⟩ ⟨z1, c2, c3, c4⟩ s1 s2 hs ⟨e1, e2, ⟨hP, hF, hU⟩, hb⟩ K
  dsimp only at e1 e2 hP hF hU hb ⊢
  subst e1 e2
  refine Ok2.rE _ (eq_slicesOf hh2) ?_
  rw [← hS]
  by_cases hc : s < S
  · refine Ok2.lneg (by simp (disch := omega) only [lI0, lI1, lI2, lI3, lI4, lI5, lI7, lI8, lI9, lI10, lI11, lI12, lI15, lI16, lI17, lI20, lI24, lI32, lI33, lI40, lI63, lI64, lI80, lI82, lI101, lI110, lI115, lI251, lI255, lI256, lI384, lI16384, lI20000, lI32768, lI49152, lI65535, nI_add, pk_mul, pk_sub, pk_div, nI_leI, nI_ltI, nI_eq] <;> omega) (Ok2.rneg (by simp (disch := omega) only [lI0, lI1, lI2, lI3, lI4, lI5, lI7, lI8, lI9, lI10, lI11, lI12, lI15, lI16, lI17, lI20, lI24, lI32, lI33, lI40, lI63, lI64, lI80, lI82, lI101, lI110, lI115, lI251, lI255, lI256, lI384, lI16384, lI20000, lI32768, lI49152, lI65535, nI_add, pk_mul, pk_sub, pk_div, nI_leI, nI_ltI, nI_eq] <;> omega) (Ok2.rbnd ?_))
    obtain ⟨e, he1, he2, he3⟩ : ∃ e, (e = if h < 8 * s + 8 then h else 8 * s + 8) ∧ 8 * s ≤ e ∧ e ≤ h := by
      refine ⟨_, rfl, ?_, ?_⟩ <;> split <;> omega
    have hew : e * w ≤ 24 * 16 := Nat.mul_le_mul (by omega) hw2
    have hje : jmin ((nI s + (1 : Int32)) * (8 : Int32)) (nI h) = nI e := by
      unfold jmin
      rw [show (nI s + (1 : Int32)) * (8 : Int32) = nI (8 * s + 8) from (by first | (simp (disch := omega) only [lI0, lI1, lI2, lI3, lI4, lI5, lI7, lI8, lI9, lI10, lI11, lI12, lI15, lI16, lI17, lI20, lI24, lI32, lI33, lI40, lI63, lI64, lI80, lI82, lI101, lI110, lI115, lI251, lI255, lI256, lI384, lI16384, lI20000, lI32768, lI49152, lI65535, nI_add, pk_mul, pk_sub, pk_div] <;> (apply congrArg nI; omega)) | rfl), he1]
      by_cases h1 : h < 8 * s + 8
      · rw [if_pos (by simp (disch := omega) only [lI0, lI1, lI2, lI3, lI4, lI5, lI7, lI8, lI9, lI10, lI11, lI12, lI15, lI16, lI17, lI20, lI24, lI32, lI33, lI40, lI63, lI64, lI80, lI82, lI101, lI110, lI115, lI251, lI255, lI256, lI384, lI16384, lI20000, lI32768, lI49152, lI65535, nI_add, pk_mul, pk_sub, pk_div, nI_leI, nI_ltI, nI_eq] <;> omega), if_pos h1]
      · rw [if_neg (by simp (disch := omega) only [lI0, lI1, lI2, lI3, lI4, lI5, lI7, lI8, lI9, lI10, lI11, lI12, lI15, lI16, lI17, lI20, lI24, lI32, lI33, lI40, lI63, lI64, lI80, lI82, lI101, lI110, lI115, lI251, lI255, lI256, lI384, lI16384, lI20000, lI32768, lI49152, lI65535, nI_add, pk_mul, pk_sub, pk_div, nI_leI, nI_ltI, nI_eq] <;> omega), if_neg h1]
    rw [hje]
    refine Ok2.ljn (fun x => x = nI e) (fun k hk => ?_) (fun x hx => ?_)
    · by_cases h1 : h ≤ 8 * s + 8
      · refine Ok2.lpos (by simp (disch := omega) only [lI0, lI1, lI2, lI3, lI4, lI5, lI7, lI8, lI9, lI10, lI11, lI12, lI15, lI16, lI17, lI20, lI24, lI32, lI33, lI40, lI63, lI64, lI80, lI82, lI101, lI110, lI115, lI251, lI255, lI256, lI384, lI16384, lI20000, lI32768, lI49152, lI65535, nI_add, pk_mul, pk_sub, pk_div, nI_leI, nI_ltI, nI_eq] <;> omega) (hk _ ?_)
        refine congrArg nI ?_
        rw [he1]
        split <;> omega
      · refine Ok2.lneg (by simp (disch := omega) only [lI0, lI1, lI2, lI3, lI4, lI5, lI7, lI8, lI9, lI10, lI11, lI12, lI15, lI16, lI17, lI20, lI24, lI32, lI33, lI40, lI63, lI64, lI80, lI82, lI101, lI110, lI115, lI251, lI255, lI256, lI384, lI16384, lI20000, lI32768, lI49152, lI65535, nI_add, pk_mul, pk_sub, pk_div, nI_leI, nI_ltI, nI_eq] <;> omega) (hk _ ?_)
        rw [show (8 : Int32) * nI s + (8 : Int32) = nI (8 * s + 8) from (by first | (simp (disch := omega) only [lI0, lI1, lI2, lI3, lI4, lI5, lI7, lI8, lI9, lI10, lI11, lI12, lI15, lI16, lI17, lI20, lI24, lI32, lI33, lI40, lI63, lI64, lI80, lI82, lI101, lI110, lI115, lI251, lI255, lI256, lI384, lI16384, lI20000, lI32768, lI49152, lI65535, nI_add, pk_mul, pk_sub, pk_div] <;> (apply congrArg nI; omega)) | rfl)]
        refine congrArg nI ?_
        rw [he1]
        split <;> omega
    subst hx
    refine Ok2.ljnI (Ok2.rjnI ?_)
    by_cases h3 : 3 + e * w ≤ sz
    · refine Ok2.lpos (by simp (disch := omega) only [lI0, lI1, lI2, lI3, lI4, lI5, lI7, lI8, lI9, lI10, lI11, lI12, lI15, lI16, lI17, lI20, lI24, lI32, lI33, lI40, lI63, lI64, lI80, lI82, lI101, lI110, lI115, lI251, lI255, lI256, lI384, lI16384, lI20000, lI32768, lI49152, lI65535, nI_add, pk_mul, pk_sub, pk_div, nI_leI, nI_ltI, nI_eq] <;> omega) (Ok2.rpos (by simp (disch := omega) only [lI0, lI1, lI2, lI3, lI4, lI5, lI7, lI8, lI9, lI10, lI11, lI12, lI15, lI16, lI17, lI20, lI24, lI32, lI33, lI40, lI63, lI64, lI80, lI82, lI101, lI110, lI115, lI251, lI255, lI256, lI384, lI16384, lI20000, lI32768, lI49152, lI65535, nI_add, pk_mul, pk_sub, pk_div, nI_leI, nI_ltI, nI_eq] <;> omega) (Ok2.lwr s rfl (by omega) (by decide) (Ok2.lbnd ?_)))
      rw [show (8 : Int32) * nI s = nI (8 * s + 0) from (by first | (simp (disch := omega) only [lI0, lI1, lI2, lI3, lI4, lI5, lI7, lI8, lI9, lI10, lI11, lI12, lI15, lI16, lI17, lI20, lI24, lI32, lI33, lI40, lI63, lI64, lI80, lI82, lI101, lI110, lI115, lI251, lI255, lI256, lI384, lI16384, lI20000, lI32768, lI49152, lI65535, nI_add, pk_mul, pk_sub, pk_div] <;> (apply congrArg nI; omega)) | rfl)]
      refine Ok2.l (plR w h (8 * s) e stm g4) (Ok.fix (fun i z => z.1 = nI (8 * s + i) ∧ plR w h (8 * s) (8 * s + i) stm g4 z.2) (e - 8 * s) (by omega) ⟨rfl, fun x y _ _ => (if_neg (by omega)).symm⟩ ?_) ?_
      · rintro i ⟨x1, h2⟩ self hi ⟨h1, h4⟩ K3
        dsimp only at h1 h4 ⊢
        subst h1
        by_cases hc : i < e - 8 * s
        · have hm1 : (8 * s + i) * w + w ≤ e * w := by
            rw [← Nat.succ_mul]
            exact Nat.mul_le_mul_right w (by omega)
          refine Ok.neg (by simp (disch := omega) only [lI0, lI1, lI2, lI3, lI4, lI5, lI7, lI8, lI9, lI10, lI11, lI12, lI15, lI16, lI17, lI20, lI24, lI32, lI33, lI40, lI63, lI64, lI80, lI82, lI101, lI110, lI115, lI251, lI255, lI256, lI384, lI16384, lI20000, lI32768, lI49152, lI65535, nI_add, pk_mul, pk_sub, pk_div, nI_leI, nI_ltI, nI_eq] <;> omega) (Ok.bind (plR w h (8 * s) (8 * s + (i + 1)) stm g4) (Ok.fix (fun k z => z.1 = nI k ∧ ∀ x y, x < w → y < h → z.2 (16 * y + x) = if 8 * s ≤ y ∧ (y < 8 * s + i ∨ y = 8 * s + i ∧ x < k) then stm (3 + y * w + x) else g4 (16 * y + x)) w (by omega) ⟨rfl, fun x y hx hy => ?_⟩ ?_) (fun o ho => Ok.bnd (K3 _ hc ⟨(by first | (simp (disch := omega) only [lI0, lI1, lI2, lI3, lI4, lI5, lI7, lI8, lI9, lI10, lI11, lI12, lI15, lI16, lI17, lI20, lI24, lI32, lI33, lI40, lI63, lI64, lI80, lI82, lI101, lI110, lI115, lI251, lI255, lI256, lI384, lI16384, lI20000, lI32768, lI49152, lI65535, nI_add, pk_mul, pk_sub, pk_div] <;> (apply congrArg nI; omega)) | rfl), ho⟩)))
          · dsimp only
            rw [h4 x y hx hy]
            by_cases h3 : 8 * s ≤ y ∧ y < 8 * s + i
            · rw [if_pos h3, if_pos (by omega)]
            · rw [if_neg h3, if_neg (by omega)]
          · rintro k ⟨x5, g6⟩ self2 hk ⟨h3, h4⟩ K2
            dsimp only at h3 h4 ⊢
            subst h3
            by_cases hc2 : k < w
            · refine Ok.neg (by simp (disch := omega) only [lI0, lI1, lI2, lI3, lI4, lI5, lI7, lI8, lI9, lI10, lI11, lI12, lI15, lI16, lI17, lI20, lI24, lI32, lI33, lI40, lI63, lI64, lI80, lI82, lI101, lI110, lI115, lI251, lI255, lI256, lI384, lI16384, lI20000, lI32768, lI49152, lI65535, nI_add, pk_mul, pk_sub, pk_div, nI_leI, nI_ltI, nI_eq] <;> omega) (Ok.rd (3 + (8 * s + i) * w + k) (by first | (simp (disch := omega) only [lI0, lI1, lI2, lI3, lI4, lI5, lI7, lI8, lI9, lI10, lI11, lI12, lI15, lI16, lI17, lI20, lI24, lI32, lI33, lI40, lI63, lI64, lI80, lI82, lI101, lI110, lI115, lI251, lI255, lI256, lI384, lI16384, lI20000, lI32768, lI49152, lI65535, nI_add, pk_mul, pk_sub, pk_div] <;> (apply congrArg nI; omega)) | rfl) (by omega) (by decide) (Ok.wr (16 * (8 * s + i) + k) (by first | (simp (disch := omega) only [lI0, lI1, lI2, lI3, lI4, lI5, lI7, lI8, lI9, lI10, lI11, lI12, lI15, lI16, lI17, lI20, lI24, lI32, lI33, lI40, lI63, lI64, lI80, lI82, lI101, lI110, lI115, lI251, lI255, lI256, lI384, lI16384, lI20000, lI32768, lI49152, lI65535, nI_add, pk_mul, pk_sub, pk_div] <;> (apply congrArg nI; omega)) | rfl) (by omega) (by decide) (Ok.bnd (K2 _ hc2 ⟨(by first | (simp (disch := omega) only [lI0, lI1, lI2, lI3, lI4, lI5, lI7, lI8, lI9, lI10, lI11, lI12, lI15, lI16, lI17, lI20, lI24, lI32, lI33, lI40, lI63, lI64, lI80, lI82, lI101, lI110, lI115, lI251, lI255, lI256, lI384, lI16384, lI20000, lI32768, lI49152, lI65535, nI_add, pk_mul, pk_sub, pk_div] <;> (apply congrArg nI; omega)) | rfl), fun x y hx hy => ?_⟩))))
              dsimp only
              by_cases h5 : y = 8 * s + i ∧ x = k
              · obtain ⟨rfl, rfl⟩ := h5
                rw [upd_eq, if_pos (by omega)]
              · rw [upd_ne (by omega), h4 x y hx hy]
                by_cases h6 : 8 * s ≤ y ∧ (y < 8 * s + i ∨ y = 8 * s + i ∧ x < k)
                · rw [if_pos h6, if_pos (by omega)]
                · rw [if_neg h6, if_neg (by omega)]
            · have hk2 : k = w := by omega
              subst hk2
              refine Ok.pos (by simp (disch := omega) only [lI0, lI1, lI2, lI3, lI4, lI5, lI7, lI8, lI9, lI10, lI11, lI12, lI15, lI16, lI17, lI20, lI24, lI32, lI33, lI40, lI63, lI64, lI80, lI82, lI101, lI110, lI115, lI251, lI255, lI256, lI384, lI16384, lI20000, lI32768, lI49152, lI65535, nI_add, pk_mul, pk_sub, pk_div, nI_leI, nI_ltI, nI_eq] <;> omega) (Ok.some fun x y hx hy => ?_)
              rw [h4 x y hx hy]
              by_cases h6 : 8 * s ≤ y ∧ (y < 8 * s + i ∨ y = 8 * s + i ∧ x < k)
              · rw [if_pos h6, if_pos (by omega)]
              · rw [if_neg h6, if_neg (by omega)]
        · have hi2 : 8 * s + i = e := by omega
          refine Ok.pos (by simp (disch := omega) only [lI0, lI1, lI2, lI3, lI4, lI5, lI7, lI8, lI9, lI10, lI11, lI12, lI15, lI16, lI17, lI20, lI24, lI32, lI33, lI40, lI63, lI64, lI80, lI82, lI101, lI110, lI115, lI251, lI255, lI256, lI384, lI16384, lI20000, lI32768, lI49152, lI65535, nI_add, pk_mul, pk_sub, pk_div, nI_leI, nI_ltI, nI_eq] <;> omega) (Ok.some ?_)
          rw [← hi2]
          exact h4
      · intro o ho
        refine Ok2.r _ (ok_plainRows (a := 8 * s) (e := e) (by first | (simp (disch := omega) only [lI0, lI1, lI2, lI3, lI4, lI5, lI7, lI8, lI9, lI10, lI11, lI12, lI15, lI16, lI17, lI20, lI24, lI32, lI33, lI40, lI63, lI64, lI80, lI82, lI101, lI110, lI115, lI251, lI255, lI256, lI384, lI16384, lI20000, lI32768, lI49152, lI65535, nI_add, pk_mul, pk_sub, pk_div] <;> (apply congrArg nI; omega)) | rfl) rfl hw2 hh2 q3 q1 hR he2 he3 h3) fun p hp => ?_
        refine Ok2.rwr s rfl (by omega) (by decide) (Ok2.lbnd (Ok2.rbnd (K _ _ hc ⟨(by first | (simp (disch := omega) only [lI0, lI1, lI2, lI3, lI4, lI5, lI7, lI8, lI9, lI10, lI11, lI12, lI15, lI16, lI17, lI20, lI24, lI32, lI33, lI40, lI63, lI64, lI80, lI82, lI101, lI110, lI115, lI251, lI255, lI256, lI384, lI16384, lI20000, lI32768, lI49152, lI65535, nI_add, pk_mul, pk_sub, pk_div] <;> (apply congrArg nI; omega)) | rfl), (by first | (simp (disch := omega) only [lI0, lI1, lI2, lI3, lI4, lI5, lI7, lI8, lI9, lI10, lI11, lI12, lI15, lI16, lI17, lI20, lI24, lI32, lI33, lI40, lI63, lI64, lI80, lI82, lI101, lI110, lI115, lI251, lI255, lI256, lI384, lI16384, lI20000, lI32768, lI49152, lI65535, nI_add, pk_mul, pk_sub, pk_div] <;> (apply congrArg nI; omega)) | rfl), ⟨fun x y hx hy => ?_, hF, fun i hi => ?_⟩, fun x y hx hy => ?_⟩)))
        · dsimp only
          rw [ho x y hx hy, hp x y hx hy, hP x y hx hy]
        · dsimp only
          by_cases h8 : i = s
          · subst h8
            rw [upd_eq, upd_eq]
          · rw [upd_ne h8, upd_ne h8]
            exact hU i hi
        · dsimp only
          rw [ho x y hx hy]
          by_cases h5 : 8 * s ≤ y ∧ y < e
          · rw [if_pos h5]
            have hm1 : y * w + w ≤ e * w := by
              rw [← Nat.succ_mul]
              exact Nat.mul_le_mul_right w (by omega)
            obtain ⟨-, v, hv1, hv2⟩ := hR (3 + y * w + x) (by omega)
            exact ⟨v, hv1, hv2⟩
          · rw [if_neg h5]
            exact hb x y hx hy
    · refine Ok2.lneg (by simp (disch := omega) only [lI0, lI1, lI2, lI3, lI4, lI5, lI7, lI8, lI9, lI10, lI11, lI12, lI15, lI16, lI17, lI20, lI24, lI32, lI33, lI40, lI63, lI64, lI80, lI82, lI101, lI110, lI115, lI251, lI255, lI256, lI384, lI16384, lI20000, lI32768, lI49152, lI65535, nI_add, pk_mul, pk_sub, pk_div, nI_leI, nI_ltI, nI_eq] <;> omega) (Ok2.rneg (by simp (disch := omega) only [lI0, lI1, lI2, lI3, lI4, lI5, lI7, lI8, lI9, lI10, lI11, lI12, lI15, lI16, lI17, lI20, lI24, lI32, lI33, lI40, lI63, lI64, lI80, lI82, lI101, lI110, lI115, lI251, lI255, lI256, lI384, lI16384, lI20000, lI32768, lI49152, lI65535, nI_add, pk_mul, pk_sub, pk_div, nI_leI, nI_ltI, nI_eq] <;> omega) (Ok2.lwr s rfl (by omega) (by decide) (Ok2.rwr s rfl (by omega) (by decide) (Ok2.lbnd (Ok2.rbnd (K _ _ hc ⟨(by first | (simp (disch := omega) only [lI0, lI1, lI2, lI3, lI4, lI5, lI7, lI8, lI9, lI10, lI11, lI12, lI15, lI16, lI17, lI20, lI24, lI32, lI33, lI40, lI63, lI64, lI80, lI82, lI101, lI110, lI115, lI251, lI255, lI256, lI384, lI16384, lI20000, lI32768, lI49152, lI65535, nI_add, pk_mul, pk_sub, pk_div] <;> (apply congrArg nI; omega)) | rfl), (by first | (simp (disch := omega) only [lI0, lI1, lI2, lI3, lI4, lI5, lI7, lI8, lI9, lI10, lI11, lI12, lI15, lI16, lI17, lI20, lI24, lI32, lI33, lI40, lI63, lI64, lI80, lI82, lI101, lI110, lI115, lI251, lI255, lI256, lI384, lI16384, lI20000, lI32768, lI49152, lI65535, nI_add, pk_mul, pk_sub, pk_div] <;> (apply congrArg nI; omega)) | rfl), ⟨hP, fun i hi => ?_, hU⟩, hb⟩))))))
      dsimp only
      rw [show vp_nar .char (101 : Int32) = 101 from by decide]
      by_cases h8 : i = s
      · subst h8
        rw [upd_eq, upd_eq]
        exact ⟨rfl, Or.inr (Or.inl rfl)⟩
      · rw [upd_ne h8, upd_ne h8]
        exact hF i hi
  · have hs2 : s = S := by omega
    subst hs2
    exact Ok2.lpos (by simp (disch := omega) only [lI0, lI1, lI2, lI3, lI4, lI5, lI7, lI8, lI9, lI10, lI11, lI12, lI15, lI16, lI17, lI20, lI24, lI32, lI33, lI40, lI63, lI64, lI80, lI82, lI101, lI110, lI115, lI251, lI255, lI256, lI384, lI16384, lI20000, lI32768, lI49152, lI65535, nI_add, pk_mul, pk_sub, pk_div, nI_leI, nI_ltI, nI_eq] <;> omega) (Ok2.rpos (by simp (disch := omega) only [lI0, lI1, lI2, lI3, lI4, lI5, lI7, lI8, lI9, lI10, lI11, lI12, lI15, lI16, lI17, lI20, lI24, lI32, lI33, lI40, lI63, lI64, lI80, lI82, lI101, lI110, lI115, lI251, lI255, lI256, lI384, lI16384, lI20000, lI32768, lI49152, lI65535, nI_add, pk_mul, pk_sub, pk_div, nI_leI, nI_ltI, nI_eq] <;> omega) (Ok2.some ⟨⟨hP, hF, hU⟩, hb⟩))
