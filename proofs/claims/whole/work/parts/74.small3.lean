/-! ===== what is said of the decoded picture, both sides ===== -/
def decS (isD hasD dW dH cols rows : Int32) (dm pd fm fc um uc : Nat → Int32) : Prop := (isD = 0 ∧ hasD = 0) ∨ (isD = 1 ∧ hasD = 1 ∧ ∃ w h, 1 ≤ w ∧ w ≤ 16 ∧ 1 ≤ h ∧ h ≤ 24 ∧ dW = nI w ∧ dH = nI h ∧ cols = nI w ∧ rows = nI h ∧ decR w h dm pd fm fc um uc)
theorem eq_isNone0 {thr : Int32} : lf_X9_isNone 0 thr = some ((1 : Int32), (1 : Int32)) := rfl
theorem eq_isNone1 {thr : Int32} : lf_X9_isNone 1 thr = some ((0 : Int32), (0 : Int32)) := rfl
theorem eq_reqDec0 : lf_X8_requireDecoded 0 = some (.inl 3) := rfl
theorem eq_reqDec1 : lf_X8_requireDecoded 1 = some (.inr ()) := rfl
theorem Ok2.lbs {α β : Type} {a : Option α} {b : Option β} {k : α → Option α} {R : α → β → Prop} (h : Ok2 a b R) (hk : ∀ x, k x = Option.some x) : Ok2 (a.bind k) b R := by
  obtain ⟨x, y, rfl, rfl, h⟩ := h
  exact ⟨x, y, hk x, rfl, h⟩
section DEC
variable {isD hasD dW dH cols rows thr p0 p1 : Int32} {dm pd fm fc um uc : Nat → Int32}
theorem ok_decodedWidth (hD : decS isD hasD dW dH cols rows dm pd fm fc um uc) : Ok2 (lf_X9_decodedWidth dW isD thr) (lf_X8_decodedWidth cols hasD) (fun o k => (k = .inl 3 ∧ o.2 = 1) ∨ ∃ v, k = .inr v ∧ o = (v, 0)) := by
  unfold lf_X9_decodedWidth lf_X8_decodedWidth
  rcases hD with ⟨rfl, rfl⟩ | ⟨rfl, rfl, w, h, h1, h2, h3, h4, rfl, rfl, rfl, rfl, hR⟩
  · exact Ok2.lE _ eq_isNone0 (Ok2.rE _ eq_reqDec0 (Ok2.lneg (by decide) (Ok2.some (Or.inl ⟨rfl, rfl⟩))))
  · exact Ok2.lE _ eq_isNone1 (Ok2.rE _ eq_reqDec1 (Ok2.lpos rfl (Ok2.some (Or.inr ⟨_, rfl, rfl⟩))))
theorem ok_decodedHeight (hD : decS isD hasD dW dH cols rows dm pd fm fc um uc) : Ok2 (lf_X9_decodedHeight dH isD thr) (lf_X8_decodedHeight rows hasD) (fun o k => (k = .inl 3 ∧ o.2 = 1) ∨ ∃ v, k = .inr v ∧ o = (v, 0)) := by
  unfold lf_X9_decodedHeight lf_X8_decodedHeight
  rcases hD with ⟨rfl, rfl⟩ | ⟨rfl, rfl, w, h, h1, h2, h3, h4, rfl, rfl, rfl, rfl, hR⟩
  · exact Ok2.lE _ eq_isNone0 (Ok2.rE _ eq_reqDec0 (Ok2.lneg (by decide) (Ok2.some (Or.inl ⟨rfl, rfl⟩))))
  · exact Ok2.lE _ eq_isNone1 (Ok2.rE _ eq_reqDec1 (Ok2.lpos rfl (Ok2.some (Or.inr ⟨_, rfl, rfl⟩))))
theorem ok_decodedPixel (hD : decS isD hasD dW dH cols rows dm pd fm fc um uc) : Ok2 (lf_X9_decodedPixel dH dW isD thr dm p0 p1) (lf_X8_decodedPixel cols rows hasD pd p0 p1) (fun o k => (k = .inl 3 ∧ o.2 = 1) ∨ (k = .inl 1 ∧ o.2 = 2) ∨ ∃ v, k = .inr v ∧ o = (v, 0)) := by
  unfold lf_X9_decodedPixel lf_X8_decodedPixel
  rcases hD with ⟨rfl, rfl⟩ | ⟨rfl, rfl, w, h, h1, h2, h3, h4, rfl, rfl, rfl, rfl, hR⟩
  · exact Ok2.lE _ eq_isNone0 (Ok2.rE _ eq_reqDec0 (Ok2.lneg (by decide) (Ok2.some (Or.inl ⟨rfl, rfl⟩))))
  · refine Ok2.lE _ eq_isNone1 (Ok2.rE _ eq_reqDec1 (Ok2.lpos rfl ?_))
    show Ok2 _ ((lf_X8_requirePixel (nI w) (nI h) p0 p1).bind _) _
    have hf : lf_X9_fail 0 2 = some ((0 : Int32), (2 : Int32)) := rfl
    refine Ok2.r _ (ok_requirePixel (by omega) (by omega)) ?_
    rintro o (⟨rfl, x, y, hx, hy, rfl, rfl⟩ | ⟨rfl, hn⟩)
    · refine Ok2.l _ (ok_isInX (by omega)) ?_
      rintro o (⟨rfl, -⟩ | ⟨rfl, hn⟩)
      · refine Ok2.ljnI (Ok2.lneg (by decide) (Ok2.l _ (ok_isInX (by omega)) ?_))
        rintro o (⟨rfl, -⟩ | ⟨rfl, hn⟩)
        · refine Ok2.lneg (by decide) (Ok2.lrd (16 * y + x) (by first | (simp (disch := omega) only [lI0, lI1, lI2, lI3, lI4, lI5, lI7, lI8, lI9, lI10, lI11, lI12, lI15, lI16, lI17, lI20, lI24, lI32, lI33, lI40, lI63, lI64, lI80, lI82, lI101, lI110, lI115, lI251, lI255, lI256, lI384, lI16384, lI20000, lI32768, lI49152, lI65535, nI_add, pk_mul, pk_sub, pk_div] <;> (apply congrArg nI; omega)) | rfl) (by omega) (by decide) ?_)
          show Ok2 _ ((lf_X5_at (nI w) (nI h) pd (nI x) (nI y)).bind _) _
          refine Ok2.rE _ (eq_X5_at h2 h4 hx hy) ?_
          rw [(hR.1 x y hx hy).1]
          exact Ok2.some (Or.inr (Or.inr ⟨_, rfl, rfl⟩))
        · exact absurd ⟨y, hy, rfl⟩ hn
      · exact absurd ⟨x, hx, rfl⟩ hn
    · refine Ok2.l _ (ok_isInX (by omega)) ?_
      rintro o (⟨rfl, x, hx, rfl⟩ | ⟨rfl, -⟩)
      · refine Ok2.ljnI (Ok2.lneg (by decide) (Ok2.l _ (ok_isInX (by omega)) ?_))
        rintro o (⟨rfl, y, hy, rfl⟩ | ⟨rfl, -⟩)
        · exact absurd ⟨x, y, hx, hy, rfl, rfl⟩ hn
        · exact Ok2.lpos rfl (Ok2.lE _ hf (Ok2.some (Or.inr (Or.inl ⟨rfl, rfl⟩))))
      · exact Ok2.ljnI (Ok2.lpos rfl (Ok2.lE _ hf (Ok2.some (Or.inr (Or.inl ⟨rfl, rfl⟩)))))
theorem ok_reqSlice {h : Nat} (hh : h ≤ 24) : Ok (lf_X8_requireSlice p0 (nI h)) (fun o => o = .inr () ∧ inX ((h + 7) / 8) p0 ∨ o = .inl 1 ∧ ¬ inX ((h + 7) / 8) p0) := by
  unfold lf_X8_requireSlice
  refine Ok.jnI ?_
  rcases neg_or p0 with g | ⟨v, hv, rfl⟩
  · refine Ok.pos g (Ok.some (Or.inr ⟨rfl, ?_⟩))
    rintro ⟨v, h2, h4⟩
    exact neg_ne g (by omega) h4
  · refine Ok.neg (by simp (disch := omega) only [lI0, lI1, lI2, lI3, lI4, lI5, lI7, lI8, lI9, lI10, lI11, lI12, lI15, lI16, lI17, lI20, lI24, lI32, lI33, lI40, lI63, lI64, lI80, lI82, lI101, lI110, lI115, lI251, lI255, lI256, lI384, lI16384, lI20000, lI32768, lI49152, lI65535, nI_add, pk_mul, pk_sub, pk_div, nI_leI, nI_ltI, nI_eq] <;> omega) (Ok.bindE _ (eq_slicesOf hh) ?_)
    by_cases h1 : v < (h + 7) / 8
    · exact Ok.pos (by simp (disch := omega) only [lI0, lI1, lI2, lI3, lI4, lI5, lI7, lI8, lI9, lI10, lI11, lI12, lI15, lI16, lI17, lI20, lI24, lI32, lI33, lI40, lI63, lI64, lI80, lI82, lI101, lI110, lI115, lI251, lI255, lI256, lI384, lI16384, lI20000, lI32768, lI49152, lI65535, nI_add, pk_mul, pk_sub, pk_div, nI_leI, nI_ltI, nI_eq] <;> omega) (Ok.some (Or.inl ⟨rfl, v, h1, rfl⟩))
    · refine Ok.neg (by simp (disch := omega) only [lI0, lI1, lI2, lI3, lI4, lI5, lI7, lI8, lI9, lI10, lI11, lI12, lI15, lI16, lI17, lI20, lI24, lI32, lI33, lI40, lI63, lI64, lI80, lI82, lI101, lI110, lI115, lI251, lI255, lI256, lI384, lI16384, lI20000, lI32768, lI49152, lI65535, nI_add, pk_mul, pk_sub, pk_div, nI_leI, nI_ltI, nI_eq] <;> omega) (Ok.some (Or.inr ⟨rfl, ?_⟩))
      rintro ⟨v2, h2, h4⟩
      have := nI_inj hv (by omega) h4
      omega
theorem ok_isSlice1 {h : Nat} (hh : h ≤ 24) : Ok (lf_X9_isSlice (nI h) 1 thr p0) (fun o => o = (1, 0) ∧ inX ((h + 7) / 8) p0 ∨ o = (0, 2) ∧ ¬ inX ((h + 7) / 8) p0) := by
  unfold lf_X9_isSlice
  refine Ok.bindE _ eq_isNone1 (Ok.pos rfl ?_)
  rw [show (nI h + (7 : Int32)) / (8 : Int32) = nI ((h + 7) / 8) from (by first | (simp (disch := omega) only [lI0, lI1, lI2, lI3, lI4, lI5, lI7, lI8, lI9, lI10, lI11, lI12, lI15, lI16, lI17, lI20, lI24, lI32, lI33, lI40, lI63, lI64, lI80, lI82, lI101, lI110, lI115, lI251, lI255, lI256, lI384, lI16384, lI20000, lI32768, lI49152, lI65535, nI_add, pk_mul, pk_sub, pk_div] <;> (apply congrArg nI; omega)) | rfl)]
  refine Ok.bind _ (ok_isInX (by omega)) ?_
  rintro o (⟨rfl, hi⟩ | ⟨rfl, hn⟩)
  · exact Ok.jnI (Ok.neg (by decide) (Ok.pos rfl (Ok.some (Or.inl ⟨rfl, hi⟩))))
  · exact Ok.jnI (Ok.pos rfl (Ok.neg (by decide) (Ok.some (Or.inr ⟨rfl, hn⟩))))
theorem eq_isSlice0 : lf_X9_isSlice dH 0 thr p0 = some ((0 : Int32), (1 : Int32)) := rfl
theorem ok_fault (hD : decS isD hasD dW dH cols rows dm pd fm fc um uc) : Ok2 (lf_X9_fault dH isD thr fm p0) (lf_X8_fault rows hasD fc p0) (fun o k => (k = .inl 3 ∧ o.2 = 1) ∨ (k = .inl 1 ∧ o.2 = 2) ∨ ∃ v, k = .inr v ∧ o = (v, 0)) := by
  unfold lf_X9_fault lf_X8_fault
  rcases hD with ⟨rfl, rfl⟩ | ⟨rfl, rfl, w, h, h1, h2, h3, h4, rfl, rfl, rfl, rfl, hR⟩
  · exact Ok2.lE _ eq_isSlice0 (Ok2.rE _ eq_reqDec0 (Ok2.lpos rfl (Ok2.some (Or.inl ⟨rfl, rfl⟩))))
  · refine Ok2.rE _ eq_reqDec1 ?_
    show Ok2 _ ((lf_X8_requireSlice p0 (nI h)).bind _) _
    refine Ok2.dec (ok_isSlice1 h4) (ok_reqSlice h4) (fun hin => ?_) (fun _ => Ok2.lpos rfl (Ok2.some (Or.inr (Or.inl ⟨rfl, rfl⟩))))
    obtain ⟨s, hs, rfl⟩ := hin
    refine Ok2.lneg (by decide) (Ok2.lrd s rfl (by omega) (by decide) ?_)
    show Ok2 _ ((rdA 3 fc (nI s)).bind _) _
    refine Ok2.rrd s rfl (by omega) (by decide) ?_
    obtain ⟨e1, e2⟩ := hR.2.1 s (by omega)
    rw [← e1]
    have e3 : ((fm s).toUInt32 % 65536).toInt32 = fm s := by
      rcases e2 with e | e | e <;> rw [e] <;> decide
    refine Ok2.rpos e3 ?_
    rw [e3]
    exact Ok2.some (Or.inr (Or.inr ⟨_, rfl, rfl⟩))
theorem ok_layersUsed (hD : decS isD hasD dW dH cols rows dm pd fm fc um uc) : Ok2 (lf_X9_layersUsed dH isD thr um p0) (lf_X8_layersUsed rows hasD uc p0) (fun o k => (k = .inl 3 ∧ o.2 = 1) ∨ (k = .inl 1 ∧ o.2 = 2) ∨ ∃ v, k = .inr v ∧ o = (v, 0)) := by
  unfold lf_X9_layersUsed lf_X8_layersUsed
  rcases hD with ⟨rfl, rfl⟩ | ⟨rfl, rfl, w, h, h1, h2, h3, h4, rfl, rfl, rfl, rfl, hR⟩
  · exact Ok2.lE _ eq_isSlice0 (Ok2.rE _ eq_reqDec0 (Ok2.lpos rfl (Ok2.some (Or.inl ⟨rfl, rfl⟩))))
  · refine Ok2.rE _ eq_reqDec1 ?_
    show Ok2 _ ((lf_X8_requireSlice p0 (nI h)).bind _) _
    refine Ok2.dec (ok_isSlice1 h4) (ok_reqSlice h4) (fun hin => ?_) (fun _ => Ok2.lpos rfl (Ok2.some (Or.inr (Or.inl ⟨rfl, rfl⟩))))
    obtain ⟨s, hs, rfl⟩ := hin
    refine Ok2.lneg (by decide) (Ok2.lrd s rfl (by omega) (by decide) ?_)
    show Ok2 _ ((rdA 3 uc (nI s)).bind _) _
    refine Ok2.rrd s rfl (by omega) (by decide) ?_
    rw [hR.2.2 s (by omega)]
    exact Ok2.some (Or.inr (Or.inr ⟨_, rfl, rfl⟩))
theorem ok_greatest {w h : Nat} {pm pc : Nat → Int32} (hP : picR w h pm pc) (hR : decR w h dm pd fm fc um uc) : Ok2 (lf_X9_error (nI h) (nI w) dm pm 0) (lf_X8_largestDifference (nI w) (nI h) (nI w) (nI h) pd pc) (fun o k => o = k) := by
  obtain ⟨h1, h2, h3, h4, h5⟩ := id hP
  unfold lf_X9_error lf_X8_largestDifference
  refine Ok2.bind (fun o k => o = k) ?_ (fun o k hok => Ok2.some hok)
  refine Ok2.fix (fun y a b => a.1 = b.1 ∧ a.2 = nI y ∧ b.2 = nI y) h (by omega) ⟨rfl, rfl, rfl⟩ ?_
  rintro y ⟨a1, a2⟩ ⟨b1, b2⟩ s1 s2 hy ⟨e1, e2, e3⟩ K
  dsimp only at e1 e2 e3 ⊢
  subst e1 e2 e3
  by_cases hc : y < h
  · refine Ok2.lneg (by simp (disch := omega) only [lI0, lI1, lI2, lI3, lI4, lI5, lI7, lI8, lI9, lI10, lI11, lI12, lI15, lI16, lI17, lI20, lI24, lI32, lI33, lI40, lI63, lI64, lI80, lI82, lI101, lI110, lI115, lI251, lI255, lI256, lI384, lI16384, lI20000, lI32768, lI49152, lI65535, nI_add, pk_mul, pk_sub, pk_div, nI_leI, nI_ltI, nI_eq] <;> omega) (Ok2.rneg (by simp (disch := omega) only [lI0, lI1, lI2, lI3, lI4, lI5, lI7, lI8, lI9, lI10, lI11, lI12, lI15, lI16, lI17, lI20, lI24, lI32, lI33, lI40, lI63, lI64, lI80, lI82, lI101, lI110, lI115, lI251, lI255, lI256, lI384, lI16384, lI20000, lI32768, lI49152, lI65535, nI_add, pk_mul, pk_sub, pk_div, nI_leI, nI_ltI, nI_eq] <;> omega) (Ok2.bind (fun o k => o = k) ?_ (fun o k hok => Ok2.lbnd (Ok2.rbnd (K _ _ hc ⟨hok, (by first | (simp (disch := omega) only [lI0, lI1, lI2, lI3, lI4, lI5, lI7, lI8, lI9, lI10, lI11, lI12, lI15, lI16, lI17, lI20, lI24, lI32, lI33, lI40, lI63, lI64, lI80, lI82, lI101, lI110, lI115, lI251, lI255, lI256, lI384, lI16384, lI20000, lI32768, lI49152, lI65535, nI_add, pk_mul, pk_sub, pk_div] <;> (apply congrArg nI; omega)) | rfl), (by first | (simp (disch := omega) only [lI0, lI1, lI2, lI3, lI4, lI5, lI7, lI8, lI9, lI10, lI11, lI12, lI15, lI16, lI17, lI20, lI24, lI32, lI33, lI40, lI63, lI64, lI80, lI82, lI101, lI110, lI115, lI251, lI255, lI256, lI384, lI16384, lI20000, lI32768, lI49152, lI65535, nI_add, pk_mul, pk_sub, pk_div] <;> (apply congrArg nI; omega)) | rfl)⟩)))))
    refine Ok2.fix (fun x a b => a.1 = b.1 ∧ a.2 = nI x ∧ b.2 = nI x) w (by omega) ⟨rfl, rfl, rfl⟩ ?_
    rintro x ⟨a1, a2⟩ ⟨b1, b2⟩ s3 s4 hx ⟨e1, e2, e3⟩ K2
    dsimp only at e1 e2 e3 ⊢
    subst e1 e2 e3
    by_cases hc2 : x < w
    · refine Ok2.lneg (by simp (disch := omega) only [lI0, lI1, lI2, lI3, lI4, lI5, lI7, lI8, lI9, lI10, lI11, lI12, lI15, lI16, lI17, lI20, lI24, lI32, lI33, lI40, lI63, lI64, lI80, lI82, lI101, lI110, lI115, lI251, lI255, lI256, lI384, lI16384, lI20000, lI32768, lI49152, lI65535, nI_add, pk_mul, pk_sub, pk_div, nI_leI, nI_ltI, nI_eq] <;> omega) (Ok2.rneg (by simp (disch := omega) only [lI0, lI1, lI2, lI3, lI4, lI5, lI7, lI8, lI9, lI10, lI11, lI12, lI15, lI16, lI17, lI20, lI24, lI32, lI33, lI40, lI63, lI64, lI80, lI82, lI101, lI110, lI115, lI251, lI255, lI256, lI384, lI16384, lI20000, lI32768, lI49152, lI65535, nI_add, pk_mul, pk_sub, pk_div, nI_leI, nI_ltI, nI_eq] <;> omega) (Ok2.lrd (16 * y + x) (by first | (simp (disch := omega) only [lI0, lI1, lI2, lI3, lI4, lI5, lI7, lI8, lI9, lI10, lI11, lI12, lI15, lI16, lI17, lI20, lI24, lI32, lI33, lI40, lI63, lI64, lI80, lI82, lI101, lI110, lI115, lI251, lI255, lI256, lI384, lI16384, lI20000, lI32768, lI49152, lI65535, nI_add, pk_mul, pk_sub, pk_div] <;> (apply congrArg nI; omega)) | rfl) (by omega) (by decide) (Ok2.lrd (16 * y + x) (by first | (simp (disch := omega) only [lI0, lI1, lI2, lI3, lI4, lI5, lI7, lI8, lI9, lI10, lI11, lI12, lI15, lI16, lI17, lI20, lI24, lI32, lI33, lI40, lI63, lI64, lI80, lI82, lI101, lI110, lI115, lI251, lI255, lI256, lI384, lI16384, lI20000, lI32768, lI49152, lI65535, nI_add, pk_mul, pk_sub, pk_div] <;> (apply congrArg nI; omega)) | rfl) (by omega) (by decide) (Ok2.rE _ (eq_X5_at h2 h4 hc2 hc) (Ok2.rE _ (eq_X5_at h2 h4 hc2 hc) (Ok2.lbnd (Ok2.rbnd ?_)))))))
      rw [(h5 x y hc2 hc).1, ← (hR.1 x y hc2 hc).1]
      generalize pm (16 * y + x) - dm (16 * y + x) = d
      refine Ok2.ljn (fun s => s = jabs d) (fun k hk => ?_) (fun s hs => ?_)
      · unfold jabs at hk
        by_cases g : 0 ≤ d
        · exact Ok2.lpos g (hk _ (if_pos g).symm)
        · refine Ok2.lneg g (hk _ ?_)
          rw [if_neg g, Int32.zero_sub]
      subst hs
      refine Ok2.ljnI (Ok2.lpos rfl ?_)
      unfold jmax
      by_cases g : jabs d ≤ a1
      · rw [if_neg (Int32.not_lt.mpr g)]
        exact Ok2.lpos g (Ok2.lbnd (Ok2.rbnd (K2 _ _ hc2 ⟨rfl, (by first | (simp (disch := omega) only [lI0, lI1, lI2, lI3, lI4, lI5, lI7, lI8, lI9, lI10, lI11, lI12, lI15, lI16, lI17, lI20, lI24, lI32, lI33, lI40, lI63, lI64, lI80, lI82, lI101, lI110, lI115, lI251, lI255, lI256, lI384, lI16384, lI20000, lI32768, lI49152, lI65535, nI_add, pk_mul, pk_sub, pk_div] <;> (apply congrArg nI; omega)) | rfl), (by first | (simp (disch := omega) only [lI0, lI1, lI2, lI3, lI4, lI5, lI7, lI8, lI9, lI10, lI11, lI12, lI15, lI16, lI17, lI20, lI24, lI32, lI33, lI40, lI63, lI64, lI80, lI82, lI101, lI110, lI115, lI251, lI255, lI256, lI384, lI16384, lI20000, lI32768, lI49152, lI65535, nI_add, pk_mul, pk_sub, pk_div] <;> (apply congrArg nI; omega)) | rfl)⟩)))
      · rw [if_pos (Int32.not_le.mp g)]
        exact Ok2.lneg g (Ok2.lbnd (Ok2.rbnd (K2 _ _ hc2 ⟨rfl, (by first | (simp (disch := omega) only [lI0, lI1, lI2, lI3, lI4, lI5, lI7, lI8, lI9, lI10, lI11, lI12, lI15, lI16, lI17, lI20, lI24, lI32, lI33, lI40, lI63, lI64, lI80, lI82, lI101, lI110, lI115, lI251, lI255, lI256, lI384, lI16384, lI20000, lI32768, lI49152, lI65535, nI_add, pk_mul, pk_sub, pk_div] <;> (apply congrArg nI; omega)) | rfl), (by first | (simp (disch := omega) only [lI0, lI1, lI2, lI3, lI4, lI5, lI7, lI8, lI9, lI10, lI11, lI12, lI15, lI16, lI17, lI20, lI24, lI32, lI33, lI40, lI63, lI64, lI80, lI82, lI101, lI110, lI115, lI251, lI255, lI256, lI384, lI16384, lI20000, lI32768, lI49152, lI65535, nI_add, pk_mul, pk_sub, pk_div] <;> (apply congrArg nI; omega)) | rfl)⟩)))
    · have hx2 : x = w := by omega
      subst hx2
      exact Ok2.lpos (by simp (disch := omega) only [lI0, lI1, lI2, lI3, lI4, lI5, lI7, lI8, lI9, lI10, lI11, lI12, lI15, lI16, lI17, lI20, lI24, lI32, lI33, lI40, lI63, lI64, lI80, lI82, lI101, lI110, lI115, lI251, lI255, lI256, lI384, lI16384, lI20000, lI32768, lI49152, lI65535, nI_add, pk_mul, pk_sub, pk_div, nI_leI, nI_ltI, nI_eq] <;> omega) (Ok2.rpos (by simp (disch := omega) only [lI0, lI1, lI2, lI3, lI4, lI5, lI7, lI8, lI9, lI10, lI11, lI12, lI15, lI16, lI17, lI20, lI24, lI32, lI33, lI40, lI63, lI64, lI80, lI82, lI101, lI110, lI115, lI251, lI255, lI256, lI384, lI16384, lI20000, lI32768, lI49152, lI65535, nI_add, pk_mul, pk_sub, pk_div, nI_leI, nI_ltI, nI_eq] <;> omega) (Ok2.some rfl))
  · have hy2 : y = h := by omega
    subst hy2
    exact Ok2.lpos (by simp (disch := omega) only [lI0, lI1, lI2, lI3, lI4, lI5, lI7, lI8, lI9, lI10, lI11, lI12, lI15, lI16, lI17, lI20, lI24, lI32, lI33, lI40, lI63, lI64, lI80, lI82, lI101, lI110, lI115, lI251, lI255, lI256, lI384, lI16384, lI20000, lI32768, lI49152, lI65535, nI_add, pk_mul, pk_sub, pk_div, nI_leI, nI_ltI, nI_eq] <;> omega) (Ok2.rpos (by simp (disch := omega) only [lI0, lI1, lI2, lI3, lI4, lI5, lI7, lI8, lI9, lI10, lI11, lI12, lI15, lI16, lI17, lI20, lI24, lI32, lI33, lI40, lI63, lI64, lI80, lI82, lI101, lI110, lI115, lI251, lI255, lI256, lI384, lI16384, lI20000, lI32768, lI49152, lI65535, nI_add, pk_mul, pk_sub, pk_div, nI_leI, nI_ltI, nI_eq] <;> omega) (Ok2.some rfl))
theorem eq_asLarge {w h u v : Nat} (hw : w < 2 ^ 31) (hh : h < 2 ^ 31) (hu : u < 2 ^ 31) (hv : v < 2 ^ 31) : lf_X5_isAsLargeAs (nI w) (nI h) (nI u) (nI v) = some (if w = u ∧ h = v then 1 else 0) := by
  suffices hs : Ok (lf_X5_isAsLargeAs (nI w) (nI h) (nI u) (nI v)) (fun o => o = if w = u ∧ h = v then 1 else 0) by
    obtain ⟨o, h1, h2⟩ := hs
    rw [h1, h2]
  unfold lf_X5_isAsLargeAs
  refine Ok.jnI ?_
  by_cases h1 : w = u
  · subst h1
    refine Ok.pos rfl ?_
    by_cases h2 : h = v
    · subst h2
      exact Ok.pos rfl (Ok.some (if_pos ⟨rfl, rfl⟩).symm)
    · exact Ok.neg (fun e => h2 (nI_inj hh hv e)) (Ok.some (if_neg (fun h => h2 h.2)).symm)
  · exact Ok.neg (fun e => h1 (nI_inj hw hu e)) (Ok.some (if_neg (fun h => h1 h.1)).symm)
theorem ok_isSame {w h : Nat} {pm pc : Nat → Int32} (hP : picR w h pm pc) (hD : decS isD hasD dW dH cols rows dm pd fm fc um uc) : Ok2 (lf_X9_isSame dH dW (nI h) isD thr (nI w) dm pm) (lf_X8_isSame cols rows hasD (nI w) (nI h) pd pc) (fun o k => (k = .inl 3 ∧ o.2 = 1) ∨ ∃ v, (v = 0 ∨ v = 1) ∧ k = .inr v ∧ o = (v, 0)) := by
  obtain ⟨g1, g2, g3, g4, -⟩ := id hP
  unfold lf_X9_isSame lf_X8_isSame
  rcases hD with ⟨rfl, rfl⟩ | ⟨rfl, rfl, u, v, h1, h2, h3, h4, rfl, rfl, rfl, rfl, hR⟩
  · exact Ok2.lE _ eq_isNone0 (Ok2.rE _ eq_reqDec0 (Ok2.ljnI (Ok2.lneg (by decide) (Ok2.some (Or.inl ⟨rfl, rfl⟩)))))
  · refine Ok2.lE _ eq_isNone1 (Ok2.rE _ eq_reqDec1 (Ok2.ljnI (Ok2.lpos rfl ?_)))
    show Ok2 _ ((lf_X5_isAsLargeAs (nI w) (nI h) (nI u) (nI v)).bind _) _
    refine Ok2.rE _ (eq_asLarge (by omega) (by omega) (by omega) (by omega)) (Ok2.rjnI ?_)
    by_cases h5 : w = u ∧ h = v
    · obtain ⟨rfl, rfl⟩ := h5
      rw [if_pos (⟨rfl, rfl⟩ : w = w ∧ h = h)]
      refine Ok2.lpos rfl (Ok2.lpos rfl (Ok2.rneg (by decide) (Ok2.bind _ (ok_greatest hP hR) ?_)))
      rintro o k rfl
      by_cases h6 : o = 0
      · exact Ok2.lpos h6 (Ok2.rpos h6 (Ok2.some (Or.inr ⟨1, Or.inr rfl, rfl, rfl⟩)))
      · exact Ok2.lneg h6 (Ok2.rneg h6 (Ok2.some (Or.inr ⟨0, Or.inl rfl, rfl, rfl⟩)))
    · rw [if_neg h5]
      refine Ok2.rpos rfl ?_
      by_cases h6 : nI u = nI w
      · refine Ok2.lpos h6 (Ok2.lneg (fun e => h5 ⟨(nI_inj (by omega) (by omega) h6).symm, (nI_inj (by omega) (by omega) e).symm⟩) (Ok2.some (Or.inr ⟨0, Or.inl rfl, rfl, rfl⟩)))
      · exact Ok2.lneg h6 (Ok2.some (Or.inr ⟨0, Or.inl rfl, rfl, rfl⟩))
theorem eq_areOther0 {a b : Int32} : lf_X9_areOther dH dW a 0 thr b = some ((1 : Int32), (1 : Int32)) := rfl
theorem eq_areOther1 {w h u v : Nat} (hw : w < 2 ^ 31) (hh : h < 2 ^ 31) (hu : u < 2 ^ 31) (hv : v < 2 ^ 31) : lf_X9_areOther (nI v) (nI u) (nI h) 1 thr (nI w) = some (if w = u ∧ h = v then ((0 : Int32), (0 : Int32)) else ((1 : Int32), (2 : Int32))) := by
  suffices hs : Ok (lf_X9_areOther (nI v) (nI u) (nI h) 1 thr (nI w)) (fun o => o = if w = u ∧ h = v then ((0 : Int32), (0 : Int32)) else ((1 : Int32), (2 : Int32))) by
    obtain ⟨o, h1, h2⟩ := hs
    rw [h1, h2]
  unfold lf_X9_areOther
  refine Ok.bindE _ eq_isNone1 (Ok.jnI (Ok.pos rfl (Ok.jnI (Ok.jnI ?_))))
  by_cases h1 : w = u
  · subst h1
    refine Ok.pos rfl ?_
    by_cases h2 : h = v
    · subst h2
      exact Ok.pos rfl (Ok.pos rfl (Ok.some (if_pos ⟨rfl, rfl⟩).symm))
    · exact Ok.neg (fun e => h2 (nI_inj hv hh e).symm) (Ok.neg (by decide) (Ok.some (if_neg (fun h => h2 h.2)).symm))
  · exact Ok.neg (fun e => h1 (nI_inj hu hw e).symm) (Ok.neg (by decide) (Ok.some (if_neg (fun h => h1 h.1)).symm))
theorem eq_reqSame {w h u v : Nat} (hw : w < 2 ^ 31) (hh : h < 2 ^ 31) (hu : u < 2 ^ 31) (hv : v < 2 ^ 31) : lf_X8_requireSameSize (nI u) (nI v) (nI w) (nI h) = some (if w = u ∧ h = v then .inr () else .inl 2) := by
  unfold lf_X8_requireSameSize
  rw [eq_asLarge hw hh hu hv]
  by_cases h1 : w = u ∧ h = v
  · rw [if_pos h1, if_pos h1]
    rfl
  · rw [if_neg h1, if_neg h1]
    rfl
theorem ok_greatestError {w h : Nat} {pm pc : Nat → Int32} (hP : picR w h pm pc) (hD : decS isD hasD dW dH cols rows dm pd fm fc um uc) : Ok2 (lf_X9_greatestError dH dW (nI h) isD thr (nI w) dm pm) (lf_X8_greatestError cols rows hasD (nI w) (nI h) pd pc) (fun o k => (k = .inl 3 ∧ o.2 = 1) ∨ (k = .inl 2 ∧ o.2 = 2) ∨ ∃ v, k = .inr v ∧ o = (v, 0)) := by
  obtain ⟨g1, g2, g3, g4, -⟩ := id hP
  unfold lf_X9_greatestError lf_X8_greatestError
  rcases hD with ⟨rfl, rfl⟩ | ⟨rfl, rfl, u, v, h1, h2, h3, h4, rfl, rfl, rfl, rfl, hR⟩
  · exact Ok2.lE _ eq_areOther0 (Ok2.rE _ eq_reqDec0 (Ok2.lneg (by decide) (Ok2.some (Or.inl ⟨rfl, rfl⟩))))
  · refine Ok2.lE _ (eq_areOther1 (by omega) (by omega) (by omega) (by omega)) (Ok2.rE _ eq_reqDec1 ?_)
    show Ok2 _ ((lf_X8_requireSameSize (nI u) (nI v) (nI w) (nI h)).bind _) _
    refine Ok2.rE _ (eq_reqSame (by omega) (by omega) (by omega) (by omega)) ?_
    by_cases h5 : w = u ∧ h = v
    · obtain ⟨rfl, rfl⟩ := h5
      rw [if_pos (⟨rfl, rfl⟩ : w = w ∧ h = h), if_pos (⟨rfl, rfl⟩ : w = w ∧ h = h)]
      refine Ok2.lpos rfl (Ok2.bind _ (ok_greatest hP hR) ?_)
      rintro o k rfl
      exact Ok2.some (Or.inr (Or.inr ⟨_, rfl, rfl⟩))
    · rw [if_neg h5, if_neg h5]
      exact Ok2.lneg (by decide) (Ok2.some (Or.inr (Or.inl ⟨rfl, rfl⟩)))
theorem ok_squaredError {w h : Nat} {pm pc : Nat → Int32} (hP : picR w h pm pc) (hD : decS isD hasD dW dH cols rows dm pd fm fc um uc) : Ok2 (lf_X9_squaredError dH dW (nI h) isD thr (nI w) dm pm) (lf_X8_squaredError cols rows hasD (nI w) (nI h) pd pc) (fun o k => (k = .inl 3 ∧ o.2 = 1) ∨ (k = .inl 2 ∧ o.2 = 2) ∨ ∃ v, k = .inr v ∧ o = (v, 0)) := by
  obtain ⟨g1, g2, g3, g4, h5⟩ := id hP
  unfold lf_X9_squaredError lf_X8_squaredError
  rcases hD with ⟨rfl, rfl⟩ | ⟨rfl, rfl, u, v, h1, h2, h3, h4, rfl, rfl, rfl, rfl, hR⟩
  · exact Ok2.lE _ eq_areOther0 (Ok2.rE _ eq_reqDec0 (Ok2.lneg (by decide) (Ok2.some (Or.inl ⟨rfl, rfl⟩))))
  · refine Ok2.lE _ (eq_areOther1 (by omega) (by omega) (by omega) (by omega)) (Ok2.rE _ eq_reqDec1 ?_)
    show Ok2 _ ((lf_X8_requireSameSize (nI u) (nI v) (nI w) (nI h)).bind _) _
    refine Ok2.rE _ (eq_reqSame (by omega) (by omega) (by omega) (by omega)) ?_
    by_cases h6 : w = u ∧ h = v
    · obtain ⟨rfl, rfl⟩ := h6
      rw [if_pos (⟨rfl, rfl⟩ : w = w ∧ h = h), if_pos (⟨rfl, rfl⟩ : w = w ∧ h = h)]
      refine Ok2.lpos rfl ?_
      unfold lf_X9_error
      show Ok2 _ (Option.bind _ _) _
      refine Ok2.bind (fun o k => o = k) ?_ (fun o k hok => by rw [hok]; exact Ok2.some (Or.inr (Or.inr ⟨_, rfl, rfl⟩)))
      refine Ok2.lbs ?_ (fun _ => rfl)
      refine Ok2.fix (fun y (a : Int32 × Int32) (b : Int32 × Int32) => a.1 = b.1 ∧ a.2 = nI y ∧ b.2 = nI y) h (by omega) ⟨rfl, rfl, rfl⟩ ?_
      rintro y ⟨a1, a2⟩ ⟨b1, b2⟩ s1 s2 hy ⟨e1, e2, e3⟩ K
      dsimp only at e1 e2 e3 ⊢
      subst e1 e2 e3
      by_cases hc : y < h
      · refine Ok2.lneg (by simp (disch := omega) only [lI0, lI1, lI2, lI3, lI4, lI5, lI7, lI8, lI9, lI10, lI11, lI12, lI15, lI16, lI17, lI20, lI24, lI32, lI33, lI40, lI63, lI64, lI80, lI82, lI101, lI110, lI115, lI251, lI255, lI256, lI384, lI16384, lI20000, lI32768, lI49152, lI65535, nI_add, pk_mul, pk_sub, pk_div, nI_leI, nI_ltI, nI_eq] <;> omega) (Ok2.rneg (by simp (disch := omega) only [lI0, lI1, lI2, lI3, lI4, lI5, lI7, lI8, lI9, lI10, lI11, lI12, lI15, lI16, lI17, lI20, lI24, lI32, lI33, lI40, lI63, lI64, lI80, lI82, lI101, lI110, lI115, lI251, lI255, lI256, lI384, lI16384, lI20000, lI32768, lI49152, lI65535, nI_add, pk_mul, pk_sub, pk_div, nI_leI, nI_ltI, nI_eq] <;> omega) (Ok2.bind (fun o k => o = k) ?_ (fun o k hok => Ok2.lbnd (Ok2.rbnd (K _ _ hc ⟨hok, (by first | (simp (disch := omega) only [lI0, lI1, lI2, lI3, lI4, lI5, lI7, lI8, lI9, lI10, lI11, lI12, lI15, lI16, lI17, lI20, lI24, lI32, lI33, lI40, lI63, lI64, lI80, lI82, lI101, lI110, lI115, lI251, lI255, lI256, lI384, lI16384, lI20000, lI32768, lI49152, lI65535, nI_add, pk_mul, pk_sub, pk_div] <;> (apply congrArg nI; omega)) | rfl), (by first | (simp (disch := omega) only [lI0, lI1, lI2, lI3, lI4, lI5, lI7, lI8, lI9, lI10, lI11, lI12, lI15, lI16, lI17, lI20, lI24, lI32, lI33, lI40, lI63, lI64, lI80, lI82, lI101, lI110, lI115, lI251, lI255, lI256, lI384, lI16384, lI20000, lI32768, lI49152, lI65535, nI_add, pk_mul, pk_sub, pk_div] <;> (apply congrArg nI; omega)) | rfl)⟩)))))
        refine Ok2.fix (fun x a b => a.1 = b.1 ∧ a.2 = nI x ∧ b.2 = nI x) w (by omega) ⟨rfl, rfl, rfl⟩ ?_
        rintro x ⟨a1, a2⟩ ⟨b1, b2⟩ s3 s4 hx ⟨e1, e2, e3⟩ K2
        dsimp only at e1 e2 e3 ⊢
        subst e1 e2 e3
        by_cases hc2 : x < w
        · refine Ok2.lneg (by simp (disch := omega) only [lI0, lI1, lI2, lI3, lI4, lI5, lI7, lI8, lI9, lI10, lI11, lI12, lI15, lI16, lI17, lI20, lI24, lI32, lI33, lI40, lI63, lI64, lI80, lI82, lI101, lI110, lI115, lI251, lI255, lI256, lI384, lI16384, lI20000, lI32768, lI49152, lI65535, nI_add, pk_mul, pk_sub, pk_div, nI_leI, nI_ltI, nI_eq] <;> omega) (Ok2.rneg (by simp (disch := omega) only [lI0, lI1, lI2, lI3, lI4, lI5, lI7, lI8, lI9, lI10, lI11, lI12, lI15, lI16, lI17, lI20, lI24, lI32, lI33, lI40, lI63, lI64, lI80, lI82, lI101, lI110, lI115, lI251, lI255, lI256, lI384, lI16384, lI20000, lI32768, lI49152, lI65535, nI_add, pk_mul, pk_sub, pk_div, nI_leI, nI_ltI, nI_eq] <;> omega) (Ok2.lrd (16 * y + x) (by first | (simp (disch := omega) only [lI0, lI1, lI2, lI3, lI4, lI5, lI7, lI8, lI9, lI10, lI11, lI12, lI15, lI16, lI17, lI20, lI24, lI32, lI33, lI40, lI63, lI64, lI80, lI82, lI101, lI110, lI115, lI251, lI255, lI256, lI384, lI16384, lI20000, lI32768, lI49152, lI65535, nI_add, pk_mul, pk_sub, pk_div] <;> (apply congrArg nI; omega)) | rfl) (by omega) (by decide) (Ok2.lrd (16 * y + x) (by first | (simp (disch := omega) only [lI0, lI1, lI2, lI3, lI4, lI5, lI7, lI8, lI9, lI10, lI11, lI12, lI15, lI16, lI17, lI20, lI24, lI32, lI33, lI40, lI63, lI64, lI80, lI82, lI101, lI110, lI115, lI251, lI255, lI256, lI384, lI16384, lI20000, lI32768, lI49152, lI65535, nI_add, pk_mul, pk_sub, pk_div] <;> (apply congrArg nI; omega)) | rfl) (by omega) (by decide) (Ok2.rE _ (eq_X5_at g2 g4 hc2 hc) (Ok2.rE _ (eq_X5_at g2 g4 hc2 hc) (Ok2.lbnd (Ok2.rbnd ?_)))))))
          rw [(h5 x y hc2 hc).1, ← (hR.1 x y hc2 hc).1]
          generalize pm (16 * y + x) - dm (16 * y + x) = d
          refine Ok2.ljn (fun _ => True) (fun k hk => ?_) (fun s _ => ?_)
          · by_cases g : 0 ≤ d
            · exact Ok2.lpos g (hk _ trivial)
            · exact Ok2.lneg g (hk _ trivial)
          · exact Ok2.ljnI (Ok2.lneg (by decide) (Ok2.lbnd (Ok2.rbnd (Ok2.rbnd (K2 _ _ hc2 ⟨rfl, (by first | (simp (disch := omega) only [lI0, lI1, lI2, lI3, lI4, lI5, lI7, lI8, lI9, lI10, lI11, lI12, lI15, lI16, lI17, lI20, lI24, lI32, lI33, lI40, lI63, lI64, lI80, lI82, lI101, lI110, lI115, lI251, lI255, lI256, lI384, lI16384, lI20000, lI32768, lI49152, lI65535, nI_add, pk_mul, pk_sub, pk_div] <;> (apply congrArg nI; omega)) | rfl), (by first | (simp (disch := omega) only [lI0, lI1, lI2, lI3, lI4, lI5, lI7, lI8, lI9, lI10, lI11, lI12, lI15, lI16, lI17, lI20, lI24, lI32, lI33, lI40, lI63, lI64, lI80, lI82, lI101, lI110, lI115, lI251, lI255, lI256, lI384, lI16384, lI20000, lI32768, lI49152, lI65535, nI_add, pk_mul, pk_sub, pk_div] <;> (apply congrArg nI; omega)) | rfl)⟩)))))
        · have hx2 : x = w := by omega
          subst hx2
          exact Ok2.lpos (by simp (disch := omega) only [lI0, lI1, lI2, lI3, lI4, lI5, lI7, lI8, lI9, lI10, lI11, lI12, lI15, lI16, lI17, lI20, lI24, lI32, lI33, lI40, lI63, lI64, lI80, lI82, lI101, lI110, lI115, lI251, lI255, lI256, lI384, lI16384, lI20000, lI32768, lI49152, lI65535, nI_add, pk_mul, pk_sub, pk_div, nI_leI, nI_ltI, nI_eq] <;> omega) (Ok2.rpos (by simp (disch := omega) only [lI0, lI1, lI2, lI3, lI4, lI5, lI7, lI8, lI9, lI10, lI11, lI12, lI15, lI16, lI17, lI20, lI24, lI32, lI33, lI40, lI63, lI64, lI80, lI82, lI101, lI110, lI115, lI251, lI255, lI256, lI384, lI16384, lI20000, lI32768, lI49152, lI65535, nI_add, pk_mul, pk_sub, pk_div, nI_leI, nI_ltI, nI_eq] <;> omega) (Ok2.some rfl))
      · have hy2 : y = h := by omega
        subst hy2
        exact Ok2.lpos (by simp (disch := omega) only [lI0, lI1, lI2, lI3, lI4, lI5, lI7, lI8, lI9, lI10, lI11, lI12, lI15, lI16, lI17, lI20, lI24, lI32, lI33, lI40, lI63, lI64, lI80, lI82, lI101, lI110, lI115, lI251, lI255, lI256, lI384, lI16384, lI20000, lI32768, lI49152, lI65535, nI_add, pk_mul, pk_sub, pk_div, nI_leI, nI_ltI, nI_eq] <;> omega) (Ok2.rpos (by simp (disch := omega) only [lI0, lI1, lI2, lI3, lI4, lI5, lI7, lI8, lI9, lI10, lI11, lI12, lI15, lI16, lI17, lI20, lI24, lI32, lI33, lI40, lI63, lI64, lI80, lI82, lI101, lI110, lI115, lI251, lI255, lI256, lI384, lI16384, lI20000, lI32768, lI49152, lI65535, nI_add, pk_mul, pk_sub, pk_div, nI_leI, nI_ltI, nI_eq] <;> omega) (Ok2.some rfl))
    · rw [if_neg h6, if_neg h6]
      exact Ok2.lneg (by decide) (Ok2.some (Or.inr (Or.inl ⟨rfl, rfl⟩)))
end DEC
