/-! ===== what is said of the last coding, both sides ===== -/
def codR (kind cdL cdH cdW cnt cH cW : Int32) (lC0 mC0 cC0 sC0 : Nat → Int32) (b0 : Int32) (q0 : Nat → Int32) (lC1 mC1 cC1 sC1 : Nat → Int32) (b1 : Int32) (q1 : Nat → Int32) (lC2 mC2 cC2 sC2 : Nat → Int32) (b2 : Int32) (q2 : Nat → Int32) (lM mM cM sM blocks parts : Nat → Int32) : Prop := (kind ≠ 1 ∧ cnt = 0) ∨ (kind = 1 ∧ ∃ nL w h, 1 ≤ nL ∧ nL ≤ 3 ∧ 1 ≤ w ∧ w ≤ 16 ∧ 1 ≤ h ∧ h ≤ 24 ∧ cdL = nI nL ∧ cnt = nI nL ∧ cdH = nI h ∧ cH = nI h ∧ cdW = nI w ∧ cW = nI w ∧ (0 < nL → lyP 0 (8 * ((w + 7) / 8)) ((h + 7) / 8) lC0 mC0 cC0 sC0 b0 q0 lM mM cM sM blocks parts) ∧ (1 < nL → lyP 1 (8 * ((w + 7) / 8)) ((h + 7) / 8) lC1 mC1 cC1 sC1 b1 q1 lM mM cM sM blocks parts) ∧ (2 < nL → lyP 2 (8 * ((w + 7) / 8)) ((h + 7) / 8) lC2 mC2 cC2 sC2 b2 q2 lM mM cM sM blocks parts))
theorem Ok2.rsel {α β : Type} {x : Option α} {a b c d : Option β} {R : α → β → Prop} {l : Nat} (hl : l < 3) (h0 : l = 0 → Ok2 x a R) (h1 : l = 1 → Ok2 x b R) (h2 : l = 2 → Ok2 x c R) : Ok2 x (if nI l = (0 : Int32) then a else if nI l = (1 : Int32) then b else if nI l = (2 : Int32) then c else d) R := by
  have h3 : l = 0 ∨ l = 1 ∨ l = 2 := by omega
  rcases h3 with rfl | rfl | rfl
  · exact Ok2.rpos rfl (h0 rfl)
  · exact Ok2.rneg (by decide) (Ok2.rpos rfl (h1 rfl))
  · exact Ok2.rneg (by decide) (Ok2.rneg (by decide) (Ok2.rpos rfl (h2 rfl)))
theorem cellN_lt24 {n x y : Nat} (hx : x < 16) (hy : y < 24) : cellN n x y < 24 := by
  unfold cellN
  split <;> omega
theorem eq_isLayer0 {a kind thr p0 : Int32} (hk : kind ≠ 1) : lf_X9_isLayer a kind thr p0 = some ((0 : Int32), (1 : Int32)) := by
  suffices hs : Ok (lf_X9_isLayer a kind thr p0) (fun o => o = ((0 : Int32), (1 : Int32))) by
    obtain ⟨o, h1, h2⟩ := hs
    rw [h1, h2]
  unfold lf_X9_isLayer
  exact Ok.jnI (Ok.neg hk (Ok.neg (by decide) (Ok.some rfl)))
theorem ok_isLayer1 {nL : Nat} {thr p0 : Int32} (hn : nL ≤ 3) : Ok (lf_X9_isLayer (nI nL) 1 thr p0) (fun o => o = (1, 0) ∧ inX nL p0 ∨ o = (0, 2) ∧ ¬ inX nL p0) := by
  unfold lf_X9_isLayer
  refine Ok.jnI (Ok.pos rfl (Ok.bind _ (ok_isInX (by omega)) ?_))
  rintro o (⟨rfl, hi⟩ | ⟨rfl, hi⟩)
  · exact Ok.neg (by decide) (Ok.pos rfl (Ok.some (Or.inl ⟨rfl, hi⟩)))
  · exact Ok.pos rfl (Ok.neg (by decide) (Ok.some (Or.inr ⟨rfl, hi⟩)))
theorem eq_reqLayer0 {p0 : Int32} : lf_X8_requireCodedLayer 0 p0 = some (.inl 3) := rfl
theorem ok_reqLayer1 {nL : Nat} {p0 : Int32} (h1 : 1 ≤ nL) (hn : nL ≤ 3) : Ok (lf_X8_requireCodedLayer (nI nL) p0) (fun o => o = .inr () ∧ inX nL p0 ∨ o = .inl 1 ∧ ¬ inX nL p0) := by
  unfold lf_X8_requireCodedLayer
  refine Ok.neg (by simp (disch := omega) only [lI0, lI1, lI2, lI3, lI4, lI5, lI7, lI8, lI9, lI10, lI11, lI12, lI15, lI16, lI17, lI20, lI24, lI32, lI33, lI40, lI63, lI64, lI80, lI82, lI101, lI110, lI115, lI251, lI255, lI256, lI384, lI16384, lI20000, lI32768, lI49152, lI65535, nI_add, pk_mul, pk_sub, pk_div, nI_leI, nI_ltI, nI_eq] <;> omega) (Ok.jnI ?_)
  rcases neg_or p0 with g | ⟨v, hv, rfl⟩
  · refine Ok.pos g (Ok.some (Or.inr ⟨rfl, ?_⟩))
    rintro ⟨v, h2, h4⟩
    exact neg_ne g (by omega) h4
  · refine Ok.neg (by simp (disch := omega) only [lI0, lI1, lI2, lI3, lI4, lI5, lI7, lI8, lI9, lI10, lI11, lI12, lI15, lI16, lI17, lI20, lI24, lI32, lI33, lI40, lI63, lI64, lI80, lI82, lI101, lI110, lI115, lI251, lI255, lI256, lI384, lI16384, lI20000, lI32768, lI49152, lI65535, nI_add, pk_mul, pk_sub, pk_div, nI_leI, nI_ltI, nI_eq] <;> omega) ?_
    by_cases h1 : v < nL
    · exact Ok.pos (by simp (disch := omega) only [lI0, lI1, lI2, lI3, lI4, lI5, lI7, lI8, lI9, lI10, lI11, lI12, lI15, lI16, lI17, lI20, lI24, lI32, lI33, lI40, lI63, lI64, lI80, lI82, lI101, lI110, lI115, lI251, lI255, lI256, lI384, lI16384, lI20000, lI32768, lI49152, lI65535, nI_add, pk_mul, pk_sub, pk_div, nI_leI, nI_ltI, nI_eq] <;> omega) (Ok.some (Or.inl ⟨rfl, v, h1, rfl⟩))
    · refine Ok.neg (by simp (disch := omega) only [lI0, lI1, lI2, lI3, lI4, lI5, lI7, lI8, lI9, lI10, lI11, lI12, lI15, lI16, lI17, lI20, lI24, lI32, lI33, lI40, lI63, lI64, lI80, lI82, lI101, lI110, lI115, lI251, lI255, lI256, lI384, lI16384, lI20000, lI32768, lI49152, lI65535, nI_add, pk_mul, pk_sub, pk_div, nI_leI, nI_ltI, nI_eq] <;> omega) (Ok.some (Or.inr ⟨rfl, ?_⟩))
      rintro ⟨v2, h2, h4⟩
      have := nI_inj hv (by omega) h4
      omega
theorem eq_isPlace0 {a b c kind thr p0 p1 p2 : Int32} (hk : kind ≠ 1) : lf_X9_isPlace a b c kind thr p0 p1 p2 = some ((0 : Int32), (1 : Int32)) := by
  unfold lf_X9_isPlace
  rw [eq_isLayer0 hk]
  rfl
theorem ok_isPlace1 {nL w h : Nat} {thr p0 p1 p2 : Int32} (hn : nL ≤ 3) (hw : w ≤ 16) (hh : h ≤ 24) : Ok (lf_X9_isPlace (nI h) (nI nL) (nI w) 1 thr p0 p1 p2) (fun o => o = (1, 0) ∧ (inX nL p0 ∧ inP w h p1 p2) ∨ o = (0, 2) ∧ ¬ (inX nL p0 ∧ inP w h p1 p2)) := by
  unfold lf_X9_isPlace
  refine Ok.bind _ (ok_isLayer1 hn) ?_
  rintro o (⟨rfl, hi⟩ | ⟨rfl, hi⟩)
  · refine Ok.jnI (Ok.neg (by decide) (Ok.bind _ (ok_isInX (by omega)) ?_))
    rintro o (⟨rfl, x, hx, rfl⟩ | ⟨rfl, hx⟩)
    · refine Ok.jnI (Ok.jnI (Ok.neg (by decide) (Ok.bind _ (ok_isInX (by omega)) ?_)))
      rintro o (⟨rfl, y, hy, rfl⟩ | ⟨rfl, hy⟩)
      · exact Ok.neg (by decide) (Ok.pos rfl (Ok.some (Or.inl ⟨rfl, hi, x, y, hx, hy, rfl, rfl⟩)))
      · refine Ok.pos rfl (Ok.neg (by decide) (Ok.some (Or.inr ⟨rfl, ?_⟩)))
        rintro ⟨-, x2, y2, h1, h2, h3, h4⟩
        exact hy ⟨y2, h2, h4⟩
    · refine Ok.jnI (Ok.jnI (Ok.pos rfl (Ok.neg (by decide) (Ok.some (Or.inr ⟨rfl, ?_⟩)))))
      rintro ⟨-, x2, y2, h1, h2, h3, h4⟩
      exact hx ⟨x2, h1, h3⟩
  · exact Ok.jnI (Ok.pos rfl (Ok.neg (by decide) (Ok.some (Or.inr ⟨rfl, fun h => hi h.1⟩))))
theorem eq_reqPix0 {a b p0 p1 p2 : Int32} : lf_X8_requireCodedPixel 0 a b p0 p1 p2 = some (.inl 3) := rfl
theorem ok_reqPix1 {nL w h : Nat} {p0 p1 p2 : Int32} (h1 : 1 ≤ nL) (hn : nL ≤ 3) (hw : w ≤ 16) (hh : h ≤ 24) : Ok (lf_X8_requireCodedPixel (nI nL) (nI h) (nI w) p0 p1 p2) (fun o => o = .inr () ∧ (inX nL p0 ∧ inP w h p1 p2) ∨ o = .inl 1 ∧ ¬ (inX nL p0 ∧ inP w h p1 p2)) := by
  unfold lf_X8_requireCodedPixel
  refine Ok.bind _ (ok_reqLayer1 h1 hn) ?_
  rintro o (⟨rfl, hi⟩ | ⟨rfl, hi⟩)
  · show Ok (jn _ _) _
    refine Ok.jnI ?_
    have hno : (¬ inP w h p1 p2) → (.inl 1 : Nat ⊕ Unit) = .inr () ∧ (inX nL p0 ∧ inP w h p1 p2) ∨ (.inl 1 : Nat ⊕ Unit) = .inl 1 ∧ ¬ (inX nL p0 ∧ inP w h p1 p2) := fun h2 => Or.inr ⟨rfl, fun h3 => h2 h3.2⟩
    rcases neg_or p1 with g | ⟨x, hx, rfl⟩
    · refine Ok.pos g (Ok.some (hno ?_))
      rintro ⟨x2, y2, h1, h2, h3, h4⟩
      exact neg_ne g (by omega) h3
    · refine Ok.neg (by simp (disch := omega) only [lI0, lI1, lI2, lI3, lI4, lI5, lI7, lI8, lI9, lI10, lI11, lI12, lI15, lI16, lI17, lI20, lI24, lI32, lI33, lI40, lI63, lI64, lI80, lI82, lI101, lI110, lI115, lI251, lI255, lI256, lI384, lI16384, lI20000, lI32768, lI49152, lI65535, nI_add, pk_mul, pk_sub, pk_div, nI_leI, nI_ltI, nI_eq] <;> omega) ?_
      by_cases hx2 : x < w
      · refine Ok.neg (by simp (disch := omega) only [lI0, lI1, lI2, lI3, lI4, lI5, lI7, lI8, lI9, lI10, lI11, lI12, lI15, lI16, lI17, lI20, lI24, lI32, lI33, lI40, lI63, lI64, lI80, lI82, lI101, lI110, lI115, lI251, lI255, lI256, lI384, lI16384, lI20000, lI32768, lI49152, lI65535, nI_add, pk_mul, pk_sub, pk_div, nI_leI, nI_ltI, nI_eq] <;> omega) ?_
        rcases neg_or p2 with g | ⟨y, hy, rfl⟩
        · refine Ok.pos g (Ok.some (hno ?_))
          rintro ⟨x2, y2, h1, h2, h3, h4⟩
          exact neg_ne g (by omega) h4
        · refine Ok.neg (by simp (disch := omega) only [lI0, lI1, lI2, lI3, lI4, lI5, lI7, lI8, lI9, lI10, lI11, lI12, lI15, lI16, lI17, lI20, lI24, lI32, lI33, lI40, lI63, lI64, lI80, lI82, lI101, lI110, lI115, lI251, lI255, lI256, lI384, lI16384, lI20000, lI32768, lI49152, lI65535, nI_add, pk_mul, pk_sub, pk_div, nI_leI, nI_ltI, nI_eq] <;> omega) ?_
          by_cases hy2 : y < h
          · exact Ok.pos (by simp (disch := omega) only [lI0, lI1, lI2, lI3, lI4, lI5, lI7, lI8, lI9, lI10, lI11, lI12, lI15, lI16, lI17, lI20, lI24, lI32, lI33, lI40, lI63, lI64, lI80, lI82, lI101, lI110, lI115, lI251, lI255, lI256, lI384, lI16384, lI20000, lI32768, lI49152, lI65535, nI_add, pk_mul, pk_sub, pk_div, nI_leI, nI_ltI, nI_eq] <;> omega) (Ok.some (Or.inl ⟨rfl, hi, x, y, hx2, hy2, rfl, rfl⟩))
          · refine Ok.neg (by simp (disch := omega) only [lI0, lI1, lI2, lI3, lI4, lI5, lI7, lI8, lI9, lI10, lI11, lI12, lI15, lI16, lI17, lI20, lI24, lI32, lI33, lI40, lI63, lI64, lI80, lI82, lI101, lI110, lI115, lI251, lI255, lI256, lI384, lI16384, lI20000, lI32768, lI49152, lI65535, nI_add, pk_mul, pk_sub, pk_div, nI_leI, nI_ltI, nI_eq] <;> omega) (Ok.some (hno ?_))
            rintro ⟨x2, y2, h1, h2, h3, h4⟩
            have := nI_inj hy (by omega) h4
            omega
      · refine Ok.pos (by simp (disch := omega) only [lI0, lI1, lI2, lI3, lI4, lI5, lI7, lI8, lI9, lI10, lI11, lI12, lI15, lI16, lI17, lI20, lI24, lI32, lI33, lI40, lI63, lI64, lI80, lI82, lI101, lI110, lI115, lI251, lI255, lI256, lI384, lI16384, lI20000, lI32768, lI49152, lI65535, nI_add, pk_mul, pk_sub, pk_div, nI_leI, nI_ltI, nI_eq] <;> omega) (Ok.some (hno ?_))
        rintro ⟨x2, y2, h1, h2, h3, h4⟩
        have := nI_inj hx (by omega) h3
        omega
  · exact Ok.some (Or.inr ⟨rfl, fun h => hi h.1⟩)
section COD
variable {kind cdL cdH cdW cnt cH cW thr p0 p1 p2 b0 b1 b2 : Int32} {lC0 mC0 cC0 sC0 q0 lC1 mC1 cC1 sC1 q1 lC2 mC2 cC2 sC2 q2 lM mM cM sM blocks parts : Nat → Int32}
theorem okc_blockSize (hC : codR kind cdL cdH cdW cnt cH cW lC0 mC0 cC0 sC0 b0 q0 lC1 mC1 cC1 sC1 b1 q1 lC2 mC2 cC2 sC2 b2 q2 lM mM cM sM blocks parts) : Ok2 (lf_X9_blockSize cdH cdL cdW kind thr sM p0 p1 p2) (lf_X8_blockSize cnt cH cW sC0 sC1 sC2 p0 p1 p2) (fun o k => (k = .inl 3 ∧ o.2 = 1) ∨ (k = .inl 1 ∧ o.2 = 2) ∨ ∃ v, k = .inr v ∧ o = (v, 0)) := by
  unfold lf_X9_blockSize lf_X8_blockSize
  rcases hC with ⟨hk, rfl⟩ | ⟨rfl, nL, w, h, n1, n2, w1, w2, h1, h2, rfl, rfl, rfl, rfl, rfl, rfl, y0, y1, y2⟩
  · exact Ok2.lE _ (eq_isPlace0 hk) (Ok2.rE _ eq_reqPix0 (Ok2.lpos rfl (Ok2.some (Or.inl ⟨rfl, rfl⟩))))
  · refine Ok2.dec (ok_isPlace1 n2 w2 h2) (ok_reqPix1 n1 n2 w2 h2) (fun hin => ?_) (fun _ => Ok2.lpos rfl (Ok2.some (Or.inr (Or.inl ⟨rfl, rfl⟩))))
    obtain ⟨⟨l, hl, rfl⟩, x, y, hx, hy, rfl, rfl⟩ := hin
    refine Ok2.lneg (by decide) (Ok2.lrd (384 * l + (16 * y + x)) (by first | (simp (disch := omega) only [lI0, lI1, lI2, lI3, lI4, lI5, lI7, lI8, lI9, lI10, lI11, lI12, lI15, lI16, lI17, lI20, lI24, lI32, lI33, lI40, lI63, lI64, lI80, lI82, lI101, lI110, lI115, lI251, lI255, lI256, lI384, lI16384, lI20000, lI32768, lI49152, lI65535, nI_add, pk_mul, pk_sub, pk_div] <;> (apply congrArg nI; omega)) | rfl) (by omega) (by decide) ?_)
    show Ok2 _ (ite _ _ _) _
    refine Ok2.rsel (by omega : l < 3) (fun e => ?_) (fun e => ?_) (fun e => ?_)
    · subst e
      obtain ⟨⟨a1, a2, a3, a4⟩, m, hm, a5⟩ := (y0 hl).1 x y (by omega) (by omega)
      refine Ok2.rE _ (eq_X4_sizeAt rfl rfl (by omega) (by omega)) ?_
      rw [a2]
      exact Ok2.some (Or.inr (Or.inr ⟨_, rfl, rfl⟩))
    · subst e
      obtain ⟨⟨a1, a2, a3, a4⟩, m, hm, a5⟩ := (y1 hl).1 x y (by omega) (by omega)
      refine Ok2.rE _ (eq_X4_sizeAt rfl rfl (by omega) (by omega)) ?_
      rw [a2]
      exact Ok2.some (Or.inr (Or.inr ⟨_, rfl, rfl⟩))
    · subst e
      obtain ⟨⟨a1, a2, a3, a4⟩, m, hm, a5⟩ := (y2 hl).1 x y (by omega) (by omega)
      refine Ok2.rE _ (eq_X4_sizeAt rfl rfl (by omega) (by omega)) ?_
      rw [a2]
      exact Ok2.some (Or.inr (Or.inr ⟨_, rfl, rfl⟩))
theorem okc_level (hC : codR kind cdL cdH cdW cnt cH cW lC0 mC0 cC0 sC0 b0 q0 lC1 mC1 cC1 sC1 b1 q1 lC2 mC2 cC2 sC2 b2 q2 lM mM cM sM blocks parts) : Ok2 (lf_X9_level cdH cdL cdW kind thr lM p0 p1 p2) (lf_X8_level cnt cH cW lC0 lC1 lC2 p0 p1 p2) (fun o k => (k = .inl 3 ∧ o.2 = 1) ∨ (k = .inl 1 ∧ o.2 = 2) ∨ ∃ v, k = .inr v ∧ o = (v, 0)) := by
  unfold lf_X9_level lf_X8_level
  rcases hC with ⟨hk, rfl⟩ | ⟨rfl, nL, w, h, n1, n2, w1, w2, h1, h2, rfl, rfl, rfl, rfl, rfl, rfl, y0, y1, y2⟩
  · exact Ok2.lE _ (eq_isPlace0 hk) (Ok2.rE _ eq_reqPix0 (Ok2.lpos rfl (Ok2.some (Or.inl ⟨rfl, rfl⟩))))
  · refine Ok2.dec (ok_isPlace1 n2 w2 h2) (ok_reqPix1 n1 n2 w2 h2) (fun hin => ?_) (fun _ => Ok2.lpos rfl (Ok2.some (Or.inr (Or.inl ⟨rfl, rfl⟩))))
    obtain ⟨⟨l, hl, rfl⟩, x, y, hx, hy, rfl, rfl⟩ := hin
    refine Ok2.lneg (by decide) (Ok2.lrd (384 * l + (16 * y + x)) (by first | (simp (disch := omega) only [lI0, lI1, lI2, lI3, lI4, lI5, lI7, lI8, lI9, lI10, lI11, lI12, lI15, lI16, lI17, lI20, lI24, lI32, lI33, lI40, lI63, lI64, lI80, lI82, lI101, lI110, lI115, lI251, lI255, lI256, lI384, lI16384, lI20000, lI32768, lI49152, lI65535, nI_add, pk_mul, pk_sub, pk_div] <;> (apply congrArg nI; omega)) | rfl) (by omega) (by decide) ?_)
    show Ok2 _ (ite _ _ _) _
    refine Ok2.rsel (by omega : l < 3) (fun e => ?_) (fun e => ?_) (fun e => ?_)
    · subst e
      obtain ⟨⟨a1, a2, a3, a4⟩, m, hm, a5⟩ := (y0 hl).1 x y (by omega) (by omega)
      refine Ok2.rrd (16 * y + x) (by first | (simp (disch := omega) only [lI0, lI1, lI2, lI3, lI4, lI5, lI7, lI8, lI9, lI10, lI11, lI12, lI15, lI16, lI17, lI20, lI24, lI32, lI33, lI40, lI63, lI64, lI80, lI82, lI101, lI110, lI115, lI251, lI255, lI256, lI384, lI16384, lI20000, lI32768, lI49152, lI65535, nI_add, pk_mul, pk_sub, pk_div] <;> (apply congrArg nI; omega)) | rfl) (by omega) (by decide) ?_
      rw [a1]
      exact Ok2.some (Or.inr (Or.inr ⟨_, rfl, rfl⟩))
    · subst e
      obtain ⟨⟨a1, a2, a3, a4⟩, m, hm, a5⟩ := (y1 hl).1 x y (by omega) (by omega)
      refine Ok2.rrd (16 * y + x) (by first | (simp (disch := omega) only [lI0, lI1, lI2, lI3, lI4, lI5, lI7, lI8, lI9, lI10, lI11, lI12, lI15, lI16, lI17, lI20, lI24, lI32, lI33, lI40, lI63, lI64, lI80, lI82, lI101, lI110, lI115, lI251, lI255, lI256, lI384, lI16384, lI20000, lI32768, lI49152, lI65535, nI_add, pk_mul, pk_sub, pk_div] <;> (apply congrArg nI; omega)) | rfl) (by omega) (by decide) ?_
      rw [a1]
      exact Ok2.some (Or.inr (Or.inr ⟨_, rfl, rfl⟩))
    · subst e
      obtain ⟨⟨a1, a2, a3, a4⟩, m, hm, a5⟩ := (y2 hl).1 x y (by omega) (by omega)
      refine Ok2.rrd (16 * y + x) (by first | (simp (disch := omega) only [lI0, lI1, lI2, lI3, lI4, lI5, lI7, lI8, lI9, lI10, lI11, lI12, lI15, lI16, lI17, lI20, lI24, lI32, lI33, lI40, lI63, lI64, lI80, lI82, lI101, lI110, lI115, lI251, lI255, lI256, lI384, lI16384, lI20000, lI32768, lI49152, lI65535, nI_add, pk_mul, pk_sub, pk_div] <;> (apply congrArg nI; omega)) | rfl) (by omega) (by decide) ?_
      rw [a1]
      exact Ok2.some (Or.inr (Or.inr ⟨_, rfl, rfl⟩))
theorem okc_cost (hC : codR kind cdL cdH cdW cnt cH cW lC0 mC0 cC0 sC0 b0 q0 lC1 mC1 cC1 sC1 b1 q1 lC2 mC2 cC2 sC2 b2 q2 lM mM cM sM blocks parts) : Ok2 (lf_X9_cost cdH cdL cdW kind thr cM p0 p1 p2) (lf_X8_cost cnt cH cW cC0 sC0 cC1 sC1 cC2 sC2 p0 p1 p2) (fun o k => (k = .inl 3 ∧ o.2 = 1) ∨ (k = .inl 1 ∧ o.2 = 2) ∨ ∃ v, k = .inr v ∧ o = (v, 0)) := by
  unfold lf_X9_cost lf_X8_cost
  rcases hC with ⟨hk, rfl⟩ | ⟨rfl, nL, w, h, n1, n2, w1, w2, h1, h2, rfl, rfl, rfl, rfl, rfl, rfl, y0, y1, y2⟩
  · exact Ok2.lE _ (eq_isPlace0 hk) (Ok2.rE _ eq_reqPix0 (Ok2.lpos rfl (Ok2.some (Or.inl ⟨rfl, rfl⟩))))
  · refine Ok2.dec (ok_isPlace1 n2 w2 h2) (ok_reqPix1 n1 n2 w2 h2) (fun hin => ?_) (fun _ => Ok2.lpos rfl (Ok2.some (Or.inr (Or.inl ⟨rfl, rfl⟩))))
    obtain ⟨⟨l, hl, rfl⟩, x, y, hx, hy, rfl, rfl⟩ := hin
    refine Ok2.lneg (by decide) (Ok2.lrd (384 * l + (16 * y + x)) (by first | (simp (disch := omega) only [lI0, lI1, lI2, lI3, lI4, lI5, lI7, lI8, lI9, lI10, lI11, lI12, lI15, lI16, lI17, lI20, lI24, lI32, lI33, lI40, lI63, lI64, lI80, lI82, lI101, lI110, lI115, lI251, lI255, lI256, lI384, lI16384, lI20000, lI32768, lI49152, lI65535, nI_add, pk_mul, pk_sub, pk_div] <;> (apply congrArg nI; omega)) | rfl) (by omega) (by decide) ?_)
    show Ok2 _ (ite _ _ _) _
    refine Ok2.rsel (by omega : l < 3) (fun e => ?_) (fun e => ?_) (fun e => ?_)
    · subst e
      obtain ⟨⟨a1, a2, a3, a4⟩, m, hm, a5⟩ := (y0 hl).1 x y (by omega) (by omega)
      refine (Ok2.rsel (by omega : 0 < 3) (fun e => ?_) (fun e => ?_) (fun e => ?_) : Ok2 _ (if nI 0 = (0 : Int32) then _ else if nI 0 = (1 : Int32) then _ else if nI 0 = (2 : Int32) then _ else _) _)
      · skip
        refine Ok2.rE _ (eq_X4_firstCell rfl rfl (by omega) (by omega)) (Ok2.rrd (cellN (szN sC0 x y) x y) rfl (cellN_lt24 (by omega) (by omega)) (by decide) ?_)
        rw [a4]
        exact Ok2.some (Or.inr (Or.inr ⟨_, rfl, rfl⟩))
      · exact absurd e (by decide)
      · exact absurd e (by decide)
    · subst e
      obtain ⟨⟨a1, a2, a3, a4⟩, m, hm, a5⟩ := (y1 hl).1 x y (by omega) (by omega)
      refine (Ok2.rsel (by omega : 1 < 3) (fun e => ?_) (fun e => ?_) (fun e => ?_) : Ok2 _ (if nI 1 = (0 : Int32) then _ else if nI 1 = (1 : Int32) then _ else if nI 1 = (2 : Int32) then _ else _) _)
      · exact absurd e (by decide)
      · skip
        refine Ok2.rE _ (eq_X4_firstCell rfl rfl (by omega) (by omega)) (Ok2.rrd (cellN (szN sC1 x y) x y) rfl (cellN_lt24 (by omega) (by omega)) (by decide) ?_)
        rw [a4]
        exact Ok2.some (Or.inr (Or.inr ⟨_, rfl, rfl⟩))
      · exact absurd e (by decide)
    · subst e
      obtain ⟨⟨a1, a2, a3, a4⟩, m, hm, a5⟩ := (y2 hl).1 x y (by omega) (by omega)
      refine (Ok2.rsel (by omega : 2 < 3) (fun e => ?_) (fun e => ?_) (fun e => ?_) : Ok2 _ (if nI 2 = (0 : Int32) then _ else if nI 2 = (1 : Int32) then _ else if nI 2 = (2 : Int32) then _ else _) _)
      · exact absurd e (by decide)
      · exact absurd e (by decide)
      · skip
        refine Ok2.rE _ (eq_X4_firstCell rfl rfl (by omega) (by omega)) (Ok2.rrd (cellN (szN sC2 x y) x y) rfl (cellN_lt24 (by omega) (by omega)) (by decide) ?_)
        rw [a4]
        exact Ok2.some (Or.inr (Or.inr ⟨_, rfl, rfl⟩))
theorem okc_mode (hC : codR kind cdL cdH cdW cnt cH cW lC0 mC0 cC0 sC0 b0 q0 lC1 mC1 cC1 sC1 b1 q1 lC2 mC2 cC2 sC2 b2 q2 lM mM cM sM blocks parts) : Ok2 (lf_X9_mode cdH cdL cdW kind thr mM p0 p1 p2) (lf_X8_mode cnt cH cW mC0 sC0 mC1 sC1 mC2 sC2 p0 p1 p2) (fun o k => (k = .inl 3 ∧ o.2 = 1) ∨ (k = .inl 1 ∧ o.2 = 2) ∨ ∃ v, k = .inr v ∧ o = (v, 0)) := by
  unfold lf_X9_mode lf_X8_mode
  rcases hC with ⟨hk, rfl⟩ | ⟨rfl, nL, w, h, n1, n2, w1, w2, h1, h2, rfl, rfl, rfl, rfl, rfl, rfl, y0, y1, y2⟩
  · exact Ok2.lE _ (eq_isPlace0 hk) (Ok2.rE _ eq_reqPix0 (Ok2.ljnI (Ok2.lpos rfl (Ok2.lpos rfl (Ok2.some (Or.inl ⟨rfl, rfl⟩))))))
  · refine Ok2.dec (ok_isPlace1 n2 w2 h2) (ok_reqPix1 n1 n2 w2 h2) (fun hin => ?_) (fun _ => Ok2.ljnI (Ok2.lpos rfl (Ok2.lpos rfl (Ok2.some (Or.inr (Or.inl ⟨rfl, rfl⟩))))))
    obtain ⟨⟨l, hl, rfl⟩, x, y, hx, hy, rfl, rfl⟩ := hin
    refine Ok2.ljnI (Ok2.lneg (by decide) (Ok2.lrd (384 * l + (16 * y + x)) (by first | (simp (disch := omega) only [lI0, lI1, lI2, lI3, lI4, lI5, lI7, lI8, lI9, lI10, lI11, lI12, lI15, lI16, lI17, lI20, lI24, lI32, lI33, lI40, lI63, lI64, lI80, lI82, lI101, lI110, lI115, lI251, lI255, lI256, lI384, lI16384, lI20000, lI32768, lI49152, lI65535, nI_add, pk_mul, pk_sub, pk_div] <;> (apply congrArg nI; omega)) | rfl) (by omega) (by decide) ?_))
    show Ok2 _ (ite _ _ _) _
    refine Ok2.rsel (by omega : l < 3) (fun e => ?_) (fun e => ?_) (fun e => ?_)
    · subst e
      obtain ⟨⟨a1, a2, a3, a4⟩, m, hm, a5⟩ := (y0 hl).1 x y (by omega) (by omega)
      refine (Ok2.rsel (by omega : 0 < 3) (fun e => ?_) (fun e => ?_) (fun e => ?_) : Ok2 _ (if nI 0 = (0 : Int32) then _ else if nI 0 = (1 : Int32) then _ else if nI 0 = (2 : Int32) then _ else _) _)
      · skip
        refine Ok2.rE _ (eq_X4_firstCell rfl rfl (by omega) (by omega)) (Ok2.rrd (cellN (szN sC0 x y) x y) rfl (cellN_lt24 (by omega) (by omega)) (by decide) ?_)
        rw [← a3, a5]
        have hm4 : m = 0 ∨ m = 1 ∨ m = 2 ∨ m = 3 := by omega
        rcases hm4 with rfl | rfl | rfl | rfl
        · exact Ok2.rrd 0 rfl (by decide) (by decide) (Ok2.rpos (by decide) (Ok2.lpos rfl (Ok2.some (Or.inr (Or.inr ⟨_, rfl, rfl⟩)))))
        · exact Ok2.rrd 1 rfl (by decide) (by decide) (Ok2.rpos (by decide) (Ok2.lneg (by decide) (Ok2.lpos rfl (Ok2.some (Or.inr (Or.inr ⟨_, rfl, rfl⟩))))))
        · exact Ok2.rrd 2 rfl (by decide) (by decide) (Ok2.rpos (by decide) (Ok2.lneg (by decide) (Ok2.lneg (by decide) (Ok2.lpos rfl (Ok2.some (Or.inr (Or.inr ⟨_, rfl, rfl⟩)))))))
        · exact Ok2.rrd 3 rfl (by decide) (by decide) (Ok2.rpos (by decide) (Ok2.lneg (by decide) (Ok2.lneg (by decide) (Ok2.lneg (by decide) (Ok2.some (Or.inr (Or.inr ⟨_, rfl, rfl⟩)))))))
      · exact absurd e (by decide)
      · exact absurd e (by decide)
    · subst e
      obtain ⟨⟨a1, a2, a3, a4⟩, m, hm, a5⟩ := (y1 hl).1 x y (by omega) (by omega)
      refine (Ok2.rsel (by omega : 1 < 3) (fun e => ?_) (fun e => ?_) (fun e => ?_) : Ok2 _ (if nI 1 = (0 : Int32) then _ else if nI 1 = (1 : Int32) then _ else if nI 1 = (2 : Int32) then _ else _) _)
      · exact absurd e (by decide)
      · skip
        refine Ok2.rE _ (eq_X4_firstCell rfl rfl (by omega) (by omega)) (Ok2.rrd (cellN (szN sC1 x y) x y) rfl (cellN_lt24 (by omega) (by omega)) (by decide) ?_)
        rw [← a3, a5]
        have hm4 : m = 0 ∨ m = 1 ∨ m = 2 ∨ m = 3 := by omega
        rcases hm4 with rfl | rfl | rfl | rfl
        · exact Ok2.rrd 0 rfl (by decide) (by decide) (Ok2.rpos (by decide) (Ok2.lpos rfl (Ok2.some (Or.inr (Or.inr ⟨_, rfl, rfl⟩)))))
        · exact Ok2.rrd 1 rfl (by decide) (by decide) (Ok2.rpos (by decide) (Ok2.lneg (by decide) (Ok2.lpos rfl (Ok2.some (Or.inr (Or.inr ⟨_, rfl, rfl⟩))))))
        · exact Ok2.rrd 2 rfl (by decide) (by decide) (Ok2.rpos (by decide) (Ok2.lneg (by decide) (Ok2.lneg (by decide) (Ok2.lpos rfl (Ok2.some (Or.inr (Or.inr ⟨_, rfl, rfl⟩)))))))
        · exact Ok2.rrd 3 rfl (by decide) (by decide) (Ok2.rpos (by decide) (Ok2.lneg (by decide) (Ok2.lneg (by decide) (Ok2.lneg (by decide) (Ok2.some (Or.inr (Or.inr ⟨_, rfl, rfl⟩)))))))
      · exact absurd e (by decide)
    · subst e
      obtain ⟨⟨a1, a2, a3, a4⟩, m, hm, a5⟩ := (y2 hl).1 x y (by omega) (by omega)
      refine (Ok2.rsel (by omega : 2 < 3) (fun e => ?_) (fun e => ?_) (fun e => ?_) : Ok2 _ (if nI 2 = (0 : Int32) then _ else if nI 2 = (1 : Int32) then _ else if nI 2 = (2 : Int32) then _ else _) _)
      · exact absurd e (by decide)
      · exact absurd e (by decide)
      · skip
        refine Ok2.rE _ (eq_X4_firstCell rfl rfl (by omega) (by omega)) (Ok2.rrd (cellN (szN sC2 x y) x y) rfl (cellN_lt24 (by omega) (by omega)) (by decide) ?_)
        rw [← a3, a5]
        have hm4 : m = 0 ∨ m = 1 ∨ m = 2 ∨ m = 3 := by omega
        rcases hm4 with rfl | rfl | rfl | rfl
        · exact Ok2.rrd 0 rfl (by decide) (by decide) (Ok2.rpos (by decide) (Ok2.lpos rfl (Ok2.some (Or.inr (Or.inr ⟨_, rfl, rfl⟩)))))
        · exact Ok2.rrd 1 rfl (by decide) (by decide) (Ok2.rpos (by decide) (Ok2.lneg (by decide) (Ok2.lpos rfl (Ok2.some (Or.inr (Or.inr ⟨_, rfl, rfl⟩))))))
        · exact Ok2.rrd 2 rfl (by decide) (by decide) (Ok2.rpos (by decide) (Ok2.lneg (by decide) (Ok2.lneg (by decide) (Ok2.lpos rfl (Ok2.some (Or.inr (Or.inr ⟨_, rfl, rfl⟩)))))))
        · exact Ok2.rrd 3 rfl (by decide) (by decide) (Ok2.rpos (by decide) (Ok2.lneg (by decide) (Ok2.lneg (by decide) (Ok2.lneg (by decide) (Ok2.some (Or.inr (Or.inr ⟨_, rfl, rfl⟩)))))))
theorem okc_blocks (hC : codR kind cdL cdH cdW cnt cH cW lC0 mC0 cC0 sC0 b0 q0 lC1 mC1 cC1 sC1 b1 q1 lC2 mC2 cC2 sC2 b2 q2 lM mM cM sM blocks parts) : Ok2 (lf_X9_blocks cdL kind thr blocks p0) (lf_X8_blocks cnt b0 b1 b2 p0) (fun o k => (k = .inl 3 ∧ o.2 = 1) ∨ (k = .inl 1 ∧ o.2 = 2) ∨ ∃ v, k = .inr v ∧ o = (v, 0)) := by
  unfold lf_X9_blocks lf_X8_blocks
  rcases hC with ⟨hk, rfl⟩ | ⟨rfl, nL, w, h, n1, n2, w1, w2, h1, h2, rfl, rfl, rfl, rfl, rfl, rfl, y0, y1, y2⟩
  · exact Ok2.lE _ (eq_isLayer0 hk) (Ok2.rE _ eq_reqLayer0 (Ok2.lpos rfl (Ok2.some (Or.inl ⟨rfl, rfl⟩))))
  · refine Ok2.dec (ok_isLayer1 n2) (ok_reqLayer1 n1 n2) (fun hin => ?_) (fun _ => Ok2.lpos rfl (Ok2.some (Or.inr (Or.inl ⟨rfl, rfl⟩))))
    obtain ⟨l, hl, rfl⟩ := hin
    refine Ok2.lneg (by decide) (Ok2.lrd l rfl (by omega) (by decide) ?_)
    show Ok2 _ (ite _ _ _) _
    refine Ok2.rsel (by omega : l < 3) (fun e => ?_) (fun e => ?_) (fun e => ?_)
    · subst e
      rw [(y0 hl).2.1]
      exact Ok2.some (Or.inr (Or.inr ⟨_, rfl, rfl⟩))
    · subst e
      rw [(y1 hl).2.1]
      exact Ok2.some (Or.inr (Or.inr ⟨_, rfl, rfl⟩))
    · subst e
      rw [(y2 hl).2.1]
      exact Ok2.some (Or.inr (Or.inr ⟨_, rfl, rfl⟩))
theorem okc_partSize (hC : codR kind cdL cdH cdW cnt cH cW lC0 mC0 cC0 sC0 b0 q0 lC1 mC1 cC1 sC1 b1 q1 lC2 mC2 cC2 sC2 b2 q2 lM mM cM sM blocks parts) : Ok2 (lf_X9_partSize cdH cdL kind thr parts p0 p1) (lf_X8_partSize cnt cH q0 q1 q2 p0 p1) (fun o k => (k = .inl 3 ∧ o.2 = 1) ∨ (k = .inl 1 ∧ o.2 = 2) ∨ ∃ v, k = .inr v ∧ o = (v, 0)) := by
  unfold lf_X9_partSize lf_X8_partSize
  rcases hC with ⟨hk, rfl⟩ | ⟨rfl, nL, w, h, n1, n2, w1, w2, h1, h2, rfl, rfl, rfl, rfl, rfl, rfl, y0, y1, y2⟩
  · exact Ok2.lE _ (eq_isLayer0 hk) (Ok2.rE _ eq_reqLayer0 (Ok2.ljnI (Ok2.lpos rfl (Ok2.lneg (by decide) (Ok2.some (Or.inl ⟨rfl, rfl⟩))))))
  · refine Ok2.dec (ok_isLayer1 n2) (ok_reqLayer1 n1 n2) (fun hin => ?_) (fun _ => Ok2.ljnI (Ok2.lpos rfl (Ok2.lneg (by decide) (Ok2.some (Or.inr (Or.inl ⟨rfl, rfl⟩))))))
    obtain ⟨l, hl, rfl⟩ := hin
    refine Ok2.ljnI (Ok2.lneg (by decide) ?_)
    rw [show (nI h + (7 : Int32)) / (8 : Int32) = nI ((h + 7) / 8) from (by first | (simp (disch := omega) only [lI0, lI1, lI2, lI3, lI4, lI5, lI7, lI8, lI9, lI10, lI11, lI12, lI15, lI16, lI17, lI20, lI24, lI32, lI33, lI40, lI63, lI64, lI80, lI82, lI101, lI110, lI115, lI251, lI255, lI256, lI384, lI16384, lI20000, lI32768, lI49152, lI65535, nI_add, pk_mul, pk_sub, pk_div] <;> (apply congrArg nI; omega)) | rfl)]
    show Ok2 _ ((lf_X8_requireSlice p1 (nI h)).bind _) _
    refine Ok2.dec (ok_isInX (by omega)) (ok_reqSlice h2) (fun hin => ?_) (fun _ => Ok2.ljnI (Ok2.lpos rfl (Ok2.lneg (by decide) (Ok2.some (Or.inr (Or.inl ⟨rfl, rfl⟩))))))
    obtain ⟨s, hs, rfl⟩ := hin
    refine Ok2.ljnI (Ok2.lneg (by decide) (Ok2.lpos rfl (Ok2.lrd (3 * l + s) (by first | (simp (disch := omega) only [lI0, lI1, lI2, lI3, lI4, lI5, lI7, lI8, lI9, lI10, lI11, lI12, lI15, lI16, lI17, lI20, lI24, lI32, lI33, lI40, lI63, lI64, lI80, lI82, lI101, lI110, lI115, lI251, lI255, lI256, lI384, lI16384, lI20000, lI32768, lI49152, lI65535, nI_add, pk_mul, pk_sub, pk_div] <;> (apply congrArg nI; omega)) | rfl) (by omega) (by decide) ?_)))
    show Ok2 _ (ite _ _ _) _
    refine Ok2.rsel (by omega : l < 3) (fun e => ?_) (fun e => ?_) (fun e => ?_)
    · subst e
      refine Ok2.rrd s rfl (by omega) (by decide) ?_
      rw [(y0 hl).2.2 s hs]
      exact Ok2.some (Or.inr (Or.inr ⟨_, rfl, rfl⟩))
    · subst e
      refine Ok2.rrd s rfl (by omega) (by decide) ?_
      rw [(y1 hl).2.2 s hs]
      exact Ok2.some (Or.inr (Or.inr ⟨_, rfl, rfl⟩))
    · subst e
      refine Ok2.rrd s rfl (by omega) (by decide) ?_
      rw [(y2 hl).2.2 s hs]
      exact Ok2.some (Or.inr (Or.inr ⟨_, rfl, rfl⟩))
end COD
