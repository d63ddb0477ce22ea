/-! ===== a part with its head ===== -/
theorem ok_fill {n : Nat} {t : Nat → Int32} {x : Int32} (hn : n < 100000) : Ok (lf_J7_fill_53178 n t x) (fun o => (∀ k, k < n → o k = x) ∧ ∀ k, n ≤ k → o k = t k) := by
  unfold lf_J7_fill_53178
  refine Ok.bnd ?_
  rw [show Int32.ofNat n = nI n from rfl]
  refine Ok.bind (fun o => (∀ k, k < n → o k = x) ∧ ∀ k, n ≤ k → o k = t k) (Ok.fix (fun k z => z.1 = nI k ∧ (∀ j, j < k → z.2 j = x) ∧ ∀ j, k ≤ j → z.2 j = t j) n (by omega) ⟨rfl, fun j hj => absurd hj (by omega), fun j _ => rfl⟩ ?_) (fun o ho => Ok.some ho)
  rintro k ⟨x2, g3⟩ self hk ⟨h1, h2, h3⟩ K
  dsimp only at h1 h2 h3 ⊢
  subst h1
  by_cases hc : k < n
  · refine Ok.neg (by simp (disch := omega) only [lI0, lI1, lI2, lI3, lI4, lI5, lI7, lI8, lI9, lI10, lI11, lI12, lI15, lI16, lI17, lI20, lI24, lI32, lI33, lI40, lI63, lI64, lI80, lI82, lI101, lI110, lI115, lI251, lI255, lI256, lI384, lI16384, lI20000, lI32768, lI49152, lI65535, nI_add, pk_mul, pk_sub, pk_div, nI_leI, nI_ltI, nI_eq] <;> omega) (Ok.wr k rfl hc (by omega) (Ok.bnd (K _ hc ⟨(by first | (simp (disch := omega) only [lI0, lI1, lI2, lI3, lI4, lI5, lI7, lI8, lI9, lI10, lI11, lI12, lI15, lI16, lI17, lI20, lI24, lI32, lI33, lI40, lI63, lI64, lI80, lI82, lI101, lI110, lI115, lI251, lI255, lI256, lI384, lI16384, lI20000, lI32768, lI49152, lI65535, nI_add, pk_mul, pk_sub, pk_div] <;> (apply congrArg nI; omega)) | rfl), fun j hj => ?_, fun j hj => ?_⟩)))
    · dsimp only
      by_cases h : j = k
      · rw [h, upd_eq]
      · rw [upd_ne h]
        exact h2 j (by omega)
    · dsimp only
      rw [upd_ne (by omega)]
      exact h3 j (by omega)
  · have hk2 : k = n := by omega
    subst hk2
    exact Ok.pos (by simp (disch := omega) only [lI0, lI1, lI2, lI3, lI4, lI5, lI7, lI8, lI9, lI10, lI11, lI12, lI15, lI16, lI17, lI20, lI24, lI32, lI33, lI40, lI63, lI64, lI80, lI82, lI101, lI110, lI115, lI251, lI255, lI256, lI384, lI16384, lI20000, lI32768, lI49152, lI65535, nI_add, pk_mul, pk_sub, pk_div, nI_leI, nI_ltI, nI_eq] <;> omega) (Ok.some ⟨h2, h3⟩)
theorem ok_X2_start {a b c d : Int32} {on ze : Nat → Int32} : Ok (lf_X2_start a b c d on ze) (fun o => o.1 = 0 ∧ o.2.1 = 65535 ∧ o.2.2.1 = 0 ∧ o.2.2.2.1 = 0 ∧ (∀ k, k < 20 → o.2.2.2.2.1 k = 1) ∧ ∀ k, k < 20 → o.2.2.2.2.2 k = 1) := by
  unfold lf_X2_start lf_X0_reset_X2
  obtain ⟨o1, e1, h1, -⟩ := ok_fill (n := 20) (t := ze) (x := (1 : Int32)) (by decide)
  obtain ⟨o2, e2, h2, -⟩ := ok_fill (n := 20) (t := on) (x := (1 : Int32)) (by decide)
  rw [e1]
  dsimp only [Option.bind]
  rw [e2]
  exact Ok.some ⟨rfl, rfl, rfl, rfl, h2, h1⟩
theorem ok_X9_begin {a b c d : Int32} {ct : Nat → Int32} : Ok (lf_X9_begin a b c d ct) (fun o => o.1 = 0 ∧ o.2.1 = 65535 ∧ o.2.2.1 = 0 ∧ o.2.2.2.1 = 0 ∧ ∀ k, k < 40 → o.2.2.2.2 k = 1) := by
  unfold lf_X9_begin
  refine Ok.bind (fun o => ∀ k, k < 40 → o k = 1) (Ok.fix (fun k z => z.1 = nI k ∧ ∀ j, j < k → z.2 j = 1) 40 (by omega) ⟨rfl, fun j hj => absurd hj (by omega)⟩ ?_) (fun o ho => Ok.some ⟨rfl, rfl, rfl, rfl, ho⟩)
  rintro k ⟨x2, g3⟩ self hk ⟨h1, h2⟩ K
  dsimp only at h1 h2 ⊢
  subst h1
  by_cases hc : k < 40
  · refine Ok.neg (by simp (disch := omega) only [lI0, lI1, lI2, lI3, lI4, lI5, lI7, lI8, lI9, lI10, lI11, lI12, lI15, lI16, lI17, lI20, lI24, lI32, lI33, lI40, lI63, lI64, lI80, lI82, lI101, lI110, lI115, lI251, lI255, lI256, lI384, lI16384, lI20000, lI32768, lI49152, lI65535, nI_add, pk_mul, pk_sub, pk_div, nI_leI, nI_ltI, nI_eq] <;> omega) (Ok.wr k rfl hc (by omega) (Ok.bnd (K _ hc ⟨(by first | (simp (disch := omega) only [lI0, lI1, lI2, lI3, lI4, lI5, lI7, lI8, lI9, lI10, lI11, lI12, lI15, lI16, lI17, lI20, lI24, lI32, lI33, lI40, lI63, lI64, lI80, lI82, lI101, lI110, lI115, lI251, lI255, lI256, lI384, lI16384, lI20000, lI32768, lI49152, lI65535, nI_add, pk_mul, pk_sub, pk_div] <;> (apply congrArg nI; omega)) | rfl), fun j hj => ?_⟩)))
    dsimp only
    by_cases h : j = k
    · rw [h, upd_eq]
    · rw [upd_ne h]
      exact h2 j (by omega)
  · have hk2 : k = 40 := by omega
    subst hk2
    exact Ok.pos (by simp (disch := omega) only [lI0, lI1, lI2, lI3, lI4, lI5, lI7, lI8, lI9, lI10, lI11, lI12, lI15, lI16, lI17, lI20, lI24, lI32, lI33, lI40, lI63, lI64, lI80, lI82, lI101, lI110, lI115, lI251, lI255, lI256, lI384, lI16384, lI20000, lI32768, lI49152, lI65535, nI_add, pk_mul, pk_sub, pk_div, nI_leI, nI_ltI, nI_eq] <;> omega) (Ok.some h2)
theorem eq_tilesOf {w : Nat} (h : w ≤ 24) : lf_X8_tilesOf (nI w) = some (nI ((w + 7) / 8)) := by
  unfold lf_X8_tilesOf
  refine congrArg some ?_
  rw [show nI w + (8 : Int32) - (1 : Int32) = nI (w + 7) from (by first | (simp (disch := omega) only [lI0, lI1, lI2, lI3, lI4, lI5, lI7, lI8, lI9, lI10, lI11, lI12, lI15, lI16, lI17, lI20, lI24, lI32, lI33, lI40, lI63, lI64, lI80, lI82, lI101, lI110, lI115, lI251, lI255, lI256, lI384, lI16384, lI20000, lI32768, lI49152, lI65535, nI_add, pk_mul, pk_sub, pk_div] <;> (apply congrArg nI; omega)) | rfl), show (8 : Int32) = nI 8 from rfl, pk_div (by omega) (by decide) (by decide)]
theorem eq_slicesOf {w : Nat} (h : w ≤ 24) : lf_X8_slicesOf (nI w) = some (nI ((w + 7) / 8)) := eq_tilesOf h
/-- the streams of both sides: alike as far as they go, bytes -/
def sR (sz : Nat) (st by1 : Nat → Int32) : Prop := ∀ i, i < sz → by1 i = st i ∧ ∃ v, v < 256 ∧ st i = nI v
set_option maxHeartbeats 4000000 in
theorem ok_putPart {w l slice y tiles sz n : Nat} {mb mh ml mp siz sta : Int32} {ct st cy by1 on ze : Nat → Int32} {cb ch cl cp cnt : Int32} {lM mM cM sM one parts pC lC mC cC sC : Nat → Int32} {p0 p1 : Int32} (e0 : p0 = nI l) (e1 : p1 = nI slice) (esz : siz = nI sz) (ecn : cnt = nI sz) (ey : y = 8 * slice) (et : tiles = (w + 7) / 8) (hw1 : 1 ≤ w) (hw2 : w ≤ 16) (hl : l < 3) (hsl : slice < 3)
    (hs : sz + 3 + 2048 ≤ 20000) (ha : aI sz n) (hst : sR sz st cy) (hpx : ∀ px r, px < 8 * tiles → r < 8 → pxG l px (y + r) lC mC cC sC lM mM cM sM) (hsC : ∀ t, t < tiles → sC (2 * (y / 8) + t) = nI (szN sC (8 * t) y)) :
    ∃ om o47 o48 o49 o50 o52, lf_X9_putPart mb mh ml mp siz sta (nI w) ct lM mM one parts sM st p0 p1 = some om ∧ lf_X2_start cb ch cl cp on ze = some o47 ∧ lf_X8_codePart_X2 o47.1 o47.2.1 o47.2.2.1 o47.2.2.2.1 by1 o47.2.2.2.2.1 o47.2.2.2.2.2 lC mC sC p1 (nI tiles) = some o48 ∧ lf_X2_finish o48.1 o48.2.2.1 o48.2.2.2.1 o48.2.2.2.2.1 = some o49 ∧ lf_X2_byteCount o49.1 = some o50 ∧ lf_X8_appendPart cnt o49.1 n cy o49.2.2 = some o52 ∧
      o48.2.2.2.2.2.2.2.1 = lC ∧ o48.2.2.2.2.2.2.2.2.1 = mC ∧ o48.2.2.2.2.2.2.2.2.2 = sC ∧
      ∃ many, many ≤ 2048 ∧ o50 = nI many ∧ om.2.2.2.2.1 = nI (sz + (3 + many)) ∧ om.2.2.2.2.2.2.2.2.1 = upd parts (3 * l + slice) (nI many) ∧ o52.1 = nI (sz + (3 + many)) ∧ aI (sz + (3 + many)) o52.2.2 ∧ n ≤ o52.2.2 ∧ o52.2.2 ≤ GLIM ∧ sR (sz + (3 + many)) om.2.2.2.2.2.2.2.2.2 o52.2.1 := by
  subst e0 e1 esz ecn
  have ht2 : tiles ≤ 2 := by omega
  obtain ⟨o47, es, s1, s2, s3, s4, s5, s6⟩ := ok_X2_start (a := cb) (b := ch) (c := cl) (d := cp) (on := on) (ze := ze)
  obtain ⟨⟨n1, n2, n3, n4, n5⟩, eb, b1, b2, b3, b4, b5⟩ := ok_X9_begin (a := mb) (b := mh) (c := ml) (d := mp) (ct := ct)
  dsimp only at b1 b2 b3 b4 b5
  subst b1 b2 b3 b4
  have hW2 : WR (sz + 3) 0 st 0 65535 0 0 n5 st o47.1 o47.2.1 o47.2.2.1 o47.2.2.2.1 by1 o47.2.2.2.2.1 o47.2.2.2.2.2 := by
    have := WR_start (start := sz + 3) (s0 := st) (ct := n5) (by1 := by1) (on := o47.2.2.2.2.1) (ze := o47.2.2.2.2.2) b5 s5 s6
    rw [s1, s2, s3, s4]
    exact this
  obtain ⟨⟨v1, v2, v3, v4, v5, v6, v7⟩, o48, em, ec, hw, h1, h2, h3⟩ := ok_codePart (l := l) (siz := nI sz) (one := one) (lM := lM) (mM := mM) (cM := cM) (sM := sM) (e2 := (rfl : nI slice = nI slice)) (e3 := (rfl : nI tiles = nI tiles)) ey et hw1 hw2 hl hsl (nI_add sz 3) hs hW2 (by omega) hpx hsC
  dsimp only at hw
  obtain ⟨b, h, lo, p, d1, d2, d3, d4, d5, d6, d7, d8, hI, hC, hwr, hfr, hbd⟩ := hw
  subst d1 d2 d3 d4
  have hbp : b + p ≤ 14334 := by omega
  have hlo31 : lo < 32768 := hI.2.2.2.1
  -- the last bits
  obtain ⟨off, bit, vv, hvv, hob, hoff, hmod⟩ : ∃ off bit vv, vv < 2 ∧ bit = nI vv ∧ (off = (0 : Int32) ∧ bit = 0 ∨ off = 32768 ∧ bit = 1) ∧ (16384 ≤ lo ∧ off = 32768 ∧ bit = 1 ∨ ¬ 16384 ≤ lo ∧ off = 0 ∧ bit = 0) := by
    by_cases hlo : 16384 ≤ lo
    · exact ⟨32768, 1, 1, by decide, rfl, Or.inr ⟨rfl, rfl⟩, Or.inl ⟨hlo, rfl, rfl⟩⟩
    · exact ⟨0, 0, 0, by decide, rfl, Or.inl ⟨rfl, rfl⟩, Or.inr ⟨hlo, rfl, rfl⟩⟩
  obtain ⟨⟨w1, w2, w3⟩, ew, x1, x2, x3, x4⟩ := ok_X9_writes (st := v7) (n := b) (p := p + 1) (start := sz + 3) (b := bit) (by omega) hs
  obtain ⟨⟨c1, c2, c3⟩, et2, y1, y2, y3⟩ := ok_X2_take (by1 := o48.2.2.2.2.1) (n := b) (p := p + 1) (b := bit) (off := off) (by omega) hoff
  dsimp only at x1 x2 x3 x4 y1 y2 y3
  subst x1 x2 y1 y2
  have hrel := emN_rel hvv hwr (p + 1) (by omega)
  rw [← hob, ← x3, ← y3] at hrel
  -- the class's finish
  have efin : lf_X2_finish o48.1 o48.2.2.1 o48.2.2.2.1 o48.2.2.2.2.1 = some (nI (b + 1 + (p + 1)), nI 0, c3) := by
    rw [d5, d7, d8]
    unfold lf_X2_finish
    rw [show nI p + (1 : Int32) = nI (p + 1) from nI_1 p]
    rcases hmod with ⟨q1, q2, q3⟩ | ⟨q1, q2, q3⟩
    · subst q2
      rw [if_pos (by simp (disch := omega) only [lI0, lI1, lI2, lI3, lI4, lI5, lI7, lI8, lI9, lI10, lI11, lI12, lI15, lI16, lI17, lI20, lI24, lI32, lI33, lI40, lI63, lI64, lI80, lI82, lI101, lI110, lI115, lI251, lI255, lI256, lI384, lI16384, lI20000, lI32768, lI49152, lI65535, nI_add, pk_mul, pk_sub, pk_div, nI_leI, nI_ltI, nI_eq] <;> omega), et2]
      rfl
    · subst q2
      rw [if_neg (by simp (disch := omega) only [lI0, lI1, lI2, lI3, lI4, lI5, lI7, lI8, lI9, lI10, lI11, lI12, lI15, lI16, lI17, lI20, lI24, lI32, lI33, lI40, lI63, lI64, lI80, lI82, lI101, lI110, lI115, lI251, lI255, lI256, lI384, lI16384, lI20000, lI32768, lI49152, lI65535, nI_add, pk_mul, pk_sub, pk_div, nI_leI, nI_ltI, nI_eq] <;> omega), et2]
      rfl
  have hmany : (b + 1 + (p + 1) + 7) / 8 ≤ 2048 := by omega
  have hval : ∀ k, k < (b + 1 + (p + 1) + 7) / 8 → w3 (sz + 3 + k) = c3 k ∧ c3 k = nI (c3 k).toNatClampNeg ∧ (c3 k).toNatClampNeg < 256 := by
    intro k hk
    obtain ⟨r1, v, r2, r3⟩ := hrel k (by omega)
    have r4 : w3 (sz + 3 + k) = c3 k := r1
    have r5 : c3 k = nI v := r4.symm.trans r3
    refine ⟨r4, ?_, ?_⟩
    · rw [r5, nI_clamp (by omega)]
    · rw [r5, nI_clamp (by omega)]
      exact r2
  obtain ⟨o52, ea, a1, a2, a3, a4, a5, a6, a7, a8, a9⟩ := ok_appendPart (cnt := nI sz) (bc := nI (b + 1 + (p + 1))) (t := cy) (wb := c3) (v := fun k => (c3 k).toNatClampNeg) rfl rfl ha hmany (by omega) (fun k hk => ⟨(hval k hk).2.1, (hval k hk).2.2⟩)
  have ebc : lf_X2_byteCount (nI (b + 1 + (p + 1))) = some (nI ((b + 1 + (p + 1) + 7) / 8)) := by
    unfold lf_X2_byteCount
    refine congrArg some ?_
    rw [show (7 : Int32) = nI 7 from rfl, nI_add, show (8 : Int32) = nI 8 from rfl, pk_div (by omega) (by decide) (by decide)]
  -- the reference's part
  generalize hmm : (b + 1 + (p + 1) + 7) / 8 = many at hmany hval a1 a2 a5 a6 a7 a8 a9 ebc
  have emp : ∃ om, lf_X9_putPart mb mh ml mp (nI sz) sta (nI w) ct lM mM one parts sM st (nI l) (nI slice) = some om ∧ om.2.2.2.2.1 = nI (sz + (3 + many)) ∧ om.2.2.2.2.2.2.2.2.1 = upd parts (3 * l + slice) (nI many) ∧ om.2.2.2.2.2.2.2.2.2 = upd (upd (upd w3 sz (nI (many / 256))) (sz + 1) (nI (many % 256))) (sz + 2) (nI (ckN (fun k => (c3 k).toNatClampNeg) many)) := by
    suffices hok : Ok (lf_X9_putPart mb mh ml mp (nI sz) sta (nI w) ct lM mM one parts sM st (nI l) (nI slice)) (fun om => om.2.2.2.2.1 = nI (sz + (3 + many)) ∧ om.2.2.2.2.2.2.2.2.1 = upd parts (3 * l + slice) (nI many) ∧ om.2.2.2.2.2.2.2.2.2 = upd (upd (upd w3 sz (nI (many / 256))) (sz + 1) (nI (many % 256))) (sz + 2) (nI (ckN (fun k => (c3 k).toNatClampNeg) many))) by
      exact hok
    unfold lf_X9_putPart
    refine Ok.bnd (Ok.bindE _ eb ?_)
    rw [show (8 : Int32) * nI slice = nI y from by rw [ey]; (first | (simp (disch := omega) only [lI0, lI1, lI2, lI3, lI4, lI5, lI7, lI8, lI9, lI10, lI11, lI12, lI15, lI16, lI17, lI20, lI24, lI32, lI33, lI40, lI63, lI64, lI80, lI82, lI101, lI110, lI115, lI251, lI255, lI256, lI384, lI16384, lI20000, lI32768, lI49152, lI65535, nI_add, pk_mul, pk_sub, pk_div] <;> (apply congrArg nI; omega)) | rfl)]
    refine Ok.bindE _ em ?_
    dsimp only
    refine Ok.jnR (fun s => s = bit) (fun k hk => ?_) ?_
    · rcases hmod with ⟨q1, q2, q3⟩ | ⟨q1, q2, q3⟩
      · exact Ok.pos (by simp (disch := omega) only [lI0, lI1, lI2, lI3, lI4, lI5, lI7, lI8, lI9, lI10, lI11, lI12, lI15, lI16, lI17, lI20, lI24, lI32, lI33, lI40, lI63, lI64, lI80, lI82, lI101, lI110, lI115, lI251, lI255, lI256, lI384, lI16384, lI20000, lI32768, lI49152, lI65535, nI_add, pk_mul, pk_sub, pk_div, nI_leI, nI_ltI, nI_eq] <;> omega) (hk _ q3.symm)
      · exact Ok.neg (by simp (disch := omega) only [lI0, lI1, lI2, lI3, lI4, lI5, lI7, lI8, lI9, lI10, lI11, lI12, lI15, lI16, lI17, lI20, lI24, lI32, lI33, lI40, lI63, lI64, lI80, lI82, lI101, lI110, lI115, lI251, lI255, lI256, lI384, lI16384, lI20000, lI32768, lI49152, lI65535, nI_add, pk_mul, pk_sub, pk_div, nI_leI, nI_ltI, nI_eq] <;> omega) (hk _ q3.symm)
    rintro s rfl
    rw [show nI p + (1 : Int32) = nI (p + 1) from nI_1 p, show nI sz + (3 : Int32) = nI (sz + 3) from nI_add sz 3]
    refine Ok.bindE _ ew (Ok.bnd ?_)
    dsimp only
    rw [show (nI (b + 1 + (p + 1)) + (7 : Int32)) / (8 : Int32) = nI many from by
      rw [← hmm, show (7 : Int32) = nI 7 from rfl, nI_add, show (8 : Int32) = nI 8 from rfl, pk_div (by omega) (by decide) (by decide)]]
    refine Ok.wr sz rfl (by omega) (by decide) (Ok.wr (sz + 1) (by first | (simp (disch := omega) only [lI0, lI1, lI2, lI3, lI4, lI5, lI7, lI8, lI9, lI10, lI11, lI12, lI15, lI16, lI17, lI20, lI24, lI32, lI33, lI40, lI63, lI64, lI80, lI82, lI101, lI110, lI115, lI251, lI255, lI256, lI384, lI16384, lI20000, lI32768, lI49152, lI65535, nI_add, pk_mul, pk_sub, pk_div] <;> (apply congrArg nI; omega)) | rfl) (by omega) (by decide) ?_)
    rw [show nI many / (256 : Int32) = nI (many / 256) from (by first | (simp (disch := omega) only [lI0, lI1, lI2, lI3, lI4, lI5, lI7, lI8, lI9, lI10, lI11, lI12, lI15, lI16, lI17, lI20, lI24, lI32, lI33, lI40, lI63, lI64, lI80, lI82, lI101, lI110, lI115, lI251, lI255, lI256, lI384, lI16384, lI20000, lI32768, lI49152, lI65535, nI_add, pk_mul, pk_sub, pk_div] <;> (apply congrArg nI; omega)) | rfl), show nI many - nI (many / 256) * (256 : Int32) = nI (many % 256) from (by first | (simp (disch := omega) only [lI0, lI1, lI2, lI3, lI4, lI5, lI7, lI8, lI9, lI10, lI11, lI12, lI15, lI16, lI17, lI20, lI24, lI32, lI33, lI40, lI63, lI64, lI80, lI82, lI101, lI110, lI115, lI251, lI255, lI256, lI384, lI16384, lI20000, lI32768, lI49152, lI65535, nI_add, pk_mul, pk_sub, pk_div] <;> (apply congrArg nI; omega)) | rfl)]
    refine Ok.bindE _ (eq_X9_checksum (v := fun k => (c3 k).toNatClampNeg) (by omega) (by omega) (fun k hk => ?_)) ?_
    · obtain ⟨r1, r2, r3⟩ := hval k hk
      rw [upd_ne (by omega), upd_ne (by omega), r1]
      exact ⟨r2, r3⟩
    · refine Ok.wr (sz + 2) (by first | (simp (disch := omega) only [lI0, lI1, lI2, lI3, lI4, lI5, lI7, lI8, lI9, lI10, lI11, lI12, lI15, lI16, lI17, lI20, lI24, lI32, lI33, lI40, lI63, lI64, lI80, lI82, lI101, lI110, lI115, lI251, lI255, lI256, lI384, lI16384, lI20000, lI32768, lI49152, lI65535, nI_add, pk_mul, pk_sub, pk_div] <;> (apply congrArg nI; omega)) | rfl) (by omega) (by decide) (Ok.wr (3 * l + slice) (by first | (simp (disch := omega) only [lI0, lI1, lI2, lI3, lI4, lI5, lI7, lI8, lI9, lI10, lI11, lI12, lI15, lI16, lI17, lI20, lI24, lI32, lI33, lI40, lI63, lI64, lI80, lI82, lI101, lI110, lI115, lI251, lI255, lI256, lI384, lI16384, lI20000, lI32768, lI49152, lI65535, nI_add, pk_mul, pk_sub, pk_div] <;> (apply congrArg nI; omega)) | rfl) (by omega) (by decide) (Ok.some ⟨?_, rfl, rfl⟩))
      dsimp only
      rw [show (3 : Int32) = nI 3 from rfl, nI_add, nI_add]
  obtain ⟨om, eo, t1, t2, t3⟩ := emp
  refine ⟨om, o47, o48, _, nI many, o52, eo, es, ec, efin, ebc, ea, h1, h2, h3, many, hmany, rfl, t1, t2, a1, a2, a3, a4, ?_⟩
  rw [t3]
  intro i hi
  have hck := ckN_lt (fun k => (c3 k).toNatClampNeg) many
  by_cases i1 : i < sz
  · rw [a5 i i1, upd_ne (by omega), upd_ne (by omega), upd_ne (by omega), x4 i (by omega), hfr i (by omega)]
    exact hst i i1
  · by_cases i2 : i = sz
    · subst i2
      rw [a6, upd_ne (by omega), upd_ne (by omega), upd_eq]
      exact ⟨rfl, _, by omega, rfl⟩
    · by_cases i3 : i = sz + 1
      · subst i3
        rw [a7, upd_ne (by omega), upd_eq]
        exact ⟨rfl, _, by omega, rfl⟩
      · by_cases i4 : i = sz + 2
        · subst i4
          rw [a8, upd_eq]
          exact ⟨rfl, _, by omega, rfl⟩
        · obtain ⟨r1, r2, r3⟩ := hval (i - (sz + 3)) (by omega)
          have a10 := a9 (i - (sz + 3)) (by omega)
          rw [show sz + 3 + (i - (sz + 3)) = i from by omega] at r1 a10
          rw [a10, upd_ne (by omega), upd_ne (by omega), upd_ne (by omega), r1]
          exact ⟨rfl, _, r3, r2⟩
