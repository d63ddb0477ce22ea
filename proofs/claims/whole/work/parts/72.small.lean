/-! ===== the small methods, both sides ===== -/
theorem Ok2.dec {α β γ δ : Type} {a : Option α} {b : Option β} {k : α → Option γ} {m : β → Option δ} {R : γ → δ → Prop} {D : Prop} {x y : α} {u v : β} (h1 : Ok a (fun o => o = x ∧ D ∨ o = y ∧ ¬ D)) (h2 : Ok b (fun o => o = u ∧ D ∨ o = v ∧ ¬ D)) (h3 : D → Ok2 (k x) (m u) R) (h4 : ¬ D → Ok2 (k y) (m v) R) : Ok2 (a.bind k) (b.bind m) R := by
  obtain ⟨o, rfl, h1⟩ := h1
  obtain ⟨q, rfl, h2⟩ := h2
  rcases h1 with ⟨rfl, hd⟩ | ⟨rfl, hd⟩
  · rcases h2 with ⟨rfl, -⟩ | ⟨-, h⟩
    · exact h3 hd
    · exact absurd hd h
  · rcases h2 with ⟨-, h⟩ | ⟨rfl, -⟩
    · exact absurd h hd
    · exact h4 hd
theorem neg_or (p : Int32) : p < 0 ∨ ∃ j, j < 2 ^ 31 ∧ p = nI j := by
  by_cases h : p < 0
  · exact Or.inl h
  · exact Or.inr (nI_of h)
theorem nI_nneg {j : Nat} (h : j < 2 ^ 31) : ¬ nI j < 0 := fun h2 => by
  have h3 : ¬ nI j < nI 0 := (by simp (disch := omega) only [lI0, lI1, lI2, lI3, lI4, lI5, lI7, lI8, lI9, lI10, lI11, lI12, lI15, lI16, lI17, lI20, lI24, lI32, lI33, lI40, lI63, lI64, lI80, lI82, lI101, lI110, lI115, lI251, lI255, lI256, lI384, lI16384, lI20000, lI32768, lI49152, lI65535, nI_add, pk_mul, pk_sub, pk_div, nI_leI, nI_ltI, nI_eq] <;> omega)
  exact h3 h2
theorem neg_ne {p : Int32} (h : p < 0) {j : Nat} (hj : j < 2 ^ 31) : p ≠ nI j := fun e => nI_nneg hj (e ▸ h)
theorem neg_lt_nI {p : Int32} (h : p < 0) {j : Nat} (hj : j < 2 ^ 31) : p < nI j := Int32.lt_of_lt_of_le h (Int32.not_lt.mp (nI_nneg hj))
def inI (a c : Nat) (p : Int32) : Prop := ∃ v, a ≤ v ∧ v ≤ c ∧ p = nI v
def inX (c : Nat) (p : Int32) : Prop := ∃ v, v < c ∧ p = nI v
theorem ok_isInI {p : Int32} {a c : Nat} (ha : a < 2 ^ 31) (hc : c < 2 ^ 31) : Ok (lf_X9_isIn p (nI a) (nI c)) (fun o => o = 1 ∧ inI a c p ∨ o = 0 ∧ ¬ inI a c p) := by
  rcases neg_or p with h | ⟨j, hj, rfl⟩
  · unfold lf_X9_isIn
    refine Ok.jnI (Ok.pos (neg_lt_nI h ha) (Ok.some (Or.inr ⟨rfl, ?_⟩)))
    rintro ⟨v, h1, h2, h3⟩
    exact neg_ne h (by omega) h3
  · rw [eq_isIn hj ha hc]
    by_cases h : a ≤ j ∧ j ≤ c
    · rw [if_pos h]
      exact Ok.some (Or.inl ⟨rfl, j, h.1, h.2, rfl⟩)
    · rw [if_neg h]
      refine Ok.some (Or.inr ⟨rfl, ?_⟩)
      rintro ⟨v, h1, h2, h3⟩
      have := nI_inj hj (by omega) h3
      exact h (by omega)
theorem ok_isInX {p : Int32} {c : Nat} (hc : c < 2 ^ 31) : Ok (lf_X9_isIn p 0 (nI c - 1)) (fun o => o = 1 ∧ inX c p ∨ o = 0 ∧ ¬ inX c p) := by
  by_cases h0 : c = 0
  · subst h0
    unfold lf_X9_isIn
    refine Ok.jnI (Ok.ite (fun _ => Ok.some (Or.inr ⟨rfl, ?_⟩)) fun h1 => Ok.pos ?_ (Ok.some (Or.inr ⟨rfl, ?_⟩)))
    · rintro ⟨v, h1, -⟩
      exact absurd h1 (by omega)
    · exact Int32.lt_of_lt_of_le (by decide) (Int32.not_lt.mp h1)
    · rintro ⟨v, h1, -⟩
      exact absurd h1 (by omega)
  · rw [show nI c - (1 : Int32) = nI (c - 1) from (by first | (simp (disch := omega) only [lI0, lI1, lI2, lI3, lI4, lI5, lI7, lI8, lI9, lI10, lI11, lI12, lI15, lI16, lI17, lI20, lI24, lI32, lI33, lI40, lI63, lI64, lI80, lI82, lI101, lI110, lI115, lI251, lI255, lI256, lI384, lI16384, lI20000, lI32768, lI49152, lI65535, nI_add, pk_mul, pk_sub, pk_div] <;> (apply congrArg nI; omega)) | rfl)]
    refine Ok.mono (ok_isInI (a := 0) (by decide) (by omega)) fun o ho => ?_
    rcases ho with ⟨h1, v, h2, h3, h4⟩ | ⟨h1, h2⟩
    · exact Or.inl ⟨h1, v, by omega, h4⟩
    · refine Or.inr ⟨h1, ?_⟩
      rintro ⟨v, h3, h4⟩
      exact h2 ⟨v, by omega, by omega, h4⟩
def inP (w h : Nat) (p0 p1 : Int32) : Prop := ∃ x y, x < w ∧ y < h ∧ p0 = nI x ∧ p1 = nI y
theorem ok_isPixel {w h : Nat} {p0 p1 : Int32} (hw : w < 2 ^ 31) (hh : h < 2 ^ 31) : Ok (lf_X9_isPixel (nI h) (nI w) p0 p1) (fun o => o = 1 ∧ inP w h p0 p1 ∨ o = 0 ∧ ¬ inP w h p0 p1) := by
  unfold lf_X9_isPixel
  refine Ok.bind _ (ok_isInX hw) ?_
  rintro o (⟨rfl, x, hx, rfl⟩ | ⟨rfl, h1⟩)
  · refine Ok.jnI (Ok.neg (by decide) (Ok.bind _ (ok_isInX hh) ?_))
    rintro o (⟨rfl, y, hy, rfl⟩ | ⟨rfl, h1⟩)
    · exact Ok.neg (by decide) (Ok.some (Or.inl ⟨rfl, x, y, hx, hy, rfl, rfl⟩))
    · refine Ok.pos rfl (Ok.some (Or.inr ⟨rfl, ?_⟩))
      rintro ⟨x2, y2, h2, h3, h4, h5⟩
      exact h1 ⟨y2, h3, h5⟩
  · refine Ok.jnI (Ok.pos rfl (Ok.some (Or.inr ⟨rfl, ?_⟩)))
    rintro ⟨x2, y2, h2, h3, h4, h5⟩
    exact h1 ⟨x2, h2, h4⟩
theorem ok_has {w h : Nat} {p0 p1 : Int32} (hw : w < 2 ^ 31) (hh : h < 2 ^ 31) : Ok (lf_X5_has (nI w) (nI h) p0 p1) (fun o => o = 1 ∧ inP w h p0 p1 ∨ o = 0 ∧ ¬ inP w h p0 p1) := by
  rcases neg_or p0 with g | ⟨x, hx, rfl⟩
  · unfold lf_X5_has
    refine Ok.jnI (Ok.pos g (Ok.some (Or.inr ⟨rfl, ?_⟩)))
    rintro ⟨x2, y2, h2, h3, h4, h5⟩
    exact neg_ne g (by omega) h4
  rcases neg_or p1 with g | ⟨y, hy, rfl⟩
  · have hn : ¬ inP w h (nI x) p1 := by
      rintro ⟨x2, y2, h2, h3, h4, h5⟩
      exact neg_ne g (by omega) h5
    unfold lf_X5_has
    exact Ok.jnI (Ok.ite (fun _ => Ok.some (Or.inr ⟨rfl, hn⟩)) fun _ => Ok.ite (fun _ => Ok.some (Or.inr ⟨rfl, hn⟩)) fun _ => Ok.pos g (Ok.some (Or.inr ⟨rfl, hn⟩)))
  · rw [eq_X5_has hw hh hx hy]
    by_cases h1 : x < w ∧ y < h
    · rw [if_pos h1]
      exact Ok.some (Or.inl ⟨rfl, x, y, h1.1, h1.2, rfl, rfl⟩)
    · rw [if_neg h1]
      refine Ok.some (Or.inr ⟨rfl, ?_⟩)
      rintro ⟨x2, y2, h2, h3, h4, h5⟩
      have e1 := nI_inj hx (by omega) h4
      have e2 := nI_inj hy (by omega) h5
      exact h1 (by omega)
theorem ok_requirePixel {w h : Nat} {p0 p1 : Int32} (hw : w < 2 ^ 31) (hh : h < 2 ^ 31) : Ok (lf_X8_requirePixel (nI w) (nI h) p0 p1) (fun o => o = .inr () ∧ inP w h p0 p1 ∨ o = .inl 1 ∧ ¬ inP w h p0 p1) := by
  unfold lf_X8_requirePixel
  refine Ok.bind _ (ok_has hw hh) ?_
  rintro o (⟨rfl, h1⟩ | ⟨rfl, h1⟩)
  · exact Ok.neg (by decide) (Ok.some (Or.inl ⟨rfl, h1⟩))
  · exact Ok.pos rfl (Ok.some (Or.inr ⟨rfl, h1⟩))
theorem ok_requireByte {p : Int32} : Ok (lf_X8_requireByte p) (fun o => o = .inr () ∧ inI 0 255 p ∨ o = .inl 0 ∧ ¬ inI 0 255 p) := by
  unfold lf_X8_requireByte
  refine Ok.jnI ?_
  rcases neg_or p with g | ⟨v, hv, rfl⟩
  · refine Ok.pos g (Ok.some (Or.inr ⟨rfl, ?_⟩))
    rintro ⟨v, h2, h3, h4⟩
    exact neg_ne g (by omega) h4
  · refine Ok.neg (by simp (disch := omega) only [lI0, lI1, lI2, lI3, lI4, lI5, lI7, lI8, lI9, lI10, lI11, lI12, lI15, lI16, lI17, lI20, lI24, lI32, lI33, lI40, lI63, lI64, lI80, lI82, lI101, lI110, lI115, lI251, lI255, lI256, lI384, lI16384, lI20000, lI32768, lI49152, lI65535, nI_add, pk_mul, pk_sub, pk_div, nI_leI, nI_ltI, nI_eq] <;> omega) ?_
    by_cases h1 : v ≤ 255
    · exact Ok.pos (by simp (disch := omega) only [lI0, lI1, lI2, lI3, lI4, lI5, lI7, lI8, lI9, lI10, lI11, lI12, lI15, lI16, lI17, lI20, lI24, lI32, lI33, lI40, lI63, lI64, lI80, lI82, lI101, lI110, lI115, lI251, lI255, lI256, lI384, lI16384, lI20000, lI32768, lI49152, lI65535, nI_add, pk_mul, pk_sub, pk_div, nI_leI, nI_ltI, nI_eq] <;> omega) (Ok.some (Or.inl ⟨rfl, v, by omega, h1, rfl⟩))
    · refine Ok.neg (by simp (disch := omega) only [lI0, lI1, lI2, lI3, lI4, lI5, lI7, lI8, lI9, lI10, lI11, lI12, lI15, lI16, lI17, lI20, lI24, lI32, lI33, lI40, lI63, lI64, lI80, lI82, lI101, lI110, lI115, lI251, lI255, lI256, lI384, lI16384, lI20000, lI32768, lI49152, lI65535, nI_add, pk_mul, pk_sub, pk_div, nI_leI, nI_ltI, nI_eq] <;> omega) (Ok.some (Or.inr ⟨rfl, ?_⟩))
      rintro ⟨v2, h2, h3, h4⟩
      have := nI_inj hv (by omega) h4
      omega
/-- the pictures of both sides -/
def picR (w h : Nat) (pm pc : Nat → Int32) : Prop := 1 ≤ w ∧ w ≤ 16 ∧ 1 ≤ h ∧ h ≤ 24 ∧ ∀ x y, x < w → y < h → pc (16 * y + x) = pm (16 * y + x) ∧ ∃ v, v < 256 ∧ pm (16 * y + x) = nI v
theorem picR.put {w h x y v : Nat} {pm pc : Nat → Int32} (hP : picR w h pm pc) (hx : x < w) (hv : v < 256) : picR w h (upd pm (16 * y + x) (nI v)) (upd pc (16 * y + x) (nI v)) := by
  obtain ⟨h1, h2, h3, h4, h5⟩ := hP
  refine ⟨h1, h2, h3, h4, fun i j hi hj => ?_⟩
  by_cases h6 : 16 * j + i = 16 * y + x
  · rw [h6, upd_eq, upd_eq]
    exact ⟨rfl, v, hv, rfl⟩
  · rw [upd_ne h6, upd_ne h6]
    exact h5 i j hi hj
theorem ok_resize {w h : Nat} {pm pc : Nat → Int32} {thr p0 p1 : Int32} : Ok2 (lf_X9_resize (nI h) thr (nI w) pm p0 p1) (lf_X8_resize (nI w) (nI h) pc p0 p1) (fun o k => (k = .inl 0 ∧ o = (0, nI h, 1, nI w, pm)) ∨ ∃ v w2 h2 pm2 pc2, k = .inr (v, nI w2, nI h2, pc2) ∧ o = (v, nI h2, 0, nI w2, pm2) ∧ picR w2 h2 pm2 pc2) := by
  unfold lf_X9_resize lf_X8_resize
  have hcl : Ok (lf_X8_isPictureSize p0 p1) (fun o => o = 1 ∧ (inI 1 16 p0 ∧ inI 1 24 p1) ∨ o = 0 ∧ ¬ (inI 1 16 p0 ∧ inI 1 24 p1)) := by
    rcases neg_or p0 with g | ⟨x, hx, rfl⟩
    · unfold lf_X8_isPictureSize
      refine Ok.jnI (Ok.pos (neg_lt_nI (j := 1) g (by decide)) (Ok.some (Or.inr ⟨rfl, ?_⟩)))
      rintro ⟨⟨v, h2, h3, h4⟩, -⟩
      exact neg_ne g (by omega) h4
    rcases neg_or p1 with g | ⟨y, hy, rfl⟩
    · have hn : ¬ (inI 1 16 (nI x) ∧ inI 1 24 p1) := by
        rintro ⟨-, ⟨v, h2, h3, h4⟩⟩
        exact neg_ne g (by omega) h4
      unfold lf_X8_isPictureSize
      exact Ok.jnI (Ok.ite (fun _ => Ok.some (Or.inr ⟨rfl, hn⟩)) fun _ => Ok.ite (fun _ => Ok.some (Or.inr ⟨rfl, hn⟩)) fun _ => Ok.pos (neg_lt_nI (j := 1) g (by decide)) (Ok.some (Or.inr ⟨rfl, hn⟩)))
    · rw [eq_picSize hx hy]
      by_cases h1 : (1 ≤ x ∧ x ≤ 16) ∧ 1 ≤ y ∧ y ≤ 24
      · rw [if_pos h1]
        exact Ok.some (Or.inl ⟨rfl, ⟨x, h1.1.1, h1.1.2, rfl⟩, ⟨y, h1.2.1, h1.2.2, rfl⟩⟩)
      · rw [if_neg h1]
        refine Ok.some (Or.inr ⟨rfl, ?_⟩)
        rintro ⟨⟨v, h2, h3, h4⟩, ⟨u, h5, h6, h7⟩⟩
        have e1 := nI_inj hx (by omega) h4
        have e2 := nI_inj hy (by omega) h7
        exact h1 (by omega)
  refine Ok2.r _ hcl ?_
  rintro o (⟨rfl, ⟨x, hx1, hx2, rfl⟩, ⟨y, hy1, hy2, rfl⟩⟩ | ⟨rfl, hn⟩)
  · refine Ok2.rneg (by decide) ?_
    refine Ok2.lE _ (eq_isIn (a := 1) (c := 16) (by omega) (by decide) (by decide)) (Ok2.ljnI ?_)
    rw [if_pos (⟨hx1, hx2⟩ : 1 ≤ x ∧ x ≤ 16)]
    refine Ok2.lneg (by decide) (Ok2.lE _ (eq_isIn (a := 1) (c := 24) (by omega) (by decide) (by decide)) ?_)
    rw [if_pos (⟨hy1, hy2⟩ : 1 ≤ y ∧ y ≤ 24)]
    refine Ok2.lneg (by decide) ?_
    unfold lf_X5_clear
    obtain ⟨pc2, epc, hpc, -⟩ := ok_fill (n := 384) (t := pc) (x := (0 : Int32)) (by decide)
    refine Ok2.rE (nI x, nI y, pc2) (by rw [epc]; rfl) ?_
    refine Ok2.l (fun o => ∀ i, i < 384 → o i = 0) (Ok.fix (fun k z => z.1 = nI k ∧ ∀ i, i < k → z.2 i = 0) 384 (by decide) ⟨rfl, fun s hs => absurd hs (by omega)⟩ ?_) ?_
    · rintro k ⟨x1, g2⟩ self hk ⟨h1, h2⟩ K
      dsimp only at h1 h2 ⊢
      subst h1
      by_cases hc : k < 384
      · refine Ok.neg (by simp (disch := omega) only [lI0, lI1, lI2, lI3, lI4, lI5, lI7, lI8, lI9, lI10, lI11, lI12, lI15, lI16, lI17, lI20, lI24, lI32, lI33, lI40, lI63, lI64, lI80, lI82, lI101, lI110, lI115, lI251, lI255, lI256, lI384, lI16384, lI20000, lI32768, lI49152, lI65535, nI_add, pk_mul, pk_sub, pk_div, nI_leI, nI_ltI, nI_eq] <;> omega) (Ok.wr k rfl hc (by decide) (Ok.bnd (K _ hc ⟨(by first | (simp (disch := omega) only [lI0, lI1, lI2, lI3, lI4, lI5, lI7, lI8, lI9, lI10, lI11, lI12, lI15, lI16, lI17, lI20, lI24, lI32, lI33, lI40, lI63, lI64, lI80, lI82, lI101, lI110, lI115, lI251, lI255, lI256, lI384, lI16384, lI20000, lI32768, lI49152, lI65535, nI_add, pk_mul, pk_sub, pk_div] <;> (apply congrArg nI; omega)) | rfl), fun s hs => ?_⟩)))
        dsimp only
        by_cases h3 : s = k
        · subst h3
          rw [upd_eq]
        · rw [upd_ne h3]
          exact h2 s (by omega)
      · have hk2 : k = 384 := by omega
        subst hk2
        exact Ok.pos (by simp (disch := omega) only [lI0, lI1, lI2, lI3, lI4, lI5, lI7, lI8, lI9, lI10, lI11, lI12, lI15, lI16, lI17, lI20, lI24, lI32, lI33, lI40, lI63, lI64, lI80, lI82, lI101, lI110, lI115, lI251, lI255, lI256, lI384, lI16384, lI20000, lI32768, lI49152, lI65535, nI_add, pk_mul, pk_sub, pk_div, nI_leI, nI_ltI, nI_eq] <;> omega) (Ok.some h2)
    · intro pm2 hpm
      refine Ok2.some (Or.inr ⟨_, x, y, pm2, pc2, rfl, rfl, hx1, hx2, hy1, hy2, fun i j hi hj => ?_⟩)
      rw [hpm _ (by omega), hpc _ (by omega)]
      exact ⟨rfl, 0, by decide, rfl⟩
  · refine Ok2.rpos rfl (Ok2.l _ (ok_isInI (a := 1) (c := 16) (by decide) (by decide)) ?_)
    rintro o (⟨rfl, h1⟩ | ⟨rfl, h1⟩)
    · refine Ok2.ljnI (Ok2.lneg (by decide) (Ok2.l _ (ok_isInI (a := 1) (c := 24) (by decide) (by decide)) ?_))
      rintro o (⟨rfl, h2⟩ | ⟨rfl, h2⟩)
      · exact absurd ⟨h1, h2⟩ hn
      · exact Ok2.lpos rfl (Ok2.lE _ (rfl : lf_X9_fail thr 1 = some ((0 : Int32), (1 : Int32))) (Ok2.some (Or.inl ⟨rfl, rfl⟩)))
    · exact Ok2.ljnI (Ok2.lpos rfl (Ok2.lE _ (rfl : lf_X9_fail thr 1 = some ((0 : Int32), (1 : Int32))) (Ok2.some (Or.inl ⟨rfl, rfl⟩))))
theorem ok_set {w h : Nat} {pm pc : Nat → Int32} {thr p0 p1 p2 : Int32} (hP : picR w h pm pc) : Ok2 (lf_X9_set (nI h) thr (nI w) pm p0 p1 p2) (lf_X8_set (nI w) (nI h) pc p0 p1 p2) (fun o k => (k = .inl 1 ∧ o = (0, 1, pm)) ∨ (k = .inl 0 ∧ o = (0, 2, pm)) ∨ ∃ v pm2 pc2, k = .inr (v, pc2) ∧ o = (v, 0, pm2) ∧ picR w h pm2 pc2) := by
  obtain ⟨h1, h2, h3, h4, h5⟩ := id hP
  unfold lf_X9_set lf_X8_set
  refine Ok2.dec (ok_isPixel (by omega) (by omega)) (ok_requirePixel (by omega) (by omega)) (fun hin => ?_) (fun _ => Ok2.lpos rfl (Ok2.lE _ (rfl : lf_X9_fail thr 1 = some ((0 : Int32), (1 : Int32))) (Ok2.some (Or.inl ⟨rfl, rfl⟩))))
  obtain ⟨x, y, hx, hy, rfl, rfl⟩ := hin
  refine Ok2.lneg (by decide) ?_
  show Ok2 _ ((lf_X8_requireByte p2).bind _) _
  refine Ok2.dec (ok_isInI (a := 0) (c := 255) (by decide) (by decide)) ok_requireByte (fun hb => ?_) (fun _ => Ok2.lpos rfl (Ok2.lE _ (rfl : lf_X9_fail thr 2 = some ((0 : Int32), (2 : Int32))) (Ok2.some (Or.inr (Or.inl ⟨rfl, rfl⟩)))))
  obtain ⟨v, -, hv, rfl⟩ := hb
  refine Ok2.lneg (by decide) (Ok2.lrd (16 * y + x) (by first | (simp (disch := omega) only [lI0, lI1, lI2, lI3, lI4, lI5, lI7, lI8, lI9, lI10, lI11, lI12, lI15, lI16, lI17, lI20, lI24, lI32, lI33, lI40, lI63, lI64, lI80, lI82, lI101, lI110, lI115, lI251, lI255, lI256, lI384, lI16384, lI20000, lI32768, lI49152, lI65535, nI_add, pk_mul, pk_sub, pk_div] <;> (apply congrArg nI; omega)) | rfl) (by omega) (by decide) (Ok2.lwr (16 * y + x) (by first | (simp (disch := omega) only [lI0, lI1, lI2, lI3, lI4, lI5, lI7, lI8, lI9, lI10, lI11, lI12, lI15, lI16, lI17, lI20, lI24, lI32, lI33, lI40, lI63, lI64, lI80, lI82, lI101, lI110, lI115, lI251, lI255, lI256, lI384, lI16384, lI20000, lI32768, lI49152, lI65535, nI_add, pk_mul, pk_sub, pk_div] <;> (apply congrArg nI; omega)) | rfl) (by omega) (by decide) ?_))
  show Ok2 _ ((lf_X5_at (nI w) (nI h) pc (nI x) (nI y)).bind _) _
  refine Ok2.rE _ (eq_X5_at h2 h4 hx hy) (Ok2.rE _ (eq_X5_put h2 h4 hx hy) ?_)
  rw [(h5 x y hx hy).1]
  exact Ok2.some (Or.inr (Or.inr ⟨_, _, _, rfl, rfl, hP.put hx (by omega)⟩))
theorem ok_pixel {w h : Nat} {pm pc : Nat → Int32} {thr p0 p1 : Int32} (hP : picR w h pm pc) : Ok2 (lf_X9_pixel (nI h) thr (nI w) pm p0 p1) (lf_X8_pixel (nI w) (nI h) pc p0 p1) (fun o k => (k = .inl 1 ∧ o = (0, 1)) ∨ ∃ v, k = .inr v ∧ o = (v, 0)) := by
  obtain ⟨h1, h2, h3, h4, h5⟩ := id hP
  unfold lf_X9_pixel lf_X8_pixel
  refine Ok2.dec (ok_isPixel (by omega) (by omega)) (ok_requirePixel (by omega) (by omega)) (fun hin => ?_) (fun _ => Ok2.lpos rfl (Ok2.lE _ (rfl : lf_X9_fail thr 1 = some ((0 : Int32), (1 : Int32))) (Ok2.some (Or.inl ⟨rfl, rfl⟩))))
  obtain ⟨x, y, hx, hy, rfl, rfl⟩ := hin
  refine Ok2.lneg (by decide) (Ok2.lrd (16 * y + x) (by first | (simp (disch := omega) only [lI0, lI1, lI2, lI3, lI4, lI5, lI7, lI8, lI9, lI10, lI11, lI12, lI15, lI16, lI17, lI20, lI24, lI32, lI33, lI40, lI63, lI64, lI80, lI82, lI101, lI110, lI115, lI251, lI255, lI256, lI384, lI16384, lI20000, lI32768, lI49152, lI65535, nI_add, pk_mul, pk_sub, pk_div] <;> (apply congrArg nI; omega)) | rfl) (by omega) (by decide) ?_)
  show Ok2 _ ((lf_X5_at (nI w) (nI h) pc (nI x) (nI y)).bind _) _
  refine Ok2.rE _ (eq_X5_at h2 h4 hx hy) ?_
  rw [(h5 x y hx hy).1]
  exact Ok2.some (Or.inr ⟨_, rfl, rfl⟩)
theorem ok_fillOp {w h : Nat} {pm pc : Nat → Int32} {thr p0 p1 p2 p3 p4 : Int32} (hP : picR w h pm pc) : Ok2 (lf_X9_fill (nI h) thr (nI w) pm p0 p1 p2 p3 p4) (lf_X8_fill (nI w) (nI h) pc p0 p1 p2 p3 p4) (fun o k => (k = .inl 1 ∧ o = (0, 1, pm)) ∨ (k = .inl 0 ∧ o = (0, 2, pm)) ∨ ∃ v pm2 pc2, k = .inr (v, pc2) ∧ o = (v, 0, pm2) ∧ picR w h pm2 pc2) := by
  obtain ⟨h1, h2, h3, h4, h5⟩ := id hP
  unfold lf_X9_fill lf_X8_fill
  have hf2 : lf_X9_fail thr 2 = some ((0 : Int32), (2 : Int32)) := rfl
  refine Ok2.dec (ok_isPixel (by omega) (by omega)) (ok_requirePixel (by omega) (by omega)) (fun hin => ?_) (fun _ => Ok2.lpos rfl (Ok2.lE _ (rfl : lf_X9_fail thr 1 = some ((0 : Int32), (1 : Int32))) (Ok2.some (Or.inl ⟨rfl, rfl⟩))))
  obtain ⟨x, y, hx, hy, rfl, rfl⟩ := hin
  refine Ok2.lneg (by decide) ?_
  show Ok2 _ ((lf_X8_requireByte p4).bind _) _
  refine Ok2.dec (ok_isInI (a := 0) (c := 255) (by decide) (by decide)) ok_requireByte (fun hb => ?_) (fun _ => Ok2.ljnI (Ok2.lpos rfl (Ok2.lE _ hf2 (Ok2.some (Or.inr (Or.inl ⟨rfl, rfl⟩))))))
  obtain ⟨v, -, hv, rfl⟩ := hb
  refine Ok2.ljnI (Ok2.lneg (by decide) ?_)
  rw [show nI w - nI x = nI (w - x) from (by first | (simp (disch := omega) only [lI0, lI1, lI2, lI3, lI4, lI5, lI7, lI8, lI9, lI10, lI11, lI12, lI15, lI16, lI17, lI20, lI24, lI32, lI33, lI40, lI63, lI64, lI80, lI82, lI101, lI110, lI115, lI251, lI255, lI256, lI384, lI16384, lI20000, lI32768, lI49152, lI65535, nI_add, pk_mul, pk_sub, pk_div] <;> (apply congrArg nI; omega)) | rfl), show nI h - nI y = nI (h - y) from (by first | (simp (disch := omega) only [lI0, lI1, lI2, lI3, lI4, lI5, lI7, lI8, lI9, lI10, lI11, lI12, lI15, lI16, lI17, lI20, lI24, lI32, lI33, lI40, lI63, lI64, lI80, lI82, lI101, lI110, lI115, lI251, lI255, lI256, lI384, lI16384, lI20000, lI32768, lI49152, lI65535, nI_add, pk_mul, pk_sub, pk_div] <;> (apply congrArg nI; omega)) | rfl)]
  refine Ok2.l _ (ok_isInI (a := 1) (c := w - x) (by decide) (by omega)) ?_
  show ∀ o, _ → Ok2 _ (jn _ _) _
  rintro o (⟨rfl, a, ha1, ha2, rfl⟩ | ⟨rfl, hn⟩)
  · refine Ok2.lneg (by decide) (Ok2.l _ (ok_isInI (a := 1) (c := h - y) (by decide) (by omega)) ?_)
    rintro o (⟨rfl, c, hc1, hc2, rfl⟩ | ⟨rfl, hn⟩)
    · refine Ok2.lneg (by decide) (Ok2.rjnI (Ok2.rneg (by simp (disch := omega) only [lI0, lI1, lI2, lI3, lI4, lI5, lI7, lI8, lI9, lI10, lI11, lI12, lI15, lI16, lI17, lI20, lI24, lI32, lI33, lI40, lI63, lI64, lI80, lI82, lI101, lI110, lI115, lI251, lI255, lI256, lI384, lI16384, lI20000, lI32768, lI49152, lI65535, nI_add, pk_mul, pk_sub, pk_div, nI_leI, nI_ltI, nI_eq] <;> omega) (Ok2.rneg (by simp (disch := omega) only [lI0, lI1, lI2, lI3, lI4, lI5, lI7, lI8, lI9, lI10, lI11, lI12, lI15, lI16, lI17, lI20, lI24, lI32, lI33, lI40, lI63, lI64, lI80, lI82, lI101, lI110, lI115, lI251, lI255, lI256, lI384, lI16384, lI20000, lI32768, lI49152, lI65535, nI_add, pk_mul, pk_sub, pk_div, nI_leI, nI_ltI, nI_eq] <;> omega) (Ok2.rneg (by simp (disch := omega) only [lI0, lI1, lI2, lI3, lI4, lI5, lI7, lI8, lI9, lI10, lI11, lI12, lI15, lI16, lI17, lI20, lI24, lI32, lI33, lI40, lI63, lI64, lI80, lI82, lI101, lI110, lI115, lI251, lI255, lI256, lI384, lI16384, lI20000, lI32768, lI49152, lI65535, nI_add, pk_mul, pk_sub, pk_div, nI_leI, nI_ltI, nI_eq] <;> omega) (Ok2.rpos (by simp (disch := omega) only [lI0, lI1, lI2, lI3, lI4, lI5, lI7, lI8, lI9, lI10, lI11, lI12, lI15, lI16, lI17, lI20, lI24, lI32, lI33, lI40, lI63, lI64, lI80, lI82, lI101, lI110, lI115, lI251, lI255, lI256, lI384, lI16384, lI20000, lI32768, lI49152, lI65535, nI_add, pk_mul, pk_sub, pk_div, nI_leI, nI_ltI, nI_eq] <;> omega) ?_)))))
      refine Ok2.bind (fun pm2 pc2 => picR w h pm2 pc2) ?_ (fun pm2 pc2 hp => Ok2.some (Or.inr (Or.inr ⟨_, _, _, rfl, rfl, hp⟩)))
      refine Ok2.fix (fun i s t => s.1 = nI (y + i) ∧ t.1 = nI (y + i) ∧ picR w h s.2 t.2) c (by omega) ⟨rfl, rfl, hP⟩ ?_
      rintro i ⟨s1, sa⟩ ⟨t1, ta⟩ f1 f2 hi ⟨e1, e2, hp⟩ K
      dsimp only at e1 e2 hp ⊢
      subst e1 e2
      by_cases hc : i < c
      · refine Ok2.lneg (by simp (disch := omega) only [lI0, lI1, lI2, lI3, lI4, lI5, lI7, lI8, lI9, lI10, lI11, lI12, lI15, lI16, lI17, lI20, lI24, lI32, lI33, lI40, lI63, lI64, lI80, lI82, lI101, lI110, lI115, lI251, lI255, lI256, lI384, lI16384, lI20000, lI32768, lI49152, lI65535, nI_add, pk_mul, pk_sub, pk_div, nI_leI, nI_ltI, nI_eq] <;> omega) (Ok2.rneg (by simp (disch := omega) only [lI0, lI1, lI2, lI3, lI4, lI5, lI7, lI8, lI9, lI10, lI11, lI12, lI15, lI16, lI17, lI20, lI24, lI32, lI33, lI40, lI63, lI64, lI80, lI82, lI101, lI110, lI115, lI251, lI255, lI256, lI384, lI16384, lI20000, lI32768, lI49152, lI65535, nI_add, pk_mul, pk_sub, pk_div, nI_leI, nI_ltI, nI_eq] <;> omega) (Ok2.bind (fun pm2 pc2 => picR w h pm2 pc2) ?_ (fun pm2 pc2 hp => Ok2.lbnd (Ok2.rbnd (K _ _ hc ⟨(by first | (simp (disch := omega) only [lI0, lI1, lI2, lI3, lI4, lI5, lI7, lI8, lI9, lI10, lI11, lI12, lI15, lI16, lI17, lI20, lI24, lI32, lI33, lI40, lI63, lI64, lI80, lI82, lI101, lI110, lI115, lI251, lI255, lI256, lI384, lI16384, lI20000, lI32768, lI49152, lI65535, nI_add, pk_mul, pk_sub, pk_div] <;> (apply congrArg nI; omega)) | rfl), (by first | (simp (disch := omega) only [lI0, lI1, lI2, lI3, lI4, lI5, lI7, lI8, lI9, lI10, lI11, lI12, lI15, lI16, lI17, lI20, lI24, lI32, lI33, lI40, lI63, lI64, lI80, lI82, lI101, lI110, lI115, lI251, lI255, lI256, lI384, lI16384, lI20000, lI32768, lI49152, lI65535, nI_add, pk_mul, pk_sub, pk_div] <;> (apply congrArg nI; omega)) | rfl), hp⟩)))))
        refine Ok2.fix (fun j s t => s.1 = nI (x + j) ∧ t.1 = nI (x + j) ∧ picR w h s.2 t.2) a (by omega) ⟨rfl, rfl, hp⟩ ?_
        rintro j ⟨s1, sa⟩ ⟨t1, ta⟩ f1 f2 hj ⟨e1, e2, hp⟩ K2
        dsimp only at e1 e2 hp ⊢
        subst e1 e2
        by_cases hc2 : j < a
        · refine Ok2.lneg (by simp (disch := omega) only [lI0, lI1, lI2, lI3, lI4, lI5, lI7, lI8, lI9, lI10, lI11, lI12, lI15, lI16, lI17, lI20, lI24, lI32, lI33, lI40, lI63, lI64, lI80, lI82, lI101, lI110, lI115, lI251, lI255, lI256, lI384, lI16384, lI20000, lI32768, lI49152, lI65535, nI_add, pk_mul, pk_sub, pk_div, nI_leI, nI_ltI, nI_eq] <;> omega) (Ok2.rneg (by simp (disch := omega) only [lI0, lI1, lI2, lI3, lI4, lI5, lI7, lI8, lI9, lI10, lI11, lI12, lI15, lI16, lI17, lI20, lI24, lI32, lI33, lI40, lI63, lI64, lI80, lI82, lI101, lI110, lI115, lI251, lI255, lI256, lI384, lI16384, lI20000, lI32768, lI49152, lI65535, nI_add, pk_mul, pk_sub, pk_div, nI_leI, nI_ltI, nI_eq] <;> omega) (Ok2.lwr (16 * (y + i) + (x + j)) (by first | (simp (disch := omega) only [lI0, lI1, lI2, lI3, lI4, lI5, lI7, lI8, lI9, lI10, lI11, lI12, lI15, lI16, lI17, lI20, lI24, lI32, lI33, lI40, lI63, lI64, lI80, lI82, lI101, lI110, lI115, lI251, lI255, lI256, lI384, lI16384, lI20000, lI32768, lI49152, lI65535, nI_add, pk_mul, pk_sub, pk_div] <;> (apply congrArg nI; omega)) | rfl) (by omega) (by decide) (Ok2.rE _ (eq_X5_put h2 h4 (by omega) (by omega)) (Ok2.lbnd (Ok2.rbnd (K2 _ _ hc2 ⟨(by first | (simp (disch := omega) only [lI0, lI1, lI2, lI3, lI4, lI5, lI7, lI8, lI9, lI10, lI11, lI12, lI15, lI16, lI17, lI20, lI24, lI32, lI33, lI40, lI63, lI64, lI80, lI82, lI101, lI110, lI115, lI251, lI255, lI256, lI384, lI16384, lI20000, lI32768, lI49152, lI65535, nI_add, pk_mul, pk_sub, pk_div] <;> (apply congrArg nI; omega)) | rfl), (by first | (simp (disch := omega) only [lI0, lI1, lI2, lI3, lI4, lI5, lI7, lI8, lI9, lI10, lI11, lI12, lI15, lI16, lI17, lI20, lI24, lI32, lI33, lI40, lI63, lI64, lI80, lI82, lI101, lI110, lI115, lI251, lI255, lI256, lI384, lI16384, lI20000, lI32768, lI49152, lI65535, nI_add, pk_mul, pk_sub, pk_div] <;> (apply congrArg nI; omega)) | rfl), hp.put (by omega) (by omega)⟩))))))
        · have hj2 : j = a := by omega
          subst hj2
          exact Ok2.lpos (by simp (disch := omega) only [lI0, lI1, lI2, lI3, lI4, lI5, lI7, lI8, lI9, lI10, lI11, lI12, lI15, lI16, lI17, lI20, lI24, lI32, lI33, lI40, lI63, lI64, lI80, lI82, lI101, lI110, lI115, lI251, lI255, lI256, lI384, lI16384, lI20000, lI32768, lI49152, lI65535, nI_add, pk_mul, pk_sub, pk_div, nI_leI, nI_ltI, nI_eq] <;> omega) (Ok2.rpos (by simp (disch := omega) only [lI0, lI1, lI2, lI3, lI4, lI5, lI7, lI8, lI9, lI10, lI11, lI12, lI15, lI16, lI17, lI20, lI24, lI32, lI33, lI40, lI63, lI64, lI80, lI82, lI101, lI110, lI115, lI251, lI255, lI256, lI384, lI16384, lI20000, lI32768, lI49152, lI65535, nI_add, pk_mul, pk_sub, pk_div, nI_leI, nI_ltI, nI_eq] <;> omega) (Ok2.some hp))
      · have hi2 : i = c := by omega
        subst hi2
        exact Ok2.lpos (by simp (disch := omega) only [lI0, lI1, lI2, lI3, lI4, lI5, lI7, lI8, lI9, lI10, lI11, lI12, lI15, lI16, lI17, lI20, lI24, lI32, lI33, lI40, lI63, lI64, lI80, lI82, lI101, lI110, lI115, lI251, lI255, lI256, lI384, lI16384, lI20000, lI32768, lI49152, lI65535, nI_add, pk_mul, pk_sub, pk_div, nI_leI, nI_ltI, nI_eq] <;> omega) (Ok2.rpos (by simp (disch := omega) only [lI0, lI1, lI2, lI3, lI4, lI5, lI7, lI8, lI9, lI10, lI11, lI12, lI15, lI16, lI17, lI20, lI24, lI32, lI33, lI40, lI63, lI64, lI80, lI82, lI101, lI110, lI115, lI251, lI255, lI256, lI384, lI16384, lI20000, lI32768, lI49152, lI65535, nI_add, pk_mul, pk_sub, pk_div, nI_leI, nI_ltI, nI_eq] <;> omega) (Ok2.some hp))
    · refine Ok2.lpos rfl (Ok2.lE _ hf2 (Ok2.rjnI (Ok2.rneg (by simp (disch := omega) only [lI0, lI1, lI2, lI3, lI4, lI5, lI7, lI8, lI9, lI10, lI11, lI12, lI15, lI16, lI17, lI20, lI24, lI32, lI33, lI40, lI63, lI64, lI80, lI82, lI101, lI110, lI115, lI251, lI255, lI256, lI384, lI16384, lI20000, lI32768, lI49152, lI65535, nI_add, pk_mul, pk_sub, pk_div, nI_leI, nI_ltI, nI_eq] <;> omega) ?_)))
      rcases neg_or p3 with g | ⟨d, hd, rfl⟩
      · exact Ok2.rpos (neg_lt_nI (j := 1) g (by decide)) (Ok2.some (Or.inr (Or.inl ⟨rfl, rfl⟩)))
      · by_cases h6 : d < 1
        · exact Ok2.rpos (by simp (disch := omega) only [lI0, lI1, lI2, lI3, lI4, lI5, lI7, lI8, lI9, lI10, lI11, lI12, lI15, lI16, lI17, lI20, lI24, lI32, lI33, lI40, lI63, lI64, lI80, lI82, lI101, lI110, lI115, lI251, lI255, lI256, lI384, lI16384, lI20000, lI32768, lI49152, lI65535, nI_add, pk_mul, pk_sub, pk_div, nI_leI, nI_ltI, nI_eq] <;> omega) (Ok2.some (Or.inr (Or.inl ⟨rfl, rfl⟩)))
        · refine Ok2.rneg (by simp (disch := omega) only [lI0, lI1, lI2, lI3, lI4, lI5, lI7, lI8, lI9, lI10, lI11, lI12, lI15, lI16, lI17, lI20, lI24, lI32, lI33, lI40, lI63, lI64, lI80, lI82, lI101, lI110, lI115, lI251, lI255, lI256, lI384, lI16384, lI20000, lI32768, lI49152, lI65535, nI_add, pk_mul, pk_sub, pk_div, nI_leI, nI_ltI, nI_eq] <;> omega) (Ok2.rneg (by simp (disch := omega) only [lI0, lI1, lI2, lI3, lI4, lI5, lI7, lI8, lI9, lI10, lI11, lI12, lI15, lI16, lI17, lI20, lI24, lI32, lI33, lI40, lI63, lI64, lI80, lI82, lI101, lI110, lI115, lI251, lI255, lI256, lI384, lI16384, lI20000, lI32768, lI49152, lI65535, nI_add, pk_mul, pk_sub, pk_div, nI_leI, nI_ltI, nI_eq] <;> omega) (Ok2.rneg ?_ (Ok2.some (Or.inr (Or.inl ⟨rfl, rfl⟩)))))
          intro h7
          have h8 : d ≤ h - y := by
            rcases Nat.lt_or_ge (h - y) d with g | g
            · exact absurd h7 (by simp (disch := omega) only [lI0, lI1, lI2, lI3, lI4, lI5, lI7, lI8, lI9, lI10, lI11, lI12, lI15, lI16, lI17, lI20, lI24, lI32, lI33, lI40, lI63, lI64, lI80, lI82, lI101, lI110, lI115, lI251, lI255, lI256, lI384, lI16384, lI20000, lI32768, lI49152, lI65535, nI_add, pk_mul, pk_sub, pk_div, nI_leI, nI_ltI, nI_eq] <;> omega)
            · exact g
          exact hn ⟨d, by omega, h8, rfl⟩
  · refine Ok2.lpos rfl (Ok2.lE _ hf2 (Ok2.rjnI ?_))
    rcases neg_or p2 with g | ⟨d, hd, rfl⟩
    · exact Ok2.rpos (neg_lt_nI (j := 1) g (by decide)) (Ok2.some (Or.inr (Or.inl ⟨rfl, rfl⟩)))
    · by_cases h6 : d < 1
      · exact Ok2.rpos (by simp (disch := omega) only [lI0, lI1, lI2, lI3, lI4, lI5, lI7, lI8, lI9, lI10, lI11, lI12, lI15, lI16, lI17, lI20, lI24, lI32, lI33, lI40, lI63, lI64, lI80, lI82, lI101, lI110, lI115, lI251, lI255, lI256, lI384, lI16384, lI20000, lI32768, lI49152, lI65535, nI_add, pk_mul, pk_sub, pk_div, nI_leI, nI_ltI, nI_eq] <;> omega) (Ok2.some (Or.inr (Or.inl ⟨rfl, rfl⟩)))
      · refine Ok2.rneg (by simp (disch := omega) only [lI0, lI1, lI2, lI3, lI4, lI5, lI7, lI8, lI9, lI10, lI11, lI12, lI15, lI16, lI17, lI20, lI24, lI32, lI33, lI40, lI63, lI64, lI80, lI82, lI101, lI110, lI115, lI251, lI255, lI256, lI384, lI16384, lI20000, lI32768, lI49152, lI65535, nI_add, pk_mul, pk_sub, pk_div, nI_leI, nI_ltI, nI_eq] <;> omega) ?_
        by_cases h7 : p3 < 1
        · exact Ok2.rpos h7 (Ok2.some (Or.inr (Or.inl ⟨rfl, rfl⟩)))
        · refine Ok2.rneg h7 (Ok2.rpos ?_ (Ok2.some (Or.inr (Or.inl ⟨rfl, rfl⟩))))
          rcases Nat.lt_or_ge (w - x) d with g | g
          · exact (by simp (disch := omega) only [lI0, lI1, lI2, lI3, lI4, lI5, lI7, lI8, lI9, lI10, lI11, lI12, lI15, lI16, lI17, lI20, lI24, lI32, lI33, lI40, lI63, lI64, lI80, lI82, lI101, lI110, lI115, lI251, lI255, lI256, lI384, lI16384, lI20000, lI32768, lI49152, lI65535, nI_add, pk_mul, pk_sub, pk_div, nI_leI, nI_ltI, nI_eq] <;> omega)
          · exact absurd ⟨d, by omega, g, rfl⟩ hn
theorem ok_ramp {w h : Nat} {pm pc : Nat → Int32} {thr p0 p1 p2 : Int32} (hP : picR w h pm pc) : Ok2 (lf_X9_ramp (nI h) thr (nI w) pm p0 p1 p2) (lf_X8_ramp (nI w) (nI h) pc p0 p1 p2) (fun o k => (k = .inl 0 ∧ o = (0, 1, pm)) ∨ ∃ v pm2 pc2, k = .inr (v, pc2) ∧ o = (v, 0, pm2) ∧ picR w h pm2 pc2) := by
  obtain ⟨h1, h2, h3, h4, h5⟩ := id hP
  unfold lf_X9_ramp lf_X8_ramp
  have hf1 : lf_X9_fail thr 1 = some ((0 : Int32), (1 : Int32)) := rfl
  refine Ok2.dec (ok_isInI (a := 0) (c := 255) (by decide) (by decide)) ok_requireByte (fun hb => ?_) (fun _ => Ok2.ljnI (Ok2.lpos rfl (Ok2.lE _ hf1 (Ok2.some (Or.inl ⟨rfl, rfl⟩)))))
  obtain ⟨a, -, ha, rfl⟩ := hb
  refine Ok2.ljnI (Ok2.lneg (by decide) ?_)
  show Ok2 _ ((lf_X8_requireByte p1).bind _) _
  refine Ok2.dec (ok_isInI (a := 0) (c := 255) (by decide) (by decide)) ok_requireByte (fun hb => ?_) (fun _ => Ok2.lpos rfl (Ok2.lE _ hf1 (Ok2.some (Or.inl ⟨rfl, rfl⟩))))
  obtain ⟨b, -, hb, rfl⟩ := hb
  refine Ok2.lneg (by decide) ?_
  show Ok2 _ ((lf_X8_requireByte p2).bind _) _
  refine Ok2.dec (ok_isInI (a := 0) (c := 255) (by decide) (by decide)) ok_requireByte (fun hb => ?_) (fun _ => Ok2.lpos rfl (Ok2.lE _ hf1 (Ok2.some (Or.inl ⟨rfl, rfl⟩))))
  obtain ⟨c, -, hc, rfl⟩ := hb
  refine Ok2.lneg (by decide) ?_
  show Ok2 _ (Option.bind _ _) _
  refine Ok2.bind (fun pm2 pc2 => picR w h pm2 pc2) ?_ (fun pm2 pc2 hp => ?_)
  · refine Ok2.fix (fun i s t => s.1 = nI i ∧ t.1 = nI i ∧ picR w h s.2 t.2) h (by omega) ⟨rfl, rfl, hP⟩ ?_
    rintro i ⟨s1, sa⟩ ⟨t1, ta⟩ f1 f2 hi ⟨e1, e2, hp⟩ K
    dsimp only at e1 e2 hp ⊢
    subst e1 e2
    by_cases hc : i < h
    · refine Ok2.lneg (by simp (disch := omega) only [lI0, lI1, lI2, lI3, lI4, lI5, lI7, lI8, lI9, lI10, lI11, lI12, lI15, lI16, lI17, lI20, lI24, lI32, lI33, lI40, lI63, lI64, lI80, lI82, lI101, lI110, lI115, lI251, lI255, lI256, lI384, lI16384, lI20000, lI32768, lI49152, lI65535, nI_add, pk_mul, pk_sub, pk_div, nI_leI, nI_ltI, nI_eq] <;> omega) (Ok2.rneg (by simp (disch := omega) only [lI0, lI1, lI2, lI3, lI4, lI5, lI7, lI8, lI9, lI10, lI11, lI12, lI15, lI16, lI17, lI20, lI24, lI32, lI33, lI40, lI63, lI64, lI80, lI82, lI101, lI110, lI115, lI251, lI255, lI256, lI384, lI16384, lI20000, lI32768, lI49152, lI65535, nI_add, pk_mul, pk_sub, pk_div, nI_leI, nI_ltI, nI_eq] <;> omega) (Ok2.bind (fun pm2 pc2 => picR w h pm2 pc2) ?_ (fun pm2 pc2 hp => Ok2.lbnd (Ok2.rbnd (K _ _ hc ⟨(by first | (simp (disch := omega) only [lI0, lI1, lI2, lI3, lI4, lI5, lI7, lI8, lI9, lI10, lI11, lI12, lI15, lI16, lI17, lI20, lI24, lI32, lI33, lI40, lI63, lI64, lI80, lI82, lI101, lI110, lI115, lI251, lI255, lI256, lI384, lI16384, lI20000, lI32768, lI49152, lI65535, nI_add, pk_mul, pk_sub, pk_div] <;> (apply congrArg nI; omega)) | rfl), (by first | (simp (disch := omega) only [lI0, lI1, lI2, lI3, lI4, lI5, lI7, lI8, lI9, lI10, lI11, lI12, lI15, lI16, lI17, lI20, lI24, lI32, lI33, lI40, lI63, lI64, lI80, lI82, lI101, lI110, lI115, lI251, lI255, lI256, lI384, lI16384, lI20000, lI32768, lI49152, lI65535, nI_add, pk_mul, pk_sub, pk_div] <;> (apply congrArg nI; omega)) | rfl), hp⟩)))))
      refine Ok2.fix (fun j s t => s.1 = nI j ∧ t.1 = nI j ∧ picR w h s.2 t.2) w (by omega) ⟨rfl, rfl, hp⟩ ?_
      rintro j ⟨s1, sa⟩ ⟨t1, ta⟩ f1 f2 hj ⟨e1, e2, hp⟩ K2
      dsimp only at e1 e2 hp ⊢
      subst e1 e2
      by_cases hc2 : j < w
      · have hbj : b * j ≤ 255 * 16 := Nat.mul_le_mul hb (by omega)
        have hci : c * i ≤ 255 * 24 := Nat.mul_le_mul (by omega) (by omega)
        have hv : (nI a + nI b * nI j) + nI c * nI i - ((nI a + nI b * nI j) + nI c * nI i) / (256 : Int32) * (256 : Int32) = nI ((a + b * j + c * i) % 256) := by
          rw [pk_mul, pk_mul, nI_add, nI_add]
          obtain ⟨V, hV, hV2⟩ : ∃ V, a + b * j + c * i = V ∧ V ≤ 20000 := ⟨_, rfl, by omega⟩
          rw [hV]
          (first | (simp (disch := omega) only [lI0, lI1, lI2, lI3, lI4, lI5, lI7, lI8, lI9, lI10, lI11, lI12, lI15, lI16, lI17, lI20, lI24, lI32, lI33, lI40, lI63, lI64, lI80, lI82, lI101, lI110, lI115, lI251, lI255, lI256, lI384, lI16384, lI20000, lI32768, lI49152, lI65535, nI_add, pk_mul, pk_sub, pk_div] <;> (apply congrArg nI; omega)) | rfl)
        rw [hv]
        exact Ok2.lneg (by simp (disch := omega) only [lI0, lI1, lI2, lI3, lI4, lI5, lI7, lI8, lI9, lI10, lI11, lI12, lI15, lI16, lI17, lI20, lI24, lI32, lI33, lI40, lI63, lI64, lI80, lI82, lI101, lI110, lI115, lI251, lI255, lI256, lI384, lI16384, lI20000, lI32768, lI49152, lI65535, nI_add, pk_mul, pk_sub, pk_div, nI_leI, nI_ltI, nI_eq] <;> omega) (Ok2.rneg (by simp (disch := omega) only [lI0, lI1, lI2, lI3, lI4, lI5, lI7, lI8, lI9, lI10, lI11, lI12, lI15, lI16, lI17, lI20, lI24, lI32, lI33, lI40, lI63, lI64, lI80, lI82, lI101, lI110, lI115, lI251, lI255, lI256, lI384, lI16384, lI20000, lI32768, lI49152, lI65535, nI_add, pk_mul, pk_sub, pk_div, nI_leI, nI_ltI, nI_eq] <;> omega) (Ok2.lwr (16 * i + j) (by first | (simp (disch := omega) only [lI0, lI1, lI2, lI3, lI4, lI5, lI7, lI8, lI9, lI10, lI11, lI12, lI15, lI16, lI17, lI20, lI24, lI32, lI33, lI40, lI63, lI64, lI80, lI82, lI101, lI110, lI115, lI251, lI255, lI256, lI384, lI16384, lI20000, lI32768, lI49152, lI65535, nI_add, pk_mul, pk_sub, pk_div] <;> (apply congrArg nI; omega)) | rfl) (by omega) (by decide) (Ok2.rE _ (eq_X5_put h2 h4 (by omega) (by omega)) (Ok2.lbnd (Ok2.rbnd (K2 _ _ hc2 ⟨(by first | (simp (disch := omega) only [lI0, lI1, lI2, lI3, lI4, lI5, lI7, lI8, lI9, lI10, lI11, lI12, lI15, lI16, lI17, lI20, lI24, lI32, lI33, lI40, lI63, lI64, lI80, lI82, lI101, lI110, lI115, lI251, lI255, lI256, lI384, lI16384, lI20000, lI32768, lI49152, lI65535, nI_add, pk_mul, pk_sub, pk_div] <;> (apply congrArg nI; omega)) | rfl), (by first | (simp (disch := omega) only [lI0, lI1, lI2, lI3, lI4, lI5, lI7, lI8, lI9, lI10, lI11, lI12, lI15, lI16, lI17, lI20, lI24, lI32, lI33, lI40, lI63, lI64, lI80, lI82, lI101, lI110, lI115, lI251, lI255, lI256, lI384, lI16384, lI20000, lI32768, lI49152, lI65535, nI_add, pk_mul, pk_sub, pk_div] <;> (apply congrArg nI; omega)) | rfl), hp.put (by omega) (Nat.mod_lt _ (by decide))⟩))))))
      · have hj2 : j = w := by omega
        subst hj2
        exact Ok2.lpos (by simp (disch := omega) only [lI0, lI1, lI2, lI3, lI4, lI5, lI7, lI8, lI9, lI10, lI11, lI12, lI15, lI16, lI17, lI20, lI24, lI32, lI33, lI40, lI63, lI64, lI80, lI82, lI101, lI110, lI115, lI251, lI255, lI256, lI384, lI16384, lI20000, lI32768, lI49152, lI65535, nI_add, pk_mul, pk_sub, pk_div, nI_leI, nI_ltI, nI_eq] <;> omega) (Ok2.rpos (by simp (disch := omega) only [lI0, lI1, lI2, lI3, lI4, lI5, lI7, lI8, lI9, lI10, lI11, lI12, lI15, lI16, lI17, lI20, lI24, lI32, lI33, lI40, lI63, lI64, lI80, lI82, lI101, lI110, lI115, lI251, lI255, lI256, lI384, lI16384, lI20000, lI32768, lI49152, lI65535, nI_add, pk_mul, pk_sub, pk_div, nI_leI, nI_ltI, nI_eq] <;> omega) (Ok2.some hp))
    · have hi2 : i = h := by omega
      subst hi2
      exact Ok2.lpos (by simp (disch := omega) only [lI0, lI1, lI2, lI3, lI4, lI5, lI7, lI8, lI9, lI10, lI11, lI12, lI15, lI16, lI17, lI20, lI24, lI32, lI33, lI40, lI63, lI64, lI80, lI82, lI101, lI110, lI115, lI251, lI255, lI256, lI384, lI16384, lI20000, lI32768, lI49152, lI65535, nI_add, pk_mul, pk_sub, pk_div, nI_leI, nI_ltI, nI_eq] <;> omega) (Ok2.rpos (by simp (disch := omega) only [lI0, lI1, lI2, lI3, lI4, lI5, lI7, lI8, lI9, lI10, lI11, lI12, lI15, lI16, lI17, lI20, lI24, lI32, lI33, lI40, lI63, lI64, lI80, lI82, lI101, lI110, lI115, lI251, lI255, lI256, lI384, lI16384, lI20000, lI32768, lI49152, lI65535, nI_add, pk_mul, pk_sub, pk_div, nI_leI, nI_ltI, nI_eq] <;> omega) (Ok2.some hp))
  · refine Ok2.lrd (16 * (h - 1) + (w - 1)) (by first | (simp (disch := omega) only [lI0, lI1, lI2, lI3, lI4, lI5, lI7, lI8, lI9, lI10, lI11, lI12, lI15, lI16, lI17, lI20, lI24, lI32, lI33, lI40, lI63, lI64, lI80, lI82, lI101, lI110, lI115, lI251, lI255, lI256, lI384, lI16384, lI20000, lI32768, lI49152, lI65535, nI_add, pk_mul, pk_sub, pk_div] <;> (apply congrArg nI; omega)) | rfl) (by omega) (by decide) ?_
    rw [show nI w - (1 : Int32) = nI (w - 1) from (by first | (simp (disch := omega) only [lI0, lI1, lI2, lI3, lI4, lI5, lI7, lI8, lI9, lI10, lI11, lI12, lI15, lI16, lI17, lI20, lI24, lI32, lI33, lI40, lI63, lI64, lI80, lI82, lI101, lI110, lI115, lI251, lI255, lI256, lI384, lI16384, lI20000, lI32768, lI49152, lI65535, nI_add, pk_mul, pk_sub, pk_div] <;> (apply congrArg nI; omega)) | rfl), show nI h - (1 : Int32) = nI (h - 1) from (by first | (simp (disch := omega) only [lI0, lI1, lI2, lI3, lI4, lI5, lI7, lI8, lI9, lI10, lI11, lI12, lI15, lI16, lI17, lI20, lI24, lI32, lI33, lI40, lI63, lI64, lI80, lI82, lI101, lI110, lI115, lI251, lI255, lI256, lI384, lI16384, lI20000, lI32768, lI49152, lI65535, nI_add, pk_mul, pk_sub, pk_div] <;> (apply congrArg nI; omega)) | rfl)]
    refine Ok2.rE _ (eq_X5_at h2 h4 (by omega) (by omega)) ?_
    rw [(hp.2.2.2.2 (w - 1) (h - 1) (by omega) (by omega)).1]
    exact Ok2.some (Or.inr ⟨_, _, _, rfl, rfl, hp⟩)
