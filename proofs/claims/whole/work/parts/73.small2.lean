/-! ===== settings and stream, both sides ===== -/
def setR (nL : Nat) (sm sc : Nat → Int32) : Prop := 1 ≤ nL ∧ nL ≤ 3 ∧ ∃ st : Nat → Nat, ∀ k, k < nL → sc k = nI (st k) ∧ sm k = nI (st k) ∧ 1 ≤ st k ∧ st k ≤ 32
theorem ok_stepAfter {b : Nat} {v : Int32} (h0 : 1 ≤ b) (hb : b ≤ 33) : Ok (lf_X8_isStepAfter (nI b) v) (fun o => o = 1 ∧ inI 1 (b - 1) v ∨ o = 0 ∧ ¬ inI 1 (b - 1) v) := by
  rcases neg_or v with g | ⟨j, hj, rfl⟩
  · unfold lf_X8_isStepAfter
    refine Ok.jnI (Ok.pos (neg_lt_nI (j := 1) g (by decide)) (Ok.some (Or.inr ⟨rfl, ?_⟩)))
    rintro ⟨v, h2, h3, h4⟩
    exact neg_ne g (by omega) h4
  · rw [eq_stepAfter (by omega) hj]
    by_cases h1 : 1 ≤ j ∧ j ≤ 32 ∧ j < b
    · rw [if_pos h1]
      exact Ok.some (Or.inl ⟨rfl, j, h1.1, by omega, rfl⟩)
    · rw [if_neg h1]
      refine Ok.some (Or.inr ⟨rfl, ?_⟩)
      rintro ⟨v, h2, h3, h4⟩
      have := nI_inj hj (by omega) h4
      exact h1 (by omega)
theorem ok_stepAfter0 {v : Int32} : Ok (lf_X8_isStepAfter 0 v) (fun o => o = 0) := by
  rcases neg_or v with g | ⟨j, hj, rfl⟩
  · unfold lf_X8_isStepAfter
    exact Ok.jnI (Ok.pos (neg_lt_nI (j := 1) g (by decide)) (Ok.some rfl))
  · have e := eq_stepAfter (p := 0) (v := j) (by decide) hj
    rw [show lf_X8_isStepAfter 0 (nI j) = lf_X8_isStepAfter (nI 0) (nI j) from rfl, e, if_neg (by omega)]
    exact Ok.some rfl
set_option maxHeartbeats 1000000 in
theorem ok_setSteps {nL : Nat} {sm sc : Nat → Int32} {thr p0 p1 p2 : Int32} : Ok2 (lf_X9_setSteps (nI nL) thr sm p0 p1 p2) (lf_X8_setSteps (nI nL) sc p0 p1 p2) (fun o k => (k = .inl 0 ∧ o = (0, nI nL, 1, sm)) ∨ ∃ nL2 sm2 sc2, k = .inr (nI nL2, nI nL2, sc2) ∧ o = (nI nL2, nI nL2, 0, sm2) ∧ setR nL2 sm2 sc2) := by
  unfold lf_X9_setSteps lf_X8_setSteps
  have hf1 : lf_X9_fail thr 1 = some ((0 : Int32), (1 : Int32)) := rfl
  refine Ok2.dec (ok_isInI (a := 1) (c := 32) (by decide) (by decide)) (ok_stepAfter (b := 33) (by decide) (by decide)) (fun hb => ?_) (fun _ => Ok2.ljnI (Ok2.lpos rfl (Ok2.lE _ hf1 (Ok2.rpos rfl (Ok2.some (Or.inl ⟨rfl, rfl⟩))))))
  obtain ⟨a, ha1, ha2, rfl⟩ := hb
  refine Ok2.ljnI (Ok2.lneg (by decide) (Ok2.rneg (by decide) ?_))
  rw [show nI a - (1 : Int32) = nI (a - 1) from (by first | (simp (disch := omega) only [lI0, lI1, lI2, lI3, lI4, lI5, lI7, lI8, lI9, lI10, lI11, lI12, lI15, lI16, lI17, lI20, lI24, lI32, lI33, lI40, lI63, lI64, lI80, lI82, lI101, lI110, lI115, lI251, lI255, lI256, lI384, lI16384, lI20000, lI32768, lI49152, lI65535, nI_add, pk_mul, pk_sub, pk_div] <;> (apply congrArg nI; omega)) | rfl)]
  refine Ok2.l _ (ok_isInI (a := 0) (c := a - 1) (by decide) (by omega)) ?_
  rintro o (⟨rfl, b, -, hb, rfl⟩ | ⟨rfl, hn⟩)
  · refine Ok2.lneg (by decide) ?_
    -- the class goes on behind the second step
    refine Ok2.rjn (fun _ => True) (fun k hk => ?_) (fun z _ => ?_)
    · by_cases hb0 : b = 0
      · subst hb0
        exact Ok2.rpos rfl (hk _ trivial)
      · refine Ok2.rneg (by simp (disch := omega) only [lI0, lI1, lI2, lI3, lI4, lI5, lI7, lI8, lI9, lI10, lI11, lI12, lI15, lI16, lI17, lI20, lI24, lI32, lI33, lI40, lI63, lI64, lI80, lI82, lI101, lI110, lI115, lI251, lI255, lI256, lI384, lI16384, lI20000, lI32768, lI49152, lI65535, nI_add, pk_mul, pk_sub, pk_div, nI_leI, nI_ltI, nI_eq] <;> omega) (Ok2.r _ (ok_stepAfter ha1 (by omega)) ?_)
        rintro o (⟨rfl, -⟩ | ⟨rfl, hn⟩)
        · exact Ok2.rneg (by decide) (hk _ trivial)
        · exact absurd ⟨b, by omega, hb, rfl⟩ hn
    · refine Ok2.ljn (fun x => x = nI (b - 1)) (fun k hk => ?_) (fun x hx => ?_)
      · by_cases hb0 : b = 0
        · subst hb0
          exact Ok2.lpos rfl (hk _ rfl)
        · exact Ok2.lneg (by simp (disch := omega) only [lI0, lI1, lI2, lI3, lI4, lI5, lI7, lI8, lI9, lI10, lI11, lI12, lI15, lI16, lI17, lI20, lI24, lI32, lI33, lI40, lI63, lI64, lI80, lI82, lI101, lI110, lI115, lI251, lI255, lI256, lI384, lI16384, lI20000, lI32768, lI49152, lI65535, nI_add, pk_mul, pk_sub, pk_div, nI_leI, nI_ltI, nI_eq] <;> omega) (hk _ (by first | (simp (disch := omega) only [lI0, lI1, lI2, lI3, lI4, lI5, lI7, lI8, lI9, lI10, lI11, lI12, lI15, lI16, lI17, lI20, lI24, lI32, lI33, lI40, lI63, lI64, lI80, lI82, lI101, lI110, lI115, lI251, lI255, lI256, lI384, lI16384, lI20000, lI32768, lI49152, lI65535, nI_add, pk_mul, pk_sub, pk_div] <;> (apply congrArg nI; omega)) | rfl))
      subst hx
      refine Ok2.l _ (ok_isInI (a := 0) (c := b - 1) (by decide) (by omega)) ?_
      rintro o (⟨rfl, c, -, hc, rfl⟩ | ⟨rfl, hn⟩)
      · refine Ok2.lneg (by decide) (Ok2.rjn (fun _ => True) (fun k hk => ?_) (fun z _ => ?_))
        · by_cases hc0 : c = 0
          · subst hc0
            exact Ok2.rpos rfl (hk _ trivial)
          · refine Ok2.rneg (by simp (disch := omega) only [lI0, lI1, lI2, lI3, lI4, lI5, lI7, lI8, lI9, lI10, lI11, lI12, lI15, lI16, lI17, lI20, lI24, lI32, lI33, lI40, lI63, lI64, lI80, lI82, lI101, lI110, lI115, lI251, lI255, lI256, lI384, lI16384, lI20000, lI32768, lI49152, lI65535, nI_add, pk_mul, pk_sub, pk_div, nI_leI, nI_ltI, nI_eq] <;> omega) (Ok2.r _ (ok_stepAfter (b := b) (by omega) (by omega)) ?_)
            rintro o (⟨rfl, -⟩ | ⟨rfl, hn⟩)
            · exact Ok2.rneg (by decide) (hk _ trivial)
            · exact absurd ⟨c, by omega, hc, rfl⟩ hn
        · refine Ok2.lwr 0 rfl (by decide) (by decide) (Ok2.lwr 1 rfl (by decide) (by decide) (Ok2.lwr 2 rfl (by decide) (by decide) ?_))
          refine Ok2.rwr 0 rfl (by decide) (by decide) (Ok2.rwr 1 rfl (by decide) (by decide) (Ok2.rwr 2 rfl (by decide) (by decide) (Ok2.ljnI (Ok2.rjnI ?_))))
          have hgen : ∀ nL2, 1 ≤ nL2 → nL2 ≤ 3 → (2 ≤ nL2 → 1 ≤ b) → (3 ≤ nL2 → 1 ≤ c) → setR nL2 (upd (upd (upd sm 0 (nI a)) 1 (nI b)) 2 (nI c)) (upd (upd (upd sc 0 (nI a)) 1 (nI b)) 2 (nI c)) := by
            intro nL2 g1 g2 g3 g4
            refine ⟨g1, g2, fun k => if k = 0 then a else if k = 1 then b else c, fun k hk => ?_⟩
            have hk3 : k = 0 ∨ k = 1 ∨ k = 2 := by omega
            rcases hk3 with rfl | rfl | rfl
            · exact ⟨rfl, rfl, ha1, ha2⟩
            · exact ⟨rfl, rfl, g3 (by omega), by show b ≤ 32; omega⟩
            · exact ⟨rfl, rfl, g4 (by omega), by show c ≤ 32; omega⟩
          by_cases hc0 : c = 0
          · subst hc0
            by_cases hb0 : b = 0
            · subst hb0
              refine Ok2.lpos (by simp (disch := omega) only [lI0, lI1, lI2, lI3, lI4, lI5, lI7, lI8, lI9, lI10, lI11, lI12, lI15, lI16, lI17, lI20, lI24, lI32, lI33, lI40, lI63, lI64, lI80, lI82, lI101, lI110, lI115, lI251, lI255, lI256, lI384, lI16384, lI20000, lI32768, lI49152, lI65535, nI_add, pk_mul, pk_sub, pk_div, nI_leI, nI_ltI, nI_eq] <;> omega) (Ok2.lpos (by simp (disch := omega) only [lI0, lI1, lI2, lI3, lI4, lI5, lI7, lI8, lI9, lI10, lI11, lI12, lI15, lI16, lI17, lI20, lI24, lI32, lI33, lI40, lI63, lI64, lI80, lI82, lI101, lI110, lI115, lI251, lI255, lI256, lI384, lI16384, lI20000, lI32768, lI49152, lI65535, nI_add, pk_mul, pk_sub, pk_div, nI_leI, nI_ltI, nI_eq] <;> omega) (Ok2.rpos rfl (Ok2.some (Or.inr ⟨1, _, _, rfl, rfl, hgen 1 (by decide) (by decide) (by omega) (by omega)⟩))))
            · refine Ok2.lpos (by simp (disch := omega) only [lI0, lI1, lI2, lI3, lI4, lI5, lI7, lI8, lI9, lI10, lI11, lI12, lI15, lI16, lI17, lI20, lI24, lI32, lI33, lI40, lI63, lI64, lI80, lI82, lI101, lI110, lI115, lI251, lI255, lI256, lI384, lI16384, lI20000, lI32768, lI49152, lI65535, nI_add, pk_mul, pk_sub, pk_div, nI_leI, nI_ltI, nI_eq] <;> omega) (Ok2.lneg (by simp (disch := omega) only [lI0, lI1, lI2, lI3, lI4, lI5, lI7, lI8, lI9, lI10, lI11, lI12, lI15, lI16, lI17, lI20, lI24, lI32, lI33, lI40, lI63, lI64, lI80, lI82, lI101, lI110, lI115, lI251, lI255, lI256, lI384, lI16384, lI20000, lI32768, lI49152, lI65535, nI_add, pk_mul, pk_sub, pk_div, nI_leI, nI_ltI, nI_eq] <;> omega) (Ok2.rneg (by simp (disch := omega) only [lI0, lI1, lI2, lI3, lI4, lI5, lI7, lI8, lI9, lI10, lI11, lI12, lI15, lI16, lI17, lI20, lI24, lI32, lI33, lI40, lI63, lI64, lI80, lI82, lI101, lI110, lI115, lI251, lI255, lI256, lI384, lI16384, lI20000, lI32768, lI49152, lI65535, nI_add, pk_mul, pk_sub, pk_div, nI_leI, nI_ltI, nI_eq] <;> omega) (Ok2.rpos rfl (Ok2.some (Or.inr ⟨2, _, _, rfl, rfl, hgen 2 (by decide) (by decide) (by omega) (by omega)⟩)))))
          · have hb0 : b ≠ 0 := by omega
            refine Ok2.lneg (by simp (disch := omega) only [lI0, lI1, lI2, lI3, lI4, lI5, lI7, lI8, lI9, lI10, lI11, lI12, lI15, lI16, lI17, lI20, lI24, lI32, lI33, lI40, lI63, lI64, lI80, lI82, lI101, lI110, lI115, lI251, lI255, lI256, lI384, lI16384, lI20000, lI32768, lI49152, lI65535, nI_add, pk_mul, pk_sub, pk_div, nI_leI, nI_ltI, nI_eq] <;> omega) (Ok2.rneg (by simp (disch := omega) only [lI0, lI1, lI2, lI3, lI4, lI5, lI7, lI8, lI9, lI10, lI11, lI12, lI15, lI16, lI17, lI20, lI24, lI32, lI33, lI40, lI63, lI64, lI80, lI82, lI101, lI110, lI115, lI251, lI255, lI256, lI384, lI16384, lI20000, lI32768, lI49152, lI65535, nI_add, pk_mul, pk_sub, pk_div, nI_leI, nI_ltI, nI_eq] <;> omega) (Ok2.rneg (by simp (disch := omega) only [lI0, lI1, lI2, lI3, lI4, lI5, lI7, lI8, lI9, lI10, lI11, lI12, lI15, lI16, lI17, lI20, lI24, lI32, lI33, lI40, lI63, lI64, lI80, lI82, lI101, lI110, lI115, lI251, lI255, lI256, lI384, lI16384, lI20000, lI32768, lI49152, lI65535, nI_add, pk_mul, pk_sub, pk_div, nI_leI, nI_ltI, nI_eq] <;> omega) (Ok2.some (Or.inr ⟨3, _, _, rfl, rfl, hgen 3 (by decide) (by decide) (by omega) (by omega)⟩))))
      · refine Ok2.lpos rfl (Ok2.lE _ hf1 (Ok2.rjnI (Ok2.rneg (fun e => hn ⟨0, by omega, by omega, e⟩) ?_)))
        by_cases hb0 : b = 0
        · subst hb0
          refine Ok2.r _ ok_stepAfter0 ?_
          rintro o rfl
          exact Ok2.rpos rfl (Ok2.some (Or.inl ⟨rfl, rfl⟩))
        · refine Ok2.r _ (ok_stepAfter (b := b) (by omega) (by omega)) ?_
          rintro o (⟨rfl, v, h2, h3, h4⟩ | ⟨rfl, -⟩)
          · exact absurd ⟨v, by omega, h3, h4⟩ hn
          · exact Ok2.rpos rfl (Ok2.some (Or.inl ⟨rfl, rfl⟩))
  · refine Ok2.lpos rfl (Ok2.lE _ hf1 (Ok2.rjnI (Ok2.rneg (fun e => hn ⟨0, by omega, by omega, e⟩) (Ok2.r _ (ok_stepAfter ha1 (by omega)) ?_))))
    rintro o (⟨rfl, v, h2, h3, h4⟩ | ⟨rfl, -⟩)
    · exact absurd ⟨v, by omega, h3, h4⟩ hn
    · exact Ok2.rpos rfl (Ok2.some (Or.inl ⟨rfl, rfl⟩))
theorem ok_lossless {nL : Nat} {sm sc : Nat → Int32} (hS : setR nL sm sc) : Ok2 (lf_X9_isLossless (nI nL) sm) (lf_X8_isLossless (nI nL) sc) (fun o k => o = k) := by
  obtain ⟨h1, h2, st, h3⟩ := hS
  unfold lf_X9_isLossless lf_X8_isLossless
  refine Ok2.lrd (nL - 1) (by first | (simp (disch := omega) only [lI0, lI1, lI2, lI3, lI4, lI5, lI7, lI8, lI9, lI10, lI11, lI12, lI15, lI16, lI17, lI20, lI24, lI32, lI33, lI40, lI63, lI64, lI80, lI82, lI101, lI110, lI115, lI251, lI255, lI256, lI384, lI16384, lI20000, lI32768, lI49152, lI65535, nI_add, pk_mul, pk_sub, pk_div] <;> (apply congrArg nI; omega)) | rfl) (by omega) (by decide) (Ok2.rrd (nL - 1) (by first | (simp (disch := omega) only [lI0, lI1, lI2, lI3, lI4, lI5, lI7, lI8, lI9, lI10, lI11, lI12, lI15, lI16, lI17, lI20, lI24, lI32, lI33, lI40, lI63, lI64, lI80, lI82, lI101, lI110, lI115, lI251, lI255, lI256, lI384, lI16384, lI20000, lI32768, lI49152, lI65535, nI_add, pk_mul, pk_sub, pk_div] <;> (apply congrArg nI; omega)) | rfl) (by omega) (by decide) ?_)
  obtain ⟨e1, e2, -⟩ := h3 (nL - 1) (by omega)
  rw [e1, e2]
  by_cases h : nI (st (nL - 1)) = 1
  · exact Ok2.lpos h (Ok2.rpos h (Ok2.some rfl))
  · exact Ok2.lneg h (Ok2.rneg h (Ok2.some rfl))
/-- the streams of both sides -/
def strR (sz n : Nat) (st cy : Nat → Int32) : Prop := sz ≤ 18500 ∧ aI sz n ∧ sR sz st cy
theorem ok_requireSB {sz : Nat} {p : Int32} (hs : sz < 2 ^ 31) : Ok (lf_X8_requireStreamByte (nI sz) p) (fun o => o = .inr () ∧ inX sz p ∨ o = .inl 1 ∧ ¬ inX sz p) := by
  unfold lf_X8_requireStreamByte
  refine Ok.jnI ?_
  rcases neg_or p with g | ⟨v, hv, rfl⟩
  · refine Ok.pos g (Ok.some (Or.inr ⟨rfl, ?_⟩))
    rintro ⟨v, h2, h4⟩
    exact neg_ne g (by omega) h4
  · refine Ok.neg (by simp (disch := omega) only [lI0, lI1, lI2, lI3, lI4, lI5, lI7, lI8, lI9, lI10, lI11, lI12, lI15, lI16, lI17, lI20, lI24, lI32, lI33, lI40, lI63, lI64, lI80, lI82, lI101, lI110, lI115, lI251, lI255, lI256, lI384, lI16384, lI20000, lI32768, lI49152, lI65535, nI_add, pk_mul, pk_sub, pk_div, nI_leI, nI_ltI, nI_eq] <;> omega) ?_
    by_cases h1 : v < sz
    · exact Ok.pos (by simp (disch := omega) only [lI0, lI1, lI2, lI3, lI4, lI5, lI7, lI8, lI9, lI10, lI11, lI12, lI15, lI16, lI17, lI20, lI24, lI32, lI33, lI40, lI63, lI64, lI80, lI82, lI101, lI110, lI115, lI251, lI255, lI256, lI384, lI16384, lI20000, lI32768, lI49152, lI65535, nI_add, pk_mul, pk_sub, pk_div, nI_leI, nI_ltI, nI_eq] <;> omega) (Ok.some (Or.inl ⟨rfl, v, h1, rfl⟩))
    · refine Ok.neg (by simp (disch := omega) only [lI0, lI1, lI2, lI3, lI4, lI5, lI7, lI8, lI9, lI10, lI11, lI12, lI15, lI16, lI17, lI20, lI24, lI32, lI33, lI40, lI63, lI64, lI80, lI82, lI101, lI110, lI115, lI251, lI255, lI256, lI384, lI16384, lI20000, lI32768, lI49152, lI65535, nI_add, pk_mul, pk_sub, pk_div, nI_leI, nI_ltI, nI_eq] <;> omega) (Ok.some (Or.inr ⟨rfl, ?_⟩))
      rintro ⟨v2, h2, h4⟩
      have := nI_inj hv (by omega) h4
      omega
theorem ok_byteAt {sz n : Nat} {st cy : Nat → Int32} {thr p0 : Int32} (hS : strR sz n st cy) : Ok2 (lf_X9_byteAt (nI sz) thr st p0) (lf_X8_byteAt (nI sz) n cy p0) (fun o k => (k = .inl 1 ∧ o = (0, 1)) ∨ ∃ v, k = .inr v ∧ o = (v, 0)) := by
  obtain ⟨h1, h2, h3⟩ := hS
  obtain ⟨q1, q2, q3⟩ := aI_le h2
  unfold lf_X9_byteAt lf_X8_byteAt
  refine Ok2.dec (ok_isInX (by omega)) (ok_requireSB (by omega)) (fun hin => ?_) (fun _ => Ok2.lpos rfl (Ok2.lE _ (rfl : lf_X9_fail thr 1 = some ((0 : Int32), (1 : Int32))) (Ok2.some (Or.inl ⟨rfl, rfl⟩))))
  obtain ⟨x, hx, rfl⟩ := hin
  refine Ok2.lneg (by decide) (Ok2.lrd x rfl (by omega) (by decide) ?_)
  show Ok2 _ ((lf_X3_at (nI sz) n cy (nI x)).bind _) _
  refine Ok2.rE _ (eq_X3_at q3 q1 (by omega)) ?_
  rw [if_pos hx, (h3 x hx).1]
  exact Ok2.some (Or.inr ⟨_, rfl, rfl⟩)
theorem ok_setByte {sz n : Nat} {st cy : Nat → Int32} {thr p0 p1 : Int32} (hS : strR sz n st cy) : Ok2 (lf_X9_setByte (nI sz) thr st p0 p1) (lf_X8_setByte (nI sz) n cy p0 p1) (fun o k => (k = .inl 1 ∧ o = (0, 1, st)) ∨ (k = .inl 0 ∧ o = (0, 2, st)) ∨ ∃ v st2 cy2, k = .inr (v, cy2) ∧ o = (v, 0, st2) ∧ strR sz n st2 cy2) := by
  obtain ⟨h1, h2, h3⟩ := hS
  obtain ⟨q1, q2, q3⟩ := aI_le h2
  unfold lf_X9_setByte lf_X8_setByte
  refine Ok2.dec (ok_isInX (by omega)) (ok_requireSB (by omega)) (fun hin => ?_) (fun _ => Ok2.lpos rfl (Ok2.lE _ (rfl : lf_X9_fail thr 1 = some ((0 : Int32), (1 : Int32))) (Ok2.some (Or.inl ⟨rfl, rfl⟩))))
  obtain ⟨x, hx, rfl⟩ := hin
  refine Ok2.lneg (by decide) ?_
  show Ok2 _ ((lf_X8_requireByte p1).bind _) _
  refine Ok2.dec (ok_isInI (a := 0) (c := 255) (by decide) (by decide)) ok_requireByte (fun hb => ?_) (fun _ => Ok2.lpos rfl (Ok2.lE _ (rfl : lf_X9_fail thr 2 = some ((0 : Int32), (2 : Int32))) (Ok2.some (Or.inr (Or.inl ⟨rfl, rfl⟩)))))
  obtain ⟨v, -, hv, rfl⟩ := hb
  refine Ok2.lneg (by decide) (Ok2.lrd x rfl (by omega) (by decide) (Ok2.lwr x rfl (by omega) (by decide) ?_))
  show Ok2 _ ((lf_X3_at (nI sz) n cy (nI x)).bind _) _
  refine Ok2.rE _ (eq_X3_at q3 q1 (by omega)) ?_
  rw [if_pos hx, (h3 x hx).1]
  have hput : lf_X3_put (nI sz) n cy (nI x) (nI v) = some (upd cy x (nI v)) := by
    suffices hs : Ok (lf_X3_put (nI sz) n cy (nI x) (nI v)) (fun o => o = upd cy x (nI v)) by
      obtain ⟨o, g1, g2⟩ := hs
      rw [g1, g2]
    unfold lf_X3_put
    exact Ok.neg (by simp (disch := omega) only [lI0, lI1, lI2, lI3, lI4, lI5, lI7, lI8, lI9, lI10, lI11, lI12, lI15, lI16, lI17, lI20, lI24, lI32, lI33, lI40, lI63, lI64, lI80, lI82, lI101, lI110, lI115, lI251, lI255, lI256, lI384, lI16384, lI20000, lI32768, lI49152, lI65535, nI_add, pk_mul, pk_sub, pk_div, nI_leI, nI_ltI, nI_eq] <;> omega) (Ok.neg (by simp (disch := omega) only [lI0, lI1, lI2, lI3, lI4, lI5, lI7, lI8, lI9, lI10, lI11, lI12, lI15, lI16, lI17, lI20, lI24, lI32, lI33, lI40, lI63, lI64, lI80, lI82, lI101, lI110, lI115, lI251, lI255, lI256, lI384, lI16384, lI20000, lI32768, lI49152, lI65535, nI_add, pk_mul, pk_sub, pk_div, nI_leI, nI_ltI, nI_eq] <;> omega) (Ok.wr x rfl (by omega) (by omega) (Ok.some rfl)))
  refine Ok2.rE _ hput (Ok2.some (Or.inr (Or.inr ⟨_, _, _, rfl, rfl, h1, h2, fun i hi => ?_⟩)))
  by_cases h4 : i = x
  · subst h4
    rw [upd_eq, upd_eq]
    exact ⟨rfl, v, by omega, rfl⟩
  · rw [upd_ne h4, upd_ne h4]
    exact h3 i hi
theorem ok_cut {sz n : Nat} {st cy : Nat → Int32} {thr p0 : Int32} (hS : strR sz n st cy) : Ok2 (lf_X9_cut (nI sz) thr p0) (lf_X8_cut (nI sz) p0) (fun o k => (k = .inl 0 ∧ o = (0, nI sz, 1)) ∨ ∃ v sz2, k = .inr (v, nI sz2) ∧ o = (v, nI sz2, 0) ∧ strR sz2 n st cy) := by
  obtain ⟨h1, h2, h3⟩ := hS
  obtain ⟨q1, q2, q3⟩ := aI_le h2
  unfold lf_X9_cut lf_X8_cut
  refine Ok2.l _ (ok_isInI (a := 0) (c := sz) (by decide) (by omega)) ?_
  rintro o (⟨rfl, v, -, hv, rfl⟩ | ⟨rfl, hn⟩)
  · refine Ok2.lneg (by decide) (Ok2.rjnI (Ok2.rneg (by simp (disch := omega) only [lI0, lI1, lI2, lI3, lI4, lI5, lI7, lI8, lI9, lI10, lI11, lI12, lI15, lI16, lI17, lI20, lI24, lI32, lI33, lI40, lI63, lI64, lI80, lI82, lI101, lI110, lI115, lI251, lI255, lI256, lI384, lI16384, lI20000, lI32768, lI49152, lI65535, nI_add, pk_mul, pk_sub, pk_div, nI_leI, nI_ltI, nI_eq] <;> omega) (Ok2.rpos (by simp (disch := omega) only [lI0, lI1, lI2, lI3, lI4, lI5, lI7, lI8, lI9, lI10, lI11, lI12, lI15, lI16, lI17, lI20, lI24, lI32, lI33, lI40, lI63, lI64, lI80, lI82, lI101, lI110, lI115, lI251, lI255, lI256, lI384, lI16384, lI20000, lI32768, lI49152, lI65535, nI_add, pk_mul, pk_sub, pk_div, nI_leI, nI_ltI, nI_eq] <;> omega) (Ok2.rbnd (Ok2.some (Or.inr ⟨_, v, rfl, rfl, by omega, ⟨h2.1, by omega⟩, fun i hi => h3 i (by omega)⟩))))))
  · refine Ok2.lpos rfl (Ok2.lE _ (rfl : lf_X9_fail thr 1 = some ((0 : Int32), (1 : Int32))) (Ok2.rjnI ?_))
    by_cases g : p0 < 0
    · exact Ok2.rpos g (Ok2.some (Or.inl ⟨rfl, rfl⟩))
    · obtain ⟨v, hv, rfl⟩ := nI_of g
      refine Ok2.rneg g (Ok2.rneg ?_ (Ok2.some (Or.inl ⟨rfl, rfl⟩)))
      intro h4
      have h5 : v ≤ sz := by
        rcases Nat.lt_or_ge sz v with g2 | g2
        · exact absurd h4 (by simp (disch := omega) only [lI0, lI1, lI2, lI3, lI4, lI5, lI7, lI8, lI9, lI10, lI11, lI12, lI15, lI16, lI17, lI20, lI24, lI32, lI33, lI40, lI63, lI64, lI80, lI82, lI101, lI110, lI115, lI251, lI255, lI256, lI384, lI16384, lI20000, lI32768, lI49152, lI65535, nI_add, pk_mul, pk_sub, pk_div, nI_leI, nI_ltI, nI_eq] <;> omega)
        · exact g2
      exact hn ⟨v, by omega, h5, rfl⟩
/-- one byte put behind both streams -/
theorem sR_app {c n v : Nat} {st cy : Nat → Int32} {p : Int32} (e : p = nI v) (hv : v < 256) (hc : c < 20000) (hs : sR c st cy) (ha : aI c n) : Ok (lf_X3_append (nI c) n cy p) (fun o => o.1 = nI (c + 1) ∧ aI (c + 1) o.2.2 ∧ n ≤ o.2.2 ∧ o.2.2 ≤ GLIM ∧ sR (c + 1) (upd st c (nI v)) o.2.1) := by
  subst e
  refine Ok.mono (ok_append ha (by omega)) fun o ho => ?_
  obtain ⟨h1, h2, h3, h4, h5, h6⟩ := ho
  refine ⟨h1, h2, h3, h4, fun i hi => ?_⟩
  by_cases h7 : i = c
  · subst h7
    rw [upd_eq, h6]
    exact ⟨rfl, v, hv, rfl⟩
  · rw [upd_ne h7, h5 i (by omega)]
    exact hs i (by omega)
set_option maxHeartbeats 1000000 in
theorem ok_encodePlain {w h c0 n : Nat} {pm pc st cy : Nat → Int32} {m1 m2 m3 m4 m5 c1 c2 c3 c4 c5 cc : Int32} (hP : picR w h pm pc) (ha : aI c0 n) : Ok2 (lf_X9_encodePlain m1 m2 m3 (nI h) m4 m5 (nI w) pm st) (lf_X8_encodePlain c1 c2 c3 (nI w) (nI h) c4 c5 cc pc n cy) (fun o k => ∃ sz2 st2 cy2 n2, sz2 ≤ 387 ∧ o = (nI sz2, nI h, nI w, nI sz2, 2, nI sz2, st2) ∧ k = (nI sz2, 0, nI h, nI w, nI (3 + w * h), nI sz2, nI sz2, cy2, n2) ∧ n ≤ n2 ∧ n2 ≤ GLIM ∧ aI sz2 n2 ∧ sR sz2 st2 cy2) := by
  obtain ⟨h1, h2, h3, h4, h5⟩ := id hP
  obtain ⟨q1, q2, q3⟩ := aI_le ha
  unfold lf_X9_encodePlain lf_X8_encodePlain
  have hhw : h * w ≤ 24 * 16 := Nat.mul_le_mul h4 h2
  have a0 : aI 0 n := ⟨ha.1, by omega⟩
  refine Ok2.l _ ok_mheader ?_
  rintro o rfl
  refine Ok2.rpos q1 (Ok2.rE _ (rfl : lf_X3_clear cc = some (nI 0)) (Ok2.r _ (sR_app (v := 82) rfl (by decide) (by decide) (st := st) (fun i hi => absurd hi (Nat.not_lt_zero i)) a0) ?_))
  rintro ⟨d1, t1, n1⟩ ⟨f1, f2, f3, f4, f5⟩
  dsimp only at f1 f2 f3 f4 f5 ⊢
  subst f1
  refine Ok2.rpos ⟨f3, f4⟩ (Ok2.r _ (sR_app (v := w) rfl (by omega) (by omega) f5 f2) ?_)
  rintro ⟨d1, t2, n2⟩ ⟨g1, g2, g3, g4, g5⟩
  dsimp only at g1 g2 g3 g4 g5 ⊢
  subst g1
  refine Ok2.rpos ⟨g3, g4⟩ (Ok2.r _ (sR_app (v := h) rfl (by omega) (by omega) g5 g2) ?_)
  rintro ⟨d1, t3, n3⟩ ⟨k1, k2, k3, k4, k5⟩
  dsimp only at k1 k2 k3 k4 k5 ⊢
  subst k1
  refine Ok2.rpos ⟨k3, k4⟩ ?_
  have hn3 : n ≤ n3 := Nat.le_trans f3 (Nat.le_trans g3 k3)
  refine Ok2.bind (fun a b => ∃ n4, a.1 = nI (3 + h * w) ∧ b.1 = nI (3 + h * w) ∧ b.2.2 = n4 ∧ n ≤ n4 ∧ n4 ≤ GLIM ∧ aI (3 + h * w) n4 ∧ sR (3 + h * w) a.2 b.2.1) ?_ ?_
  · refine Ok2.fix (fun y a b => a.1 = nI y ∧ b.1 = nI y ∧ a.2.1 = nI (3 + y * w) ∧ b.2.1 = nI (3 + y * w) ∧ n ≤ b.2.2.2 ∧ b.2.2.2 ≤ GLIM ∧ aI (3 + y * w) b.2.2.2 ∧ sR (3 + y * w) a.2.2 b.2.2.1) h (by omega) ⟨rfl, rfl, by rw [Nat.zero_mul], by rw [Nat.zero_mul], hn3, k4, by rw [Nat.zero_mul]; exact k2, by rw [Nat.zero_mul]; exact k5⟩ ?_
    rintro y ⟨x2, v3, ga⟩ ⟨x8, v9, g10, n11⟩ s1 s2 hy ⟨e1, e2, e3, e4, e5, e6, e7, e8⟩ K
    dsimp only at e1 e2 e3 e4 e5 e6 e7 e8 ⊢
    subst e1 e2 e3 e4
    by_cases hc : y < h
    · have hm1 : y * w + w ≤ h * w := by
        rw [← Nat.succ_mul]
        exact Nat.mul_le_mul_right w hc
      have hm2 : (y + 1) * w = y * w + w := Nat.succ_mul y w
      refine Ok2.lneg (by simp (disch := omega) only [lI0, lI1, lI2, lI3, lI4, lI5, lI7, lI8, lI9, lI10, lI11, lI12, lI15, lI16, lI17, lI20, lI24, lI32, lI33, lI40, lI63, lI64, lI80, lI82, lI101, lI110, lI115, lI251, lI255, lI256, lI384, lI16384, lI20000, lI32768, lI49152, lI65535, nI_add, pk_mul, pk_sub, pk_div, nI_leI, nI_ltI, nI_eq] <;> omega) (Ok2.rneg (by simp (disch := omega) only [lI0, lI1, lI2, lI3, lI4, lI5, lI7, lI8, lI9, lI10, lI11, lI12, lI15, lI16, lI17, lI20, lI24, lI32, lI33, lI40, lI63, lI64, lI80, lI82, lI101, lI110, lI115, lI251, lI255, lI256, lI384, lI16384, lI20000, lI32768, lI49152, lI65535, nI_add, pk_mul, pk_sub, pk_div, nI_leI, nI_ltI, nI_eq] <;> omega) (Ok2.bind (fun a b => a.1 = nI (3 + y * w + w) ∧ b.1 = nI (3 + y * w + w) ∧ n ≤ b.2.2 ∧ b.2.2 ≤ GLIM ∧ aI (3 + y * w + w) b.2.2 ∧ sR (3 + y * w + w) a.2 b.2.1) ?_ ?_))
      · refine Ok2.fix (fun x a b => a.1 = nI x ∧ b.1 = nI x ∧ a.2.1 = nI (3 + y * w + x) ∧ b.2.1 = nI (3 + y * w + x) ∧ n ≤ b.2.2.2 ∧ b.2.2.2 ≤ GLIM ∧ aI (3 + y * w + x) b.2.2.2 ∧ sR (3 + y * w + x) a.2.2 b.2.2.1) w (by omega) ⟨rfl, rfl, rfl, rfl, e5, e6, e7, e8⟩ ?_
        rintro x ⟨x7, v8, g9⟩ ⟨x15, v16, g17, n18⟩ s3 s4 hx ⟨e1, e2, e3, e4, e5, e6, e7, e8⟩ K2
        dsimp only at e1 e2 e3 e4 e5 e6 e7 e8 ⊢
        subst e1 e2 e3 e4
        by_cases hc2 : x < w
        · obtain ⟨p1, v, p2, p3⟩ := h5 x y hc2 hc
          refine Ok2.lneg (by simp (disch := omega) only [lI0, lI1, lI2, lI3, lI4, lI5, lI7, lI8, lI9, lI10, lI11, lI12, lI15, lI16, lI17, lI20, lI24, lI32, lI33, lI40, lI63, lI64, lI80, lI82, lI101, lI110, lI115, lI251, lI255, lI256, lI384, lI16384, lI20000, lI32768, lI49152, lI65535, nI_add, pk_mul, pk_sub, pk_div, nI_leI, nI_ltI, nI_eq] <;> omega) (Ok2.rneg (by simp (disch := omega) only [lI0, lI1, lI2, lI3, lI4, lI5, lI7, lI8, lI9, lI10, lI11, lI12, lI15, lI16, lI17, lI20, lI24, lI32, lI33, lI40, lI63, lI64, lI80, lI82, lI101, lI110, lI115, lI251, lI255, lI256, lI384, lI16384, lI20000, lI32768, lI49152, lI65535, nI_add, pk_mul, pk_sub, pk_div, nI_leI, nI_ltI, nI_eq] <;> omega) (Ok2.lrd (16 * y + x) (by first | (simp (disch := omega) only [lI0, lI1, lI2, lI3, lI4, lI5, lI7, lI8, lI9, lI10, lI11, lI12, lI15, lI16, lI17, lI20, lI24, lI32, lI33, lI40, lI63, lI64, lI80, lI82, lI101, lI110, lI115, lI251, lI255, lI256, lI384, lI16384, lI20000, lI32768, lI49152, lI65535, nI_add, pk_mul, pk_sub, pk_div] <;> (apply congrArg nI; omega)) | rfl) (by omega) (by decide) (Ok2.lwr (3 + y * w + x) rfl (by omega) (by decide) (Ok2.lbnd (Ok2.rE _ (eq_X5_at h2 h4 hc2 hc) (Ok2.r _ (sR_app (v := v) (p1.trans p3) p2 (by omega) e8 e7) ?_))))))
          rintro ⟨d1, t4, n4⟩ ⟨f1, f2, f3, f4, f5⟩
          dsimp only at f1 f2 f3 f4 f5 ⊢
          subst f1
          refine Ok2.rpos ⟨f3, f4⟩ (Ok2.rbnd (K2 _ _ hc2 ⟨(by first | (simp (disch := omega) only [lI0, lI1, lI2, lI3, lI4, lI5, lI7, lI8, lI9, lI10, lI11, lI12, lI15, lI16, lI17, lI20, lI24, lI32, lI33, lI40, lI63, lI64, lI80, lI82, lI101, lI110, lI115, lI251, lI255, lI256, lI384, lI16384, lI20000, lI32768, lI49152, lI65535, nI_add, pk_mul, pk_sub, pk_div] <;> (apply congrArg nI; omega)) | rfl), (by first | (simp (disch := omega) only [lI0, lI1, lI2, lI3, lI4, lI5, lI7, lI8, lI9, lI10, lI11, lI12, lI15, lI16, lI17, lI20, lI24, lI32, lI33, lI40, lI63, lI64, lI80, lI82, lI101, lI110, lI115, lI251, lI255, lI256, lI384, lI16384, lI20000, lI32768, lI49152, lI65535, nI_add, pk_mul, pk_sub, pk_div] <;> (apply congrArg nI; omega)) | rfl), (by first | (simp (disch := omega) only [lI0, lI1, lI2, lI3, lI4, lI5, lI7, lI8, lI9, lI10, lI11, lI12, lI15, lI16, lI17, lI20, lI24, lI32, lI33, lI40, lI63, lI64, lI80, lI82, lI101, lI110, lI115, lI251, lI255, lI256, lI384, lI16384, lI20000, lI32768, lI49152, lI65535, nI_add, pk_mul, pk_sub, pk_div] <;> (apply congrArg nI; omega)) | rfl), rfl, Nat.le_trans e5 f3, f4, f2, ?_⟩))
          dsimp only
          rw [p3]
          exact f5
        · have hx2 : x = w := by omega
          subst hx2
          exact Ok2.lpos (by simp (disch := omega) only [lI0, lI1, lI2, lI3, lI4, lI5, lI7, lI8, lI9, lI10, lI11, lI12, lI15, lI16, lI17, lI20, lI24, lI32, lI33, lI40, lI63, lI64, lI80, lI82, lI101, lI110, lI115, lI251, lI255, lI256, lI384, lI16384, lI20000, lI32768, lI49152, lI65535, nI_add, pk_mul, pk_sub, pk_div, nI_leI, nI_ltI, nI_eq] <;> omega) (Ok2.rpos (by simp (disch := omega) only [lI0, lI1, lI2, lI3, lI4, lI5, lI7, lI8, lI9, lI10, lI11, lI12, lI15, lI16, lI17, lI20, lI24, lI32, lI33, lI40, lI63, lI64, lI80, lI82, lI101, lI110, lI115, lI251, lI255, lI256, lI384, lI16384, lI20000, lI32768, lI49152, lI65535, nI_add, pk_mul, pk_sub, pk_div, nI_leI, nI_ltI, nI_eq] <;> omega) (Ok2.some ⟨rfl, rfl, e5, e6, e7, e8⟩))
      · rintro ⟨a1, a2⟩ ⟨b1, b2, b3⟩ ⟨f1, f2, f3, f4, f5, f6⟩
        dsimp only at f1 f2 f3 f4 f5 f6 ⊢
        subst f1 f2
        refine Ok2.lbnd (Ok2.rbnd (K _ _ hc ⟨(by first | (simp (disch := omega) only [lI0, lI1, lI2, lI3, lI4, lI5, lI7, lI8, lI9, lI10, lI11, lI12, lI15, lI16, lI17, lI20, lI24, lI32, lI33, lI40, lI63, lI64, lI80, lI82, lI101, lI110, lI115, lI251, lI255, lI256, lI384, lI16384, lI20000, lI32768, lI49152, lI65535, nI_add, pk_mul, pk_sub, pk_div] <;> (apply congrArg nI; omega)) | rfl), (by first | (simp (disch := omega) only [lI0, lI1, lI2, lI3, lI4, lI5, lI7, lI8, lI9, lI10, lI11, lI12, lI15, lI16, lI17, lI20, lI24, lI32, lI33, lI40, lI63, lI64, lI80, lI82, lI101, lI110, lI115, lI251, lI255, lI256, lI384, lI16384, lI20000, lI32768, lI49152, lI65535, nI_add, pk_mul, pk_sub, pk_div] <;> (apply congrArg nI; omega)) | rfl), ?_, ?_, f3, f4, ?_, ?_⟩))
        · dsimp only
          rw [hm2, Nat.add_assoc]
        · dsimp only
          rw [hm2, Nat.add_assoc]
        · dsimp only
          rw [hm2, ← Nat.add_assoc]
          exact f5
        · dsimp only
          rw [hm2, ← Nat.add_assoc]
          exact f6
    · have hy2 : y = h := by omega
      subst hy2
      exact Ok2.lpos (by simp (disch := omega) only [lI0, lI1, lI2, lI3, lI4, lI5, lI7, lI8, lI9, lI10, lI11, lI12, lI15, lI16, lI17, lI20, lI24, lI32, lI33, lI40, lI63, lI64, lI80, lI82, lI101, lI110, lI115, lI251, lI255, lI256, lI384, lI16384, lI20000, lI32768, lI49152, lI65535, nI_add, pk_mul, pk_sub, pk_div, nI_leI, nI_ltI, nI_eq] <;> omega) (Ok2.rpos (by simp (disch := omega) only [lI0, lI1, lI2, lI3, lI4, lI5, lI7, lI8, lI9, lI10, lI11, lI12, lI15, lI16, lI17, lI20, lI24, lI32, lI33, lI40, lI63, lI64, lI80, lI82, lI101, lI110, lI115, lI251, lI255, lI256, lI384, lI16384, lI20000, lI32768, lI49152, lI65535, nI_add, pk_mul, pk_sub, pk_div, nI_leI, nI_ltI, nI_eq] <;> omega) (Ok2.some ⟨_, rfl, rfl, rfl, e5, e6, e7, e8⟩))
  · rintro ⟨a1, a2⟩ ⟨b1, b2, b3⟩ ⟨n4, f1, f2, f3, f4, f5, f6, f7⟩
    dsimp only at f1 f2 f3 f4 f5 f6 f7 ⊢
    subst f1 f2 f3
    refine Ok2.rE _ (rfl : lf_X8_rememberReplacement c1 c2 c3 (nI w) (nI h) c4 c5 (nI (3 + h * w)) 0 = some ((0 : Int32), nI h, nI w, (3 : Int32) + nI w * nI h, nI (3 + h * w))) (Ok2.some ⟨3 + h * w, a2, b2, b3, by omega, rfl, ?_, f4, f5, f6, f7⟩)
    dsimp only
    rw [show (3 : Int32) + nI w * nI h = nI (3 + w * h) from by rw [pk_mul]; exact nI_add 3 (w * h)]
