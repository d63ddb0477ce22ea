/-! ===== checksums, and the row that grows ===== -/
def ckN (v : Nat → Nat) : Nat → Nat
  | 0 => 0
  | k + 1 => (ckN v k + (k + 1) * v k) % 251
theorem ckN_lt (v : Nat → Nat) : ∀ k, ckN v k < 251
  | 0 => Nat.zero_lt_succ 250
  | k + 1 => Nat.mod_lt _ (by decide)
theorem ckN_congr {v w : Nat → Nat} : ∀ {k}, (∀ i, i < k → v i = w i) → ckN v k = ckN w k
  | 0, _ => rfl
  | k + 1, h => by
    show (ckN v k + (k + 1) * v k) % 251 = (ckN w k + (k + 1) * w k) % 251
    rw [ckN_congr (fun i hi => h i (by omega)), h k (by omega)]
theorem eq_X8_checksum {n many from1 : Nat} {f : Nat → Int32} {v : Nat → Nat} (hn : n < 2 ^ 31) (hm : many ≤ 32768) (hf : from1 + many ≤ n) (hv : ∀ k, k < many → f (from1 + k) = nI (v k) ∧ v k < 256) : lf_X8_checksum n f (nI from1) (nI many) = some (nI (ckN v many)) := by
  suffices hs : Ok (lf_X8_checksum n f (nI from1) (nI many)) (fun o => o = nI (ckN v many)) by
    obtain ⟨o, h1, h2⟩ := hs
    rw [h1, h2]
  unfold lf_X8_checksum
  refine Ok.bind (fun o => o = nI (ckN v many)) (Ok.fix (fun k z => z.2 = nI k ∧ z.1 = nI (ckN v k)) many (by omega) ⟨rfl, rfl⟩ ?_) (fun o ho => Ok.some ho)
  rintro k ⟨x1, x2⟩ self hk ⟨h1, h2⟩ K
  dsimp only at h1 h2 ⊢
  subst h1 h2
  by_cases hc : k < many
  · obtain ⟨e1, e2⟩ := hv k hc
    have hb : (k + 1) * v k ≤ 32768 * 256 := Nat.mul_le_mul (by omega) (by omega)
    have hs := ckN_lt v k
    refine Ok.neg (by simp (disch := omega) only [lI0, lI1, lI2, lI3, lI4, lI5, lI7, lI8, lI9, lI10, lI11, lI12, lI15, lI16, lI17, lI20, lI24, lI32, lI33, lI40, lI63, lI64, lI80, lI82, lI101, lI110, lI115, lI251, lI255, lI256, lI384, lI16384, lI20000, lI32768, lI49152, lI65535, nI_add, pk_mul, pk_sub, pk_div, nI_leI, nI_ltI, nI_eq] <;> omega) (Ok.rd (from1 + k) (by first | (simp (disch := omega) only [lI0, lI1, lI2, lI3, lI4, lI5, lI7, lI8, lI9, lI10, lI11, lI12, lI15, lI16, lI17, lI20, lI24, lI32, lI33, lI40, lI63, lI64, lI80, lI82, lI101, lI110, lI115, lI251, lI255, lI256, lI384, lI16384, lI20000, lI32768, lI49152, lI65535, nI_add, pk_mul, pk_sub, pk_div] <;> (apply congrArg nI; omega)) | rfl) (by omega) hn (Ok.bnd (Ok.bnd (K _ hc ⟨(by first | (simp (disch := omega) only [lI0, lI1, lI2, lI3, lI4, lI5, lI7, lI8, lI9, lI10, lI11, lI12, lI15, lI16, lI17, lI20, lI24, lI32, lI33, lI40, lI63, lI64, lI80, lI82, lI101, lI110, lI115, lI251, lI255, lI256, lI384, lI16384, lI20000, lI32768, lI49152, lI65535, nI_add, pk_mul, pk_sub, pk_div] <;> (apply congrArg nI; omega)) | rfl), ?_⟩))))
    dsimp only
    rw [e1, nI_1, pk_mul, nI_add, show (251 : Int32) = nI 251 from rfl, pk_rem (by omega) (by decide) (by decide)]
    rfl
  · have hk2 : k = many := by omega
    subst hk2
    exact Ok.pos (by simp (disch := omega) only [lI0, lI1, lI2, lI3, lI4, lI5, lI7, lI8, lI9, lI10, lI11, lI12, lI15, lI16, lI17, lI20, lI24, lI32, lI33, lI40, lI63, lI64, lI80, lI82, lI101, lI110, lI115, lI251, lI255, lI256, lI384, lI16384, lI20000, lI32768, lI49152, lI65535, nI_add, pk_mul, pk_sub, pk_div, nI_leI, nI_ltI, nI_eq] <;> omega) (Ok.some rfl)
theorem eq_X9_checksum {many from1 : Nat} {f : Nat → Int32} {v : Nat → Nat} (hm : many ≤ 32768) (hf : from1 + many ≤ 20000) (hv : ∀ k, k < many → f (from1 + k) = nI (v k) ∧ v k < 256) : lf_X9_checksum f (nI from1) (nI many) = some (nI (ckN v many)) := by
  suffices hs : Ok (lf_X9_checksum f (nI from1) (nI many)) (fun o => o = nI (ckN v many)) by
    obtain ⟨o, h1, h2⟩ := hs
    rw [h1, h2]
  unfold lf_X9_checksum
  refine Ok.bind (fun o => o = nI (ckN v many)) (Ok.fix (fun k z => z.2 = nI k ∧ z.1 = nI (ckN v k)) many (by omega) ⟨rfl, rfl⟩ ?_) (fun o ho => Ok.some ho)
  rintro k ⟨x1, x2⟩ self hk ⟨h1, h2⟩ K
  dsimp only at h1 h2 ⊢
  subst h1 h2
  by_cases hc : k < many
  · obtain ⟨e1, e2⟩ := hv k hc
    have hb : (k + 1) % 251 * v k ≤ 251 * 256 := Nat.mul_le_mul (by omega) (by omega)
    have hs := ckN_lt v k
    refine Ok.neg (by simp (disch := omega) only [lI0, lI1, lI2, lI3, lI4, lI5, lI7, lI8, lI9, lI10, lI11, lI12, lI15, lI16, lI17, lI20, lI24, lI32, lI33, lI40, lI63, lI64, lI80, lI82, lI101, lI110, lI115, lI251, lI255, lI256, lI384, lI16384, lI20000, lI32768, lI49152, lI65535, nI_add, pk_mul, pk_sub, pk_div, nI_leI, nI_ltI, nI_eq] <;> omega) (Ok.rd (from1 + k) (by first | (simp (disch := omega) only [lI0, lI1, lI2, lI3, lI4, lI5, lI7, lI8, lI9, lI10, lI11, lI12, lI15, lI16, lI17, lI20, lI24, lI32, lI33, lI40, lI63, lI64, lI80, lI82, lI101, lI110, lI115, lI251, lI255, lI256, lI384, lI16384, lI20000, lI32768, lI49152, lI65535, nI_add, pk_mul, pk_sub, pk_div] <;> (apply congrArg nI; omega)) | rfl) (by omega) (by decide) (Ok.bnd (Ok.bnd (K _ hc ⟨(by first | (simp (disch := omega) only [lI0, lI1, lI2, lI3, lI4, lI5, lI7, lI8, lI9, lI10, lI11, lI12, lI15, lI16, lI17, lI20, lI24, lI32, lI33, lI40, lI63, lI64, lI80, lI82, lI101, lI110, lI115, lI251, lI255, lI256, lI384, lI16384, lI20000, lI32768, lI49152, lI65535, nI_add, pk_mul, pk_sub, pk_div] <;> (apply congrArg nI; omega)) | rfl), ?_⟩))))
    dsimp only
    rw [e1, nI_1, show (251 : Int32) = nI 251 from rfl, pk_rem (a := k + 1) (by omega) (by decide) (by decide), pk_mul, nI_add, pk_rem (by omega) (by decide) (by decide)]
    refine congrArg nI ?_
    show _ = (ckN v k + (k + 1) * v k) % 251
    rw [Nat.add_mod, Nat.mod_mul_mod, ← Nat.add_mod]
  · have hk2 : k = many := by omega
    subst hk2
    exact Ok.pos (by simp (disch := omega) only [lI0, lI1, lI2, lI3, lI4, lI5, lI7, lI8, lI9, lI10, lI11, lI12, lI15, lI16, lI17, lI20, lI24, lI32, lI33, lI40, lI63, lI64, lI80, lI82, lI101, lI110, lI115, lI251, lI255, lI256, lI384, lI16384, lI20000, lI32768, lI49152, lI65535, nI_add, pk_mul, pk_sub, pk_div, nI_leI, nI_ltI, nI_eq] <;> omega) (Ok.some rfl)
/-- the row's length and its count -/
def aI (c n : Nat) : Prop := (∃ j, j ≤ 6 ∧ n = 512 * 2 ^ j) ∧ c ≤ n
theorem aI_le {c n : Nat} (h : aI c n) : n ≤ 32768 ∧ 512 ≤ n ∧ c ≤ n := by
  obtain ⟨⟨j, hj, rfl⟩, hc⟩ := h
  have h1 : 2 ^ j ≤ 2 ^ 6 := Nat.pow_le_pow_right (by decide) hj
  have h2 : 1 ≤ 2 ^ j := Nat.one_le_two_pow
  omega
theorem ok_append {c n : Nat} {t : Nat → Int32} {x : Int32} (h : aI c n) (hc : c < 32768) : Ok (lf_X3_append (nI c) n t x) (fun o => o.1 = nI (c + 1) ∧ aI (c + 1) o.2.2 ∧ n ≤ o.2.2 ∧ o.2.2 ≤ GLIM ∧ (∀ i, i < c → o.2.1 i = t i) ∧ o.2.1 c = x) := by
  obtain ⟨g1, g2, g3⟩ := aI_le h
  unfold lf_X3_append
  refine Ok.pos ⟨by omega, g1⟩ ?_
  rw [show Int32.ofNat n = nI n from rfl]
  by_cases h1 : c < n
  · refine Ok.pos (nI_lt h1 (by omega)) (Ok.wr c rfl h1 (by omega) (Ok.some ⟨nI_1 c, ⟨h.1, by dsimp only; omega⟩, Nat.le_refl _, g1, fun i hi => upd_ne (by omega), upd_eq⟩))
  · have h2 : c = n := by omega
    subst h2
    obtain ⟨⟨j, hj, hn⟩, -⟩ := h
    have hj5 : j ≤ 5 := by
      rcases Nat.lt_or_ge j 6 with h3 | h3
      · omega
      · have : j = 6 := by omega
        subst this
        omega
    have h4 : 2 * c = 512 * 2 ^ (j + 1) := by
      rw [Nat.pow_succ]
      omega
    have h5 : 2 ^ j ≤ 2 ^ 5 := Nat.pow_le_pow_right (by decide) hj5
    refine Ok.neg (nI_nlt (Nat.le_refl _) (by omega)) (Ok.pos (show 2 * c ≤ 32768 by omega) (Ok.wr c rfl (by omega) (by omega) (Ok.some ⟨nI_1 c, ⟨⟨j + 1, by omega, h4⟩, by dsimp only; omega⟩, by dsimp only; omega, show 2 * c ≤ 32768 by omega, fun i hi => ?_, upd_eq⟩)))
    dsimp only
    rw [upd_ne (by omega)]
    unfold va_cpy
    rw [if_pos (by omega)]
    exact congrArg t (by omega)
theorem ok_appendPart {sz n b : Nat} {t wb : Nat → Int32} {v : Nat → Nat} {cnt bc : Int32} (ec : cnt = nI sz) (eb : bc = nI b) (h : aI sz n) (hb : (b + 7) / 8 ≤ 2048) (hsz : sz + 3 + 2048 < 32768) (hv : ∀ k, k < (b + 7) / 8 → wb k = nI (v k) ∧ v k < 256) :
    Ok (lf_X8_appendPart cnt bc n t wb) (fun o => o.1 = nI (sz + (3 + (b + 7) / 8)) ∧ aI (sz + (3 + (b + 7) / 8)) o.2.2 ∧ n ≤ o.2.2 ∧ o.2.2 ≤ GLIM ∧ (∀ i, i < sz → o.2.1 i = t i) ∧ o.2.1 sz = nI ((b + 7) / 8 / 256) ∧ o.2.1 (sz + 1) = nI ((b + 7) / 8 % 256) ∧ o.2.1 (sz + 2) = nI (ckN v ((b + 7) / 8)) ∧ ∀ i, i < (b + 7) / 8 → o.2.1 (sz + 3 + i) = wb i) := by
  subst ec eb
  obtain ⟨g1, g2, g3⟩ := aI_le h
  unfold lf_X8_appendPart
  refine Ok.pos g1 (Ok.bindE (nI ((b + 7) / 8)) (congrArg some (show (nI b + (7 : Int32)) / (8 : Int32) = nI ((b + 7) / 8) from ?_)) ?_)
  · rw [show (7 : Int32) = nI 7 from rfl, nI_add, show (8 : Int32) = nI 8 from rfl, pk_div (by omega) (by decide) (by decide)]
  generalize (b + 7) / 8 = m at hb hv ⊢
  refine Ok.bind _ (ok_append h (by omega)) ?_
  rintro ⟨c1, t1, n1⟩ ⟨f1, f2, f3, f4, f5, f6⟩
  dsimp only at f1 f2 f3 f4 f5 f6 ⊢
  subst f1
  refine Ok.pos ⟨f3, f4⟩ (Ok.bind _ (ok_append f2 (by omega)) ?_)
  rintro ⟨c2, t2, n2⟩ ⟨f7, f8, f9, f10, f11, f12⟩
  dsimp only at f7 f8 f9 f10 f11 f12 ⊢
  subst f7
  refine Ok.pos ⟨f9, f10⟩ (Ok.bindE _ (eq_X8_checksum (n := 2048) (from1 := 0) (v := v) (by decide) (by omega) (by omega) (fun k hk => by rw [Nat.zero_add]; exact hv k hk)) ?_)
  refine Ok.bind _ (ok_append f8 (by omega)) ?_
  rintro ⟨c3, t3, n3⟩ ⟨f13, f14, f15, f16, f17, f18⟩
  dsimp only at f13 f14 f15 f16 f17 f18 ⊢
  subst f13
  refine Ok.pos ⟨f15, f16⟩ (Ok.bind (fun o => o.1 = nI (sz + (3 + m)) ∧ aI (sz + (3 + m)) o.2.2 ∧ n3 ≤ o.2.2 ∧ o.2.2 ≤ GLIM ∧ (∀ i, i < sz + 3 → o.2.1 i = t3 i) ∧ ∀ i, i < m → o.2.1 (sz + 3 + i) = wb i)
    (Ok.fix (fun k z => z.1 = nI k ∧ z.2.1 = nI (sz + 3 + k) ∧ aI (sz + 3 + k) z.2.2.2 ∧ n3 ≤ z.2.2.2 ∧ z.2.2.2 ≤ GLIM ∧ (∀ i, i < sz + 3 → z.2.2.1 i = t3 i) ∧ ∀ i, i < k → z.2.2.1 (sz + 3 + i) = wb i) m (by omega) ⟨rfl, rfl, f14, Nat.le_refl _, f16, fun i _ => rfl, fun i hi => absurd hi (by omega)⟩ ?_) ?_)
  · rintro k ⟨x9, v10, g11, n12⟩ self hk ⟨k1, k2, k3, k4, k5, k6, k7⟩ K
    dsimp only at k1 k2 k3 k4 k5 k6 k7 ⊢
    subst k1 k2
    by_cases hc : k < m
    · refine Ok.neg (by simp (disch := omega) only [lI0, lI1, lI2, lI3, lI4, lI5, lI7, lI8, lI9, lI10, lI11, lI12, lI15, lI16, lI17, lI20, lI24, lI32, lI33, lI40, lI63, lI64, lI80, lI82, lI101, lI110, lI115, lI251, lI255, lI256, lI384, lI16384, lI20000, lI32768, lI49152, lI65535, nI_add, pk_mul, pk_sub, pk_div, nI_leI, nI_ltI, nI_eq] <;> omega) (Ok.rd k rfl (by omega) (by decide) (Ok.bind _ (ok_append k3 (by omega)) ?_))
      rintro ⟨c4, t4, n4⟩ ⟨j1, j2, j3, j4, j5, j6⟩
      dsimp only at j1 j2 j3 j4 j5 j6 ⊢
      subst j1
      refine Ok.pos ⟨j3, j4⟩ (Ok.bnd (K _ hc ⟨(by first | (simp (disch := omega) only [lI0, lI1, lI2, lI3, lI4, lI5, lI7, lI8, lI9, lI10, lI11, lI12, lI15, lI16, lI17, lI20, lI24, lI32, lI33, lI40, lI63, lI64, lI80, lI82, lI101, lI110, lI115, lI251, lI255, lI256, lI384, lI16384, lI20000, lI32768, lI49152, lI65535, nI_add, pk_mul, pk_sub, pk_div] <;> (apply congrArg nI; omega)) | rfl), rfl, j2, Nat.le_trans k4 j3, j4, fun i hi => ?_, fun i hi => ?_⟩))
      · dsimp only
        rw [j5 i (by omega), k6 i hi]
      · dsimp only
        by_cases h9 : i = k
        · rw [h9, j6]
        · rw [j5 (sz + 3 + i) (by omega), k7 i (by omega)]
    · have hk2 : k = m := by omega
      subst hk2
      exact Ok.pos (by simp (disch := omega) only [lI0, lI1, lI2, lI3, lI4, lI5, lI7, lI8, lI9, lI10, lI11, lI12, lI15, lI16, lI17, lI20, lI24, lI32, lI33, lI40, lI63, lI64, lI80, lI82, lI101, lI110, lI115, lI251, lI255, lI256, lI384, lI16384, lI20000, lI32768, lI49152, lI65535, nI_add, pk_mul, pk_sub, pk_div, nI_leI, nI_ltI, nI_eq] <;> omega) (Ok.some ⟨by rw [show sz + (3 + k) = sz + 3 + k from by omega], by rw [show sz + (3 + k) = sz + 3 + k from by omega]; exact k3, k4, k5, k6, k7⟩)
  · rintro ⟨c4, t4, n4⟩ ⟨j1, j2, j3, j4, j5, j6⟩
    dsimp only at j1 j2 j3 j4 j5 j6 ⊢
    refine Ok.some ⟨j1, j2, by dsimp only; omega, j4, fun i hi => ?_, ?_, ?_, ?_, j6⟩
    · dsimp only
      rw [j5 i (by omega), f17 i (by omega), f11 i (by omega), f5 i hi]
    · dsimp only
      rw [j5 sz (by omega), f17 sz (by omega), f11 sz (by omega), f6]
      (first | (simp (disch := omega) only [lI0, lI1, lI2, lI3, lI4, lI5, lI7, lI8, lI9, lI10, lI11, lI12, lI15, lI16, lI17, lI20, lI24, lI32, lI33, lI40, lI63, lI64, lI80, lI82, lI101, lI110, lI115, lI251, lI255, lI256, lI384, lI16384, lI20000, lI32768, lI49152, lI65535, nI_add, pk_mul, pk_sub, pk_div] <;> (apply congrArg nI; omega)) | rfl)
    · dsimp only
      rw [j5 (sz + 1) (by omega), f17 (sz + 1) (by omega), f12]
      (first | (simp (disch := omega) only [lI0, lI1, lI2, lI3, lI4, lI5, lI7, lI8, lI9, lI10, lI11, lI12, lI15, lI16, lI17, lI20, lI24, lI32, lI33, lI40, lI63, lI64, lI80, lI82, lI101, lI110, lI115, lI251, lI255, lI256, lI384, lI16384, lI20000, lI32768, lI49152, lI65535, nI_add, pk_mul, pk_sub, pk_div] <;> (apply congrArg nI; omega)) | rfl)
    · dsimp only
      rw [j5 (sz + 2) (by omega), f18]
