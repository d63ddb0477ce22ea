/-! ===== the interval and the counts ===== -/
def cI (l h : Nat) : Prop := l ≤ h ∧ h < 65536 ∧ 32768 ≤ h ∧ l < 32768 ∧ (l < 16384 ∨ 49152 ≤ h)
def phi (l h : Nat) : Nat := if h - l + 1 < 32768 then 1 else 0
def spl (l h a b : Nat) : Nat := (h - l + 1) * a / (a + b)
theorem spl_bd {l h a b : Nat} (ha : 1 ≤ a) (hb : 1 ≤ b) (hab : a + b ≤ 64) : (h - l + 1) / 64 ≤ spl l h a b ∧ (h - l + 1) / 64 + spl l h a b ≤ h - l + 1 := by
  unfold spl
  generalize h - l + 1 = R
  have h1 : R / 64 * (a + b) ≤ R := Nat.le_trans (Nat.mul_le_mul_left _ hab) (Nat.div_mul_le_self _ _)
  have h2 : R ≤ R * a := Nat.le_mul_of_pos_right _ ha
  have h3 : R ≤ R * b := Nat.le_mul_of_pos_right _ hb
  constructor
  · exact (Nat.le_div_iff_mul_le (by omega)).mpr (by omega)
  · have h4 : R * a / (a + b) ≤ R - R / 64 := by
      refine Nat.div_le_of_le_mul ?_
      rw [Nat.mul_sub, Nat.add_mul, Nat.mul_comm a R, Nat.mul_comm b R, Nat.mul_comm (a + b)]
      omega
    have h5 : R / 64 ≤ R := Nat.div_le_self _ _
    omega
theorem spl_1 {l h : Nat} : spl l h 1 1 = (h - l + 1) / 2 := by
  unfold spl
  rw [Nat.mul_one]
theorem i32_sa (a b : Int32) : a - 1 + (b + 1) = a + b := by grind
theorem sp_val {l h a b : Nat} (hl : l ≤ h) (hh : h < 65536) (ha : 1 ≤ a) (hb : 1 ≤ b) (hab : a + b ≤ 64) (hq : 1 ≤ spl l h a b) : dvO ((nI h - nI l + (1 : Int32)) * nI a) (nI a + nI b) = some (nI (spl l h a b)) ∧ nI l - (1 : Int32) + nI (spl l h a b) = nI (l + spl l h a b - 1) := by
  have hm : (h - l + 1) * a ≤ 65536 * 64 := Nat.mul_le_mul (by omega) (by omega)
  constructor
  · rw [show (nI h - nI l + (1 : Int32)) * nI a = nI ((h - l + 1) * a) from (by first | (simp (disch := omega) only [lI0, lI1, lI2, lI3, lI4, lI5, lI7, lI8, lI9, lI10, lI11, lI12, lI15, lI16, lI17, lI20, lI24, lI32, lI33, lI40, lI63, lI64, lI80, lI82, lI101, lI110, lI115, lI251, lI255, lI256, lI384, lI16384, lI20000, lI32768, lI49152, lI65535, nI_add, pk_mul, pk_sub, pk_div] <;> (apply congrArg nI; omega)) | rfl), nI_add, dv_nI (by omega) (by omega), pk_div (by omega) (by omega) (by omega)]
    rfl
  · generalize spl l h a b = q at hq
    obtain ⟨q, rfl⟩ : ∃ p, q = p + 1 := ⟨q - 1, by omega⟩
    rw [nI_succ, i32_sa, nI_add]
    rfl
/-- the counts of both sides -/
def cRel (ct ze on : Nat → Int32) : Prop := ∀ c, c < 20 → ∃ a b, ct (2 * c) = nI a ∧ ct (2 * c + 1) = nI b ∧ ze c = nI a ∧ on c = nI b ∧ 1 ≤ a ∧ 1 ≤ b ∧ a + b ≤ 64
/-- a context, or none, with its counts -/
def ctxP (x : Int32) (ct ze on : Nat → Int32) (a b : Nat) : Prop := (∃ c, c < 20 ∧ x = nI c ∧ ct (2 * c) = nI a ∧ ct (2 * c + 1) = nI b ∧ ze c = nI a ∧ on c = nI b) ∨ x = -1 ∧ a = 1 ∧ b = 1
theorem eq_X9_splitPlace {ct ze on : Nat → Int32} {x : Int32} {l h a b : Nat} (hc : ctxP x ct ze on a b) (hl : l ≤ h) (hh : h < 65536) (ha : 1 ≤ a) (hb : 1 ≤ b) (hab : a + b ≤ 64) (hq : 1 ≤ spl l h a b) : lf_X9_splitPlace (nI h) (nI l) ct x = some (nI (l + spl l h a b - 1)) := by
  suffices hs : Ok (lf_X9_splitPlace (nI h) (nI l) ct x) (fun o => o = nI (l + spl l h a b - 1)) by
    obtain ⟨o, h1, h2⟩ := hs
    rw [h1, h2]
  obtain ⟨v1, v2⟩ := sp_val hl hh ha hb hab hq
  unfold lf_X9_splitPlace
  refine Ok.jnR (fun s => s = nI a) (fun k hk => ?_) (fun s hs => ?_)
  · rcases hc with ⟨c, hc, rfl, e1, -⟩ | ⟨rfl, rfl, rfl⟩
    · exact Ok.pos (by simp (disch := omega) only [lI0, lI1, lI2, lI3, lI4, lI5, lI7, lI8, lI9, lI10, lI11, lI12, lI15, lI16, lI17, lI20, lI24, lI32, lI33, lI40, lI63, lI64, lI80, lI82, lI101, lI110, lI115, lI251, lI255, lI256, lI384, lI16384, lI20000, lI32768, lI49152, lI65535, nI_add, pk_mul, pk_sub, pk_div, nI_leI, nI_ltI, nI_eq] <;> omega) (Ok.rd (2 * c) (by first | (simp (disch := omega) only [lI0, lI1, lI2, lI3, lI4, lI5, lI7, lI8, lI9, lI10, lI11, lI12, lI15, lI16, lI17, lI20, lI24, lI32, lI33, lI40, lI63, lI64, lI80, lI82, lI101, lI110, lI115, lI251, lI255, lI256, lI384, lI16384, lI20000, lI32768, lI49152, lI65535, nI_add, pk_mul, pk_sub, pk_div] <;> (apply congrArg nI; omega)) | rfl) (by omega) (by decide) (hk _ e1))
    · exact Ok.neg (by decide) (hk _ rfl)
  subst hs
  refine Ok.jnR (fun s => s = nI b) (fun k hk => ?_) (fun s hs => ?_)
  · rcases hc with ⟨c, hc, rfl, -, e1, -⟩ | ⟨rfl, rfl, rfl⟩
    · exact Ok.pos (by simp (disch := omega) only [lI0, lI1, lI2, lI3, lI4, lI5, lI7, lI8, lI9, lI10, lI11, lI12, lI15, lI16, lI17, lI20, lI24, lI32, lI33, lI40, lI63, lI64, lI80, lI82, lI101, lI110, lI115, lI251, lI255, lI256, lI384, lI16384, lI20000, lI32768, lI49152, lI65535, nI_add, pk_mul, pk_sub, pk_div, nI_leI, nI_ltI, nI_eq] <;> omega) (Ok.rd (2 * c + 1) (by first | (simp (disch := omega) only [lI0, lI1, lI2, lI3, lI4, lI5, lI7, lI8, lI9, lI10, lI11, lI12, lI15, lI16, lI17, lI20, lI24, lI32, lI33, lI40, lI63, lI64, lI80, lI82, lI101, lI110, lI115, lI251, lI255, lI256, lI384, lI16384, lI20000, lI32768, lI49152, lI65535, nI_add, pk_mul, pk_sub, pk_div] <;> (apply congrArg nI; omega)) | rfl) (by omega) (by decide) (hk _ e1))
    · exact Ok.neg (by decide) (hk _ rfl)
  subst hs
  exact Ok.bindE _ v1 (Ok.some v2)
theorem eq_X0_splitFor_X2 {ct ze on : Nat → Int32} {x : Int32} {l h a b : Nat} (hc : ctxP x ct ze on a b) (hl : l ≤ h) (hh : h < 65536) (ha : 1 ≤ a) (hb : 1 ≤ b) (hab : a + b ≤ 64) (hq : 1 ≤ spl l h a b) : lf_X0_splitFor_X2 (nI h) (nI l) on ze x = some (nI (l + spl l h a b - 1)) := by
  suffices hs : Ok (lf_X0_splitFor_X2 (nI h) (nI l) on ze x) (fun o => o = nI (l + spl l h a b - 1)) by
    obtain ⟨o, h1, h2⟩ := hs
    rw [h1, h2]
  obtain ⟨v1, v2⟩ := sp_val hl hh ha hb hab hq
  unfold lf_X0_splitFor_X2
  refine Ok.bnd ?_
  refine Ok.jnR (fun s => s = (nI a, nI b)) (fun k hk => ?_) (fun s hs => ?_)
  · rcases hc with ⟨c, hc, rfl, -, -, e1, e2⟩ | ⟨rfl, rfl, rfl⟩
    · refine Ok.neg (by simp (disch := omega) only [lI0, lI1, lI2, lI3, lI4, lI5, lI7, lI8, lI9, lI10, lI11, lI12, lI15, lI16, lI17, lI20, lI24, lI32, lI33, lI40, lI63, lI64, lI80, lI82, lI101, lI110, lI115, lI251, lI255, lI256, lI384, lI16384, lI20000, lI32768, lI49152, lI65535, nI_add, pk_mul, pk_sub, pk_div, nI_leI, nI_ltI, nI_eq] <;> omega) (Ok.neg (by simp (disch := omega) only [lI0, lI1, lI2, lI3, lI4, lI5, lI7, lI8, lI9, lI10, lI11, lI12, lI15, lI16, lI17, lI20, lI24, lI32, lI33, lI40, lI63, lI64, lI80, lI82, lI101, lI110, lI115, lI251, lI255, lI256, lI384, lI16384, lI20000, lI32768, lI49152, lI65535, nI_add, pk_mul, pk_sub, pk_div, nI_leI, nI_ltI, nI_eq] <;> omega) (Ok.rd c rfl hc (by decide) (Ok.rd c rfl hc (by decide) ?_)))
      rw [e1, e2]
      exact hk _ rfl
    · exact Ok.pos (by decide) (hk _ rfl)
  subst hs
  exact Ok.neg (by simp (disch := omega) only [lI0, lI1, lI2, lI3, lI4, lI5, lI7, lI8, lI9, lI10, lI11, lI12, lI15, lI16, lI17, lI20, lI24, lI32, lI33, lI40, lI63, lI64, lI80, lI82, lI101, lI110, lI115, lI251, lI255, lI256, lI384, lI16384, lI20000, lI32768, lI49152, lI65535, nI_add, pk_mul, pk_sub, pk_div, nI_leI, nI_ltI, nI_eq] <;> omega) (Ok.bindE _ v1 (Ok.some v2))
theorem cRel_upd {ct ze on ct2 ze2 on2 : Nat → Int32} {c a b : Nat} (h : cRel ct ze on) (ha : 1 ≤ a) (hb : 1 ≤ b) (hab : a + b ≤ 64) (e1 : ct2 (2 * c) = nI a) (e2 : ct2 (2 * c + 1) = nI b) (e3 : ∀ j, j ≠ 2 * c → j ≠ 2 * c + 1 → ct2 j = ct j) (e4 : ze2 c = nI a) (e5 : on2 c = nI b) (e6 : ∀ j, j ≠ c → ze2 j = ze j ∧ on2 j = on j) : cRel ct2 ze2 on2 := by
  intro d hd
  by_cases h1 : d = c
  · subst h1
    exact ⟨a, b, e1, e2, e4, e5, ha, hb, hab⟩
  · obtain ⟨p, q, f1, f2, f3, f4, f5⟩ := h d hd
    refine ⟨p, q, ?_, ?_, ?_, ?_, f5⟩
    · rw [e3 _ (by omega) (by omega), f1]
    · rw [e3 _ (by omega) (by omega), f2]
    · rw [(e6 d h1).1, f3]
    · rw [(e6 d h1).2, f4]
set_option maxHeartbeats 1000000 in
theorem ok_learn_X2 {ct ze on : Nat → Int32} {x : Int32} {a b v : Nat} (h : cRel ct ze on) (hc : ctxP x ct ze on a b) (ha : 1 ≤ a) (hb : 1 ≤ b) (hab : a + b ≤ 64) (hv : v < 2) : Ok2 (lf_X9_learns ct x (nI v)) (lf_X0_count_X2 on ze (nI v) x) (fun m k => cRel m k.2 k.1) := by
  unfold lf_X9_learns lf_X0_count_X2
  rcases hc with ⟨c, hc, rfl, e1, e2, e3, e4⟩ | ⟨rfl, rfl, rfl⟩
  · refine Ok2.lpos (by simp (disch := omega) only [lI0, lI1, lI2, lI3, lI4, lI5, lI7, lI8, lI9, lI10, lI11, lI12, lI15, lI16, lI17, lI20, lI24, lI32, lI33, lI40, lI63, lI64, lI80, lI82, lI101, lI110, lI115, lI251, lI255, lI256, lI384, lI16384, lI20000, lI32768, lI49152, lI65535, nI_add, pk_mul, pk_sub, pk_div, nI_leI, nI_ltI, nI_eq] <;> omega) (Ok2.rneg (by simp (disch := omega) only [lI0, lI1, lI2, lI3, lI4, lI5, lI7, lI8, lI9, lI10, lI11, lI12, lI15, lI16, lI17, lI20, lI24, lI32, lI33, lI40, lI63, lI64, lI80, lI82, lI101, lI110, lI115, lI251, lI255, lI256, lI384, lI16384, lI20000, lI32768, lI49152, lI65535, nI_add, pk_mul, pk_sub, pk_div, nI_leI, nI_ltI, nI_eq] <;> omega) (Ok2.rpos (by simp (disch := omega) only [lI0, lI1, lI2, lI3, lI4, lI5, lI7, lI8, lI9, lI10, lI11, lI12, lI15, lI16, lI17, lI20, lI24, lI32, lI33, lI40, lI63, lI64, lI80, lI82, lI101, lI110, lI115, lI251, lI255, lI256, lI384, lI16384, lI20000, lI32768, lI49152, lI65535, nI_add, pk_mul, pk_sub, pk_div, nI_leI, nI_ltI, nI_eq] <;> omega) ?_))
    have hv2 : v = 0 ∨ v = 1 := by omega
    rcases hv2 with rfl | rfl
    · refine Ok2.lrd (2 * c) (by first | (simp (disch := omega) only [lI0, lI1, lI2, lI3, lI4, lI5, lI7, lI8, lI9, lI10, lI11, lI12, lI15, lI16, lI17, lI20, lI24, lI32, lI33, lI40, lI63, lI64, lI80, lI82, lI101, lI110, lI115, lI251, lI255, lI256, lI384, lI16384, lI20000, lI32768, lI49152, lI65535, nI_add, pk_mul, pk_sub, pk_div] <;> (apply congrArg nI; omega)) | rfl) (by omega) (by decide) (Ok2.lwr (2 * c) (by first | (simp (disch := omega) only [lI0, lI1, lI2, lI3, lI4, lI5, lI7, lI8, lI9, lI10, lI11, lI12, lI15, lI16, lI17, lI20, lI24, lI32, lI33, lI40, lI63, lI64, lI80, lI82, lI101, lI110, lI115, lI251, lI255, lI256, lI384, lI16384, lI20000, lI32768, lI49152, lI65535, nI_add, pk_mul, pk_sub, pk_div] <;> (apply congrArg nI; omega)) | rfl) (by omega) (by decide) (Ok2.lrd (2 * c) (by first | (simp (disch := omega) only [lI0, lI1, lI2, lI3, lI4, lI5, lI7, lI8, lI9, lI10, lI11, lI12, lI15, lI16, lI17, lI20, lI24, lI32, lI33, lI40, lI63, lI64, lI80, lI82, lI101, lI110, lI115, lI251, lI255, lI256, lI384, lI16384, lI20000, lI32768, lI49152, lI65535, nI_add, pk_mul, pk_sub, pk_div] <;> (apply congrArg nI; omega)) | rfl) (by omega) (by decide) (Ok2.lrd (2 * c + 1) (by first | (simp (disch := omega) only [lI0, lI1, lI2, lI3, lI4, lI5, lI7, lI8, lI9, lI10, lI11, lI12, lI15, lI16, lI17, lI20, lI24, lI32, lI33, lI40, lI63, lI64, lI80, lI82, lI101, lI110, lI115, lI251, lI255, lI256, lI384, lI16384, lI20000, lI32768, lI49152, lI65535, nI_add, pk_mul, pk_sub, pk_div] <;> (apply congrArg nI; omega)) | rfl) (by omega) (by decide) ?_)))
      rw [upd_eq, upd_ne (by omega), e1, e2]
      refine Ok2.rjn (fun z => z = (on, upd ze c (nI a + 1))) (fun k hk => Ok2.rpos (by decide) (Ok2.rrd c rfl hc (by decide) (Ok2.rwr c rfl hc (by decide) (hk _ (by rw [e3]))))) ?_
      rintro z rfl
      refine Ok2.rrd c rfl hc (by decide) (Ok2.rrd c rfl hc (by decide) ?_)
      dsimp only
      by_cases hs : a + 1 + b ≤ 64
      · refine Ok2.lneg (by simp (disch := omega) only [lI0, lI1, lI2, lI3, lI4, lI5, lI7, lI8, lI9, lI10, lI11, lI12, lI15, lI16, lI17, lI20, lI24, lI32, lI33, lI40, lI63, lI64, lI80, lI82, lI101, lI110, lI115, lI251, lI255, lI256, lI384, lI16384, lI20000, lI32768, lI49152, lI65535, nI_add, pk_mul, pk_sub, pk_div, nI_leI, nI_ltI, nI_eq] <;> omega) (Ok2.rpos (by
          rw [upd_eq, e4]
          (simp (disch := omega) only [lI0, lI1, lI2, lI3, lI4, lI5, lI7, lI8, lI9, lI10, lI11, lI12, lI15, lI16, lI17, lI20, lI24, lI32, lI33, lI40, lI63, lI64, lI80, lI82, lI101, lI110, lI115, lI251, lI255, lI256, lI384, lI16384, lI20000, lI32768, lI49152, lI65535, nI_add, pk_mul, pk_sub, pk_div, nI_leI, nI_ltI, nI_eq] <;> omega)) (Ok2.some ?_))
        refine cRel_upd (c := c) (a := a + 1) (b := b) h (by omega) hb (by omega) ?_ ?_ ?_ ?_ ?_ ?_
        · rw [upd_eq]
          (first | (simp (disch := omega) only [lI0, lI1, lI2, lI3, lI4, lI5, lI7, lI8, lI9, lI10, lI11, lI12, lI15, lI16, lI17, lI20, lI24, lI32, lI33, lI40, lI63, lI64, lI80, lI82, lI101, lI110, lI115, lI251, lI255, lI256, lI384, lI16384, lI20000, lI32768, lI49152, lI65535, nI_add, pk_mul, pk_sub, pk_div] <;> (apply congrArg nI; omega)) | rfl)
        · rw [upd_ne (by omega), e2]
        · intro j h1 h2
          rw [upd_ne h1]
        · dsimp only
          rw [upd_eq]
          (first | (simp (disch := omega) only [lI0, lI1, lI2, lI3, lI4, lI5, lI7, lI8, lI9, lI10, lI11, lI12, lI15, lI16, lI17, lI20, lI24, lI32, lI33, lI40, lI63, lI64, lI80, lI82, lI101, lI110, lI115, lI251, lI255, lI256, lI384, lI16384, lI20000, lI32768, lI49152, lI65535, nI_add, pk_mul, pk_sub, pk_div] <;> (apply congrArg nI; omega)) | rfl)
        · exact e4
        · intro j h1
          exact ⟨upd_ne h1, rfl⟩
      · refine Ok2.lpos (by simp (disch := omega) only [lI0, lI1, lI2, lI3, lI4, lI5, lI7, lI8, lI9, lI10, lI11, lI12, lI15, lI16, lI17, lI20, lI24, lI32, lI33, lI40, lI63, lI64, lI80, lI82, lI101, lI110, lI115, lI251, lI255, lI256, lI384, lI16384, lI20000, lI32768, lI49152, lI65535, nI_add, pk_mul, pk_sub, pk_div, nI_leI, nI_ltI, nI_eq] <;> omega) (Ok2.rneg (by
          rw [upd_eq, e4]
          (simp (disch := omega) only [lI0, lI1, lI2, lI3, lI4, lI5, lI7, lI8, lI9, lI10, lI11, lI12, lI15, lI16, lI17, lI20, lI24, lI32, lI33, lI40, lI63, lI64, lI80, lI82, lI101, lI110, lI115, lI251, lI255, lI256, lI384, lI16384, lI20000, lI32768, lI49152, lI65535, nI_add, pk_mul, pk_sub, pk_div, nI_leI, nI_ltI, nI_eq] <;> omega)) ?_)
        refine Ok2.lrd (2 * c) (by first | (simp (disch := omega) only [lI0, lI1, lI2, lI3, lI4, lI5, lI7, lI8, lI9, lI10, lI11, lI12, lI15, lI16, lI17, lI20, lI24, lI32, lI33, lI40, lI63, lI64, lI80, lI82, lI101, lI110, lI115, lI251, lI255, lI256, lI384, lI16384, lI20000, lI32768, lI49152, lI65535, nI_add, pk_mul, pk_sub, pk_div] <;> (apply congrArg nI; omega)) | rfl) (by omega) (by decide) (Ok2.lwr (2 * c) (by first | (simp (disch := omega) only [lI0, lI1, lI2, lI3, lI4, lI5, lI7, lI8, lI9, lI10, lI11, lI12, lI15, lI16, lI17, lI20, lI24, lI32, lI33, lI40, lI63, lI64, lI80, lI82, lI101, lI110, lI115, lI251, lI255, lI256, lI384, lI16384, lI20000, lI32768, lI49152, lI65535, nI_add, pk_mul, pk_sub, pk_div] <;> (apply congrArg nI; omega)) | rfl) (by omega) (by decide) (Ok2.lrd (2 * c + 1) (by first | (simp (disch := omega) only [lI0, lI1, lI2, lI3, lI4, lI5, lI7, lI8, lI9, lI10, lI11, lI12, lI15, lI16, lI17, lI20, lI24, lI32, lI33, lI40, lI63, lI64, lI80, lI82, lI101, lI110, lI115, lI251, lI255, lI256, lI384, lI16384, lI20000, lI32768, lI49152, lI65535, nI_add, pk_mul, pk_sub, pk_div] <;> (apply congrArg nI; omega)) | rfl) (by omega) (by decide) (Ok2.lwr (2 * c + 1) (by first | (simp (disch := omega) only [lI0, lI1, lI2, lI3, lI4, lI5, lI7, lI8, lI9, lI10, lI11, lI12, lI15, lI16, lI17, lI20, lI24, lI32, lI33, lI40, lI63, lI64, lI80, lI82, lI101, lI110, lI115, lI251, lI255, lI256, lI384, lI16384, lI20000, lI32768, lI49152, lI65535, nI_add, pk_mul, pk_sub, pk_div] <;> (apply congrArg nI; omega)) | rfl) (by omega) (by decide) ?_)))
        refine Ok2.rrd c rfl hc (by decide) (Ok2.rwr c rfl hc (by decide) (Ok2.rrd c rfl hc (by decide) (Ok2.rwr c rfl hc (by decide) (Ok2.some ?_))))
        simp only [upd_eq, upd_ne (show 2 * c + 1 ≠ 2 * c by omega), e2, e4]
        refine cRel_upd (c := c) (a := (a + 2) / 2) (b := (b + 1) / 2) h (by omega) (by omega) (by omega) ?_ ?_ ?_ ?_ ?_ ?_
        · rw [upd_ne (by omega), upd_eq]
          (first | (simp (disch := omega) only [lI0, lI1, lI2, lI3, lI4, lI5, lI7, lI8, lI9, lI10, lI11, lI12, lI15, lI16, lI17, lI20, lI24, lI32, lI33, lI40, lI63, lI64, lI80, lI82, lI101, lI110, lI115, lI251, lI255, lI256, lI384, lI16384, lI20000, lI32768, lI49152, lI65535, nI_add, pk_mul, pk_sub, pk_div] <;> (apply congrArg nI; omega)) | rfl)
        · rw [upd_eq]
          (first | (simp (disch := omega) only [lI0, lI1, lI2, lI3, lI4, lI5, lI7, lI8, lI9, lI10, lI11, lI12, lI15, lI16, lI17, lI20, lI24, lI32, lI33, lI40, lI63, lI64, lI80, lI82, lI101, lI110, lI115, lI251, lI255, lI256, lI384, lI16384, lI20000, lI32768, lI49152, lI65535, nI_add, pk_mul, pk_sub, pk_div] <;> (apply congrArg nI; omega)) | rfl)
        · intro j h1 h2
          rw [upd_ne h2, upd_ne h1, upd_ne h1]
        · rw [upd_eq]
          (first | (simp (disch := omega) only [lI0, lI1, lI2, lI3, lI4, lI5, lI7, lI8, lI9, lI10, lI11, lI12, lI15, lI16, lI17, lI20, lI24, lI32, lI33, lI40, lI63, lI64, lI80, lI82, lI101, lI110, lI115, lI251, lI255, lI256, lI384, lI16384, lI20000, lI32768, lI49152, lI65535, nI_add, pk_mul, pk_sub, pk_div] <;> (apply congrArg nI; omega)) | rfl)
        · rw [upd_eq]
          (first | (simp (disch := omega) only [lI0, lI1, lI2, lI3, lI4, lI5, lI7, lI8, lI9, lI10, lI11, lI12, lI15, lI16, lI17, lI20, lI24, lI32, lI33, lI40, lI63, lI64, lI80, lI82, lI101, lI110, lI115, lI251, lI255, lI256, lI384, lI16384, lI20000, lI32768, lI49152, lI65535, nI_add, pk_mul, pk_sub, pk_div] <;> (apply congrArg nI; omega)) | rfl)
        · intro j h1
          exact ⟨by rw [upd_ne h1, upd_ne h1], upd_ne h1⟩
    · refine Ok2.lrd (2 * c + 1) (by first | (simp (disch := omega) only [lI0, lI1, lI2, lI3, lI4, lI5, lI7, lI8, lI9, lI10, lI11, lI12, lI15, lI16, lI17, lI20, lI24, lI32, lI33, lI40, lI63, lI64, lI80, lI82, lI101, lI110, lI115, lI251, lI255, lI256, lI384, lI16384, lI20000, lI32768, lI49152, lI65535, nI_add, pk_mul, pk_sub, pk_div] <;> (apply congrArg nI; omega)) | rfl) (by omega) (by decide) (Ok2.lwr (2 * c + 1) (by first | (simp (disch := omega) only [lI0, lI1, lI2, lI3, lI4, lI5, lI7, lI8, lI9, lI10, lI11, lI12, lI15, lI16, lI17, lI20, lI24, lI32, lI33, lI40, lI63, lI64, lI80, lI82, lI101, lI110, lI115, lI251, lI255, lI256, lI384, lI16384, lI20000, lI32768, lI49152, lI65535, nI_add, pk_mul, pk_sub, pk_div] <;> (apply congrArg nI; omega)) | rfl) (by omega) (by decide) (Ok2.lrd (2 * c) (by first | (simp (disch := omega) only [lI0, lI1, lI2, lI3, lI4, lI5, lI7, lI8, lI9, lI10, lI11, lI12, lI15, lI16, lI17, lI20, lI24, lI32, lI33, lI40, lI63, lI64, lI80, lI82, lI101, lI110, lI115, lI251, lI255, lI256, lI384, lI16384, lI20000, lI32768, lI49152, lI65535, nI_add, pk_mul, pk_sub, pk_div] <;> (apply congrArg nI; omega)) | rfl) (by omega) (by decide) (Ok2.lrd (2 * c + 1) (by first | (simp (disch := omega) only [lI0, lI1, lI2, lI3, lI4, lI5, lI7, lI8, lI9, lI10, lI11, lI12, lI15, lI16, lI17, lI20, lI24, lI32, lI33, lI40, lI63, lI64, lI80, lI82, lI101, lI110, lI115, lI251, lI255, lI256, lI384, lI16384, lI20000, lI32768, lI49152, lI65535, nI_add, pk_mul, pk_sub, pk_div] <;> (apply congrArg nI; omega)) | rfl) (by omega) (by decide) ?_)))
      rw [upd_eq, upd_ne (by omega), e1, e2]
      refine Ok2.rjn (fun z => z = (upd on c (nI b + 1), ze)) (fun k hk => Ok2.rneg (by decide) (Ok2.rrd c rfl hc (by decide) (Ok2.rwr c rfl hc (by decide) (hk _ (by rw [e4]))))) ?_
      rintro z rfl
      refine Ok2.rrd c rfl hc (by decide) (Ok2.rrd c rfl hc (by decide) ?_)
      dsimp only
      by_cases hs : a + (b + 1) ≤ 64
      · refine Ok2.lneg (by simp (disch := omega) only [lI0, lI1, lI2, lI3, lI4, lI5, lI7, lI8, lI9, lI10, lI11, lI12, lI15, lI16, lI17, lI20, lI24, lI32, lI33, lI40, lI63, lI64, lI80, lI82, lI101, lI110, lI115, lI251, lI255, lI256, lI384, lI16384, lI20000, lI32768, lI49152, lI65535, nI_add, pk_mul, pk_sub, pk_div, nI_leI, nI_ltI, nI_eq] <;> omega) (Ok2.rpos (by
          rw [upd_eq, e3]
          (simp (disch := omega) only [lI0, lI1, lI2, lI3, lI4, lI5, lI7, lI8, lI9, lI10, lI11, lI12, lI15, lI16, lI17, lI20, lI24, lI32, lI33, lI40, lI63, lI64, lI80, lI82, lI101, lI110, lI115, lI251, lI255, lI256, lI384, lI16384, lI20000, lI32768, lI49152, lI65535, nI_add, pk_mul, pk_sub, pk_div, nI_leI, nI_ltI, nI_eq] <;> omega)) (Ok2.some ?_))
        refine cRel_upd (c := c) (a := a) (b := b + 1) h ha (by omega) (by omega) ?_ ?_ ?_ ?_ ?_ ?_
        · rw [upd_ne (by omega), e1]
        · rw [upd_eq]
          (first | (simp (disch := omega) only [lI0, lI1, lI2, lI3, lI4, lI5, lI7, lI8, lI9, lI10, lI11, lI12, lI15, lI16, lI17, lI20, lI24, lI32, lI33, lI40, lI63, lI64, lI80, lI82, lI101, lI110, lI115, lI251, lI255, lI256, lI384, lI16384, lI20000, lI32768, lI49152, lI65535, nI_add, pk_mul, pk_sub, pk_div] <;> (apply congrArg nI; omega)) | rfl)
        · intro j h1 h2
          rw [upd_ne h2]
        · exact e3
        · dsimp only
          rw [upd_eq]
          (first | (simp (disch := omega) only [lI0, lI1, lI2, lI3, lI4, lI5, lI7, lI8, lI9, lI10, lI11, lI12, lI15, lI16, lI17, lI20, lI24, lI32, lI33, lI40, lI63, lI64, lI80, lI82, lI101, lI110, lI115, lI251, lI255, lI256, lI384, lI16384, lI20000, lI32768, lI49152, lI65535, nI_add, pk_mul, pk_sub, pk_div] <;> (apply congrArg nI; omega)) | rfl)
        · intro j h1
          exact ⟨rfl, upd_ne h1⟩
      · refine Ok2.lpos (by simp (disch := omega) only [lI0, lI1, lI2, lI3, lI4, lI5, lI7, lI8, lI9, lI10, lI11, lI12, lI15, lI16, lI17, lI20, lI24, lI32, lI33, lI40, lI63, lI64, lI80, lI82, lI101, lI110, lI115, lI251, lI255, lI256, lI384, lI16384, lI20000, lI32768, lI49152, lI65535, nI_add, pk_mul, pk_sub, pk_div, nI_leI, nI_ltI, nI_eq] <;> omega) (Ok2.rneg (by
          rw [upd_eq, e3]
          (simp (disch := omega) only [lI0, lI1, lI2, lI3, lI4, lI5, lI7, lI8, lI9, lI10, lI11, lI12, lI15, lI16, lI17, lI20, lI24, lI32, lI33, lI40, lI63, lI64, lI80, lI82, lI101, lI110, lI115, lI251, lI255, lI256, lI384, lI16384, lI20000, lI32768, lI49152, lI65535, nI_add, pk_mul, pk_sub, pk_div, nI_leI, nI_ltI, nI_eq] <;> omega)) ?_)
        refine Ok2.lrd (2 * c) (by first | (simp (disch := omega) only [lI0, lI1, lI2, lI3, lI4, lI5, lI7, lI8, lI9, lI10, lI11, lI12, lI15, lI16, lI17, lI20, lI24, lI32, lI33, lI40, lI63, lI64, lI80, lI82, lI101, lI110, lI115, lI251, lI255, lI256, lI384, lI16384, lI20000, lI32768, lI49152, lI65535, nI_add, pk_mul, pk_sub, pk_div] <;> (apply congrArg nI; omega)) | rfl) (by omega) (by decide) (Ok2.lwr (2 * c) (by first | (simp (disch := omega) only [lI0, lI1, lI2, lI3, lI4, lI5, lI7, lI8, lI9, lI10, lI11, lI12, lI15, lI16, lI17, lI20, lI24, lI32, lI33, lI40, lI63, lI64, lI80, lI82, lI101, lI110, lI115, lI251, lI255, lI256, lI384, lI16384, lI20000, lI32768, lI49152, lI65535, nI_add, pk_mul, pk_sub, pk_div] <;> (apply congrArg nI; omega)) | rfl) (by omega) (by decide) (Ok2.lrd (2 * c + 1) (by first | (simp (disch := omega) only [lI0, lI1, lI2, lI3, lI4, lI5, lI7, lI8, lI9, lI10, lI11, lI12, lI15, lI16, lI17, lI20, lI24, lI32, lI33, lI40, lI63, lI64, lI80, lI82, lI101, lI110, lI115, lI251, lI255, lI256, lI384, lI16384, lI20000, lI32768, lI49152, lI65535, nI_add, pk_mul, pk_sub, pk_div] <;> (apply congrArg nI; omega)) | rfl) (by omega) (by decide) (Ok2.lwr (2 * c + 1) (by first | (simp (disch := omega) only [lI0, lI1, lI2, lI3, lI4, lI5, lI7, lI8, lI9, lI10, lI11, lI12, lI15, lI16, lI17, lI20, lI24, lI32, lI33, lI40, lI63, lI64, lI80, lI82, lI101, lI110, lI115, lI251, lI255, lI256, lI384, lI16384, lI20000, lI32768, lI49152, lI65535, nI_add, pk_mul, pk_sub, pk_div] <;> (apply congrArg nI; omega)) | rfl) (by omega) (by decide) ?_)))
        refine Ok2.rrd c rfl hc (by decide) (Ok2.rwr c rfl hc (by decide) (Ok2.rrd c rfl hc (by decide) (Ok2.rwr c rfl hc (by decide) (Ok2.some ?_))))
        simp only [upd_eq, upd_ne (show 2 * c ≠ 2 * c + 1 by omega), upd_ne (show 2 * c + 1 ≠ 2 * c by omega), e1, e3]
        refine cRel_upd (c := c) (a := (a + 1) / 2) (b := (b + 2) / 2) h (by omega) (by omega) (by omega) ?_ ?_ ?_ ?_ ?_ ?_
        · rw [upd_ne (by omega), upd_eq]
          (first | (simp (disch := omega) only [lI0, lI1, lI2, lI3, lI4, lI5, lI7, lI8, lI9, lI10, lI11, lI12, lI15, lI16, lI17, lI20, lI24, lI32, lI33, lI40, lI63, lI64, lI80, lI82, lI101, lI110, lI115, lI251, lI255, lI256, lI384, lI16384, lI20000, lI32768, lI49152, lI65535, nI_add, pk_mul, pk_sub, pk_div] <;> (apply congrArg nI; omega)) | rfl)
        · rw [upd_eq]
          (first | (simp (disch := omega) only [lI0, lI1, lI2, lI3, lI4, lI5, lI7, lI8, lI9, lI10, lI11, lI12, lI15, lI16, lI17, lI20, lI24, lI32, lI33, lI40, lI63, lI64, lI80, lI82, lI101, lI110, lI115, lI251, lI255, lI256, lI384, lI16384, lI20000, lI32768, lI49152, lI65535, nI_add, pk_mul, pk_sub, pk_div] <;> (apply congrArg nI; omega)) | rfl)
        · intro j h1 h2
          rw [upd_ne h2, upd_ne h1, upd_ne h2]
        · rw [upd_eq]
          (first | (simp (disch := omega) only [lI0, lI1, lI2, lI3, lI4, lI5, lI7, lI8, lI9, lI10, lI11, lI12, lI15, lI16, lI17, lI20, lI24, lI32, lI33, lI40, lI63, lI64, lI80, lI82, lI101, lI110, lI115, lI251, lI255, lI256, lI384, lI16384, lI20000, lI32768, lI49152, lI65535, nI_add, pk_mul, pk_sub, pk_div] <;> (apply congrArg nI; omega)) | rfl)
        · rw [upd_eq]
          (first | (simp (disch := omega) only [lI0, lI1, lI2, lI3, lI4, lI5, lI7, lI8, lI9, lI10, lI11, lI12, lI15, lI16, lI17, lI20, lI24, lI32, lI33, lI40, lI63, lI64, lI80, lI82, lI101, lI110, lI115, lI251, lI255, lI256, lI384, lI16384, lI20000, lI32768, lI49152, lI65535, nI_add, pk_mul, pk_sub, pk_div] <;> (apply congrArg nI; omega)) | rfl)
        · intro j h1
          exact ⟨upd_ne h1, by rw [upd_ne h1, upd_ne h1]⟩
  · exact Ok2.lneg (by decide) (Ok2.rpos (by decide) (Ok2.some h))
/-- the offset, by the interval -/
def offv (l h : Nat) : Int32 := if h < 32768 then 0 else if 32768 ≤ l then 32768 else if 16384 ≤ l ∧ h < 49152 then 16384 else -1
theorem eq_X9_offset {l h : Nat} (hl : l < 2 ^ 31) (hh : h < 2 ^ 31) : lf_X9_offset (nI h) (nI l) = some (offv l h) := by
  suffices hs : Ok (lf_X9_offset (nI h) (nI l)) (fun o => o = offv l h) by
    obtain ⟨o, h1, h2⟩ := hs
    rw [h1, h2]
  unfold lf_X9_offset offv
  by_cases h1 : h < 32768
  · rw [if_pos h1]
    exact Ok.neg (by simp (disch := omega) only [lI0, lI1, lI2, lI3, lI4, lI5, lI7, lI8, lI9, lI10, lI11, lI12, lI15, lI16, lI17, lI20, lI24, lI32, lI33, lI40, lI63, lI64, lI80, lI82, lI101, lI110, lI115, lI251, lI255, lI256, lI384, lI16384, lI20000, lI32768, lI49152, lI65535, nI_add, pk_mul, pk_sub, pk_div, nI_leI, nI_ltI, nI_eq] <;> omega) (Ok.some rfl)
  · rw [if_neg h1]
    refine Ok.pos (by simp (disch := omega) only [lI0, lI1, lI2, lI3, lI4, lI5, lI7, lI8, lI9, lI10, lI11, lI12, lI15, lI16, lI17, lI20, lI24, lI32, lI33, lI40, lI63, lI64, lI80, lI82, lI101, lI110, lI115, lI251, lI255, lI256, lI384, lI16384, lI20000, lI32768, lI49152, lI65535, nI_add, pk_mul, pk_sub, pk_div, nI_leI, nI_ltI, nI_eq] <;> omega) ?_
    by_cases h2 : 32768 ≤ l
    · rw [if_pos h2]
      exact Ok.neg (by simp (disch := omega) only [lI0, lI1, lI2, lI3, lI4, lI5, lI7, lI8, lI9, lI10, lI11, lI12, lI15, lI16, lI17, lI20, lI24, lI32, lI33, lI40, lI63, lI64, lI80, lI82, lI101, lI110, lI115, lI251, lI255, lI256, lI384, lI16384, lI20000, lI32768, lI49152, lI65535, nI_add, pk_mul, pk_sub, pk_div, nI_leI, nI_ltI, nI_eq] <;> omega) (Ok.some rfl)
    · rw [if_neg h2]
      refine Ok.pos (by simp (disch := omega) only [lI0, lI1, lI2, lI3, lI4, lI5, lI7, lI8, lI9, lI10, lI11, lI12, lI15, lI16, lI17, lI20, lI24, lI32, lI33, lI40, lI63, lI64, lI80, lI82, lI101, lI110, lI115, lI251, lI255, lI256, lI384, lI16384, lI20000, lI32768, lI49152, lI65535, nI_add, pk_mul, pk_sub, pk_div, nI_leI, nI_ltI, nI_eq] <;> omega) (Ok.jnI ?_)
      by_cases h3 : 16384 ≤ l ∧ h < 49152
      · rw [if_pos h3]
        exact Ok.neg (by simp (disch := omega) only [lI0, lI1, lI2, lI3, lI4, lI5, lI7, lI8, lI9, lI10, lI11, lI12, lI15, lI16, lI17, lI20, lI24, lI32, lI33, lI40, lI63, lI64, lI80, lI82, lI101, lI110, lI115, lI251, lI255, lI256, lI384, lI16384, lI20000, lI32768, lI49152, lI65535, nI_add, pk_mul, pk_sub, pk_div, nI_leI, nI_ltI, nI_eq] <;> omega) (Ok.neg (by simp (disch := omega) only [lI0, lI1, lI2, lI3, lI4, lI5, lI7, lI8, lI9, lI10, lI11, lI12, lI15, lI16, lI17, lI20, lI24, lI32, lI33, lI40, lI63, lI64, lI80, lI82, lI101, lI110, lI115, lI251, lI255, lI256, lI384, lI16384, lI20000, lI32768, lI49152, lI65535, nI_add, pk_mul, pk_sub, pk_div, nI_leI, nI_ltI, nI_eq] <;> omega) (Ok.some rfl))
      · rw [if_neg h3]
        by_cases h4 : l < 16384
        · exact Ok.pos (by simp (disch := omega) only [lI0, lI1, lI2, lI3, lI4, lI5, lI7, lI8, lI9, lI10, lI11, lI12, lI15, lI16, lI17, lI20, lI24, lI32, lI33, lI40, lI63, lI64, lI80, lI82, lI101, lI110, lI115, lI251, lI255, lI256, lI384, lI16384, lI20000, lI32768, lI49152, lI65535, nI_add, pk_mul, pk_sub, pk_div, nI_leI, nI_ltI, nI_eq] <;> omega) (Ok.some rfl)
        · exact Ok.neg (by simp (disch := omega) only [lI0, lI1, lI2, lI3, lI4, lI5, lI7, lI8, lI9, lI10, lI11, lI12, lI15, lI16, lI17, lI20, lI24, lI32, lI33, lI40, lI63, lI64, lI80, lI82, lI101, lI110, lI115, lI251, lI255, lI256, lI384, lI16384, lI20000, lI32768, lI49152, lI65535, nI_add, pk_mul, pk_sub, pk_div, nI_leI, nI_ltI, nI_eq] <;> omega) (Ok.pos (by simp (disch := omega) only [lI0, lI1, lI2, lI3, lI4, lI5, lI7, lI8, lI9, lI10, lI11, lI12, lI15, lI16, lI17, lI20, lI24, lI32, lI33, lI40, lI63, lI64, lI80, lI82, lI101, lI110, lI115, lI251, lI255, lI256, lI384, lI16384, lI20000, lI32768, lI49152, lI65535, nI_add, pk_mul, pk_sub, pk_div, nI_leI, nI_ltI, nI_eq] <;> omega) (Ok.some rfl))
theorem eq_nextOffset_X2 {l h : Nat} (hl : l < 2 ^ 31) (hh : h < 2 ^ 31) : lf_X0_nextOffset_X2 (nI h) (nI l) = some (offv l h) := eq_X9_offset hl hh
theorem eq_nextOffset_X1 {l h : Nat} (hl : l < 2 ^ 31) (hh : h < 2 ^ 31) : lf_X0_nextOffset_X1 (nI h) (nI l) = some (offv l h) := eq_X9_offset hl hh
theorem offv_cases (l h : Nat) : (offv l h = nI 0 ∧ h < 32768) ∨ (offv l h = nI 32768 ∧ 32768 ≤ h ∧ 32768 ≤ l) ∨ (offv l h = nI 16384 ∧ 32768 ≤ h ∧ 16384 ≤ l ∧ l < 32768 ∧ h < 49152) ∨ (offv l h = -1 ∧ 32768 ≤ h ∧ l < 32768 ∧ (l < 16384 ∨ 49152 ≤ h)) := by
  unfold offv
  by_cases h1 : h < 32768
  · rw [if_pos h1]
    exact Or.inl ⟨rfl, h1⟩
  · rw [if_neg h1]
    by_cases h2 : 32768 ≤ l
    · rw [if_pos h2]
      exact Or.inr (Or.inl ⟨rfl, by omega, h2⟩)
    · rw [if_neg h2]
      by_cases h3 : 16384 ≤ l ∧ h < 49152
      · rw [if_pos h3]
        exact Or.inr (Or.inr (Or.inl ⟨rfl, by omega, h3.1, by omega, h3.2⟩))
      · rw [if_neg h3]
        exact Or.inr (Or.inr (Or.inr ⟨rfl, by omega, by omega, by omega⟩))
/-- the writers of both sides in step: what a part begins at, how much may have been written -/
def WR (start B : Nat) (s0 : Nat → Int32) (mb mh ml mp : Int32) (ct st : Nat → Int32) (cb ch cl cp : Int32) (by1 on ze : Nat → Int32) : Prop :=
  ∃ b h l p, mb = nI b ∧ mh = nI h ∧ ml = nI l ∧ mp = nI p ∧ cb = nI b ∧ ch = nI h ∧ cl = nI l ∧ cp = nI p ∧ cI l h ∧ cRel ct ze on ∧ wrel b (vwS start st) by1 ∧ (∀ j, j < start → st j = s0 j) ∧ b + p + phi l h ≤ B
set_option maxHeartbeats 2000000 in
/-- doubling until no offset applies -/
theorem ok_norm {start T r : Nat} {s0 st by1 : Nat → Int32} {b h l p : Nat} (hs : start + 2048 ≤ 20000) (hlh : l ≤ h) (hh : h < 65536) (hr : h - l + 1 = r) (hr2 : 256 ≤ r) (hT : b + p = T) (hT2 : T + 9 < 16384) (hw : wrel b (vwS start st) by1) (hfr : ∀ j, j < start → st j = s0 j) {F : (Int32 × Int32 × Int32 × Int32 × Int32 × (Nat → Int32) → Option (Int32 × Int32 × Int32 × Int32 × (Nat → Int32))) → Int32 × Int32 × Int32 × Int32 × Int32 × (Nat → Int32) → Option (Int32 × Int32 × Int32 × Int32 × (Nat → Int32))} {E : (Int32 × Int32 × Int32 × Int32 × Int32 × Int32 × (Nat → Int32) → Option (Int32 × Int32 × Int32 × Int32 × (Nat → Int32))) → Int32 × Int32 × Int32 × Int32 × Int32 × Int32 × (Nat → Int32) → Option (Int32 × Int32 × Int32 × Int32 × (Nat → Int32))}
    (hF : F = fun self z => (fun (x5 : Int32) (v6 : Int32) (v7 : Int32) (v8 : Int32) (v9 : Int32) (g10 : (Nat → Int32)) => (if x5 < (0 : Int32) then some (v6, v7, v8, v9, g10) else jn (fun (z17 : Int32 × Int32 × (Nat → Int32)) => (fun (v14 : Int32) (v15 : Int32) (g16 : (Nat → Int32)) => (lf_X9_offset (((2 : Int32) * (v7 - x5)) + (1 : Int32)) ((2 : Int32) * (v8 - x5))).bind fun o18 => self (o18, v14, (((2 : Int32) * (v7 - x5)) + (1 : Int32)), ((2 : Int32) * (v8 - x5)), v15, g16)) z17.1 z17.2.1 z17.2.2) (fun k17 => (if x5 = (16384 : Int32) then k17 (v6, (v9 + (1 : Int32)), g10) else jn (fun (z21 : Int32) => (fun (s20 : Int32) => (lf_X9_writes v6 v9 (nI start) g10 s20).bind fun o22 => k17 (o22.1, o22.2.1, o22.2.2)) z21) (fun k21 => (if x5 = (0 : Int32) then k21 (0 : Int32) else k21 (1 : Int32))))))) z.1 z.2.1 z.2.2.1 z.2.2.2.1 z.2.2.2.2.1 z.2.2.2.2.2)
    (hE : E = fun self z => (fun (x9 : Int32) (x10 : Int32) (v11 : Int32) (v12 : Int32) (v13 : Int32) (v14 : Int32) (g15 : (Nat → Int32)) => (if (17 : Int32) ≤ x10 then some (v11, v12, v13, v14, g15) else (if x9 = (-1 : Int32) then some (v11, v12, v13, v14, g15) else (lf_X2_take v11 v14 g15 x9).bind fun o19 => (lf_X0_nextOffset_X2 (((v12 - x9) * (2 : Int32)) + (1 : Int32)) ((v13 - x9) * (2 : Int32))).bind fun o20 => bnd (x10 + (1 : Int32)) fun x21 => self (o20, x21, o19.1, (((v12 - x9) * (2 : Int32)) + (1 : Int32)), ((v13 - x9) * (2 : Int32)), o19.2.1, o19.2.2)))) z.1 z.2.1 z.2.2.1 z.2.2.2.1 z.2.2.2.2.1 z.2.2.2.2.2.1 z.2.2.2.2.2.2) :
    Ok2 (fixN FUEL F (offv l h, nI b, nI h, nI l, nI p, st)) (fixN FUEL E (offv l h, (0 : Int32), nI b, nI h, nI l, nI p, by1)) (fun m c => ∃ b2 h2 l2 p2 k, m.1 = nI b2 ∧ m.2.1 = nI h2 ∧ m.2.2.1 = nI l2 ∧ m.2.2.2.1 = nI p2 ∧ c.1 = nI b2 ∧ c.2.1 = nI h2 ∧ c.2.2.1 = nI l2 ∧ c.2.2.2.1 = nI p2 ∧ cI l2 h2 ∧ h2 - l2 + 1 = r * 2 ^ k ∧ k ≤ 8 ∧ b2 + p2 = T + k ∧ wrel b2 (vwS start m.2.2.2.2) c.2.2.2.2 ∧ ∀ j, j < start → m.2.2.2.2 j = s0 j) := by
  subst hF hE
  refine Ok2.fix (fun k x y => ∃ b h l p, x = (offv l h, nI b, nI h, nI l, nI p, x.2.2.2.2.2) ∧ y = (offv l h, nI k, nI b, nI h, nI l, nI p, y.2.2.2.2.2.2) ∧ l ≤ h ∧ h < 65536 ∧ h - l + 1 = r * 2 ^ k ∧ b + p = T + k ∧ wrel b (vwS start x.2.2.2.2.2) y.2.2.2.2.2.2 ∧ ∀ j, j < start → x.2.2.2.2.2 j = s0 j) 8 (by omega) ⟨b, h, l, p, rfl, rfl, hlh, hh, by rw [hr, Nat.pow_zero, Nat.mul_one], hT, hw, hfr⟩ ?_
  rintro k ⟨x5, v6, v7, v8, v9, g10⟩ ⟨y9, y10, w11, w12, w13, w14, g15⟩ s1 s2 hk ⟨b, h, l, p, e1, e2, hlh, hh, hR, hT, hw, hfr⟩ K
  dsimp only at hw hfr e1 e2
  simp only [Prod.mk.injEq, and_true] at e1 e2
  obtain ⟨rfl, rfl, rfl, rfl, rfl⟩ := e1
  obtain ⟨rfl, rfl, rfl, rfl, rfl, rfl⟩ := e2
  dsimp only
  refine Ok2.rneg (by simp (disch := omega) only [lI0, lI1, lI2, lI3, lI4, lI5, lI7, lI8, lI9, lI10, lI11, lI12, lI15, lI16, lI17, lI20, lI24, lI32, lI33, lI40, lI63, lI64, lI80, lI82, lI101, lI110, lI115, lI251, lI255, lI256, lI384, lI16384, lI20000, lI32768, lI49152, lI65535, nI_add, pk_mul, pk_sub, pk_div, nI_leI, nI_ltI, nI_eq] <;> omega) ?_
  have hk8 : r * 2 ^ k ≤ 65536 := by omega
  have hp8 : 256 * 2 ^ k ≤ r * 2 ^ k := Nat.mul_le_mul_right _ hr2
  have hps : r * 2 ^ (k + 1) = r * 2 ^ k * 2 := by rw [Nat.pow_succ, Nat.mul_assoc]
  have hk7 : ¬ (offv l h = -1) → k < 8 := by
    intro hne
    rcases Nat.lt_or_ge k 8 with h8 | h8
    · exact h8
    · have : k = 8 := by omega
      subst this
      have h9 : l = 0 ∧ h = 65535 := by omega
      exact absurd (by rw [h9.1, h9.2]; decide) hne
  -- the step with an offset f at or below l
  rcases offv_cases l h with ⟨ho, h1⟩ | ⟨ho, h1, h2⟩ | ⟨ho, h1, h2, h3, h4⟩ | ⟨ho, h1, h2, h3⟩
  · have hkk := hk7 (by rw [ho]; decide)
    have m1 : (2 : Int32) * (nI h - nI 0) + (1 : Int32) = nI (2 * h + 1) := (by first | (simp (disch := omega) only [lI0, lI1, lI2, lI3, lI4, lI5, lI7, lI8, lI9, lI10, lI11, lI12, lI15, lI16, lI17, lI20, lI24, lI32, lI33, lI40, lI63, lI64, lI80, lI82, lI101, lI110, lI115, lI251, lI255, lI256, lI384, lI16384, lI20000, lI32768, lI49152, lI65535, nI_add, pk_mul, pk_sub, pk_div] <;> (apply congrArg nI; omega)) | rfl)
    have m2 : (2 : Int32) * (nI l - nI 0) = nI (2 * l) := (by first | (simp (disch := omega) only [lI0, lI1, lI2, lI3, lI4, lI5, lI7, lI8, lI9, lI10, lI11, lI12, lI15, lI16, lI17, lI20, lI24, lI32, lI33, lI40, lI63, lI64, lI80, lI82, lI101, lI110, lI115, lI251, lI255, lI256, lI384, lI16384, lI20000, lI32768, lI49152, lI65535, nI_add, pk_mul, pk_sub, pk_div] <;> (apply congrArg nI; omega)) | rfl)
    have m3 : (nI h - nI 0) * (2 : Int32) + (1 : Int32) = nI (2 * h + 1) := (by first | (simp (disch := omega) only [lI0, lI1, lI2, lI3, lI4, lI5, lI7, lI8, lI9, lI10, lI11, lI12, lI15, lI16, lI17, lI20, lI24, lI32, lI33, lI40, lI63, lI64, lI80, lI82, lI101, lI110, lI115, lI251, lI255, lI256, lI384, lI16384, lI20000, lI32768, lI49152, lI65535, nI_add, pk_mul, pk_sub, pk_div] <;> (apply congrArg nI; omega)) | rfl)
    have m4 : (nI l - nI 0) * (2 : Int32) = nI (2 * l) := (by first | (simp (disch := omega) only [lI0, lI1, lI2, lI3, lI4, lI5, lI7, lI8, lI9, lI10, lI11, lI12, lI15, lI16, lI17, lI20, lI24, lI32, lI33, lI40, lI63, lI64, lI80, lI82, lI101, lI110, lI115, lI251, lI255, lI256, lI384, lI16384, lI20000, lI32768, lI49152, lI65535, nI_add, pk_mul, pk_sub, pk_div] <;> (apply congrArg nI; omega)) | rfl)
    have m5 : nI k + (1 : Int32) = nI (k + 1) := (by first | (simp (disch := omega) only [lI0, lI1, lI2, lI3, lI4, lI5, lI7, lI8, lI9, lI10, lI11, lI12, lI15, lI16, lI17, lI20, lI24, lI32, lI33, lI40, lI63, lI64, lI80, lI82, lI101, lI110, lI115, lI251, lI255, lI256, lI384, lI16384, lI20000, lI32768, lI49152, lI65535, nI_add, pk_mul, pk_sub, pk_div] <;> (apply congrArg nI; omega)) | rfl)
    rw [ho]
    refine Ok2.lneg (by decide) (Ok2.rneg (by decide) ?_)
    rw [m1, m2, m3, m4]
    refine Ok2.r _ (ok_X2_take (n := b) (p := p) (b := 0) (by omega) (Or.inl ⟨rfl, rfl⟩)) ?_
    rintro ⟨c1, c2, c3⟩ ⟨d1, d2, d3⟩
    dsimp only at d1 d2 d3 ⊢
    subst d1 d2 d3
    refine Ok2.rE _ (eq_nextOffset_X2 (by omega) (by omega)) (Ok2.rbnd ?_)
    rw [m5]
    refine Ok2.ljn (fun z => z.1 = nI (b + 1 + p) ∧ z.2.1 = nI 0 ∧ vwS start z.2.2 = (emN 0 p (b, vwS start g10)).2 ∧ ∀ j, j < start → z.2.2 j = g10 j) (fun kk hkk2 => Ok2.lneg (by decide) ?_) ?_
    · refine Ok2.ljn (fun s => s = 0) (fun k3 hk3 => Ok2.lpos (by decide) (hk3 _ rfl)) ?_
      rintro s rfl
      exact Ok2.l _ (ok_X9_writes (by omega) hs) (fun o ho => hkk2 _ ho)
    · rintro ⟨z1, z2, z3⟩ ⟨d1, d2, d3, d4⟩
      dsimp only at d1 d2 d3 d4 ⊢
      subst d1 d2
      refine Ok2.lE _ (eq_X9_offset (by omega) (by omega)) ?_
      refine K _ _ hkk ⟨b + 1 + p, 2 * h + 1, 2 * l, 0, rfl, rfl, by omega, by omega, by omega, by omega, ?_, fun j hj => (d4 j hj).trans (hfr j hj)⟩
      dsimp only
      rw [d3]
      exact emN_rel (v := 0) (by omega) hw p (by omega)
  · have hkk := hk7 (by rw [ho]; decide)
    have m1 : (2 : Int32) * (nI h - nI 32768) + (1 : Int32) = nI (2 * (h - 32768) + 1) := (by first | (simp (disch := omega) only [lI0, lI1, lI2, lI3, lI4, lI5, lI7, lI8, lI9, lI10, lI11, lI12, lI15, lI16, lI17, lI20, lI24, lI32, lI33, lI40, lI63, lI64, lI80, lI82, lI101, lI110, lI115, lI251, lI255, lI256, lI384, lI16384, lI20000, lI32768, lI49152, lI65535, nI_add, pk_mul, pk_sub, pk_div] <;> (apply congrArg nI; omega)) | rfl)
    have m2 : (2 : Int32) * (nI l - nI 32768) = nI (2 * (l - 32768)) := (by first | (simp (disch := omega) only [lI0, lI1, lI2, lI3, lI4, lI5, lI7, lI8, lI9, lI10, lI11, lI12, lI15, lI16, lI17, lI20, lI24, lI32, lI33, lI40, lI63, lI64, lI80, lI82, lI101, lI110, lI115, lI251, lI255, lI256, lI384, lI16384, lI20000, lI32768, lI49152, lI65535, nI_add, pk_mul, pk_sub, pk_div] <;> (apply congrArg nI; omega)) | rfl)
    have m3 : (nI h - nI 32768) * (2 : Int32) + (1 : Int32) = nI (2 * (h - 32768) + 1) := (by first | (simp (disch := omega) only [lI0, lI1, lI2, lI3, lI4, lI5, lI7, lI8, lI9, lI10, lI11, lI12, lI15, lI16, lI17, lI20, lI24, lI32, lI33, lI40, lI63, lI64, lI80, lI82, lI101, lI110, lI115, lI251, lI255, lI256, lI384, lI16384, lI20000, lI32768, lI49152, lI65535, nI_add, pk_mul, pk_sub, pk_div] <;> (apply congrArg nI; omega)) | rfl)
    have m4 : (nI l - nI 32768) * (2 : Int32) = nI (2 * (l - 32768)) := (by first | (simp (disch := omega) only [lI0, lI1, lI2, lI3, lI4, lI5, lI7, lI8, lI9, lI10, lI11, lI12, lI15, lI16, lI17, lI20, lI24, lI32, lI33, lI40, lI63, lI64, lI80, lI82, lI101, lI110, lI115, lI251, lI255, lI256, lI384, lI16384, lI20000, lI32768, lI49152, lI65535, nI_add, pk_mul, pk_sub, pk_div] <;> (apply congrArg nI; omega)) | rfl)
    have m5 : nI k + (1 : Int32) = nI (k + 1) := (by first | (simp (disch := omega) only [lI0, lI1, lI2, lI3, lI4, lI5, lI7, lI8, lI9, lI10, lI11, lI12, lI15, lI16, lI17, lI20, lI24, lI32, lI33, lI40, lI63, lI64, lI80, lI82, lI101, lI110, lI115, lI251, lI255, lI256, lI384, lI16384, lI20000, lI32768, lI49152, lI65535, nI_add, pk_mul, pk_sub, pk_div] <;> (apply congrArg nI; omega)) | rfl)
    rw [ho]
    refine Ok2.lneg (by decide) (Ok2.rneg (by decide) ?_)
    rw [m1, m2, m3, m4]
    refine Ok2.r _ (ok_X2_take (n := b) (p := p) (b := 1) (by omega) (Or.inr ⟨rfl, rfl⟩)) ?_
    rintro ⟨c1, c2, c3⟩ ⟨d1, d2, d3⟩
    dsimp only at d1 d2 d3 ⊢
    subst d1 d2 d3
    refine Ok2.rE _ (eq_nextOffset_X2 (by omega) (by omega)) (Ok2.rbnd ?_)
    rw [m5]
    refine Ok2.ljn (fun z => z.1 = nI (b + 1 + p) ∧ z.2.1 = nI 0 ∧ vwS start z.2.2 = (emN 1 p (b, vwS start g10)).2 ∧ ∀ j, j < start → z.2.2 j = g10 j) (fun kk hkk2 => Ok2.lneg (by decide) ?_) ?_
    · refine Ok2.ljn (fun s => s = 1) (fun k3 hk3 => Ok2.lneg (by decide) (hk3 _ rfl)) ?_
      rintro s rfl
      exact Ok2.l _ (ok_X9_writes (by omega) hs) (fun o ho => hkk2 _ ho)
    · rintro ⟨z1, z2, z3⟩ ⟨d1, d2, d3, d4⟩
      dsimp only at d1 d2 d3 d4 ⊢
      subst d1 d2
      refine Ok2.lE _ (eq_X9_offset (by omega) (by omega)) ?_
      refine K _ _ hkk ⟨b + 1 + p, 2 * (h - 32768) + 1, 2 * (l - 32768), 0, rfl, rfl, by omega, by omega, by omega, by omega, ?_, fun j hj => (d4 j hj).trans (hfr j hj)⟩
      dsimp only
      rw [d3]
      exact emN_rel (v := 1) (by omega) hw p (by omega)
  · have hkk := hk7 (by rw [ho]; decide)
    have m1 : (2 : Int32) * (nI h - nI 16384) + (1 : Int32) = nI (2 * (h - 16384) + 1) := (by first | (simp (disch := omega) only [lI0, lI1, lI2, lI3, lI4, lI5, lI7, lI8, lI9, lI10, lI11, lI12, lI15, lI16, lI17, lI20, lI24, lI32, lI33, lI40, lI63, lI64, lI80, lI82, lI101, lI110, lI115, lI251, lI255, lI256, lI384, lI16384, lI20000, lI32768, lI49152, lI65535, nI_add, pk_mul, pk_sub, pk_div] <;> (apply congrArg nI; omega)) | rfl)
    have m2 : (2 : Int32) * (nI l - nI 16384) = nI (2 * (l - 16384)) := (by first | (simp (disch := omega) only [lI0, lI1, lI2, lI3, lI4, lI5, lI7, lI8, lI9, lI10, lI11, lI12, lI15, lI16, lI17, lI20, lI24, lI32, lI33, lI40, lI63, lI64, lI80, lI82, lI101, lI110, lI115, lI251, lI255, lI256, lI384, lI16384, lI20000, lI32768, lI49152, lI65535, nI_add, pk_mul, pk_sub, pk_div] <;> (apply congrArg nI; omega)) | rfl)
    have m3 : (nI h - nI 16384) * (2 : Int32) + (1 : Int32) = nI (2 * (h - 16384) + 1) := (by first | (simp (disch := omega) only [lI0, lI1, lI2, lI3, lI4, lI5, lI7, lI8, lI9, lI10, lI11, lI12, lI15, lI16, lI17, lI20, lI24, lI32, lI33, lI40, lI63, lI64, lI80, lI82, lI101, lI110, lI115, lI251, lI255, lI256, lI384, lI16384, lI20000, lI32768, lI49152, lI65535, nI_add, pk_mul, pk_sub, pk_div] <;> (apply congrArg nI; omega)) | rfl)
    have m4 : (nI l - nI 16384) * (2 : Int32) = nI (2 * (l - 16384)) := (by first | (simp (disch := omega) only [lI0, lI1, lI2, lI3, lI4, lI5, lI7, lI8, lI9, lI10, lI11, lI12, lI15, lI16, lI17, lI20, lI24, lI32, lI33, lI40, lI63, lI64, lI80, lI82, lI101, lI110, lI115, lI251, lI255, lI256, lI384, lI16384, lI20000, lI32768, lI49152, lI65535, nI_add, pk_mul, pk_sub, pk_div] <;> (apply congrArg nI; omega)) | rfl)
    have m5 : nI k + (1 : Int32) = nI (k + 1) := (by first | (simp (disch := omega) only [lI0, lI1, lI2, lI3, lI4, lI5, lI7, lI8, lI9, lI10, lI11, lI12, lI15, lI16, lI17, lI20, lI24, lI32, lI33, lI40, lI63, lI64, lI80, lI82, lI101, lI110, lI115, lI251, lI255, lI256, lI384, lI16384, lI20000, lI32768, lI49152, lI65535, nI_add, pk_mul, pk_sub, pk_div] <;> (apply congrArg nI; omega)) | rfl)
    rw [ho]
    refine Ok2.lneg (by decide) (Ok2.rneg (by decide) ?_)
    rw [m1, m2, m3, m4]
    have m6 : nI p + (1 : Int32) = nI (p + 1) := (by first | (simp (disch := omega) only [lI0, lI1, lI2, lI3, lI4, lI5, lI7, lI8, lI9, lI10, lI11, lI12, lI15, lI16, lI17, lI20, lI24, lI32, lI33, lI40, lI63, lI64, lI80, lI82, lI101, lI110, lI115, lI251, lI255, lI256, lI384, lI16384, lI20000, lI32768, lI49152, lI65535, nI_add, pk_mul, pk_sub, pk_div] <;> (apply congrArg nI; omega)) | rfl)
    refine Ok2.rE _ eq_X2_takeM ?_
    dsimp only
    refine Ok2.rE _ (eq_nextOffset_X2 (by omega) (by omega)) (Ok2.rbnd ?_)
    rw [m5, m6]
    refine Ok2.ljn (fun z => z = (nI b, nI (p + 1), g10)) (fun kk hkk2 => Ok2.lpos (by decide) (hkk2 _ rfl)) ?_
    rintro z rfl
    dsimp only
    refine Ok2.lE _ (eq_X9_offset (by omega) (by omega)) ?_
    exact K _ _ hkk ⟨b, 2 * (h - 16384) + 1, 2 * (l - 16384), p + 1, rfl, rfl, by omega, by omega, by omega, by omega, hw, hfr⟩
  · rw [ho]
    refine Ok2.lpos (by decide) (Ok2.rpos (by decide) (Ok2.some ⟨b, h, l, p, k, rfl, rfl, rfl, rfl, rfl, rfl, rfl, rfl, ⟨hlh, hh, h1, h2, h3⟩, hR, hk, hT, hw, hfr⟩))
