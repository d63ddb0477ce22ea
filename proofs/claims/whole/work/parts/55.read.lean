/-! ===== one bit read, on both sides ===== -/
theorem eq_X0_splitFor_X1 {ct ze on : Nat → Int32} {x : Int32} {l h a b : Nat} (hc : ctxP x ct ze on a b) (hl : l ≤ h) (hh : h < 65536) (ha : 1 ≤ a) (hb : 1 ≤ b) (hab : a + b ≤ 64) (hq : 1 ≤ spl l h a b) : lf_X0_splitFor_X1 (nI h) (nI l) on ze x = some (nI (l + spl l h a b - 1)) := eq_X0_splitFor_X2 hc hl hh ha hb hab hq
theorem ok_learn_X1 {ct ze on : Nat → Int32} {x : Int32} {a b v : Nat} (h : cRel ct ze on) (hc : ctxP x ct ze on a b) (ha : 1 ≤ a) (hb : 1 ≤ b) (hab : a + b ≤ 64) (hv : v < 2) : Ok2 (lf_X9_learns ct x (nI v)) (lf_X0_count_X1 on ze (nI v) x) (fun m k => cRel m k.2 k.1) := ok_learn_X2 h hc ha hb hab hv
/-- the bit of a part at a place -/
def btS (start len : Nat) (st : Nat → Int32) (b : Nat) : Int32 := if b / 8 < len then (st (start + b / 8) >>> ((7 - (nI b - nI b / (8 : Int32) * (8 : Int32))) &&& 31)) &&& (1 : Int32) else 0
theorem eq_bitAt {start len b : Nat} {st : Nat → Int32} (hs : start + len ≤ 20000) (hb : b < 2 ^ 20) : lf_X9_bitAt (nI (start + len)) (nI start) st (nI b) = some (btS start len st b) := by
  suffices hk : Ok (lf_X9_bitAt (nI (start + len)) (nI start) st (nI b)) (fun o => o = btS start len st b) by
    obtain ⟨o, h1, h2⟩ := hk
    rw [h1, h2]
  unfold lf_X9_bitAt btS
  by_cases h : b / 8 < len
  · rw [if_pos h]
    exact Ok.neg (by simp (disch := omega) only [lI0, lI1, lI2, lI3, lI4, lI5, lI7, lI8, lI9, lI10, lI11, lI12, lI15, lI16, lI17, lI20, lI24, lI32, lI33, lI40, lI63, lI64, lI80, lI82, lI101, lI110, lI115, lI251, lI255, lI256, lI384, lI16384, lI20000, lI32768, lI49152, lI65535, nI_add, pk_mul, pk_sub, pk_div, nI_leI, nI_ltI, nI_eq] <;> omega) (Ok.rd (start + b / 8) (by first | (simp (disch := omega) only [lI0, lI1, lI2, lI3, lI4, lI5, lI7, lI8, lI9, lI10, lI11, lI12, lI15, lI16, lI17, lI20, lI24, lI32, lI33, lI40, lI63, lI64, lI80, lI82, lI101, lI110, lI115, lI251, lI255, lI256, lI384, lI16384, lI20000, lI32768, lI49152, lI65535, nI_add, pk_mul, pk_sub, pk_div] <;> (apply congrArg nI; omega)) | rfl) (by omega) (by decide) (Ok.some rfl))
  · rw [if_neg h]
    exact Ok.pos (by simp (disch := omega) only [lI0, lI1, lI2, lI3, lI4, lI5, lI7, lI8, lI9, lI10, lI11, lI12, lI15, lI16, lI17, lI20, lI24, lI32, lI33, lI40, lI63, lI64, lI80, lI82, lI101, lI110, lI115, lI251, lI255, lI256, lI384, lI16384, lI20000, lI32768, lI49152, lI65535, nI_add, pk_mul, pk_sub, pk_div, nI_leI, nI_ltI, nI_eq] <;> omega) (Ok.some rfl)
/-- the reader's place in the class -/
def psN (start len b : Nat) : Nat := if b < 8 * len then 8 * start + b else 8 * (start + len)
theorem eq_X1_take {start len b n : Nat} {st cy : Nat → Int32} {code off : Int32} (hs : start + len ≤ n) (hn : n ≤ 32768) (hb : b < 2 ^ 20) (hcy : ∀ i, i < start + len → cy i = st i) : lf_X1_take code (nI (8 * (start + len))) (nI (psN start len b)) n cy off = some ((code - off) * (2 : Int32) + btS start len st b, nI (psN start len (b + 1))) := by
  suffices hk : Ok (lf_X1_take code (nI (8 * (start + len))) (nI (psN start len b)) n cy off) (fun o => o = ((code - off) * (2 : Int32) + btS start len st b, nI (psN start len (b + 1)))) by
    obtain ⟨o, h1, h2⟩ := hk
    rw [h1, h2]
  unfold lf_X1_take btS psN
  refine Ok.jnR (fun z => z = (if b / 8 < len then (st (start + b / 8) >>> ((7 - (nI b - nI b / (8 : Int32) * (8 : Int32))) &&& 31)) &&& (1 : Int32) else 0, nI (if b + 1 < 8 * len then 8 * start + (b + 1) else 8 * (start + len)))) (fun k hk => ?_) (fun z hz => ?_)
  · by_cases h : b < 8 * len
    · rw [if_pos h]
      have h2 : b / 8 < len := by omega
      refine Ok.neg (by simp (disch := omega) only [lI0, lI1, lI2, lI3, lI4, lI5, lI7, lI8, lI9, lI10, lI11, lI12, lI15, lI16, lI17, lI20, lI24, lI32, lI33, lI40, lI63, lI64, lI80, lI82, lI101, lI110, lI115, lI251, lI255, lI256, lI384, lI16384, lI20000, lI32768, lI49152, lI65535, nI_add, pk_mul, pk_sub, pk_div, nI_leI, nI_ltI, nI_eq] <;> omega) (Ok.rd (start + b / 8) (by first | (simp (disch := omega) only [lI0, lI1, lI2, lI3, lI4, lI5, lI7, lI8, lI9, lI10, lI11, lI12, lI15, lI16, lI17, lI20, lI24, lI32, lI33, lI40, lI63, lI64, lI80, lI82, lI101, lI110, lI115, lI251, lI255, lI256, lI384, lI16384, lI20000, lI32768, lI49152, lI65535, nI_add, pk_mul, pk_sub, pk_div] <;> (apply congrArg nI; omega)) | rfl) (by omega) (by omega) (Ok.bnd (hk _ ?_)))
      rw [if_pos h2, hcy _ (by omega), show nI (8 * start + b) - nI (8 * start + b) / (8 : Int32) * (8 : Int32) = nI b - nI b / (8 : Int32) * (8 : Int32) from ?_, show nI (8 * start + b) + (1 : Int32) = nI (if b + 1 < 8 * len then 8 * start + (b + 1) else 8 * (start + len)) from ?_]
      · split
        · (first | (simp (disch := omega) only [lI0, lI1, lI2, lI3, lI4, lI5, lI7, lI8, lI9, lI10, lI11, lI12, lI15, lI16, lI17, lI20, lI24, lI32, lI33, lI40, lI63, lI64, lI80, lI82, lI101, lI110, lI115, lI251, lI255, lI256, lI384, lI16384, lI20000, lI32768, lI49152, lI65535, nI_add, pk_mul, pk_sub, pk_div] <;> (apply congrArg nI; omega)) | rfl)
        · (first | (simp (disch := omega) only [lI0, lI1, lI2, lI3, lI4, lI5, lI7, lI8, lI9, lI10, lI11, lI12, lI15, lI16, lI17, lI20, lI24, lI32, lI33, lI40, lI63, lI64, lI80, lI82, lI101, lI110, lI115, lI251, lI255, lI256, lI384, lI16384, lI20000, lI32768, lI49152, lI65535, nI_add, pk_mul, pk_sub, pk_div] <;> (apply congrArg nI; omega)) | rfl)
      · have e1 : nI (8 * start + b) - nI (8 * start + b) / (8 : Int32) * (8 : Int32) = nI (b % 8) := (by first | (simp (disch := omega) only [lI0, lI1, lI2, lI3, lI4, lI5, lI7, lI8, lI9, lI10, lI11, lI12, lI15, lI16, lI17, lI20, lI24, lI32, lI33, lI40, lI63, lI64, lI80, lI82, lI101, lI110, lI115, lI251, lI255, lI256, lI384, lI16384, lI20000, lI32768, lI49152, lI65535, nI_add, pk_mul, pk_sub, pk_div] <;> (apply congrArg nI; omega)) | rfl)
        have e2 : nI b - nI b / (8 : Int32) * (8 : Int32) = nI (b % 8) := (by first | (simp (disch := omega) only [lI0, lI1, lI2, lI3, lI4, lI5, lI7, lI8, lI9, lI10, lI11, lI12, lI15, lI16, lI17, lI20, lI24, lI32, lI33, lI40, lI63, lI64, lI80, lI82, lI101, lI110, lI115, lI251, lI255, lI256, lI384, lI16384, lI20000, lI32768, lI49152, lI65535, nI_add, pk_mul, pk_sub, pk_div] <;> (apply congrArg nI; omega)) | rfl)
        rw [e1, e2]
    · rw [if_neg h]
      have h2 : ¬ b / 8 < len := by omega
      refine Ok.pos (by simp (disch := omega) only [lI0, lI1, lI2, lI3, lI4, lI5, lI7, lI8, lI9, lI10, lI11, lI12, lI15, lI16, lI17, lI20, lI24, lI32, lI33, lI40, lI63, lI64, lI80, lI82, lI101, lI110, lI115, lI251, lI255, lI256, lI384, lI16384, lI20000, lI32768, lI49152, lI65535, nI_add, pk_mul, pk_sub, pk_div, nI_leI, nI_ltI, nI_eq] <;> omega) (hk _ ?_)
      rw [if_neg h2, if_neg (by omega)]
  · rw [hz]
    exact Ok.some rfl
/-- the readers of both sides in step -/
def RR (start len B : Nat) (mb mc mh ml : Int32) (ct : Nat → Int32) (cc ch cl cp : Int32) (on ze : Nat → Int32) : Prop :=
  ∃ b h l, mb = nI b ∧ mh = nI h ∧ ml = nI l ∧ cc = mc ∧ ch = nI h ∧ cl = nI l ∧ cp = nI (psN start len b) ∧ cI l h ∧ cRel ct ze on ∧ b ≤ B
set_option maxHeartbeats 2000000 in
theorem ok_normR {start len n r b h l : Nat} {st cy : Nat → Int32} {code : Int32} (hs : start + len ≤ 20000) (hs2 : start + len ≤ n) (hn : n ≤ 32768) (hcy : ∀ i, i < start + len → cy i = st i) (hlh : l ≤ h) (hh : h < 65536) (hr : h - l + 1 = r) (hr2 : 256 ≤ r) (hb : b + 9 < 2 ^ 20) {F : (Int32 × Int32 × Int32 × Int32 × Int32 → Option (Int32 × Int32 × Int32 × Int32)) → Int32 × Int32 × Int32 × Int32 × Int32 → Option (Int32 × Int32 × Int32 × Int32)} {E : (Int32 × Int32 × Int32 × Int32 × Int32 × Int32 → Option (Int32 × Int32 × Int32 × Int32)) → Int32 × Int32 × Int32 × Int32 × Int32 × Int32 → Option (Int32 × Int32 × Int32 × Int32)}
    (hF : F = fun self z => (fun (x8 : Int32) (v9 : Int32) (v10 : Int32) (v11 : Int32) (v12 : Int32) => (if x8 < (0 : Int32) then some (v9, v10, v11, v12) else (lf_X9_bitAt (nI (start + len)) (nI start) st v9).bind fun o15 => (lf_X9_offset (((2 : Int32) * (v11 - x8)) + (1 : Int32)) ((2 : Int32) * (v12 - x8))).bind fun o16 => self (o16, (v9 + (1 : Int32)), (((2 : Int32) * (v10 - x8)) + o15), (((2 : Int32) * (v11 - x8)) + (1 : Int32)), ((2 : Int32) * (v12 - x8))))) z.1 z.2.1 z.2.2.1 z.2.2.2.1 z.2.2.2.2)
    (hE : E = fun self z => (fun (x9 : Int32) (x10 : Int32) (v11 : Int32) (v12 : Int32) (v13 : Int32) (v14 : Int32) => (if (17 : Int32) ≤ x10 then some (v11, v12, v13, v14) else (if x9 = (-1 : Int32) then some (v11, v12, v13, v14) else (lf_X1_take v11 (nI (8 * (start + len))) v14 n cy x9).bind fun o18 => (lf_X0_nextOffset_X1 (((v12 - x9) * (2 : Int32)) + (1 : Int32)) ((v13 - x9) * (2 : Int32))).bind fun o19 => bnd (x10 + (1 : Int32)) fun x20 => self (o19, x20, o18.1, (((v12 - x9) * (2 : Int32)) + (1 : Int32)), ((v13 - x9) * (2 : Int32)), o18.2)))) z.1 z.2.1 z.2.2.1 z.2.2.2.1 z.2.2.2.2.1 z.2.2.2.2.2) :
    Ok2 (fixN FUEL F (offv l h, nI b, code, nI h, nI l)) (fixN FUEL E (offv l h, (0 : Int32), code, nI h, nI l, nI (psN start len b))) (fun m c => ∃ b2 h2 l2, m.1 = nI b2 ∧ m.2.2.1 = nI h2 ∧ m.2.2.2 = nI l2 ∧ c.1 = m.2.1 ∧ c.2.1 = nI h2 ∧ c.2.2.1 = nI l2 ∧ c.2.2.2 = nI (psN start len b2) ∧ cI l2 h2 ∧ b2 ≤ b + 8) := by
  subst hF hE
  refine Ok2.fix (fun k x y => ∃ h l, x = (offv l h, nI (b + k), x.2.2.1, nI h, nI l) ∧ y = (offv l h, nI k, x.2.2.1, nI h, nI l, nI (psN start len (b + k))) ∧ l ≤ h ∧ h < 65536 ∧ h - l + 1 = r * 2 ^ k) 8 (by omega) ⟨h, l, rfl, rfl, hlh, hh, by rw [hr, Nat.pow_zero, Nat.mul_one]⟩ ?_
  rintro k ⟨x8, v9, v10, v11, v12⟩ ⟨y9, y10, w11, w12, w13, w14⟩ s1 s2 hk ⟨h, l, e1, e2, hlh, hh, hR⟩ K
  dsimp only at e1 e2
  simp only [Prod.mk.injEq, true_and] at e1 e2
  obtain ⟨rfl, rfl, rfl, rfl⟩ := e1
  obtain ⟨rfl, rfl, rfl, rfl, rfl, rfl⟩ := e2
  dsimp only
  refine Ok2.rneg (by simp (disch := omega) only [lI0, lI1, lI2, lI3, lI4, lI5, lI7, lI8, lI9, lI10, lI11, lI12, lI15, lI16, lI17, lI20, lI24, lI32, lI33, lI40, lI63, lI64, lI80, lI82, lI101, lI110, lI115, lI251, lI255, lI256, lI384, lI16384, lI20000, lI32768, lI49152, lI65535, nI_add, pk_mul, pk_sub, pk_div, nI_leI, nI_ltI, nI_eq] <;> omega) ?_
  have hk8 : r * 2 ^ k ≤ 65536 := by omega
  have hp8 : 256 * 2 ^ k ≤ r * 2 ^ k := Nat.mul_le_mul_right _ hr2
  have hps : r * 2 ^ (k + 1) = r * 2 ^ k * 2 := by rw [Nat.pow_succ, Nat.mul_assoc]
  have hk7 : ¬ (offv l h = -1) → k < 8 := by
    intro hne
    rcases Nat.lt_or_ge k 8 with h8 | h8
    · exact h8
    · have : k = 8 := by omega
      subst this
      have h9 : l = 0 ∧ h = 65535 := by omega
      exact absurd (by rw [h9.1, h9.2]; decide) hne
  have hstep : ∀ f, offv l h = nI f → f ≤ l → 2 * (h - f) + 1 < 65536 → f < 65536 → ¬ nI f < (0 : Int32) → ¬ nI f = (-1 : Int32) → Ok2 (if offv l h < (0 : Int32) then some (nI (b + k), w11, nI h, nI l) else (lf_X9_bitAt (nI (start + len)) (nI start) st (nI (b + k))).bind fun o15 => (lf_X9_offset (((2 : Int32) * (nI h - offv l h)) + (1 : Int32)) ((2 : Int32) * (nI l - offv l h))).bind fun o16 => s1 (o16, (nI (b + k) + (1 : Int32)), (((2 : Int32) * (w11 - offv l h)) + o15), (((2 : Int32) * (nI h - offv l h)) + (1 : Int32)), ((2 : Int32) * (nI l - offv l h))))
      (if offv l h = (-1 : Int32) then some (w11, nI h, nI l, nI (psN start len (b + k))) else (lf_X1_take w11 (nI (8 * (start + len))) (nI (psN start len (b + k))) n cy (offv l h)).bind fun o18 => (lf_X0_nextOffset_X1 (((nI h - offv l h) * (2 : Int32)) + (1 : Int32)) ((nI l - offv l h) * (2 : Int32))).bind fun o19 => bnd (nI k + (1 : Int32)) fun x20 => s2 (o19, x20, o18.1, (((nI h - offv l h) * (2 : Int32)) + (1 : Int32)), ((nI l - offv l h) * (2 : Int32)), o18.2))
      (fun m c => ∃ b2 h2 l2, m.1 = nI b2 ∧ m.2.2.1 = nI h2 ∧ m.2.2.2 = nI l2 ∧ c.1 = m.2.1 ∧ c.2.1 = nI h2 ∧ c.2.2.1 = nI l2 ∧ c.2.2.2 = nI (psN start len b2) ∧ cI l2 h2 ∧ b2 ≤ b + 8) := by
    intro f ho hfl hfh hf2 hf3 hf4
    have hkk := hk7 (by rw [ho]; exact hf4)
    have m1 : (2 : Int32) * (nI h - nI f) + (1 : Int32) = nI (2 * (h - f) + 1) := (by first | (simp (disch := omega) only [lI0, lI1, lI2, lI3, lI4, lI5, lI7, lI8, lI9, lI10, lI11, lI12, lI15, lI16, lI17, lI20, lI24, lI32, lI33, lI40, lI63, lI64, lI80, lI82, lI101, lI110, lI115, lI251, lI255, lI256, lI384, lI16384, lI20000, lI32768, lI49152, lI65535, nI_add, pk_mul, pk_sub, pk_div] <;> (apply congrArg nI; omega)) | rfl)
    have m2 : (2 : Int32) * (nI l - nI f) = nI (2 * (l - f)) := (by first | (simp (disch := omega) only [lI0, lI1, lI2, lI3, lI4, lI5, lI7, lI8, lI9, lI10, lI11, lI12, lI15, lI16, lI17, lI20, lI24, lI32, lI33, lI40, lI63, lI64, lI80, lI82, lI101, lI110, lI115, lI251, lI255, lI256, lI384, lI16384, lI20000, lI32768, lI49152, lI65535, nI_add, pk_mul, pk_sub, pk_div] <;> (apply congrArg nI; omega)) | rfl)
    have m3 : (nI h - nI f) * (2 : Int32) + (1 : Int32) = nI (2 * (h - f) + 1) := (by first | (simp (disch := omega) only [lI0, lI1, lI2, lI3, lI4, lI5, lI7, lI8, lI9, lI10, lI11, lI12, lI15, lI16, lI17, lI20, lI24, lI32, lI33, lI40, lI63, lI64, lI80, lI82, lI101, lI110, lI115, lI251, lI255, lI256, lI384, lI16384, lI20000, lI32768, lI49152, lI65535, nI_add, pk_mul, pk_sub, pk_div] <;> (apply congrArg nI; omega)) | rfl)
    have m4 : (nI l - nI f) * (2 : Int32) = nI (2 * (l - f)) := (by first | (simp (disch := omega) only [lI0, lI1, lI2, lI3, lI4, lI5, lI7, lI8, lI9, lI10, lI11, lI12, lI15, lI16, lI17, lI20, lI24, lI32, lI33, lI40, lI63, lI64, lI80, lI82, lI101, lI110, lI115, lI251, lI255, lI256, lI384, lI16384, lI20000, lI32768, lI49152, lI65535, nI_add, pk_mul, pk_sub, pk_div] <;> (apply congrArg nI; omega)) | rfl)
    have m5 : nI k + (1 : Int32) = nI (k + 1) := (by first | (simp (disch := omega) only [lI0, lI1, lI2, lI3, lI4, lI5, lI7, lI8, lI9, lI10, lI11, lI12, lI15, lI16, lI17, lI20, lI24, lI32, lI33, lI40, lI63, lI64, lI80, lI82, lI101, lI110, lI115, lI251, lI255, lI256, lI384, lI16384, lI20000, lI32768, lI49152, lI65535, nI_add, pk_mul, pk_sub, pk_div] <;> (apply congrArg nI; omega)) | rfl)
    have m6 : nI (b + k) + (1 : Int32) = nI (b + (k + 1)) := (by first | (simp (disch := omega) only [lI0, lI1, lI2, lI3, lI4, lI5, lI7, lI8, lI9, lI10, lI11, lI12, lI15, lI16, lI17, lI20, lI24, lI32, lI33, lI40, lI63, lI64, lI80, lI82, lI101, lI110, lI115, lI251, lI255, lI256, lI384, lI16384, lI20000, lI32768, lI49152, lI65535, nI_add, pk_mul, pk_sub, pk_div] <;> (apply congrArg nI; omega)) | rfl)
    rw [ho]
    refine Ok2.lneg hf3 (Ok2.rneg hf4 ?_)
    rw [m1, m2, m3, m4, m5, m6]
    refine Ok2.lE _ (eq_bitAt hs (by omega)) (Ok2.lE _ (eq_X9_offset (by omega) (by omega)) (Ok2.rE _ (eq_X1_take hs2 hn (by omega) hcy) (Ok2.rE _ (eq_nextOffset_X1 (by omega) (by omega)) (Ok2.rbnd ?_))))
    refine K _ _ hkk ⟨2 * (h - f) + 1, 2 * (l - f), rfl, ?_, by omega, by omega, by omega⟩
    dsimp only
    rw [Int32.mul_comm (w11 - nI f) 2]
    rfl
  rcases offv_cases l h with ⟨ho, h1⟩ | ⟨ho, h1, h2⟩ | ⟨ho, h1, h2, h3, h4⟩ | ⟨ho, h1, h2, h3⟩
  · exact hstep 0 ho (by omega) (by omega) (by omega) (by decide) (by decide)
  · exact hstep 32768 ho (by omega) (by omega) (by omega) (by decide) (by decide)
  · exact hstep 16384 ho (by omega) (by omega) (by omega) (by decide) (by decide)
  · rw [ho]
    refine Ok2.lpos (by decide) (Ok2.rpos (by decide) (Ok2.some ⟨b + k, h, l, rfl, rfl, rfl, rfl, rfl, rfl, rfl, ⟨hlh, hh, h1, h2, h3⟩, by omega⟩))
set_option maxHeartbeats 2000000 in
theorem ok_take {start len n B : Nat} {st cy : Nat → Int32} {mb mc mh ml x bit : Int32} {ct on ze : Nat → Int32} {cc ch cl cp : Int32} (hs : start + len ≤ 20000) (hs2 : start + len ≤ n) (hn : n ≤ 32768) (hcy : ∀ i, i < start + len → cy i = st i) (h : RR start len B mb mc mh ml ct cc ch cl cp on ze) (hB : B + 10 < 2 ^ 20) (hx : (∃ c, c < 20 ∧ x = nI c) ∨ x = -1) :
    Ok2 (lf_X9_take mb mc (nI (start + len)) mh ml (nI start) ct st x) (lf_X0_code_X1 cc (nI (8 * (start + len))) ch cl cp n cy on ze bit x) (fun m k => ∃ v, v < 2 ∧ m.1 = nI v ∧ k.1 = nI v ∧ RR start len (B + 8) m.2.1 m.2.2.1 m.2.2.2.1 m.2.2.2.2.1 m.2.2.2.2.2 k.2.1 k.2.2.1 k.2.2.2.1 k.2.2.2.2.1 k.2.2.2.2.2.1 k.2.2.2.2.2.2) := by
  obtain ⟨b, h, l, rfl, rfl, rfl, rfl, rfl, rfl, rfl, hI, hC, hbB⟩ := h
  obtain ⟨i1, i2, i3, i4, i5⟩ := hI
  have hctx : ∃ a1 b1, ctxP x ct ze on a1 b1 ∧ 1 ≤ a1 ∧ 1 ≤ b1 ∧ a1 + b1 ≤ 64 := by
    rcases hx with ⟨c, hc, rfl⟩ | rfl
    · obtain ⟨a1, b1, e1, e2, e3, e4, e5, e6, e7⟩ := hC c hc
      exact ⟨a1, b1, Or.inl ⟨c, hc, rfl, e1, e2, e3, e4⟩, e5, e6, e7⟩
    · exact ⟨1, 1, Or.inr ⟨rfl, rfl, rfl⟩, by decide, by decide, by decide⟩
  obtain ⟨a1, b1, hcx, ha1, hb1, hab⟩ := hctx
  obtain ⟨q1, q2⟩ := spl_bd (l := l) (h := h) ha1 hb1 hab
  have hq : 1 ≤ spl l h a1 b1 := by omega
  unfold lf_X9_take lf_X0_code_X1
  refine Ok2.lE _ (eq_X9_splitPlace hcx i1 i2 ha1 hb1 hab hq) ?_
  refine Ok2.rE _ (eq_X0_splitFor_X1 hcx i1 i2 ha1 hb1 hab hq) ?_
  obtain ⟨v, hv, hch⟩ : ∃ v, v < 2 ∧ (if nI (l + spl l h a1 b1 - 1) < cc then (1 : Int32) else 0) = nI v := by
    by_cases h1 : nI (l + spl l h a1 b1 - 1) < cc
    · exact ⟨1, by decide, by rw [if_pos h1]; rfl⟩
    · exact ⟨0, by decide, by rw [if_neg h1]; rfl⟩
  have ech : lf_X1_choose cc bit (nI (l + spl l h a1 b1 - 1)) = some (nI v) := by
    unfold lf_X1_choose
    rw [← hch]
    split <;> rfl
  refine Ok2.rE _ ech ?_
  refine Ok2.ljn (fun s => s = nI v) (fun k hk => ?_) ?_
  · by_cases h1 : nI (l + spl l h a1 b1 - 1) < cc
    · rw [if_pos h1] at hch
      exact Ok2.lpos h1 (hk _ hch)
    · rw [if_neg h1] at hch
      exact Ok2.lneg h1 (hk _ hch)
  rintro s rfl
  obtain ⟨l1, h1, hl1, hnar, hnar2⟩ : ∃ l1 h1, (l1 ≤ h1 ∧ h1 < 65536 ∧ (h - l + 1) / 64 ≤ h1 - l1 + 1) ∧ lf_X9_narrows (nI h) (nI l) (nI (l + spl l h a1 b1 - 1)) (nI v) = some (nI h1, nI l1) ∧ (if nI v = 0 then (nI (l + spl l h a1 b1 - 1), nI l) else (nI h, nI (l + spl l h a1 b1 - 1) + 1)) = (nI h1, nI l1) := by
    have hv2 : v = 0 ∨ v = 1 := by omega
    rcases hv2 with rfl | rfl
    · exact ⟨l, l + spl l h a1 b1 - 1, ⟨by omega, by omega, by omega⟩, rfl, rfl⟩
    · have e : nI (l + spl l h a1 b1 - 1) + 1 = nI (l + spl l h a1 b1) := by
        rw [nI_1]
        exact congrArg nI (by omega)
      refine ⟨l + spl l h a1 b1, h, ⟨by omega, by omega, by omega⟩, ?_, ?_⟩
      · show some (nI h, nI (l + spl l h a1 b1 - 1) + 1) = _
        rw [e]
      · rw [if_neg (by decide), e]
  obtain ⟨n1, n2, n3⟩ := hl1
  refine Ok2.lE _ hnar ?_
  refine Ok2.rjn (fun z => z = (nI h1, nI l1)) (fun k hk => ?_) ?_
  · by_cases hv0 : nI v = 0
    · rw [if_pos hv0] at hnar2
      exact Ok2.rpos hv0 (hk _ hnar2)
    · rw [if_neg hv0] at hnar2
      exact Ok2.rneg hv0 (hk _ hnar2)
  rintro z rfl
  refine Ok2.bind _ (ok_learn_X1 hC hcx ha1 hb1 hab hv) ?_
  rintro ct2 ⟨on2, ze2⟩ hC2
  dsimp only at hC2 ⊢
  refine Ok2.lE _ (eq_X9_offset (by omega) (by omega)) (Ok2.rE _ (eq_nextOffset_X1 (by omega) (by omega)) ?_)
  refine Ok2.bind _ (ok_normR (start := start) (len := len) (r := h1 - l1 + 1) (st := st) hs hs2 hn hcy n1 n2 rfl (by omega) (by omega) rfl rfl) ?_
  rintro ⟨m1, m2, m3, m4⟩ ⟨c1, c2, c3, c4⟩ ⟨b2, h2, l2, rfl, rfl, rfl, rfl, rfl, rfl, rfl, hI2, hb2⟩
  exact Ok2.some ⟨v, hv, rfl, rfl, b2, h2, l2, rfl, rfl, rfl, rfl, rfl, rfl, rfl, hI2, hC2, by omega⟩
theorem RR_mono {start len B C : Nat} {mb mc mh ml : Int32} {ct on ze : Nat → Int32} {cc ch cl cp : Int32} (h : RR start len B mb mc mh ml ct cc ch cl cp on ze) (hc : B ≤ C) : RR start len C mb mc mh ml ct cc ch cl cp on ze := by
  obtain ⟨b, h, l, h1, h2, h3, h4, h5, h6, h7, h8, h9, h10⟩ := h
  exact ⟨b, h, l, h1, h2, h3, h4, h5, h6, h7, h8, h9, by omega⟩
