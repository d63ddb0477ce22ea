/-! ===== the class's writer and reader of one bit, by numbers ===== -/
def bitF (v : Nat → Nat) (i : Nat) : Nat := v (i / 8) / 2 ^ (7 - i % 8) % 2
/-- the first n bits of the bytes, and their number -/
def wbt (n E : Nat) (g : Nat → Int32) : Prop := ∃ v : Nat → Nat, (∀ j, 8 * j < n → g j = nI (v j) ∧ v j < 256) ∧ (n % 8 ≠ 0 → v (n / 8) % 2 ^ (8 - n % 8) = 0) ∧ bV (bitF v) n = E
theorem bit8 : ∀ k, k < 8 → ∀ u, u < 256 → ∀ b, b < 2 → u % 2 ^ (8 - k) = 0 → (u ||| b * 2 ^ (7 - k)) < 256 ∧ (u ||| b * 2 ^ (7 - k)) % 2 ^ (7 - k) = 0 ∧ (u ||| b * 2 ^ (7 - k)) / 2 ^ (7 - k) % 2 = b ∧ ∀ j, j < k → (u ||| b * 2 ^ (7 - k)) / 2 ^ (7 - j) % 2 = u / 2 ^ (7 - j) % 2 := by decide +kernel
theorem wbt_stp {n E b : Nat} {g : Nat → Int32} (hb : b < 2) (hn : n < 2 ^ 31) (h : wbt n E g) : wbt (n + 1) (2 * E + b) (stp (nI b) (n, g)).2 := by
  obtain ⟨v, h1, h2, h3⟩ := h
  obtain ⟨u, hu⟩ : ∃ u, u = if n % 8 = 0 then 0 else v (n / 8) := ⟨_, rfl⟩
  have hu1 : u < 256 ∧ u % 2 ^ (8 - n % 8) = 0 := by
    by_cases h0 : n % 8 = 0
    · rw [if_pos h0] at hu
      subst hu
      exact ⟨by decide, Nat.zero_mod _⟩
    · rw [if_neg h0] at hu
      subst hu
      exact ⟨(h1 _ (by omega)).2, h2 h0⟩
  obtain ⟨b1, b2, b3, b4⟩ := bit8 (n % 8) (Nat.mod_lt _ (by decide)) u hu1.1 b hb hu1.2
  refine ⟨fun j => if j = n / 8 then u ||| b * 2 ^ (7 - n % 8) else v j, ?_, ?_, ?_⟩
  · intro j hj
    unfold stp
    dsimp only
    by_cases h4 : j = n / 8
    · subst h4
      rw [upd_eq, if_pos rfl, bsh_nI hb hn]
      refine ⟨?_, b1⟩
      by_cases h0 : n % 8 = 0
      · rw [if_pos h0] at hu ⊢
        subst hu
        show nI 0 ||| _ = _
        rw [or_nI]
      · rw [if_neg h0] at hu ⊢
        subst hu
        rw [(h1 _ (by omega)).1, or_nI]
    · rw [upd_ne h4, if_neg h4]
      exact h1 j (by omega)
  · intro h4
    have e1 : (n + 1) / 8 = n / 8 := by omega
    have e2 : 8 - (n + 1) % 8 = 7 - n % 8 := by omega
    dsimp only
    rw [e1, e2, if_pos rfl]
    exact b2
  · rw [bV_s]
    have e1 : bV (bitF fun j => if j = n / 8 then u ||| b * 2 ^ (7 - n % 8) else v j) n = E := by
      rw [← h3]
      refine bV_congr fun i hi => ?_
      unfold bitF
      by_cases h4 : i / 8 = n / 8
      · have h0 : ¬ n % 8 = 0 := by omega
        rw [if_neg h0] at hu
        rw [if_pos h4, b4 (i % 8) (by omega), hu, h4]
      · rw [if_neg h4]
    have e2 : bitF (fun j => if j = n / 8 then u ||| b * 2 ^ (7 - n % 8) else v j) n = b := by
      unfold bitF
      rw [if_pos rfl]
      exact b3
    rw [e1, e2]
def eN (E b : Nat) : Nat → Nat
  | 0 => 2 * E + b
  | p + 1 => 2 * eN E b p + (1 - b)
theorem eN_0 (E : Nat) : ∀ p, eN E 0 p = 2 * (E * 2 ^ p) + 2 ^ p - 1
  | 0 => by
    show 2 * E + 0 = _
    rw [Nat.pow_zero, Nat.mul_one]
    omega
  | p + 1 => by
    show 2 * eN E 0 p + 1 = _
    rw [eN_0 E p, Nat.pow_succ, ← Nat.mul_assoc]
    have := pw1 p
    omega
theorem eN_1 (E : Nat) : ∀ p, eN E 1 p = 2 * (E * 2 ^ p) + 2 ^ p
  | 0 => by
    show 2 * E + 1 = _
    rw [Nat.pow_zero, Nat.mul_one]
  | p + 1 => by
    show 2 * eN E 1 p + 0 = _
    rw [eN_1 E p, Nat.pow_succ, ← Nat.mul_assoc]
    omega
theorem wbt_emN {n E b : Nat} {g : Nat → Int32} (hb : b < 2) (h : wbt n E g) : ∀ p, n + 1 + p < 2 ^ 31 → wbt (n + 1 + p) (eN E b p) (emN (nI b) p (n, g)).2
  | 0, hn => wbt_stp hb (by omega) h
  | p + 1, hn => by
    have h1 := wbt_emN hb h p (by omega)
    have e1 := emN_1 (nI b) (n, g) p
    show wbt (n + 1 + p + 1) (2 * eN E b p + (1 - b)) (stp (1 - nI b) (emN (nI b) p (n, g))).2
    rw [one_sub hb]
    generalize emN (nI b) p (n, g) = s at h1 e1
    obtain ⟨s1, s2⟩ := s
    dsimp only at h1 e1
    subst e1
    exact wbt_stp (by omega) (by omega) h1
set_option maxHeartbeats 2000000 in
/-- doubling until no offset applies -/
theorem ok_nrmW {T r : Nat} {by1 : Nat → Int32} {E0 b h l p : Nat} (hlh : l ≤ h) (hh : h < 65536) (hr : h - l + 1 = r) (hr2 : 256 ≤ r) (hT : b + p = T) (hT2 : T + 9 < 16384) (hw : wbt b E0 by1) {E : (Int32 × Int32 × Int32 × Int32 × Int32 × Int32 × (Nat → Int32) → Option (Int32 × Int32 × Int32 × Int32 × (Nat → Int32))) → Int32 × Int32 × Int32 × Int32 × Int32 × Int32 × (Nat → Int32) → Option (Int32 × Int32 × Int32 × Int32 × (Nat → Int32))}
    (hE : E = fun self z => (fun (x9 : Int32) (x10 : Int32) (v11 : Int32) (v12 : Int32) (v13 : Int32) (v14 : Int32) (g15 : (Nat → Int32)) => (if (17 : Int32) ≤ x10 then some (v11, v12, v13, v14, g15) else (if x9 = (-1 : Int32) then some (v11, v12, v13, v14, g15) else (lf_X2_take v11 v14 g15 x9).bind fun o19 => (lf_X0_nextOffset_X2 (((v12 - x9) * (2 : Int32)) + (1 : Int32)) ((v13 - x9) * (2 : Int32))).bind fun o20 => bnd (x10 + (1 : Int32)) fun x21 => self (o20, x21, o19.1, (((v12 - x9) * (2 : Int32)) + (1 : Int32)), ((v13 - x9) * (2 : Int32)), o19.2.1, o19.2.2)))) z.1 z.2.1 z.2.2.1 z.2.2.2.1 z.2.2.2.2.1 z.2.2.2.2.2.1 z.2.2.2.2.2.2) :
    Ok (fixN FUEL E (offv l h, (0 : Int32), nI b, nI h, nI l, nI p, by1)) (fun c => ∃ E2 b2 h2 l2 p2 k, wNrm 17 E0 b p l h = (E2, b2, p2, l2, h2) ∧ c.1 = nI b2 ∧ c.2.1 = nI h2 ∧ c.2.2.1 = nI l2 ∧ c.2.2.2.1 = nI p2 ∧ cI l2 h2 ∧ h2 - l2 + 1 = r * 2 ^ k ∧ k ≤ 8 ∧ b2 + p2 = T + k ∧ wbt b2 E2 c.2.2.2.2) := by
  subst hE
  generalize hZ : wNrm 17 E0 b p l h = Z
  refine Ok.fix (fun k y => ∃ E b h l p, y = (offv l h, nI k, nI b, nI h, nI l, nI p, y.2.2.2.2.2.2) ∧ wNrm (17 - k) E b p l h = Z ∧ l ≤ h ∧ h < 65536 ∧ h - l + 1 = r * 2 ^ k ∧ b + p = T + k ∧ wbt b E y.2.2.2.2.2.2) 8 (by omega) ⟨E0, b, h, l, p, rfl, hZ, hlh, hh, by rw [hr, Nat.pow_zero, Nat.mul_one], hT, hw⟩ ?_
  rintro k ⟨y9, y10, w11, w12, w13, w14, g15⟩ s2 hk ⟨E, b, h, l, p, e2, hZ, hlh, hh, hR, hT, hw⟩ K
  dsimp only at hw e2
  simp only [Prod.mk.injEq, and_true] at e2
  obtain ⟨rfl, rfl, rfl, rfl, rfl, rfl⟩ := e2
  dsimp only
  refine Ok.neg (by simp (disch := omega) only [lI0, lI1, lI2, lI3, lI4, lI5, lI7, lI8, lI9, lI10, lI11, lI12, lI15, lI16, lI17, lI20, lI24, lI32, lI33, lI40, lI63, lI64, lI80, lI82, lI101, lI110, lI115, lI251, lI255, lI256, lI384, lI16384, lI20000, lI32768, lI49152, lI65535, nI_add, pk_mul, pk_sub, pk_div, nI_leI, nI_ltI, nI_eq] <;> omega) ?_
  have hp8 : 256 * 2 ^ k ≤ r * 2 ^ k := Nat.mul_le_mul_right _ hr2
  have hps : r * 2 ^ (k + 1) = r * 2 ^ k * 2 := by rw [Nat.pow_succ, Nat.mul_assoc]
  have hk7 : ¬ (offv l h = -1) → k < 8 := by
    intro hne
    rcases Nat.lt_or_ge k 8 with h8 | h8
    · exact h8
    · have : k = 8 := by omega
      subst this
      have h9 : l = 0 ∧ h = 65535 := by omega
      exact absurd (by rw [h9.1, h9.2]; decide) hne
  obtain ⟨f, hf⟩ : ∃ f, 17 - k = f + 1 := ⟨17 - k - 1, by omega⟩
  have hf2 : 17 - (k + 1) = f := by omega
  rw [hf] at hZ
  rcases offv_cases l h with ⟨ho, h1⟩ | ⟨ho, h1, h2⟩ | ⟨ho, h1, h2, h3, h4⟩ | ⟨ho, h1, h2, h3⟩
  · have hkk := hk7 (by rw [ho]; decide)
    have m3 : (nI h - nI 0) * (2 : Int32) + (1 : Int32) = nI (2 * h + 1) := (by first | (simp (disch := omega) only [lI0, lI1, lI2, lI3, lI4, lI5, lI7, lI8, lI9, lI10, lI11, lI12, lI15, lI16, lI17, lI20, lI24, lI32, lI33, lI40, lI63, lI64, lI80, lI82, lI101, lI110, lI115, lI251, lI255, lI256, lI384, lI16384, lI20000, lI32768, lI49152, lI65535, nI_add, pk_mul, pk_sub, pk_div] <;> (apply congrArg nI; omega)) | rfl)
    have m4 : (nI l - nI 0) * (2 : Int32) = nI (2 * l) := (by first | (simp (disch := omega) only [lI0, lI1, lI2, lI3, lI4, lI5, lI7, lI8, lI9, lI10, lI11, lI12, lI15, lI16, lI17, lI20, lI24, lI32, lI33, lI40, lI63, lI64, lI80, lI82, lI101, lI110, lI115, lI251, lI255, lI256, lI384, lI16384, lI20000, lI32768, lI49152, lI65535, nI_add, pk_mul, pk_sub, pk_div] <;> (apply congrArg nI; omega)) | rfl)
    have m5 : nI k + (1 : Int32) = nI (k + 1) := (by first | (simp (disch := omega) only [lI0, lI1, lI2, lI3, lI4, lI5, lI7, lI8, lI9, lI10, lI11, lI12, lI15, lI16, lI17, lI20, lI24, lI32, lI33, lI40, lI63, lI64, lI80, lI82, lI101, lI110, lI115, lI251, lI255, lI256, lI384, lI16384, lI20000, lI32768, lI49152, lI65535, nI_add, pk_mul, pk_sub, pk_div] <;> (apply congrArg nI; omega)) | rfl)
    rw [ho]
    refine Ok.neg (by decide) ?_
    rw [m3, m4]
    refine Ok.bind _ (ok_X2_take (n := b) (p := p) (b := 0) (by omega) (Or.inl ⟨rfl, rfl⟩)) ?_
    rintro ⟨c1, c2, c3⟩ ⟨d1, d2, d3⟩
    dsimp only at d1 d2 d3 ⊢
    subst d1 d2 d3
    refine Ok.bindE _ (eq_nextOffset_X2 (by omega) (by omega)) (Ok.bnd ?_)
    rw [m5]
    unfold wNrm at hZ
    rw [if_pos h1, ← eN_0] at hZ
    exact K _ hkk ⟨eN E 0 p, b + 1 + p, 2 * h + 1, 2 * l, 0, rfl, by rw [hf2]; exact hZ, by omega, by omega, by omega, by omega, wbt_emN (b := 0) (by decide) hw p (by omega)⟩
  · have hkk := hk7 (by rw [ho]; decide)
    have m3 : (nI h - nI 32768) * (2 : Int32) + (1 : Int32) = nI (2 * (h - 32768) + 1) := (by first | (simp (disch := omega) only [lI0, lI1, lI2, lI3, lI4, lI5, lI7, lI8, lI9, lI10, lI11, lI12, lI15, lI16, lI17, lI20, lI24, lI32, lI33, lI40, lI63, lI64, lI80, lI82, lI101, lI110, lI115, lI251, lI255, lI256, lI384, lI16384, lI20000, lI32768, lI49152, lI65535, nI_add, pk_mul, pk_sub, pk_div] <;> (apply congrArg nI; omega)) | rfl)
    have m4 : (nI l - nI 32768) * (2 : Int32) = nI (2 * (l - 32768)) := (by first | (simp (disch := omega) only [lI0, lI1, lI2, lI3, lI4, lI5, lI7, lI8, lI9, lI10, lI11, lI12, lI15, lI16, lI17, lI20, lI24, lI32, lI33, lI40, lI63, lI64, lI80, lI82, lI101, lI110, lI115, lI251, lI255, lI256, lI384, lI16384, lI20000, lI32768, lI49152, lI65535, nI_add, pk_mul, pk_sub, pk_div] <;> (apply congrArg nI; omega)) | rfl)
    have m5 : nI k + (1 : Int32) = nI (k + 1) := (by first | (simp (disch := omega) only [lI0, lI1, lI2, lI3, lI4, lI5, lI7, lI8, lI9, lI10, lI11, lI12, lI15, lI16, lI17, lI20, lI24, lI32, lI33, lI40, lI63, lI64, lI80, lI82, lI101, lI110, lI115, lI251, lI255, lI256, lI384, lI16384, lI20000, lI32768, lI49152, lI65535, nI_add, pk_mul, pk_sub, pk_div] <;> (apply congrArg nI; omega)) | rfl)
    rw [ho]
    refine Ok.neg (by decide) ?_
    rw [m3, m4]
    refine Ok.bind _ (ok_X2_take (n := b) (p := p) (b := 1) (by omega) (Or.inr ⟨rfl, rfl⟩)) ?_
    rintro ⟨c1, c2, c3⟩ ⟨d1, d2, d3⟩
    dsimp only at d1 d2 d3 ⊢
    subst d1 d2 d3
    refine Ok.bindE _ (eq_nextOffset_X2 (by omega) (by omega)) (Ok.bnd ?_)
    rw [m5]
    unfold wNrm at hZ
    rw [if_neg (by omega), if_pos h2, ← eN_1] at hZ
    exact K _ hkk ⟨eN E 1 p, b + 1 + p, 2 * (h - 32768) + 1, 2 * (l - 32768), 0, rfl, by rw [hf2]; exact hZ, by omega, by omega, by omega, by omega, wbt_emN (b := 1) (by decide) hw p (by omega)⟩
  · have hkk := hk7 (by rw [ho]; decide)
    have m3 : (nI h - nI 16384) * (2 : Int32) + (1 : Int32) = nI (2 * (h - 16384) + 1) := (by first | (simp (disch := omega) only [lI0, lI1, lI2, lI3, lI4, lI5, lI7, lI8, lI9, lI10, lI11, lI12, lI15, lI16, lI17, lI20, lI24, lI32, lI33, lI40, lI63, lI64, lI80, lI82, lI101, lI110, lI115, lI251, lI255, lI256, lI384, lI16384, lI20000, lI32768, lI49152, lI65535, nI_add, pk_mul, pk_sub, pk_div] <;> (apply congrArg nI; omega)) | rfl)
    have m4 : (nI l - nI 16384) * (2 : Int32) = nI (2 * (l - 16384)) := (by first | (simp (disch := omega) only [lI0, lI1, lI2, lI3, lI4, lI5, lI7, lI8, lI9, lI10, lI11, lI12, lI15, lI16, lI17, lI20, lI24, lI32, lI33, lI40, lI63, lI64, lI80, lI82, lI101, lI110, lI115, lI251, lI255, lI256, lI384, lI16384, lI20000, lI32768, lI49152, lI65535, nI_add, pk_mul, pk_sub, pk_div] <;> (apply congrArg nI; omega)) | rfl)
    have m5 : nI k + (1 : Int32) = nI (k + 1) := (by first | (simp (disch := omega) only [lI0, lI1, lI2, lI3, lI4, lI5, lI7, lI8, lI9, lI10, lI11, lI12, lI15, lI16, lI17, lI20, lI24, lI32, lI33, lI40, lI63, lI64, lI80, lI82, lI101, lI110, lI115, lI251, lI255, lI256, lI384, lI16384, lI20000, lI32768, lI49152, lI65535, nI_add, pk_mul, pk_sub, pk_div] <;> (apply congrArg nI; omega)) | rfl)
    have m6 : nI p + (1 : Int32) = nI (p + 1) := (by first | (simp (disch := omega) only [lI0, lI1, lI2, lI3, lI4, lI5, lI7, lI8, lI9, lI10, lI11, lI12, lI15, lI16, lI17, lI20, lI24, lI32, lI33, lI40, lI63, lI64, lI80, lI82, lI101, lI110, lI115, lI251, lI255, lI256, lI384, lI16384, lI20000, lI32768, lI49152, lI65535, nI_add, pk_mul, pk_sub, pk_div] <;> (apply congrArg nI; omega)) | rfl)
    rw [ho]
    refine Ok.neg (by decide) ?_
    rw [m3, m4]
    refine Ok.bindE _ eq_X2_takeM ?_
    refine Ok.bindE _ (eq_nextOffset_X2 (by omega) (by omega)) (Ok.bnd ?_)
    rw [m5, m6]
    unfold wNrm at hZ
    rw [if_neg (by omega), if_neg (by omega), if_pos ⟨h2, h4⟩] at hZ
    exact K _ hkk ⟨E, b, 2 * (h - 16384) + 1, 2 * (l - 16384), p + 1, rfl, by rw [hf2]; exact hZ, by omega, by omega, by omega, by omega, hw⟩
  · rw [ho]
    refine Ok.pos rfl (Ok.some ?_)
    unfold wNrm at hZ
    rw [if_neg (by omega), if_neg (by omega), if_neg (by omega)] at hZ
    exact ⟨E, b, h, l, p, k, hZ.symm, rfl, rfl, rfl, rfl, ⟨hlh, hh, h1, h2, h3⟩, hR, hk, hT, hw⟩
/-! the counts -/
def cR (ct : Nat → Nat × Nat) (ze on : Nat → Int32) : Prop := ∀ c, c < 20 → ze c = nI (ct c).1 ∧ on c = nI (ct c).2
/-- a context's number: below 20, or none -/
def cxP (x : Int32) (c : Nat) : Prop := (c < 20 ∧ x = nI c) ∨ (c = 99 ∧ x = -1)
theorem ctxP_of {ct : Nat → Nat × Nat} {ze on : Nat → Int32} {x : Int32} {c : Nat} (h : cR ct ze on) (hc : cxP x c) : ctxP x (fun j => if j % 2 = 0 then nI (ct (j / 2)).1 else nI (ct (j / 2)).2) ze on (cGet ct c).1 (cGet ct c).2 := by
  rcases hc with ⟨h1, rfl⟩ | ⟨rfl, rfl⟩
  · refine Or.inl ⟨c, h1, rfl, ?_, ?_, ?_, ?_⟩
    · dsimp only
      rw [if_pos (by omega), show 2 * c / 2 = c from by omega]
      unfold cGet
      rw [if_pos h1]
    · dsimp only
      rw [if_neg (by omega), show (2 * c + 1) / 2 = c from by omega]
      unfold cGet
      rw [if_pos h1]
    · unfold cGet
      rw [if_pos h1]
      exact (h c h1).1
    · unfold cGet
      rw [if_pos h1]
      exact (h c h1).2
  · exact Or.inr ⟨rfl, rfl, rfl⟩
theorem cSet_eq {ct : Nat → Nat × Nat} {c b : Nat} : cSet ct c b c = cInc (ct c) b := if_pos rfl
theorem cSet_ne {ct : Nat → Nat × Nat} {c b j : Nat} (h : j ≠ c) : cSet ct c b j = ct j := if_neg h
theorem cR_upd {ct : Nat → Nat × Nat} {ze on ze2 on2 : Nat → Int32} {c b : Nat} (h : cR ct ze on) (e1 : ze2 c = nI (cInc (ct c) b).1) (e2 : on2 c = nI (cInc (ct c) b).2) (e3 : ∀ j, j ≠ c → ze2 j = ze j ∧ on2 j = on j) : cR (cSet ct c b) ze2 on2 := by
  intro d hd
  by_cases h1 : d = c
  · subst h1
    rw [cSet_eq]
    exact ⟨e1, e2⟩
  · rw [cSet_ne h1, (e3 d h1).1, (e3 d h1).2]
    exact h d hd
set_option maxHeartbeats 1000000 in
theorem ok_count {ct : Nat → Nat × Nat} {ze on : Nat → Int32} {x : Int32} {c v : Nat} (h : cR ct ze on) (hk : cOk ct) (hc : cxP x c) (hv : v < 2) : Ok (lf_X0_count_X2 on ze (nI v) x) (fun k => cR (cSet ct c v) k.2 k.1) := by
  unfold lf_X0_count_X2
  rcases hc with ⟨hc, rfl⟩ | ⟨rfl, rfl⟩
  · refine Ok.neg (by simp (disch := omega) only [lI0, lI1, lI2, lI3, lI4, lI5, lI7, lI8, lI9, lI10, lI11, lI12, lI15, lI16, lI17, lI20, lI24, lI32, lI33, lI40, lI63, lI64, lI80, lI82, lI101, lI110, lI115, lI251, lI255, lI256, lI384, lI16384, lI20000, lI32768, lI49152, lI65535, nI_add, pk_mul, pk_sub, pk_div, nI_leI, nI_ltI, nI_eq] <;> omega) (Ok.pos (by simp (disch := omega) only [lI0, lI1, lI2, lI3, lI4, lI5, lI7, lI8, lI9, lI10, lI11, lI12, lI15, lI16, lI17, lI20, lI24, lI32, lI33, lI40, lI63, lI64, lI80, lI82, lI101, lI110, lI115, lI251, lI255, lI256, lI384, lI16384, lI20000, lI32768, lI49152, lI65535, nI_add, pk_mul, pk_sub, pk_div, nI_leI, nI_ltI, nI_eq] <;> omega) ?_)
    obtain ⟨k1, k2, k3⟩ := hk c hc
    obtain ⟨e3, e4⟩ := h c hc
    generalize ha : (ct c).1 = a at k1 k3 e3
    generalize hb : (ct c).2 = b at k2 k3 e4
    have hv2 : v = 0 ∨ v = 1 := by omega
    rcases hv2 with rfl | rfl
    · refine Ok.jnR (fun z => z = (on, upd ze c (nI a + 1))) (fun k hk => Ok.pos (by decide) (Ok.rd c rfl hc (by decide) (Ok.wr c rfl hc (by decide) (hk _ (by rw [e3]))))) ?_
      rintro z rfl
      refine Ok.rd c rfl hc (by decide) (Ok.rd c rfl hc (by decide) ?_)
      dsimp only
      have hi : cInc (ct c) 0 = cHal (a + 1, b) := by
        unfold cInc
        rw [if_pos rfl, ha, hb]
      by_cases hs : a + 1 + b ≤ 64
      · have hh : cHal (a + 1, b) = (a + 1, b) := if_neg (by dsimp only; omega)
        refine Ok.pos (by
          rw [upd_eq, e4]
          (simp (disch := omega) only [lI0, lI1, lI2, lI3, lI4, lI5, lI7, lI8, lI9, lI10, lI11, lI12, lI15, lI16, lI17, lI20, lI24, lI32, lI33, lI40, lI63, lI64, lI80, lI82, lI101, lI110, lI115, lI251, lI255, lI256, lI384, lI16384, lI20000, lI32768, lI49152, lI65535, nI_add, pk_mul, pk_sub, pk_div, nI_leI, nI_ltI, nI_eq] <;> omega)) (Ok.some ?_)
        refine cR_upd h ?_ ?_ fun j h1 => ⟨upd_ne h1, rfl⟩
        · rw [hi, hh]
          dsimp only
          rw [upd_eq]
          (first | (simp (disch := omega) only [lI0, lI1, lI2, lI3, lI4, lI5, lI7, lI8, lI9, lI10, lI11, lI12, lI15, lI16, lI17, lI20, lI24, lI32, lI33, lI40, lI63, lI64, lI80, lI82, lI101, lI110, lI115, lI251, lI255, lI256, lI384, lI16384, lI20000, lI32768, lI49152, lI65535, nI_add, pk_mul, pk_sub, pk_div] <;> (apply congrArg nI; omega)) | rfl)
        · rw [hi, hh]
          exact e4
      · have hh : cHal (a + 1, b) = ((a + 1 + 1) / 2, (b + 1) / 2) := if_pos (by dsimp only; omega)
        refine Ok.neg (by
          rw [upd_eq, e4]
          (simp (disch := omega) only [lI0, lI1, lI2, lI3, lI4, lI5, lI7, lI8, lI9, lI10, lI11, lI12, lI15, lI16, lI17, lI20, lI24, lI32, lI33, lI40, lI63, lI64, lI80, lI82, lI101, lI110, lI115, lI251, lI255, lI256, lI384, lI16384, lI20000, lI32768, lI49152, lI65535, nI_add, pk_mul, pk_sub, pk_div, nI_leI, nI_ltI, nI_eq] <;> omega)) ?_
        refine Ok.rd c rfl hc (by decide) (Ok.wr c rfl hc (by decide) (Ok.rd c rfl hc (by decide) (Ok.wr c rfl hc (by decide) (Ok.some ?_))))
        refine cR_upd h ?_ ?_ fun j h1 => ⟨by dsimp only; rw [upd_ne h1, upd_ne h1], upd_ne h1⟩
        · rw [hi, hh]
          dsimp only
          rw [upd_eq, upd_eq]
          (first | (simp (disch := omega) only [lI0, lI1, lI2, lI3, lI4, lI5, lI7, lI8, lI9, lI10, lI11, lI12, lI15, lI16, lI17, lI20, lI24, lI32, lI33, lI40, lI63, lI64, lI80, lI82, lI101, lI110, lI115, lI251, lI255, lI256, lI384, lI16384, lI20000, lI32768, lI49152, lI65535, nI_add, pk_mul, pk_sub, pk_div] <;> (apply congrArg nI; omega)) | rfl)
        · rw [hi, hh]
          dsimp only
          rw [upd_eq, e4]
          (first | (simp (disch := omega) only [lI0, lI1, lI2, lI3, lI4, lI5, lI7, lI8, lI9, lI10, lI11, lI12, lI15, lI16, lI17, lI20, lI24, lI32, lI33, lI40, lI63, lI64, lI80, lI82, lI101, lI110, lI115, lI251, lI255, lI256, lI384, lI16384, lI20000, lI32768, lI49152, lI65535, nI_add, pk_mul, pk_sub, pk_div] <;> (apply congrArg nI; omega)) | rfl)
    · refine Ok.jnR (fun z => z = (upd on c (nI b + 1), ze)) (fun k hk => Ok.neg (by decide) (Ok.rd c rfl hc (by decide) (Ok.wr c rfl hc (by decide) (hk _ (by rw [e4]))))) ?_
      rintro z rfl
      refine Ok.rd c rfl hc (by decide) (Ok.rd c rfl hc (by decide) ?_)
      dsimp only
      have hi : cInc (ct c) 1 = cHal (a, b + 1) := by
        unfold cInc
        rw [if_neg (by decide), ha, hb]
      by_cases hs : a + (b + 1) ≤ 64
      · have hh : cHal (a, b + 1) = (a, b + 1) := if_neg (by dsimp only; omega)
        refine Ok.pos (by
          rw [upd_eq, e3]
          (simp (disch := omega) only [lI0, lI1, lI2, lI3, lI4, lI5, lI7, lI8, lI9, lI10, lI11, lI12, lI15, lI16, lI17, lI20, lI24, lI32, lI33, lI40, lI63, lI64, lI80, lI82, lI101, lI110, lI115, lI251, lI255, lI256, lI384, lI16384, lI20000, lI32768, lI49152, lI65535, nI_add, pk_mul, pk_sub, pk_div, nI_leI, nI_ltI, nI_eq] <;> omega)) (Ok.some ?_)
        refine cR_upd h ?_ ?_ fun j h1 => ⟨rfl, upd_ne h1⟩
        · rw [hi, hh]
          exact e3
        · rw [hi, hh]
          dsimp only
          rw [upd_eq]
          (first | (simp (disch := omega) only [lI0, lI1, lI2, lI3, lI4, lI5, lI7, lI8, lI9, lI10, lI11, lI12, lI15, lI16, lI17, lI20, lI24, lI32, lI33, lI40, lI63, lI64, lI80, lI82, lI101, lI110, lI115, lI251, lI255, lI256, lI384, lI16384, lI20000, lI32768, lI49152, lI65535, nI_add, pk_mul, pk_sub, pk_div] <;> (apply congrArg nI; omega)) | rfl)
      · have hh : cHal (a, b + 1) = ((a + 1) / 2, (b + 1 + 1) / 2) := if_pos (by dsimp only; omega)
        refine Ok.neg (by
          rw [upd_eq, e3]
          (simp (disch := omega) only [lI0, lI1, lI2, lI3, lI4, lI5, lI7, lI8, lI9, lI10, lI11, lI12, lI15, lI16, lI17, lI20, lI24, lI32, lI33, lI40, lI63, lI64, lI80, lI82, lI101, lI110, lI115, lI251, lI255, lI256, lI384, lI16384, lI20000, lI32768, lI49152, lI65535, nI_add, pk_mul, pk_sub, pk_div, nI_leI, nI_ltI, nI_eq] <;> omega)) ?_
        refine Ok.rd c rfl hc (by decide) (Ok.wr c rfl hc (by decide) (Ok.rd c rfl hc (by decide) (Ok.wr c rfl hc (by decide) (Ok.some ?_))))
        refine cR_upd h ?_ ?_ fun j h1 => ⟨upd_ne h1, by dsimp only; rw [upd_ne h1, upd_ne h1]⟩
        · rw [hi, hh]
          dsimp only
          rw [upd_eq, e3]
          (first | (simp (disch := omega) only [lI0, lI1, lI2, lI3, lI4, lI5, lI7, lI8, lI9, lI10, lI11, lI12, lI15, lI16, lI17, lI20, lI24, lI32, lI33, lI40, lI63, lI64, lI80, lI82, lI101, lI110, lI115, lI251, lI255, lI256, lI384, lI16384, lI20000, lI32768, lI49152, lI65535, nI_add, pk_mul, pk_sub, pk_div] <;> (apply congrArg nI; omega)) | rfl)
        · rw [hi, hh]
          dsimp only
          rw [upd_eq, upd_eq]
          (first | (simp (disch := omega) only [lI0, lI1, lI2, lI3, lI4, lI5, lI7, lI8, lI9, lI10, lI11, lI12, lI15, lI16, lI17, lI20, lI24, lI32, lI33, lI40, lI63, lI64, lI80, lI82, lI101, lI110, lI115, lI251, lI255, lI256, lI384, lI16384, lI20000, lI32768, lI49152, lI65535, nI_add, pk_mul, pk_sub, pk_div] <;> (apply congrArg nI; omega)) | rfl)
  · refine Ok.pos (by decide) (Ok.some ?_)
    intro d hd
    rw [cSet_ne (by omega)]
    exact h d hd
/-! the writer -/
/-- the class's writer holds the state s, of at most B bits -/
def WC (B : Nat) (s : WS) (cb ch cl cp : Int32) (by1 on ze : Nat → Int32) : Prop :=
  cb = nI s.2.1 ∧ ch = nI s.2.2.2.2.1 ∧ cl = nI s.2.2.2.1 ∧ cp = nI s.2.2.1 ∧ wInv s ∧ cR s.2.2.2.2.2 ze on ∧ wbt s.2.1 s.1 by1 ∧ s.2.1 + s.2.2.1 + phi s.2.2.2.1 s.2.2.2.2.1 ≤ B
def WCt (B : Nat) (s : WS) (k : Int32 × Int32 × Int32 × Int32 × (Nat → Int32) × (Nat → Int32) × (Nat → Int32)) : Prop := WC B s k.1 k.2.1 k.2.2.1 k.2.2.2.1 k.2.2.2.2.1 k.2.2.2.2.2.1 k.2.2.2.2.2.2
theorem WCt.mono {B C : Nat} {s : WS} {k : Int32 × Int32 × Int32 × Int32 × (Nat → Int32) × (Nat → Int32) × (Nat → Int32)} (h : WCt B s k) (hc : B ≤ C) : WCt C s k := by
  obtain ⟨h1, h2, h3, h4, h5, h6, h7, h8⟩ := h
  exact ⟨h1, h2, h3, h4, h5, h6, h7, Nat.le_trans h8 hc⟩
set_option maxHeartbeats 2000000 in
theorem ok_codeW {B w c v : Nat} {s : WS} {k : Int32 × Int32 × Int32 × Int32 × (Nat → Int32) × (Nat → Int32) × (Nat → Int32)} {x : Int32} (h : WCt B s k) (hB : B + 10 < 16384) (hv : v < 2) (hx : (c < 20 ∧ x = nI c ∧ w = 7) ∨ (c = 99 ∧ x = -1 ∧ w = 2)) :
    Ok (lf_X0_code_X2 k.1 k.2.1 k.2.2.1 k.2.2.2.1 k.2.2.2.2.1 k.2.2.2.2.2.1 k.2.2.2.2.2.2 (nI v) x) (fun o => o.1 = nI (wCode v c s).2 ∧ WCt (B + w) (wCode v c s).1 o.2) := by
  obtain ⟨E, n, p, l, h0, ct⟩ := s
  obtain ⟨cb, ch, cl, cp, by1, on, ze⟩ := k
  obtain ⟨h1, h2, h3, h4, ⟨hI, hO⟩, hC, hw, hbd⟩ := h
  dsimp only at h1 h2 h3 h4 hI hO hC hw hbd
  subst h1 h2 h3 h4
  dsimp only
  obtain ⟨i1, i2, i3, i4, i5⟩ := hI
  have hcx2 : cxP x c := hx.elim (fun h => Or.inl ⟨h.1, h.2.1⟩) fun h => Or.inr ⟨h.1, h.2.1⟩
  have hcx := ctxP_of hC hcx2
  obtain ⟨ha1, hb1, hab⟩ := cGet_ok hO c
  have hww : w = 7 ∨ w = 2 ∧ (cGet ct c).1 = 1 ∧ (cGet ct c).2 = 1 := hx.elim (fun h => Or.inl h.2.2) fun h => Or.inr ⟨h.2.2, by rw [h.1]; exact ⟨rfl, rfl⟩⟩
  generalize hq0 : cGet ct c = q at hcx ha1 hb1 hab hww
  obtain ⟨a1, b1⟩ := q
  dsimp only at hcx ha1 hb1 hab hww
  obtain ⟨q1, q2⟩ := spl_bd (l := l) (h := h0) ha1 hb1 hab
  have hq2 : w = 7 ∨ w = 2 ∧ spl l h0 a1 b1 = (h0 - l + 1) / 2 := by
    rcases hww with e | ⟨e1, rfl, rfl⟩
    · exact Or.inl e
    · exact Or.inr ⟨e1, spl_1⟩
  have hq : 1 ≤ spl l h0 a1 b1 := by omega
  have hR : 16386 ≤ h0 - l + 1 := by omega
  have hspw : spW l h0 (cGet ct c) = l + spl l h0 a1 b1 - 1 := by
    rw [hq0]
    rfl
  obtain ⟨l1, r1, hl1, hnar, hws⟩ : ∃ l1 r1, (l1 ≤ r1 ∧ r1 < 65536 ∧ (h0 - l + 1) / 64 ≤ r1 - l1 + 1 ∧ (w = 7 ∨ w = 2 ∧ (h0 - l + 1) / 2 ≤ r1 - l1 + 1)) ∧ (if nI v = 0 then (nI (l + spl l h0 a1 b1 - 1), nI l) else (nI h0, nI (l + spl l h0 a1 b1 - 1) + 1)) = (nI r1, nI l1) ∧ wCode v c (E, n, p, l, h0, ct) = ((fun (z : Nat × Nat × Nat × Nat × Nat) => ((z.1, z.2.1, z.2.2.1, z.2.2.2.1, z.2.2.2.2, cSet ct c v), v)) (wNrm 17 E n p l1 r1)) := by
    have hv2 : v = 0 ∨ v = 1 := by omega
    rcases hv2 with rfl | rfl
    · refine ⟨l, l + spl l h0 a1 b1 - 1, ⟨by omega, by omega, by omega, by omega⟩, rfl, ?_⟩
      unfold wCode
      dsimp only
      rw [if_pos rfl, hspw]
      rfl
    · have e : nI (l + spl l h0 a1 b1 - 1) + 1 = nI (l + spl l h0 a1 b1 - 1 + 1) := nI_1 _
      refine ⟨l + spl l h0 a1 b1 - 1 + 1, h0, ⟨by omega, by omega, by omega, by omega⟩, ?_, ?_⟩
      · rw [if_neg (by decide), e]
      · unfold wCode
        dsimp only
        rw [if_neg (by decide), hspw]
        rfl
  obtain ⟨n1, n2, n3, n4⟩ := hl1
  have hu1 : phi l h0 = if h0 - l + 1 < 32768 then 1 else 0 := rfl
  rw [hws]
  unfold lf_X0_code_X2
  refine Ok.bindE _ (eq_X0_splitFor_X2 hcx i1 i2 ha1 hb1 hab hq) ?_
  refine Ok.bindE _ rfl ?_
  refine Ok.jnR (fun z => z = (nI r1, nI l1)) (fun k hk => ?_) ?_
  · by_cases hv0 : nI v = 0
    · rw [if_pos hv0] at hnar
      exact Ok.pos hv0 (hk _ hnar)
    · rw [if_neg hv0] at hnar
      exact Ok.neg hv0 (hk _ hnar)
  rintro z rfl
  refine Ok.bind _ (ok_count hC hO hcx2 hv) ?_
  rintro ⟨on2, ze2⟩ hC2
  dsimp only at hC2 ⊢
  refine Ok.bindE _ (eq_nextOffset_X2 (by omega) (by omega)) ?_
  refine Ok.bind _ (ok_nrmW (T := n + p) (r := r1 - l1 + 1) (E0 := E) n1 n2 rfl (by omega) rfl (by omega) hw rfl) ?_
  rintro ⟨c1, c2, c3, c4, c5⟩ ⟨E2, b2, h2, l2, p2, k, hZ, rfl, rfl, rfl, rfl, hI2, hR2, hk8, hT, hw2⟩
  dsimp only at hw2
  refine Ok.some ?_
  rw [hZ]
  dsimp only
  refine ⟨rfl, rfl, rfl, rfl, rfl, ⟨hI2, cSet_ok hO⟩, hC2, hw2, ?_⟩
  dsimp only
  obtain ⟨j1, j2, j3, j4, j5⟩ := hI2
  have hu2 : phi l2 h2 = if h2 - l2 + 1 < 32768 then 1 else 0 := rfl
  have hk9 : k = 0 ∨ k = 1 ∨ k = 2 ∨ k = 3 ∨ k = 4 ∨ k = 5 ∨ k = 6 ∨ k = 7 ∨ k = 8 := by omega
  rw [hu2]
  rw [hu1] at hbd
  split at hbd <;> split <;> rcases hk9 with rfl | rfl | rfl | rfl | rfl | rfl | rfl | rfl | rfl <;> simp only [Nat.reducePow] at hR2 <;> omega
