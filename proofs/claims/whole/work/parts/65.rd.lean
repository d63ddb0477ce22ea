/-! ===== the class's reader of one bit, by numbers ===== -/
def btN (v : Nat → Nat) (len i : Nat) : Nat := if i / 8 < len then bitF v i else 0
theorem btN_lt (v : Nat → Nat) (len i : Nat) : btN v len i < 2 := by
  unfold btN
  split
  · exact Nat.mod_lt _ (by decide)
  · decide
/-- the bytes of a part in the class's row -/
def byP (start len : Nat) (v : Nat → Nat) (cy : Nat → Int32) : Prop := ∀ j, j < len → cy (start + j) = nI (v j) ∧ v j < 256
theorem btS_nI {start len b : Nat} {v : Nat → Nat} {cy : Nat → Int32} (hv : byP start len v cy) (hb : b < 2 ^ 20) : btS start len cy b = nI (btN v len b) := by
  unfold btS btN
  by_cases h : b / 8 < len
  · rw [if_pos h, if_pos h, (hv _ h).1, show (7 : Int32) - (nI b - nI b / (8 : Int32) * (8 : Int32)) = nI (7 - b % 8) from (by first | (simp (disch := omega) only [lI0, lI1, lI2, lI3, lI4, lI5, lI7, lI8, lI9, lI10, lI11, lI12, lI15, lI16, lI17, lI20, lI24, lI32, lI33, lI40, lI63, lI64, lI80, lI82, lI101, lI110, lI115, lI251, lI255, lI256, lI384, lI16384, lI20000, lI32768, lI49152, lI65535, nI_add, pk_mul, pk_sub, pk_div] <;> (apply congrArg nI; omega)) | rfl)]
    exact dig_nI (by have := (hv _ h).2; omega) (by omega)
  · rw [if_neg h, if_neg h]
    rfl
set_option maxHeartbeats 2000000 in
theorem ok_nrmR {start len n r c0 m0 h l : Nat} {v : Nat → Nat} {cy : Nat → Int32} (hs2 : start + len ≤ n) (hn : n ≤ 32768) (hv : byP start len v cy) (hlh : l ≤ h) (hh : h < 65536) (hr : h - l + 1 = r) (hr2 : 256 ≤ r) (hcl : l ≤ c0) (hch : c0 ≤ h) (hb : m0 + 40 < 2 ^ 20) {E : (Int32 × Int32 × Int32 × Int32 × Int32 × Int32 → Option (Int32 × Int32 × Int32 × Int32)) → Int32 × Int32 × Int32 × Int32 × Int32 × Int32 → Option (Int32 × Int32 × Int32 × Int32)}
    (hE : E = fun self z => (fun (x9 : Int32) (x10 : Int32) (v11 : Int32) (v12 : Int32) (v13 : Int32) (v14 : Int32) => (if (17 : Int32) ≤ x10 then some (v11, v12, v13, v14) else (if x9 = (-1 : Int32) then some (v11, v12, v13, v14) else (lf_X1_take v11 (nI (8 * (start + len))) v14 n cy x9).bind fun o18 => (lf_X0_nextOffset_X1 (((v12 - x9) * (2 : Int32)) + (1 : Int32)) ((v13 - x9) * (2 : Int32))).bind fun o19 => bnd (x10 + (1 : Int32)) fun x20 => self (o19, x20, o18.1, (((v12 - x9) * (2 : Int32)) + (1 : Int32)), ((v13 - x9) * (2 : Int32)), o18.2)))) z.1 z.2.1 z.2.2.1 z.2.2.2.1 z.2.2.2.2.1 z.2.2.2.2.2) :
    Ok (fixN FUEL E (offv l h, (0 : Int32), nI c0, nI h, nI l, nI (psN start len (16 + m0)))) (fun c => ∃ c2 m2 l2 h2, rNrm (btN v len) 17 c0 m0 l h = (c2, m2, l2, h2) ∧ c.1 = nI c2 ∧ c.2.1 = nI h2 ∧ c.2.2.1 = nI l2 ∧ c.2.2.2 = nI (psN start len (16 + m2)) ∧ cI l2 h2 ∧ l2 ≤ c2 ∧ c2 ≤ h2 ∧ m2 ≤ m0 + 8) := by
  subst hE
  generalize hZ : rNrm (btN v len) 17 c0 m0 l h = Z
  refine Ok.fix (fun k y => ∃ c l h, y = (offv l h, nI k, nI c, nI h, nI l, nI (psN start len (16 + (m0 + k)))) ∧ rNrm (btN v len) (17 - k) c (m0 + k) l h = Z ∧ l ≤ h ∧ h < 65536 ∧ h - l + 1 = r * 2 ^ k ∧ l ≤ c ∧ c ≤ h) 8 (by omega) ⟨c0, l, h, rfl, hZ, hlh, hh, by rw [hr, Nat.pow_zero, Nat.mul_one], hcl, hch⟩ ?_
  rintro k ⟨y9, y10, w11, w12, w13, w14⟩ s2 hk ⟨c, l, h, e2, hZ, hlh, hh, hR, hcl, hch⟩ K
  simp only [Prod.mk.injEq] at e2
  obtain ⟨rfl, rfl, rfl, rfl, rfl, rfl⟩ := e2
  dsimp only
  refine Ok.neg (by simp (disch := omega) only [lI0, lI1, lI2, lI3, lI4, lI5, lI7, lI8, lI9, lI10, lI11, lI12, lI15, lI16, lI17, lI20, lI24, lI32, lI33, lI40, lI63, lI64, lI80, lI82, lI101, lI110, lI115, lI251, lI255, lI256, lI384, lI16384, lI20000, lI32768, lI49152, lI65535, nI_add, pk_mul, pk_sub, pk_div, nI_leI, nI_ltI, nI_eq] <;> omega) ?_
  have hp8 : 256 * 2 ^ k ≤ r * 2 ^ k := Nat.mul_le_mul_right _ hr2
  have hps : r * 2 ^ (k + 1) = r * 2 ^ k * 2 := by rw [Nat.pow_succ, Nat.mul_assoc]
  have hk7 : ¬ (offv l h = -1) → k < 8 := by
    intro hne
    rcases Nat.lt_or_ge k 8 with h8 | h8
    · exact h8
    · have : k = 8 := by omega
      subst this
      have h9 : l = 0 ∧ h = 65535 := by omega
      exact absurd (by rw [h9.1, h9.2]; decide) hne
  obtain ⟨g, hg⟩ : ∃ g, 17 - k = g + 1 := ⟨17 - k - 1, by omega⟩
  have hg2 : 17 - (k + 1) = g := by omega
  have hbt := btN_lt v len (16 + (m0 + k))
  rw [hg] at hZ
  have hstep : ∀ f, offv l h = nI f → f ≤ l → 2 * (h - f) + 1 < 65536 → f < 65536 → ¬ nI f = (-1 : Int32) → rNrm (btN v len) g (2 * (c - f) + btN v len (16 + (m0 + k))) (m0 + k + 1) (2 * (l - f)) (2 * (h - f) + 1) = Z → Ok
      (if offv l h = (-1 : Int32) then some (nI c, nI h, nI l, nI (psN start len (16 + (m0 + k)))) else (lf_X1_take (nI c) (nI (8 * (start + len))) (nI (psN start len (16 + (m0 + k)))) n cy (offv l h)).bind fun o18 => (lf_X0_nextOffset_X1 (((nI h - offv l h) * (2 : Int32)) + (1 : Int32)) ((nI l - offv l h) * (2 : Int32))).bind fun o19 => bnd (nI k + (1 : Int32)) fun x20 => s2 (o19, x20, o18.1, (((nI h - offv l h) * (2 : Int32)) + (1 : Int32)), ((nI l - offv l h) * (2 : Int32)), o18.2))
      (fun c => ∃ c2 m2 l2 h2, Z = (c2, m2, l2, h2) ∧ c.1 = nI c2 ∧ c.2.1 = nI h2 ∧ c.2.2.1 = nI l2 ∧ c.2.2.2 = nI (psN start len (16 + m2)) ∧ cI l2 h2 ∧ l2 ≤ c2 ∧ c2 ≤ h2 ∧ m2 ≤ m0 + 8) := by
    intro f ho hfl hfh hf2 hf4 hZ2
    have hkk := hk7 (by rw [ho]; exact hf4)
    have m3 : (nI h - nI f) * (2 : Int32) + (1 : Int32) = nI (2 * (h - f) + 1) := (by first | (simp (disch := omega) only [lI0, lI1, lI2, lI3, lI4, lI5, lI7, lI8, lI9, lI10, lI11, lI12, lI15, lI16, lI17, lI20, lI24, lI32, lI33, lI40, lI63, lI64, lI80, lI82, lI101, lI110, lI115, lI251, lI255, lI256, lI384, lI16384, lI20000, lI32768, lI49152, lI65535, nI_add, pk_mul, pk_sub, pk_div] <;> (apply congrArg nI; omega)) | rfl)
    have m4 : (nI l - nI f) * (2 : Int32) = nI (2 * (l - f)) := (by first | (simp (disch := omega) only [lI0, lI1, lI2, lI3, lI4, lI5, lI7, lI8, lI9, lI10, lI11, lI12, lI15, lI16, lI17, lI20, lI24, lI32, lI33, lI40, lI63, lI64, lI80, lI82, lI101, lI110, lI115, lI251, lI255, lI256, lI384, lI16384, lI20000, lI32768, lI49152, lI65535, nI_add, pk_mul, pk_sub, pk_div] <;> (apply congrArg nI; omega)) | rfl)
    have m5 : nI k + (1 : Int32) = nI (k + 1) := (by first | (simp (disch := omega) only [lI0, lI1, lI2, lI3, lI4, lI5, lI7, lI8, lI9, lI10, lI11, lI12, lI15, lI16, lI17, lI20, lI24, lI32, lI33, lI40, lI63, lI64, lI80, lI82, lI101, lI110, lI115, lI251, lI255, lI256, lI384, lI16384, lI20000, lI32768, lI49152, lI65535, nI_add, pk_mul, pk_sub, pk_div] <;> (apply congrArg nI; omega)) | rfl)
    have m7 : (nI c - nI f) * (2 : Int32) + nI (btN v len (16 + (m0 + k))) = nI (2 * (c - f) + btN v len (16 + (m0 + k))) := (by first | (simp (disch := omega) only [lI0, lI1, lI2, lI3, lI4, lI5, lI7, lI8, lI9, lI10, lI11, lI12, lI15, lI16, lI17, lI20, lI24, lI32, lI33, lI40, lI63, lI64, lI80, lI82, lI101, lI110, lI115, lI251, lI255, lI256, lI384, lI16384, lI20000, lI32768, lI49152, lI65535, nI_add, pk_mul, pk_sub, pk_div] <;> (apply congrArg nI; omega)) | rfl)
    rw [ho]
    refine Ok.neg hf4 ?_
    rw [m3, m4, m5]
    refine Ok.bindE _ (eq_X1_take hs2 hn (by omega) (fun i _ => rfl)) (Ok.bindE _ (eq_nextOffset_X1 (by omega) (by omega)) (Ok.bnd ?_))
    rw [btS_nI hv (by omega), m7]
    exact K _ hkk ⟨2 * (c - f) + btN v len (16 + (m0 + k)), 2 * (l - f), 2 * (h - f) + 1, rfl, by rw [hg2]; exact hZ2, by omega, by omega, by omega, by omega, by omega⟩
  unfold rNrm at hZ
  rcases offv_cases l h with ⟨ho, h1⟩ | ⟨ho, h1, h2⟩ | ⟨ho, h1, h2, h3, h4⟩ | ⟨ho, h1, h2, h3⟩
  · rw [if_pos h1] at hZ
    exact hstep 0 ho (by omega) (by omega) (by omega) (by decide) hZ
  · rw [if_neg (by omega), if_pos h2] at hZ
    exact hstep 32768 ho (by omega) (by omega) (by omega) (by decide) hZ
  · rw [if_neg (by omega), if_neg (by omega), if_pos ⟨h2, h4⟩] at hZ
    exact hstep 16384 ho (by omega) (by omega) (by omega) (by decide) hZ
  · rw [if_neg (by omega), if_neg (by omega), if_neg (by omega)] at hZ
    rw [ho]
    exact Ok.pos rfl (Ok.some ⟨c, m0 + k, l, h, hZ.symm, rfl, rfl, rfl, rfl, ⟨hlh, hh, h1, h2, h3⟩, hcl, hch, by omega⟩)
/-- the class's reader holds the state r, of at most B bits -/
def RC (start len B : Nat) (r : RS) (cc ch cl cp : Int32) (on ze : Nat → Int32) : Prop :=
  cc = nI r.1 ∧ ch = nI r.2.2.2.1 ∧ cl = nI r.2.2.1 ∧ cp = nI (psN start len (16 + r.2.1)) ∧ (cI r.2.2.1 r.2.2.2.1 ∧ r.2.2.1 ≤ r.1 ∧ r.1 ≤ r.2.2.2.1) ∧ cOk r.2.2.2.2 ∧ cR r.2.2.2.2 ze on ∧ r.2.1 ≤ B
def RCt (start len B : Nat) (r : RS) (k : Int32 × Int32 × Int32 × Int32 × (Nat → Int32) × (Nat → Int32)) : Prop := RC start len B r k.1 k.2.1 k.2.2.1 k.2.2.2.1 k.2.2.2.2.1 k.2.2.2.2.2
theorem RCt.mono {start len B C : Nat} {r : RS} {k : Int32 × Int32 × Int32 × Int32 × (Nat → Int32) × (Nat → Int32)} (h : RCt start len B r k) (hc : B ≤ C) : RCt start len C r k := by
  obtain ⟨h1, h2, h3, h4, h5, h6, h7, h8⟩ := h
  exact ⟨h1, h2, h3, h4, h5, h6, h7, Nat.le_trans h8 hc⟩
theorem ok_countR {ct : Nat → Nat × Nat} {ze on : Nat → Int32} {x : Int32} {c v : Nat} (h : cR ct ze on) (hk : cOk ct) (hc : cxP x c) (hv : v < 2) : Ok (lf_X0_count_X1 on ze (nI v) x) (fun k => cR (cSet ct c v) k.2 k.1) := ok_count h hk hc hv
set_option maxHeartbeats 2000000 in
theorem ok_codeR {start len n B c b2 : Nat} {v : Nat → Nat} {cy : Nat → Int32} {r : RS} {k : Int32 × Int32 × Int32 × Int32 × (Nat → Int32) × (Nat → Int32)} {x bit : Int32} (hs2 : start + len ≤ n) (hn : n ≤ 32768) (hv : byP start len v cy) (h : RCt start len B r k) (hB : B + 50 < 2 ^ 20) (hx : cxP x c) :
    Ok (lf_X0_code_X1 k.1 (nI (8 * (start + len))) k.2.1 k.2.2.1 k.2.2.2.1 n cy k.2.2.2.2.1 k.2.2.2.2.2 bit x) (fun o => o.1 = nI (rCode (btN v len) b2 c r).2 ∧ RCt start len (B + 8) (rCode (btN v len) b2 c r).1 o.2) := by
  obtain ⟨cd, m, l, h0, ct⟩ := r
  obtain ⟨cc, ch, cl, cp, on, ze⟩ := k
  obtain ⟨h1, h2, h3, h4, ⟨hI, hl2, hh2⟩, hO, hC, hbd⟩ := h
  dsimp only at h1 h2 h3 h4 hI hl2 hh2 hO hC hbd
  subst h1 h2 h3 h4
  dsimp only
  obtain ⟨i1, i2, i3, i4, i5⟩ := hI
  have hcx := ctxP_of hC hx
  obtain ⟨ha1, hb1, hab⟩ := cGet_ok hO c
  generalize hq0 : cGet ct c = q at hcx ha1 hb1 hab
  obtain ⟨a1, b1⟩ := q
  dsimp only at hcx ha1 hb1 hab
  obtain ⟨q1, q2⟩ := spl_bd (l := l) (h := h0) ha1 hb1 hab
  have hq : 1 ≤ spl l h0 a1 b1 := by omega
  have hR : 16386 ≤ h0 - l + 1 := by omega
  have hspw : spW l h0 (cGet ct c) = l + spl l h0 a1 b1 - 1 := by
    rw [hq0]
    rfl
  obtain ⟨v2, l1, r1, hv2, hch, hl1, hnar, hws⟩ : ∃ v2 l1 r1, v2 < 2 ∧ lf_X1_choose (nI cd) bit (nI (l + spl l h0 a1 b1 - 1)) = some (nI v2) ∧ (l1 ≤ r1 ∧ r1 < 65536 ∧ (h0 - l + 1) / 64 ≤ r1 - l1 + 1 ∧ l1 ≤ cd ∧ cd ≤ r1) ∧ (if nI v2 = 0 then (nI (l + spl l h0 a1 b1 - 1), nI l) else (nI h0, nI (l + spl l h0 a1 b1 - 1) + 1)) = (nI r1, nI l1) ∧ rCode (btN v len) b2 c (cd, m, l, h0, ct) = ((fun (z : Nat × Nat × Nat × Nat) => ((z.1, z.2.1, z.2.2.1, z.2.2.2, cSet ct c v2), v2)) (rNrm (btN v len) 17 cd m l1 r1)) := by
    unfold lf_X1_choose
    by_cases hcm : cd ≤ l + spl l h0 a1 b1 - 1
    · refine ⟨0, l, l + spl l h0 a1 b1 - 1, by decide, ?_, ⟨by omega, by omega, by omega, by omega, by omega⟩, rfl, ?_⟩
      · rw [if_neg (by simp (disch := omega) only [lI0, lI1, lI2, lI3, lI4, lI5, lI7, lI8, lI9, lI10, lI11, lI12, lI15, lI16, lI17, lI20, lI24, lI32, lI33, lI40, lI63, lI64, lI80, lI82, lI101, lI110, lI115, lI251, lI255, lI256, lI384, lI16384, lI20000, lI32768, lI49152, lI65535, nI_add, pk_mul, pk_sub, pk_div, nI_leI, nI_ltI, nI_eq] <;> omega)]
        rfl
      · unfold rCode
        dsimp only
        rw [hspw, if_pos hcm]
    · have e : nI (l + spl l h0 a1 b1 - 1) + 1 = nI (l + spl l h0 a1 b1 - 1 + 1) := nI_1 _
      refine ⟨1, l + spl l h0 a1 b1 - 1 + 1, h0, by decide, ?_, ⟨by omega, by omega, by omega, by omega, by omega⟩, ?_, ?_⟩
      · rw [if_pos (by simp (disch := omega) only [lI0, lI1, lI2, lI3, lI4, lI5, lI7, lI8, lI9, lI10, lI11, lI12, lI15, lI16, lI17, lI20, lI24, lI32, lI33, lI40, lI63, lI64, lI80, lI82, lI101, lI110, lI115, lI251, lI255, lI256, lI384, lI16384, lI20000, lI32768, lI49152, lI65535, nI_add, pk_mul, pk_sub, pk_div, nI_leI, nI_ltI, nI_eq] <;> omega)]
        rfl
      · rw [if_neg (by decide), e]
      · unfold rCode
        dsimp only
        rw [hspw, if_neg hcm]
  obtain ⟨n1, n2, n3, n4, n5⟩ := hl1
  rw [hws]
  unfold lf_X0_code_X1
  refine Ok.bindE _ (eq_X0_splitFor_X1 hcx i1 i2 ha1 hb1 hab hq) ?_
  refine Ok.bindE _ hch ?_
  refine Ok.jnR (fun z => z = (nI r1, nI l1)) (fun k hk => ?_) ?_
  · by_cases hv0 : nI v2 = 0
    · rw [if_pos hv0] at hnar
      exact Ok.pos hv0 (hk _ hnar)
    · rw [if_neg hv0] at hnar
      exact Ok.neg hv0 (hk _ hnar)
  rintro z rfl
  refine Ok.bind _ (ok_countR hC hO hx hv2) ?_
  rintro ⟨on2, ze2⟩ hC2
  dsimp only at hC2 ⊢
  refine Ok.bindE _ (eq_nextOffset_X1 (by omega) (by omega)) ?_
  refine Ok.bind _ (ok_nrmR (start := start) (len := len) (r := r1 - l1 + 1) hs2 hn hv n1 n2 rfl (by omega) n4 n5 (by omega) rfl) ?_
  rintro ⟨c1, c2, c3, c4⟩ ⟨cd2, m2, l2, h2, hZ, rfl, rfl, rfl, rfl, hI2, hl2, hh2, hm2⟩
  refine Ok.some ?_
  rw [hZ]
  dsimp only
  exact ⟨rfl, rfl, rfl, rfl, rfl, ⟨hI2, hl2, hh2⟩, cSet_ok hO, hC2, by dsimp only; omega⟩
