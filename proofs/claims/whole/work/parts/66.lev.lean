/-! ===== a level of a part, for any coder ===== -/
/-- a coder by numbers (cd) and the class's (C): what a bit costs; a reader (rdr) looks at no bit that is given -/
def hCode {σ K : Type} (cd : Nat → Nat → σ → σ × Nat) (C : K → Int32 → Int32 → Option (Int32 × K)) (Rl : Nat → σ → K → Prop) (rdr : Prop) (c1 c2 Lim : Nat) : Prop :=
  (∀ B s k b c p x, Rl B s k → B + 50 < Lim → cxP x c → (rdr ∨ p = nI b ∧ b < 2) → Ok (C k p x) (fun o => o.1 = nI (cd b c s).2 ∧ (cd b c s).2 < 2 ∧ Rl (B + if c < 20 then c1 else c2) (cd b c s).1 o.2)) ∧ (∀ B B' s k, Rl B s k → B ≤ B' → Rl B' s k) ∧ (rdr → ∀ b b' c, cd b c = cd b' c)
theorem sB_eq {σ α β : Type} {f : σ → σ × α} {k : α → σ → σ × β} {s s1 : σ} {a : α} (h : f s = (s1, a)) : sB f k s = k a s1 := by
  unfold sB
  rw [h]
def gLev {K : Type} (C : K → Int32 → Int32 → Option (Int32 × K)) (k : K) (p1 p2 : Int32) : Option (Int32 × K) :=
jn (fun (z3 : Int32) => (fun (s2 : Int32) => (C k s2 p2).bind fun o4 => (if o4.1 = (0 : Int32) then some ((0 : Int32), o4.2) else jn (fun (z8 : Int32) => (fun (s7 : Int32) => (C o4.2 s7 (8 : Int32)).bind fun o9 => jn (fun (z12 : Int32) => (fun (s11 : Int32) => (lf_X8_digitsOf s11).bind fun o13 => (fixN FUEL (fun (self22 : (Int32 × K) → Option (Int32 × K)) (z22 : Int32 × K) => (if (12 : Int32) ≤ z22.1 then some (z22.1, z22.2) else jn (fun (z26 : Int32) => (fun (s25 : Int32) => (C z22.2 s25 ((8 : Int32) + z22.1)).bind fun o27 => (if o27.1 = (1 : Int32) then bnd (z22.1 + (1 : Int32)) fun x29 => self22 (x29, o27.2) else some (z22.1, o27.2))) z26) (fun k26 => (if o13 ≤ z22.1 then k26 (0 : Int32) else k26 (1 : Int32))))) ((1 : Int32), o9.2)).bind fun o22 => bnd (o22.1 - (2 : Int32)) fun x30 => (fixN FUEL (fun (self40 : (Int32 × Int32 × K) → Option (Int32 × K)) (z40 : Int32 × Int32 × K) => (if z40.2.1 < (0 : Int32) then some (z40.1, z40.2.2) else (C z40.2.2 ((s11 >>> (z40.2.1 &&& 31)) &&& (1 : Int32)) (-1 : Int32)).bind fun o42 => bnd ((z40.1 * (2 : Int32)) + o42.1) fun x43 => bnd (z40.2.1 + (-1 : Int32)) fun x44 => self40 (x43, x44, o42.2))) ((1 : Int32), x30, o22.2)).bind fun o40 => (if o9.1 = (1 : Int32) then some ((-o40.1), o40.2) else some (o40.1, o40.2))) z12) (fun k12 => (if (0 : Int32) ≤ p1 then k12 p1 else k12 (-p1)))) z8) (fun k8 => (if (0 : Int32) ≤ p1 then k8 (0 : Int32) else k8 (1 : Int32))))) z3) (fun k3 => (if p1 = (0 : Int32) then k3 (0 : Int32) else k3 (1 : Int32)))
/-- the tuples of the class's writer and reader -/
def kW (k : Int32 × Int32 × Int32 × Int32 × (Nat → Int32) × (Nat → Int32) × (Nat → Int32)) (x y : Int32) : Option (Int32 × Int32 × Int32 × Int32 × Int32 × (Nat → Int32) × (Nat → Int32) × (Nat → Int32)) := lf_X0_code_X2 k.1 k.2.1 k.2.2.1 k.2.2.2.1 k.2.2.2.2.1 k.2.2.2.2.2.1 k.2.2.2.2.2.2 x y
def kR (en : Int32) (n : Nat) (cy : Nat → Int32) (k : Int32 × Int32 × Int32 × Int32 × (Nat → Int32) × (Nat → Int32)) (x y : Int32) : Option (Int32 × Int32 × Int32 × Int32 × Int32 × (Nat → Int32) × (Nat → Int32)) := lf_X0_code_X1 k.1 en k.2.1 k.2.2.1 k.2.2.2.1 n cy k.2.2.2.2.1 k.2.2.2.2.2 x y
theorem lev_X2 {a b c d : Int32} {e f g : Nat → Int32} {p1 p2 : Int32} : lf_X8_codeLevel_X2 a b c d e f g p1 p2 = gLev kW (a, b, c, d, e, f, g) p1 p2 := rfl
theorem lev_X1 {a b c d en : Int32} {n : Nat} {cy f g : Nat → Int32} {p1 p2 : Int32} : lf_X8_codeLevel_X1 a en b c d n cy f g p1 p2 = gLev (kR en n cy) (a, b, c, d, f, g) p1 p2 := rfl
/-! what is given to a reader doesn't matter -/
section IRR
variable {σ : Type} {cd : Nat → Nat → σ → σ × Nat} (hi : ∀ b b' c, cd b c = cd b' c)
theorem irr_dig (w w2 : Nat) : ∀ f d, pDig cd w f d = pDig cd w2 f d := by
  intro f
  induction f with
  | zero => exact fun d => rfl
  | succ f ih =>
    intro d
    unfold pDig
    rw [hi (if d < w then 1 else 0) (if d < w2 then 1 else 0), ih]
theorem irr_val (q q2 : Nat) : ∀ k v, pVal cd q k v = pVal cd q2 k v := by
  intro k
  induction k with
  | zero => exact fun v => rfl
  | succ k ih =>
    intro v
    unfold pVal
    rw [hi (q / 2 ^ k % 2) (q2 / 2 ^ k % 2)]
    exact congrArg _ (funext fun b => ih _)
theorem irr_mag (q q2 w w2 : Nat) : pMag cd q w = pMag cd q2 w2 := by
  unfold pMag
  rw [irr_dig hi w w2]
  exact congrArg _ (funext fun d => irr_val hi _ _ _ _)
theorem irr_lev (x x2 : Int32) (cx : Nat) : pLev cd x cx = pLev cd x2 cx := by
  unfold pLev
  rw [hi (if x = 0 then 0 else 1) (if x2 = 0 then 0 else 1), hi (if x < 0 then 1 else 0) (if x2 < 0 then 1 else 0), irr_mag hi x.toInt.natAbs x2.toInt.natAbs (dgF 31 x.toInt.natAbs) (dgF 31 x2.toInt.natAbs)]
end IRR
theorem dgF_31 : ∀ f n, dgF f n ≤ f
  | 0, _ => Nat.le_refl 0
  | f + 1, n => by
    rw [dgF_s]
    by_cases h : n = 0
    · rw [if_pos h]
      exact Nat.zero_le _
    · rw [if_neg h]
      have := dgF_31 f (n / 2)
      omega
set_option maxHeartbeats 4000000 in
theorem ok_gLev {σ K : Type} {cd : Nat → Nat → σ → σ × Nat} {C : K → Int32 → Int32 → Option (Int32 × K)} {Rl : Nat → σ → K → Prop} {rdr : Prop} {c1 c2 Lim B cx : Nat} {s : σ} {k : K} {x : Int32} (hc : hCode cd C Rl rdr c1 c2 Lim) (h : Rl B s k) (hB : B + 13 * c1 + 11 * c2 + 60 < Lim) (hcx : cx < 20) (hx : rdr ∨ -2047 ≤ x.toInt ∧ x.toInt ≤ 2047) :
    Ok (gLev C k x (nI cx)) (fun o => o.1 = (pLev cd x cx s).2 ∧ Rl (B + 13 * c1 + 11 * c2) (pLev cd x cx s).1 o.2) := by
  obtain ⟨hcd, hmono, hirr⟩ := hc
  unfold gLev pLev
  refine Ok.jnR (fun s => s = nI (if x = 0 then 0 else 1)) (fun kk hkk => ?_) ?_
  · by_cases h0 : x = 0
    · exact Ok.pos h0 (hkk _ (by rw [if_pos h0]; rfl))
    · exact Ok.neg h0 (hkk _ (by rw [if_neg h0]; rfl))
  rintro _ rfl
  refine Ok.bind _ (hcd B s k (if x = 0 then 0 else 1) cx _ _ h (by omega) (Or.inl ⟨hcx, rfl⟩) (Or.inr ⟨rfl, by split <;> decide⟩)) ?_
  rintro ⟨o1, k1⟩ ⟨e1, b1, r1⟩
  dsimp only at e1 r1 ⊢
  subst e1
  rw [if_pos hcx] at r1
  generalize hf1 : cd (if x = 0 then 0 else 1) cx s = f1 at b1 r1 ⊢
  obtain ⟨s1, a1⟩ := f1
  dsimp only at b1 r1 ⊢
  rw [sB_eq hf1]
  by_cases h0 : a1 = 0
  · rw [if_pos h0, h0]
    exact Ok.pos rfl (Ok.some ⟨rfl, hmono _ _ _ _ r1 (by omega)⟩)
  rw [if_neg h0]
  refine Ok.neg (by simp (disch := omega) only [lI0, lI1, lI2, lI3, lI4, lI5, lI7, lI8, lI9, lI10, lI11, lI12, lI15, lI16, lI17, lI20, lI24, lI32, lI33, lI40, lI63, lI64, lI80, lI82, lI101, lI110, lI115, lI251, lI255, lI256, lI384, lI16384, lI20000, lI32768, lI49152, lI65535, nI_add, pk_mul, pk_sub, pk_div, nI_leI, nI_ltI, nI_eq] <;> omega) ?_
  -- the sign
  refine Ok.jnR (fun s => s = nI (if x < 0 then 1 else 0)) (fun kk hkk => ?_) ?_
  · by_cases h1 : 0 ≤ x
    · exact Ok.pos h1 (hkk _ (by rw [if_neg (Int32.not_lt.mpr h1)]; rfl))
    · exact Ok.neg h1 (hkk _ (by rw [if_pos (Int32.not_le.mp h1)]; rfl))
  rintro _ rfl
  refine Ok.bind _ (hcd _ s1 k1 (if x < 0 then 1 else 0) 8 _ 8 r1 (by omega) (Or.inl ⟨by decide, rfl⟩) (Or.inr ⟨rfl, by split <;> decide⟩)) ?_
  rintro ⟨o2, k2⟩ ⟨e2, b2, r2⟩
  dsimp only at e2 r2 ⊢
  subst e2
  rw [if_pos (by decide)] at r2
  generalize hf2 : cd (if x < 0 then 1 else 0) 8 s1 = f2 at b2 r2 ⊢
  obtain ⟨s2, ng⟩ := f2
  dsimp only at b2 r2 ⊢
  rw [sB_eq hf2]
  -- the magnitude, where it matters
  obtain ⟨m, hmag, hq⟩ : ∃ m : Int32, (if (0 : Int32) ≤ x then x else -x) = m ∧ (rdr ∨ m = nI x.toInt.natAbs ∧ x.toInt.natAbs ≤ 2047) := by
    refine ⟨_, rfl, hx.elim Or.inl fun hx => Or.inr ?_⟩
    obtain ⟨q, q1, q2, q3, q4, q5⟩ := mag_bd (x := x) (W := 2047) (by decide) hx.1 hx.2
    unfold mag at q2
    have h7 : x.toInt.natAbs = q := by
      by_cases h4 : 0 ≤ x
      · rw [q4 h4, nI_toInt (by omega)]
        rfl
      · rw [q5 h4, Int32.toInt_neg, nI_toInt (by omega), Int.bmod_eq_of_le (by omega) (by omega)]
        omega
    rw [h7]
    exact ⟨q2, q1⟩
  refine Ok.jnR (fun s => s = m) (fun kk hkk => ?_) ?_
  · by_cases h1 : 0 ≤ x
    · exact Ok.pos h1 (hkk _ (by rw [← hmag, if_pos h1]))
    · exact Ok.neg h1 (hkk _ (by rw [← hmag, if_neg h1]))
  rintro _ rfl
  refine Ok.bindE _ (eq_X8_digitsOf _) ?_
  generalize hQ : x.toInt.natAbs = q at hq ⊢
  -- how many digits
  refine Ok.bind (fun o => o.1 = nI (pDig cd (dgF 31 q) 11 1 s2).2 ∧ 1 ≤ (pDig cd (dgF 31 q) 11 1 s2).2 ∧ (pDig cd (dgF 31 q) 11 1 s2).2 ≤ 12 ∧ Rl (B + 13 * c1) (pDig cd (dgF 31 q) 11 1 s2).1 o.2) ?_ ?_
  · generalize hZ : pDig cd (dgF 31 q) 11 1 s2 = Z
    refine Ok.fix (fun i z => ∃ s', z.1 = nI (1 + i) ∧ Rl (B + 2 * c1 + c1 * i) s' z.2 ∧ pDig cd (dgF 31 q) (11 - i) (1 + i) s' = Z) 11 (by omega) ⟨s2, rfl, hmono _ _ _ _ r2 (by omega), hZ⟩ ?_
    rintro i ⟨x14, g⟩ self hi ⟨s', h1, h2, h3⟩ KK
    dsimp only at h1 h2 ⊢
    subst h1
    by_cases h12 : i = 11
    · subst h12
      refine Ok.pos (by simp (disch := omega) only [lI0, lI1, lI2, lI3, lI4, lI5, lI7, lI8, lI9, lI10, lI11, lI12, lI15, lI16, lI17, lI20, lI24, lI32, lI33, lI40, lI63, lI64, lI80, lI82, lI101, lI110, lI115, lI251, lI255, lI256, lI384, lI16384, lI20000, lI32768, lI49152, lI65535, nI_add, pk_mul, pk_sub, pk_div, nI_leI, nI_ltI, nI_eq] <;> omega) (Ok.some ?_)
      have h3 : (s', 1 + 11) = Z := h3
      subst h3
      exact ⟨rfl, by decide, by decide, hmono _ _ _ _ h2 (by omega)⟩
    · refine Ok.neg (by simp (disch := omega) only [lI0, lI1, lI2, lI3, lI4, lI5, lI7, lI8, lI9, lI10, lI11, lI12, lI15, lI16, lI17, lI20, lI24, lI32, lI33, lI40, lI63, lI64, lI80, lI82, lI101, lI110, lI115, lI251, lI255, lI256, lI384, lI16384, lI20000, lI32768, lI49152, lI65535, nI_add, pk_mul, pk_sub, pk_div, nI_leI, nI_ltI, nI_eq] <;> omega) ?_
      obtain ⟨f, hf⟩ : ∃ f, 11 - i = f + 1 := ⟨11 - i - 1, by omega⟩
      rw [hf] at h3
      unfold pDig at h3
      have hci : c1 * i ≤ c1 * 10 := Nat.mul_le_mul_left _ (by omega)
      have hbit : rdr ∨ (if dgI m ≤ nI (1 + i) then (0 : Int32) else 1) = nI (if 1 + i < dgF 31 q then 1 else 0) ∧ (if 1 + i < dgF 31 q then 1 else 0) < 2 := by
        refine hq.elim Or.inl fun hq => Or.inr ⟨?_, by split <;> decide⟩
        rw [hq.1, dgI_nI (by omega)]
        have := dgF_31 31 q
        by_cases h5 : 1 + i < dgF 31 q
        · rw [if_pos h5, if_neg (by simp (disch := omega) only [lI0, lI1, lI2, lI3, lI4, lI5, lI7, lI8, lI9, lI10, lI11, lI12, lI15, lI16, lI17, lI20, lI24, lI32, lI33, lI40, lI63, lI64, lI80, lI82, lI101, lI110, lI115, lI251, lI255, lI256, lI384, lI16384, lI20000, lI32768, lI49152, lI65535, nI_add, pk_mul, pk_sub, pk_div, nI_leI, nI_ltI, nI_eq] <;> omega)]
          rfl
        · rw [if_neg h5, if_pos (by simp (disch := omega) only [lI0, lI1, lI2, lI3, lI4, lI5, lI7, lI8, lI9, lI10, lI11, lI12, lI15, lI16, lI17, lI20, lI24, lI32, lI33, lI40, lI63, lI64, lI80, lI82, lI101, lI110, lI115, lI251, lI255, lI256, lI384, lI16384, lI20000, lI32768, lI49152, lI65535, nI_add, pk_mul, pk_sub, pk_div, nI_leI, nI_ltI, nI_eq] <;> omega)]
          rfl
      refine Ok.jnR (fun s => s = if dgI m ≤ nI (1 + i) then (0 : Int32) else 1) (fun kk hkk => ?_) ?_
      · by_cases h5 : dgI m ≤ nI (1 + i)
        · exact Ok.pos h5 (hkk _ (by rw [if_pos h5]))
        · exact Ok.neg h5 (hkk _ (by rw [if_neg h5]))
      rintro _ rfl
      refine Ok.bind _ (hcd _ s' g (if 1 + i < dgF 31 q then 1 else 0) (8 + (1 + i)) _ _ h2 (by omega) (Or.inl ⟨by omega, nI_add 8 (1 + i)⟩) hbit) ?_
      rintro ⟨o3, k3⟩ ⟨e3, b3, r3⟩
      dsimp only at e3 r3 ⊢
      subst e3
      rw [if_pos (by omega)] at r3
      generalize hf3 : cd (if 1 + i < dgF 31 q then 1 else 0) (8 + (1 + i)) s' = f3 at b3 r3 ⊢
      obtain ⟨s3, a3⟩ := f3
      dsimp only at b3 r3 ⊢
      rw [sB_eq hf3] at h3
      by_cases h6 : a3 = 1
      · rw [if_pos h6] at h3
        subst h6
        refine Ok.pos rfl (Ok.bnd (KK _ (by omega) ⟨s3, ?_, ?_, ?_⟩))
        · dsimp only
          rw [nI_1]
          exact congrArg nI (by omega)
        · rw [Nat.mul_succ, ← Nat.add_assoc]
          exact r3
        · rw [show 11 - (i + 1) = f from by omega, show 1 + (i + 1) = 1 + i + 1 from by omega]
          exact h3
      · rw [if_neg h6] at h3
        refine Ok.neg (by simp (disch := omega) only [lI0, lI1, lI2, lI3, lI4, lI5, lI7, lI8, lI9, lI10, lI11, lI12, lI15, lI16, lI17, lI20, lI24, lI32, lI33, lI40, lI63, lI64, lI80, lI82, lI101, lI110, lI115, lI251, lI255, lI256, lI384, lI16384, lI20000, lI32768, lI49152, lI65535, nI_add, pk_mul, pk_sub, pk_div, nI_leI, nI_ltI, nI_eq] <;> omega) (Ok.some ?_)
        have h3 : (s3, 1 + i) = Z := h3
        subst h3
        exact ⟨rfl, by dsimp only; omega, by dsimp only; omega, hmono _ _ _ _ r3 (by omega)⟩
  rintro ⟨o4, k4⟩ ⟨e4, d1, d2, r4⟩
  dsimp only at e4 r4 ⊢
  subst e4
  unfold pMag
  generalize hf4 : pDig cd (dgF 31 q) 11 1 s2 = f4 at d1 d2 r4 ⊢
  obtain ⟨s4, d⟩ := f4
  dsimp only at d1 d2 r4 ⊢
  refine Ok.bnd ?_
  have hix : nI d - (2 : Int32) = ix (d - 1) := by
    unfold ix
    by_cases h1 : d - 1 = 0
    · rw [if_pos h1, show d = 1 from by omega]
      decide
    · rw [if_neg h1]
      (first | (simp (disch := omega) only [lI0, lI1, lI2, lI3, lI4, lI5, lI7, lI8, lI9, lI10, lI11, lI12, lI15, lI16, lI17, lI20, lI24, lI32, lI33, lI40, lI63, lI64, lI80, lI82, lI101, lI110, lI115, lI251, lI255, lI256, lI384, lI16384, lI20000, lI32768, lI49152, lI65535, nI_add, pk_mul, pk_sub, pk_div] <;> (apply congrArg nI; omega)) | rfl)
  rw [hix]
  have hsb : sB (pDig cd (dgF 31 q) 11 1) (fun d => pVal cd q (d - 1) 1) s2 = pVal cd q (d - 1) 1 s4 := sB_eq hf4
  have hsb2 : sB (sB (pDig cd (dgF 31 q) 11 1) (fun d => pVal cd q (d - 1) 1)) (fun v => sP (if ng = 1 then -nI v else nI v)) s2 = ((pVal cd q (d - 1) 1 s4).1, if ng = 1 then -nI (pVal cd q (d - 1) 1 s4).2 else nI (pVal cd q (d - 1) 1 s4).2) := by
    unfold sB at hsb ⊢
    rw [hsb]
    rfl
  rw [hsb2]
  dsimp only
  refine Ok.bind (fun o => o.1 = nI (pVal cd q (d - 1) 1 s4).2 ∧ Rl (B + 13 * c1 + 11 * c2) (pVal cd q (d - 1) 1 s4).1 o.2) ?_ ?_
  · generalize hZ : pVal cd q (d - 1) 1 s4 = Z
    refine Ok.fix (fun i z => ∃ s' v, z.1 = nI v ∧ z.2.1 = ix (d - 1 - i) ∧ Rl (B + 13 * c1 + c2 * i) s' z.2.2 ∧ pVal cd q (d - 1 - i) v s' = Z) (d - 1) (by omega) ⟨s4, 1, rfl, rfl, hmono _ _ _ _ r4 (by omega), hZ⟩ ?_
    rintro i ⟨x31, x32, g⟩ self hi ⟨s', v, h1, h2, h3, h4⟩ KK
    dsimp only at h1 h2 h3 ⊢
    subst h1 h2
    have hci : c2 * i ≤ c2 * 11 := Nat.mul_le_mul_left _ (by omega)
    by_cases h12 : i = d - 1
    · subst h12
      rw [Nat.sub_self] at h4 ⊢
      refine Ok.pos (by decide) (Ok.some ?_)
      have h4 : (s', v) = Z := h4
      subst h4
      exact ⟨rfl, hmono _ _ _ _ h3 (by omega)⟩
    · obtain ⟨f, hf⟩ : ∃ f, d - 1 - i = f + 1 := ⟨d - 1 - i - 1, by omega⟩
      rw [hf] at h4 ⊢
      have hii : ix (f + 1) = nI f := rfl
      rw [hii]
      refine Ok.neg (nI_pos (by omega)) ?_
      unfold pVal at h4
      have hbit : rdr ∨ (m >>> (nI f &&& 31)) &&& (1 : Int32) = nI (q / 2 ^ f % 2) ∧ q / 2 ^ f % 2 < 2 := by
        refine hq.elim Or.inl fun hq => Or.inr ⟨?_, Nat.mod_lt _ (by decide)⟩
        rw [hq.1]
        exact dig_nI (by omega) (by omega)
      refine Ok.bind _ (hcd _ s' g (q / 2 ^ f % 2) 99 _ (-1) h3 (by omega) (Or.inr ⟨rfl, rfl⟩) hbit) ?_
      rintro ⟨o3, k3⟩ ⟨e3, b3, r3⟩
      dsimp only at e3 r3 ⊢
      subst e3
      rw [if_neg (by decide)] at r3
      generalize hf3 : cd (q / 2 ^ f % 2) 99 s' = f3 at b3 r3 ⊢
      obtain ⟨s3, a3⟩ := f3
      dsimp only at b3 r3 ⊢
      rw [sB_eq hf3] at h4
      refine Ok.bnd (Ok.bnd (KK _ (by omega) ⟨s3, 2 * v + a3, ?_, ?_, ?_, ?_⟩))
      · dsimp only
        rw [show (2 : Int32) = nI 2 from rfl, pk_mul, nI_add, Nat.mul_comm v 2]
      · dsimp only
        rw [show d - 1 - (i + 1) = f from by omega]
        exact ix_s f
      · rw [Nat.mul_succ, ← Nat.add_assoc]
        exact r3
      · rw [show d - 1 - (i + 1) = f from by omega]
        exact h4
  rintro ⟨o5, k5⟩ ⟨e5, r5⟩
  dsimp only at e5 r5 ⊢
  subst e5
  by_cases h6 : ng = 1
  · rw [if_pos h6, h6]
    exact Ok.pos rfl (Ok.some ⟨rfl, r5⟩)
  · rw [if_neg h6]
    exact Ok.neg (by simp (disch := omega) only [lI0, lI1, lI2, lI3, lI4, lI5, lI7, lI8, lI9, lI10, lI11, lI12, lI15, lI16, lI17, lI20, lI24, lI32, lI33, lI40, lI63, lI64, lI80, lI82, lI101, lI110, lI115, lI251, lI255, lI256, lI384, lI16384, lI20000, lI32768, lI49152, lI65535, nI_add, pk_mul, pk_sub, pk_div, nI_leI, nI_ltI, nI_eq] <;> omega) (Ok.some ⟨rfl, r5⟩)
