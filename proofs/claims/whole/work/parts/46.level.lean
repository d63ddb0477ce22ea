/-! ===== a level of a block, on both sides ===== -/
def Runs {φ β : Type} (F : (φ → Option β) → φ → Option β) (x y : φ) (m : Nat) : Prop := ∀ fuel, fixN (fuel + m) F x = fixN fuel F y
theorem Runs.rf {φ β : Type} {F : (φ → Option β) → φ → Option β} {x : φ} : Runs F x x 0 := fun _ => rfl
theorem Runs.snoc {φ β : Type} {F : (φ → Option β) → φ → Option β} {x y z : φ} {m : Nat} (h : Runs F x y m) (hs : ∀ self, F self y = self z) : Runs F x z (m + 1) := fun fuel => by
  rw [show fuel + (m + 1) = (fuel + 1) + m from by omega, h (fuel + 1)]
  exact hs _
theorem Runs.exit {φ β : Type} {F : (φ → Option β) → φ → Option β} {x y : φ} {m : Nat} {r : β} (h : Runs F x y m) (hm : m < 1000000) (hs : ∀ self, F self y = some r) : fixN FUEL F x = some r := by
  have e : FUEL = (999999 - m + 1) + m := by
    show 1000000 = _
    omega
  rw [e, h]
  exact hs _
theorem Ok2.lconv {α β : Type} {a a2 : Option α} {b : Option β} {R : α → β → Prop} (h : a = a2) (h2 : Ok2 a2 b R) : Ok2 a b R := h ▸ h2
/-- the left loop's steps held to the right one's, whatever its shape -/
theorem Ok2.runs {φ β ψ γ : Type} {F : (φ → Option β) → φ → Option β} {E : (ψ → Option γ) → ψ → Option γ} {X : φ} {Y : ψ} {R : β → γ → Prop} (N : Nat) (hN : N < 1000000) (P : φ → γ → Prop) (h1 : ∀ G Z, G = F → Z = X → Ok (fixN FUEL E Y) (fun c => ∃ y m, m ≤ N ∧ Runs G Z y m ∧ P y c)) (h2 : ∀ y c, P y c → ∃ r, (∀ self, F self y = Option.some r) ∧ R r c) : Ok2 (fixN FUEL F X) (fixN FUEL E Y) R := by
  obtain ⟨c, e, y, m, hm, hr, hp⟩ := h1 F X rfl rfl
  obtain ⟨r, hs, hR⟩ := h2 y c hp
  exact ⟨r, c, hr.exit (by omega) hs, e, hR⟩
def ix (i : Nat) : Int32 := if i = 0 then -1 else nI (i - 1)
theorem ix_s (i : Nat) : nI i + (-1 : Int32) = ix i := by
  unfold ix
  by_cases h : i = 0
  · rw [if_pos h, h]
    decide
  · rw [if_neg h]
    obtain ⟨j, rfl⟩ : ∃ j, i = j + 1 := ⟨i - 1, by omega⟩
    exact pk_m1 j
/-- the writers' states as one thing each -/
def WRt (start B : Nat) (s0 : Nat → Int32) (m : Int32 × Int32 × Int32 × Int32 × (Nat → Int32) × (Nat → Int32)) (c : Int32 × Int32 × Int32 × Int32 × (Nat → Int32) × (Nat → Int32) × (Nat → Int32)) : Prop :=
  WR start B s0 m.1 m.2.1 m.2.2.1 m.2.2.2.1 m.2.2.2.2.1 m.2.2.2.2.2 c.1 c.2.1 c.2.2.1 c.2.2.2.1 c.2.2.2.2.1 c.2.2.2.2.2.1 c.2.2.2.2.2.2
/-- what the reference does of a level behind the first bit -/
def mLev1 (start : Int32) (x many plain : Int32) (o : Int32 × Int32 × Int32 × Int32 × (Nat → Int32) × (Nat → Int32)) : Option (Int32 × Int32 × Int32 × Int32 × (Nat → Int32) × (Nat → Int32)) :=
  if x = (0 : Int32) then some (o.1, o.2.1, o.2.2.1, o.2.2.2.1, o.2.2.2.2.1, o.2.2.2.2.2) else jn (fun (z38 : Int32) => (fun (s37 : Int32) => (lf_X9_put o.1 o.2.1 o.2.2.1 o.2.2.2.1 start o.2.2.2.2.1 o.2.2.2.2.2 (8 : Int32) s37).bind fun o39 => (fixN FUEL (fun (self47 : (Int32 × Int32 × Int32 × Int32 × Int32 × (Nat → Int32) × (Nat → Int32)) → Option (Int32 × Int32 × Int32 × Int32 × (Nat → Int32) × (Nat → Int32))) (z47 : Int32 × Int32 × Int32 × Int32 × Int32 × (Nat → Int32) × (Nat → Int32)) => (fun (x40 : Int32) (v41 : Int32) (v42 : Int32) (v43 : Int32) (v44 : Int32) (g45 : (Nat → Int32)) (g46 : (Nat → Int32)) => (if many < x40 then some (v41, v42, v43, v44, g45, g46) else (if (11 : Int32) < x40 then some (v41, v42, v43, v44, g45, g46) else jn (fun (z52 : Int32) => (fun (s51 : Int32) => (lf_X9_put v41 v42 v43 v44 start g45 g46 ((8 : Int32) + x40) s51).bind fun o53 => bnd (x40 + (1 : Int32)) fun x54 => self47 (x54, o53.1, o53.2.1, o53.2.2.1, o53.2.2.2.1, o53.2.2.2.2.1, o53.2.2.2.2.2)) z52) (fun k52 => (if many ≤ x40 then k52 (0 : Int32) else k52 (1 : Int32)))))) z47.1 z47.2.1 z47.2.2.1 z47.2.2.2.1 z47.2.2.2.2.1 z47.2.2.2.2.2.1 z47.2.2.2.2.2.2) ((1 : Int32), o39.1, o39.2.1, o39.2.2.1, o39.2.2.2.1, o39.2.2.2.2.1, o39.2.2.2.2.2)).bind fun o47 => bnd (many - (2 : Int32)) fun x55 => (fixN FUEL (fun (self63 : (Int32 × Int32 × Int32 × Int32 × Int32 × (Nat → Int32) × (Nat → Int32)) → Option (Int32 × Int32 × Int32 × Int32 × (Nat → Int32) × (Nat → Int32))) (z63 : Int32 × Int32 × Int32 × Int32 × Int32 × (Nat → Int32) × (Nat → Int32)) => (fun (x56 : Int32) (v57 : Int32) (v58 : Int32) (v59 : Int32) (v60 : Int32) (g61 : (Nat → Int32)) (g62 : (Nat → Int32)) => (if x56 < (0 : Int32) then some (v57, v58, v59, v60, g61, g62) else (lf_X9_put v57 v58 v59 v60 start g61 g62 (-1 : Int32) ((plain >>> (x56 &&& 31)) &&& (1 : Int32))).bind fun o65 => bnd (x56 + (-1 : Int32)) fun x66 => self63 (x66, o65.1, o65.2.1, o65.2.2.1, o65.2.2.2.1, o65.2.2.2.2.1, o65.2.2.2.2.2))) z63.1 z63.2.1 z63.2.2.1 z63.2.2.2.1 z63.2.2.2.2.1 z63.2.2.2.2.2.1 z63.2.2.2.2.2.2) (x55, o47.1, o47.2.1, o47.2.2.1, o47.2.2.2.1, o47.2.2.2.2.1, o47.2.2.2.2.2)).bind fun o63 => some (o63.1, o63.2.1, o63.2.2.1, o63.2.2.2.1, o63.2.2.2.2.1, o63.2.2.2.2.2)) z38) (fun k38 => (if (0 : Int32) ≤ x then k38 (0 : Int32) else k38 (1 : Int32)))
theorem frag_eq {β : Type} (start : Int32) (x many plain : Int32) (o : Int32 × Int32 × Int32 × Int32 × (Nat → Int32) × (Nat → Int32)) (k34 : Int32 × Int32 × Int32 × Int32 × (Nat → Int32) × (Nat → Int32) → Option β) :
    (if x = (0 : Int32) then k34 (o.1, o.2.1, o.2.2.1, o.2.2.2.1, o.2.2.2.2.1, o.2.2.2.2.2) else jn (fun (z38 : Int32) => (fun (s37 : Int32) => (lf_X9_put o.1 o.2.1 o.2.2.1 o.2.2.2.1 start o.2.2.2.2.1 o.2.2.2.2.2 (8 : Int32) s37).bind fun o39 => (fixN FUEL (fun (self47 : (Int32 × Int32 × Int32 × Int32 × Int32 × (Nat → Int32) × (Nat → Int32)) → Option (Int32 × Int32 × Int32 × Int32 × (Nat → Int32) × (Nat → Int32))) (z47 : Int32 × Int32 × Int32 × Int32 × Int32 × (Nat → Int32) × (Nat → Int32)) => (fun (x40 : Int32) (v41 : Int32) (v42 : Int32) (v43 : Int32) (v44 : Int32) (g45 : (Nat → Int32)) (g46 : (Nat → Int32)) => (if many < x40 then some (v41, v42, v43, v44, g45, g46) else (if (11 : Int32) < x40 then some (v41, v42, v43, v44, g45, g46) else jn (fun (z52 : Int32) => (fun (s51 : Int32) => (lf_X9_put v41 v42 v43 v44 start g45 g46 ((8 : Int32) + x40) s51).bind fun o53 => bnd (x40 + (1 : Int32)) fun x54 => self47 (x54, o53.1, o53.2.1, o53.2.2.1, o53.2.2.2.1, o53.2.2.2.2.1, o53.2.2.2.2.2)) z52) (fun k52 => (if many ≤ x40 then k52 (0 : Int32) else k52 (1 : Int32)))))) z47.1 z47.2.1 z47.2.2.1 z47.2.2.2.1 z47.2.2.2.2.1 z47.2.2.2.2.2.1 z47.2.2.2.2.2.2) ((1 : Int32), o39.1, o39.2.1, o39.2.2.1, o39.2.2.2.1, o39.2.2.2.2.1, o39.2.2.2.2.2)).bind fun o47 => bnd (many - (2 : Int32)) fun x55 => (fixN FUEL (fun (self63 : (Int32 × Int32 × Int32 × Int32 × Int32 × (Nat → Int32) × (Nat → Int32)) → Option (Int32 × Int32 × Int32 × Int32 × (Nat → Int32) × (Nat → Int32))) (z63 : Int32 × Int32 × Int32 × Int32 × Int32 × (Nat → Int32) × (Nat → Int32)) => (fun (x56 : Int32) (v57 : Int32) (v58 : Int32) (v59 : Int32) (v60 : Int32) (g61 : (Nat → Int32)) (g62 : (Nat → Int32)) => (if x56 < (0 : Int32) then some (v57, v58, v59, v60, g61, g62) else (lf_X9_put v57 v58 v59 v60 start g61 g62 (-1 : Int32) ((plain >>> (x56 &&& 31)) &&& (1 : Int32))).bind fun o65 => bnd (x56 + (-1 : Int32)) fun x66 => self63 (x66, o65.1, o65.2.1, o65.2.2.1, o65.2.2.2.1, o65.2.2.2.2.1, o65.2.2.2.2.2))) z63.1 z63.2.1 z63.2.2.1 z63.2.2.2.1 z63.2.2.2.2.1 z63.2.2.2.2.2.1 z63.2.2.2.2.2.2) (x55, o47.1, o47.2.1, o47.2.2.1, o47.2.2.2.1, o47.2.2.2.2.1, o47.2.2.2.2.2)).bind fun o63 => k34 (o63.1, o63.2.1, o63.2.2.1, o63.2.2.2.1, o63.2.2.2.2.1, o63.2.2.2.2.2)) z38) (fun k38 => (if (0 : Int32) ≤ x then k38 (0 : Int32) else k38 (1 : Int32)))) = (mLev1 start x many plain o).bind k34 := by
  unfold mLev1 jn bnd
  by_cases h : x = 0
  · rw [if_pos h, if_pos h]
    rfl
  · rw [if_neg h, if_neg h]
    dsimp only
    by_cases h2 : 0 ≤ x
    · rw [if_pos h2, if_pos h2]
      simp only [Option.bind_assoc]
      rfl
    · rw [if_neg h2, if_neg h2]
      simp only [Option.bind_assoc]
      rfl
/-! digits -/
theorem dgF_bd : ∀ f n, n < 2 ^ f → n < 2 ^ dgF f n ∧ (0 < n → 0 < dgF f n ∧ 2 ^ (dgF f n - 1) ≤ n)
  | 0, n, h => by
    have : n = 0 := by
      rw [Nat.pow_zero] at h
      omega
    subst this
    exact ⟨by decide, fun h => absurd h (by decide)⟩
  | f + 1, n, h => by
    rw [dgF_s]
    by_cases h0 : n = 0
    · rw [if_pos h0]
      subst h0
      exact ⟨by decide, fun h => absurd h (by decide)⟩
    · rw [if_neg h0]
      rw [Nat.pow_succ] at h
      obtain ⟨a, b⟩ := dgF_bd f (n / 2) (by omega)
      refine ⟨by rw [Nat.pow_succ]; omega, fun _ => ⟨by omega, ?_⟩⟩
      rw [Nat.add_sub_cancel]
      rcases Nat.eq_zero_or_pos (n / 2) with h1 | h1
      · rw [h1, dgF_0]
        omega
      · obtain ⟨b1, b2⟩ := b h1
        have : 2 ^ dgF f (n / 2) = 2 ^ (dgF f (n / 2) - 1) * 2 := by
          rw [← Nat.pow_succ]
          exact congrArg _ (by omega)
        omega
theorem mag_bd {x : Int32} {W : Nat} (hW : W < 2 ^ 30) (h1 : -(W : Int) ≤ x.toInt) (h2 : x.toInt ≤ W) : ∃ q, q ≤ W ∧ mag x = nI q ∧ (x = 0 ↔ q = 0) ∧ (0 ≤ x → x = nI q) ∧ (¬ 0 ≤ x → x = -nI q) := by
  by_cases h : 0 ≤ x
  · obtain ⟨q, hq, rfl⟩ := nI_of (x := x) (Int32.not_lt.mpr h)
    rw [nI_toInt hq] at h2
    refine ⟨q, by omega, by unfold mag; rw [if_pos h], ?_, fun _ => rfl, fun h3 => absurd h h3⟩
    exact nI_eq (b := 0) hq (by decide)
  · have h3 : x.toInt < 0 := by
      rw [Int32.le_iff_toInt_le] at h
      have : (0 : Int32).toInt = 0 := rfl
      omega
    have e : (-x).toInt = -x.toInt := by
      rw [Int32.toInt_neg]
      exact Int.bmod_eq_of_le (by omega) (by omega)
    have h4 : ¬ -x < 0 := by
      rw [Int32.lt_iff_toInt_lt, e]
      have : (0 : Int32).toInt = 0 := rfl
      omega
    obtain ⟨q, hq, hx⟩ := nI_of h4
    have h5 : (nI q).toInt = -x.toInt := by rw [← hx, e]
    rw [nI_toInt hq] at h5
    refine ⟨q, by omega, by unfold mag; rw [if_neg h, hx], ?_, fun h6 => absurd h6 h, fun _ => by rw [← hx, Int32.neg_neg]⟩
    constructor
    · intro h6
      subst h6
      exact absurd (by decide) h
    · intro h6
      omega
theorem sm32 : ∀ s, s < 32 → ((nI s).toBitVec.smod 32).toNat = s := by decide
theorem dig_nI {q j : Nat} (hq : q < 2 ^ 31) (hj : j < 32) : (nI q >>> (nI j &&& 31)) &&& (1 : Int32) = nI (q / 2 ^ j % 2) := by
  rw [pk_andN (m := 31) (by omega) 5 (by decide), Nat.mod_eq_of_lt (by omega), pk_shrN hq _ j (sm32 j hj), pk_andN (by have := Nat.div_le_self q (2 ^ j); omega) 1 (by decide)]
set_option maxHeartbeats 4000000 in
/-- a level of at most 11 digits -/
theorem ok_level {start B : Nat} {s0 : Nat → Int32} {mb mh ml mp x nz : Int32} {ct st by1 on ze : Nat → Int32} {cb ch cl cp : Int32} {cx : Nat} (hs : start + 2048 ≤ 20000) (h : WR start B s0 mb mh ml mp ct st cb ch cl cp by1 on ze) (hB : B + 121 < 16384) (hcx : cx < 20) (hx1 : -2047 ≤ x.toInt) (hx2 : x.toInt ≤ 2047) (hnz : nz = if x = 0 then 0 else 1) :
    Ok2 ((lf_X9_put mb mh ml mp (nI start) ct st (nI cx) nz).bind (mLev1 (nI start) x (dgI (mag x)) (mag x))) (lf_X8_codeLevel_X2 cb ch cl cp by1 on ze x (nI cx)) (fun m k => k.1 = x ∧ WRt start (B + 111) s0 m k.2) := by
  obtain ⟨q, hq, hmag, hq0, hpos, hneg⟩ := mag_bd (W := 2047) (by decide) hx1 hx2
  rw [hmag]
  unfold lf_X8_codeLevel_X2
  refine Ok2.rjn (fun s => s = nz) (fun k hk => ?_) ?_
  · by_cases h0 : x = 0
    · exact Ok2.rpos h0 (hk _ (by rw [hnz, if_pos h0]))
    · exact Ok2.rneg h0 (hk _ (by rw [hnz, if_neg h0]))
  rintro s rfl
  by_cases h0 : x = 0
  · rw [if_pos h0] at hnz
    subst hnz
    refine Ok2.bind _ (ok_put (v := 0) hs h (by omega) (by decide) (Or.inl ⟨cx, hcx, rfl, rfl⟩)) ?_
    rintro ⟨m1, m2, m3, m4, m5, m6⟩ ⟨k0, k1, k2, k3, k4, k5, k6, k7⟩ ⟨hk0, hw⟩
    dsimp only at hk0 hw ⊢
    subst hk0
    unfold mLev1
    refine Ok2.lpos h0 (Ok2.rpos rfl (Ok2.some ⟨h0.symm, WR_mono hw (by omega)⟩))
  · rw [if_neg h0] at hnz
    subst hnz
    have hq1 : 0 < q := by
      rcases Nat.eq_zero_or_pos q with h1 | h1
      · exact absurd (hq0.mpr h1) h0
      · exact h1
    obtain ⟨g1, g2⟩ := dgF_bd 31 q (by omega)
    obtain ⟨g2, g3⟩ := g2 hq1
    have hd11 : dgF 31 q ≤ 11 := by
      rcases Nat.lt_or_ge (dgF 31 q) 12 with h1 | h1
      · omega
      · have := Nat.pow_le_pow_right (n := 2) (by decide) (show 11 ≤ dgF 31 q - 1 by omega)
        omega
    rw [dgI_nI (by omega)]
    generalize hd : dgF 31 q = d at g1 g2 g3 hd11
    refine Ok2.bind _ (ok_put (v := 1) hs h (by omega) (by decide) (Or.inl ⟨cx, hcx, rfl, rfl⟩)) ?_
    rintro ⟨m1, m2, m3, m4, m5, m6⟩ ⟨k0, k1, k2, k3, k4, k5, k6, k7⟩ ⟨hk0, hw⟩
    dsimp only at hk0 hw ⊢
    subst hk0
    unfold mLev1
    refine Ok2.lneg h0 (Ok2.rneg (by decide) ?_)
    -- the sign
    refine Ok2.ljn (fun s => s = nI (if 0 ≤ x then 0 else 1)) (fun k hk => ?_) ?_
    · by_cases hp : 0 ≤ x
      · exact Ok2.lpos hp (hk _ (by rw [if_pos hp]; rfl))
      · exact Ok2.lneg hp (hk _ (by rw [if_neg hp]; rfl))
    rintro s rfl
    refine Ok2.rjn (fun s => s = nI (if 0 ≤ x then 0 else 1)) (fun k hk => ?_) ?_
    · by_cases hp : 0 ≤ x
      · exact Ok2.rpos hp (hk _ (by rw [if_pos hp]; rfl))
      · exact Ok2.rneg hp (hk _ (by rw [if_neg hp]; rfl))
    rintro s rfl
    refine Ok2.bind _ (ok_put (v := if 0 ≤ x then 0 else 1) (x := 8) hs hw (by omega) (by split <;> decide) (Or.inl ⟨8, by decide, rfl, rfl⟩)) ?_
    rintro ⟨m1, m2, m3, m4, m5, m6⟩ ⟨k0, k1, k2, k3, k4, k5, k6, k7⟩ ⟨hk0, hw⟩
    dsimp only at hk0 hw ⊢
    subst hk0
    refine Ok2.rjn (fun s => s = nI q) (fun k hk => ?_) ?_
    · by_cases hp : 0 ≤ x
      · exact Ok2.rpos hp (hk _ (hpos hp))
      · refine Ok2.rneg hp (hk _ ?_)
        rw [hneg hp, Int32.neg_neg]
    rintro s rfl
    refine Ok2.rE _ (eq_X8_digitsOf _) ?_
    rw [dgI_nI (by omega), hd]
    -- the digits' number
    refine Ok2.bind (fun o47 o22 => o22.1 = nI d ∧ WRt start (B + 14 + 7 * d) s0 o47 o22.2) (Ok2.runs 20 (by decide) (fun y c => c.1 = nI d ∧ y.1 = nI (d + 1) ∧ WRt start (B + 14 + 7 * d) s0 y.2 c.2) (fun G X hG hX => ?_) ?_) ?_
    · refine Ok.fix (fun k z => k < d ∧ z.1 = nI (k + 1) ∧ ∃ y, Runs G X y k ∧ y.1 = nI (k + 1) ∧ WRt start (B + 14 + 7 * k) s0 y.2 z.2) (d - 1) (by omega) ⟨g2, rfl, X, Runs.rf, by rw [hX]; rfl, by rw [hX]; exact hw⟩ ?_
      rintro k ⟨x14, v15, v16, v17, v18, g19, g20, g21⟩ self hk ⟨hkd, h1, ⟨y1, y2, y3, y4, y5, y6, y7⟩, hr, h2, hw2⟩ K
      dsimp only at h1 h2 hw2 ⊢
      subst h1 h2
      refine Ok.neg (by simp (disch := omega) only [lI0, lI1, lI2, lI3, lI4, lI5, lI7, lI8, lI9, lI10, lI11, lI12, lI15, lI16, lI17, lI20, lI24, lI32, lI33, lI40, lI63, lI64, lI80, lI82, lI101, lI110, lI115, lI251, lI255, lI256, lI384, lI16384, lI20000, lI32768, lI49152, lI65535, nI_add, pk_mul, pk_sub, pk_div, nI_leI, nI_ltI, nI_eq] <;> omega) ?_
      by_cases hlast : d ≤ k + 1
      · obtain ⟨m2, c2, em, ec, hk0, hw3⟩ := ok_put (v := 0) (x := (8 : Int32) + nI (k + 1)) hs hw2 (by omega) (by decide) (Or.inl ⟨8 + (k + 1), by omega, nI_add 8 (k + 1), rfl⟩)
        refine Ok.jnR (fun s => s = nI 0) (fun k2 hk2 => Ok.pos (by simp (disch := omega) only [lI0, lI1, lI2, lI3, lI4, lI5, lI7, lI8, lI9, lI10, lI11, lI12, lI15, lI16, lI17, lI20, lI24, lI32, lI33, lI40, lI63, lI64, lI80, lI82, lI101, lI110, lI115, lI251, lI255, lI256, lI384, lI16384, lI20000, lI32768, lI49152, lI65535, nI_add, pk_mul, pk_sub, pk_div, nI_leI, nI_ltI, nI_eq] <;> omega) (hk2 _ rfl)) ?_
        rintro s rfl
        refine Ok.bindE _ ec ?_
        rw [hk0]
        refine Ok.neg (by decide) (Ok.some ⟨(nI (d + 1), m2), k + 1, by omega, Runs.snoc hr (fun self2 => ?_), ?_, rfl, ?_⟩)
        · rw [hG]
          dsimp only [jn, bnd]
          rw [if_neg (by simp (disch := omega) only [lI0, lI1, lI2, lI3, lI4, lI5, lI7, lI8, lI9, lI10, lI11, lI12, lI15, lI16, lI17, lI20, lI24, lI32, lI33, lI40, lI63, lI64, lI80, lI82, lI101, lI110, lI115, lI251, lI255, lI256, lI384, lI16384, lI20000, lI32768, lI49152, lI65535, nI_add, pk_mul, pk_sub, pk_div, nI_leI, nI_ltI, nI_eq] <;> omega), if_neg (by simp (disch := omega) only [lI0, lI1, lI2, lI3, lI4, lI5, lI7, lI8, lI9, lI10, lI11, lI12, lI15, lI16, lI17, lI20, lI24, lI32, lI33, lI40, lI63, lI64, lI80, lI82, lI101, lI110, lI115, lI251, lI255, lI256, lI384, lI16384, lI20000, lI32768, lI49152, lI65535, nI_add, pk_mul, pk_sub, pk_div, nI_leI, nI_ltI, nI_eq] <;> omega), if_pos (by simp (disch := omega) only [lI0, lI1, lI2, lI3, lI4, lI5, lI7, lI8, lI9, lI10, lI11, lI12, lI15, lI16, lI17, lI20, lI24, lI32, lI33, lI40, lI63, lI64, lI80, lI82, lI101, lI110, lI115, lI251, lI255, lI256, lI384, lI16384, lI20000, lI32768, lI49152, lI65535, nI_add, pk_mul, pk_sub, pk_div, nI_leI, nI_ltI, nI_eq] <;> omega), show (0 : Int32) = nI 0 from rfl, em]
          show self2 (nI (k + 1) + 1, _) = _
          rw [nI_1, show k + 1 + 1 = d + 1 from by omega]
        · exact congrArg nI (by omega)
        · rw [show d = k + 1 from by omega]
          exact hw3
      · obtain ⟨m2, c2, em, ec, hk0, hw3⟩ := ok_put (v := 1) (x := (8 : Int32) + nI (k + 1)) hs hw2 (by omega) (by decide) (Or.inl ⟨8 + (k + 1), by omega, nI_add 8 (k + 1), rfl⟩)
        refine Ok.jnR (fun s => s = nI 1) (fun k2 hk2 => Ok.neg (by simp (disch := omega) only [lI0, lI1, lI2, lI3, lI4, lI5, lI7, lI8, lI9, lI10, lI11, lI12, lI15, lI16, lI17, lI20, lI24, lI32, lI33, lI40, lI63, lI64, lI80, lI82, lI101, lI110, lI115, lI251, lI255, lI256, lI384, lI16384, lI20000, lI32768, lI49152, lI65535, nI_add, pk_mul, pk_sub, pk_div, nI_leI, nI_ltI, nI_eq] <;> omega) (hk2 _ rfl)) ?_
        rintro s rfl
        refine Ok.bindE _ ec ?_
        rw [hk0]
        refine Ok.pos rfl (Ok.bnd (K _ (by omega) ⟨by omega, (by first | (simp (disch := omega) only [lI0, lI1, lI2, lI3, lI4, lI5, lI7, lI8, lI9, lI10, lI11, lI12, lI15, lI16, lI17, lI20, lI24, lI32, lI33, lI40, lI63, lI64, lI80, lI82, lI101, lI110, lI115, lI251, lI255, lI256, lI384, lI16384, lI20000, lI32768, lI49152, lI65535, nI_add, pk_mul, pk_sub, pk_div] <;> (apply congrArg nI; omega)) | rfl), (nI (k + 1 + 1), m2), Runs.snoc hr (fun self2 => ?_), rfl, hw3⟩))
        rw [hG]
        dsimp only [jn, bnd]
        rw [if_neg (by simp (disch := omega) only [lI0, lI1, lI2, lI3, lI4, lI5, lI7, lI8, lI9, lI10, lI11, lI12, lI15, lI16, lI17, lI20, lI24, lI32, lI33, lI40, lI63, lI64, lI80, lI82, lI101, lI110, lI115, lI251, lI255, lI256, lI384, lI16384, lI20000, lI32768, lI49152, lI65535, nI_add, pk_mul, pk_sub, pk_div, nI_leI, nI_ltI, nI_eq] <;> omega), if_neg (by simp (disch := omega) only [lI0, lI1, lI2, lI3, lI4, lI5, lI7, lI8, lI9, lI10, lI11, lI12, lI15, lI16, lI17, lI20, lI24, lI32, lI33, lI40, lI63, lI64, lI80, lI82, lI101, lI110, lI115, lI251, lI255, lI256, lI384, lI16384, lI20000, lI32768, lI49152, lI65535, nI_add, pk_mul, pk_sub, pk_div, nI_leI, nI_ltI, nI_eq] <;> omega), if_neg (by simp (disch := omega) only [lI0, lI1, lI2, lI3, lI4, lI5, lI7, lI8, lI9, lI10, lI11, lI12, lI15, lI16, lI17, lI20, lI24, lI32, lI33, lI40, lI63, lI64, lI80, lI82, lI101, lI110, lI115, lI251, lI255, lI256, lI384, lI16384, lI20000, lI32768, lI49152, lI65535, nI_add, pk_mul, pk_sub, pk_div, nI_leI, nI_ltI, nI_eq] <;> omega), show (1 : Int32) = nI 1 from rfl, em]
        show self2 (nI (k + 1) + nI 1, _) = _
        rw [nI_add]
    · rintro ⟨y1, y2⟩ c ⟨h1, h2, h3⟩
      dsimp only at h2 h3
      subst h2
      exact ⟨y2, fun self => if_pos (by simp (disch := omega) only [lI0, lI1, lI2, lI3, lI4, lI5, lI7, lI8, lI9, lI10, lI11, lI12, lI15, lI16, lI17, lI20, lI24, lI32, lI33, lI40, lI63, lI64, lI80, lI82, lI101, lI110, lI115, lI251, lI255, lI256, lI384, lI16384, lI20000, lI32768, lI49152, lI65535, nI_add, pk_mul, pk_sub, pk_div, nI_leI, nI_ltI, nI_eq] <;> omega), h1, h3⟩
    -- the digits
    rintro ⟨m1, m2, m3, m4, m5, m6⟩ ⟨k0, k1, k2, k3, k4, k5, k6, k7⟩ ⟨hk0, hw⟩
    dsimp only at hk0 hw ⊢
    subst hk0
    refine Ok2.lbnd (Ok2.rbnd ?_)
    have hix : nI d - (2 : Int32) = ix (d - 1) := by
      unfold ix
      by_cases h1 : d - 1 = 0
      · rw [if_pos h1, show d = 1 from by omega]
        decide
      · rw [if_neg h1]
        (first | (simp (disch := omega) only [lI0, lI1, lI2, lI3, lI4, lI5, lI7, lI8, lI9, lI10, lI11, lI12, lI15, lI16, lI17, lI20, lI24, lI32, lI33, lI40, lI63, lI64, lI80, lI82, lI101, lI110, lI115, lI251, lI255, lI256, lI384, lI16384, lI20000, lI32768, lI49152, lI65535, nI_add, pk_mul, pk_sub, pk_div] <;> (apply congrArg nI; omega)) | rfl)
    rw [hix]
    refine Ok2.bind (fun o63 o40 => o40.1 = nI q ∧ WRt start (B + 111) s0 o63 o40.2) (Ok2.fix (fun k x y => x.1 = ix (d - 1 - k) ∧ y.2.1 = ix (d - 1 - k) ∧ y.1 = nI (q / 2 ^ (d - 1 - k)) ∧ WRt start (B + 14 + 7 * d + 2 * k) s0 x.2 y.2.2) (d - 1) (by omega) ⟨rfl, rfl, ?_, hw⟩ ?_) ?_
    · show nI 1 = _
      refine congrArg nI ?_
      rw [Nat.sub_zero]
      have : 2 ^ d = 2 ^ (d - 1) * 2 := by
        rw [← Nat.pow_succ]
        exact congrArg _ (by omega)
      refine (Nat.div_eq_of_lt_le (by omega) ?_).symm
      omega
    · rintro k ⟨x56, v57, v58, v59, v60, g61, g62⟩ ⟨x31, x32, w33, w34, w35, w36, g37, g38, g39⟩ s1 s2 hk ⟨h1, h2, h3, hw2⟩ K
      dsimp only at h1 h2 h3 hw2 ⊢
      subst h1 h2 h3
      by_cases hc : k < d - 1
      · obtain ⟨i, hi⟩ : ∃ i, d - 1 - k = i + 1 := ⟨d - 1 - k - 1, by omega⟩
        rw [hi]
        have hii : ix (i + 1) = nI i := rfl
        rw [hii]
        refine Ok2.lneg (nI_pos (by omega)) (Ok2.rneg (nI_pos (by omega)) ?_)
        rw [dig_nI (by omega) (by omega)]
        refine Ok2.bind _ (ok_put (v := q / 2 ^ i % 2) (x := -1) hs hw2 (by omega) (Nat.mod_lt _ (by decide)) (Or.inr ⟨rfl, rfl⟩)) ?_
        rintro ⟨m1, m2, m3, m4, m5, m6⟩ ⟨k0, k1, k2, k3, k4, k5, k6, k7⟩ ⟨hk0, hw3⟩
        dsimp only at hk0 hw3 ⊢
        subst hk0
        refine Ok2.lbnd (Ok2.rbnd (Ok2.rbnd (K _ _ hc ⟨?_, ?_, ?_, hw3⟩)))
        · dsimp only
          rw [show d - 1 - (k + 1) = i from by omega]
          exact ix_s i
        · dsimp only
          rw [show d - 1 - (k + 1) = i from by omega]
          exact ix_s i
        · dsimp only
          rw [show d - 1 - (k + 1) = i from by omega, show (2 : Int32) = nI 2 from rfl, pk_mul, nI_add]
          refine congrArg nI ?_
          rw [Nat.pow_succ, ← Nat.div_div_eq_div_mul]
          omega
      · have hk2 : d - 1 - k = 0 := by omega
        rw [hk2]
        refine Ok2.lpos (by decide) (Ok2.rpos (by decide) (Ok2.some ⟨?_, WR_mono hw2 (by omega)⟩))
        dsimp only
        rw [Nat.pow_zero, Nat.div_one]
    · rintro ⟨m1, m2, m3, m4, m5, m6⟩ ⟨k0, k1, k2, k3, k4, k5, k6, k7⟩ ⟨hk0, hw⟩
      dsimp only at hk0 hw ⊢
      subst hk0
      by_cases hp : 0 ≤ x
      · rw [if_pos hp]
        exact Ok2.rneg (by decide) (Ok2.some ⟨(hpos hp).symm, hw⟩)
      · rw [if_neg hp]
        exact Ok2.rpos rfl (Ok2.some ⟨(hneg hp).symm, hw⟩)
