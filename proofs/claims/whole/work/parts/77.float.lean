/-! ===== the ratio's numbers: never a NaN ===== -/
theorem fl_asm32 {s : Bool} {e t : Nat} (h : e ≤ 254 ∧ t < 8388608 ∨ e = 255 ∧ t = 0) : FP.Core.assemble FP.Core.b32 s e t < 4294967296 ∧ FP.Core.assemble FP.Core.b32 s e t % 2147483648 ≤ 2139095040 := by
  have h1 : FP.Core.assemble FP.Core.b32 s e t = (s.toNat * 256 + e) * 8388608 + t := rfl
  rw [h1]
  cases s
  · rw [show false.toNat = 0 from rfl]
    omega
  · rw [show true.toNat = 1 from rfl]
    omega
theorem fl_asm64 {s : Bool} {e t : Nat} (h : e ≤ 2046 ∧ t < 4503599627370496 ∨ e = 2047 ∧ t = 0) : FP.Core.assemble FP.Core.b64 s e t < 18446744073709551616 ∧ FP.Core.assemble FP.Core.b64 s e t % 9223372036854775808 ≤ 9218868437227405312 := by
  have h1 : FP.Core.assemble FP.Core.b64 s e t = (s.toNat * 2048 + e) * 4503599627370496 + t := rfl
  rw [h1]
  cases s
  · rw [show false.toNat = 0 from rfl]
    omega
  · rw [show true.toNat = 1 from rfl]
    omega
/-- a datum that is no NaN, and that the format holds -/
def flok (f : FP.Core.Fmt) : FP.Core.Datum → Prop
  | .nan => False
  | .inf _ => True
  | .fin _ c q => c < 2 * f.tails ∧ q ≤ f.qmax
theorem fl_enc32 {d : FP.Core.Datum} (h : flok FP.Core.b32 d) : FP.Core.encode FP.Core.b32 d < 4294967296 ∧ FP.Core.encode FP.Core.b32 d % 2147483648 ≤ 2139095040 := by
  cases d with
  | nan => exact h.elim
  | inf s => exact fl_asm32 (e := 255) (t := 0) (Or.inr ⟨rfl, rfl⟩)
  | fin s c q =>
    obtain ⟨h1, h2⟩ := h
    have h1 : c < 2 * 8388608 := h1
    have h2 : q ≤ 104 := h2
    show (if c < 8388608 then FP.Core.assemble FP.Core.b32 s 0 c else FP.Core.assemble FP.Core.b32 s ((q - (-149)).toNat + 1) (c - 8388608)) < 4294967296 ∧ (if c < 8388608 then FP.Core.assemble FP.Core.b32 s 0 c else FP.Core.assemble FP.Core.b32 s ((q - (-149)).toNat + 1) (c - 8388608)) % 2147483648 ≤ 2139095040
    by_cases g : c < 8388608
    · rw [if_pos g]
      exact fl_asm32 (Or.inl ⟨by omega, g⟩)
    · rw [if_neg g]
      exact fl_asm32 (Or.inl ⟨by omega, by omega⟩)
theorem fl_enc64 {d : FP.Core.Datum} (h : flok FP.Core.b64 d) : FP.Core.encode FP.Core.b64 d < 18446744073709551616 ∧ FP.Core.encode FP.Core.b64 d % 9223372036854775808 ≤ 9218868437227405312 := by
  cases d with
  | nan => exact h.elim
  | inf s => exact fl_asm64 (e := 2047) (t := 0) (Or.inr ⟨rfl, rfl⟩)
  | fin s c q =>
    obtain ⟨h1, h2⟩ := h
    have h1 : c < 2 * 4503599627370496 := h1
    have h2 : q ≤ 971 := h2
    show (if c < 4503599627370496 then FP.Core.assemble FP.Core.b64 s 0 c else FP.Core.assemble FP.Core.b64 s ((q - (-1074)).toNat + 1) (c - 4503599627370496)) < 18446744073709551616 ∧ (if c < 4503599627370496 then FP.Core.assemble FP.Core.b64 s 0 c else FP.Core.assemble FP.Core.b64 s ((q - (-1074)).toNat + 1) (c - 4503599627370496)) % 9223372036854775808 ≤ 9218868437227405312
    by_cases g : c < 4503599627370496
    · rw [if_pos g]
      exact fl_asm64 (Or.inl ⟨by omega, g⟩)
    · rw [if_neg g]
      exact fl_asm64 (Or.inl ⟨by omega, by omega⟩)
theorem fl_bound {f : FP.Core.Fmt} {s : Bool} {c : Nat} {q : Int} (h : c < 2 * f.tails) : flok f (FP.Core.bound f s c q) := by
  unfold FP.Core.bound
  by_cases g : q ≤ f.qmax
  · rw [if_pos g]
    exact ⟨h, g⟩
  · rw [if_neg g]
    trivial
theorem fl_round {f : FP.Core.Fmt} {s : Bool} {n d : Nat} {e : Int} (hp : 2 ^ f.p = 2 * f.tails) (ht : 0 < f.tails) (hq : f.qmin ≤ f.qmax) : flok f (FP.Core.roundRatio f s n d e) := by
  unfold FP.Core.roundRatio
  by_cases g : n = 0
  · rw [if_pos g]
    exact ⟨by omega, hq⟩
  · rw [if_neg g]
    unfold FP.Core.roundAt FP.Core.settle
    generalize FP.Core.nearest _ _ = c
    by_cases g2 : c < 2 ^ f.p
    · rw [if_pos g2]
      exact fl_bound (by omega)
    · rw [if_neg g2]
      exact fl_bound (by omega)
def finB (z : Bool) : FP.Core.Datum → Bool
  | .fin _ c _ => z || c != 0
  | _ => false
def allI (z : Bool) : Nat → Bool
  | 0 => true
  | n + 1 => finB z (FP.Core.decode FP.Core.b32 (FP.Core.i2f (nI (n + 1))).toNat) && allI z n
theorem allI_at {z : Bool} {n k : Nat} (h : allI z n = true) (h1 : 1 ≤ k) (h2 : k ≤ n) : finB z (FP.Core.decode FP.Core.b32 (FP.Core.i2f (nI k)).toNat) = true := by
  induction n with
  | zero => omega
  | succ n ih =>
    have h3 := Bool.and_eq_true_iff.mp (show (finB z (FP.Core.decode FP.Core.b32 (FP.Core.i2f (nI (n + 1))).toNat) && allI z n) = true from h)
    by_cases g : k = n + 1
    · rw [g]
      exact h3.1
    · exact ih h3.2 (by omega)
theorem allI_b : allI false 400 = true := by decide +kernel
theorem fl_dec32 {n : Nat} (h : n % 2147483648 ≤ 2139095040) : FP.Core.decode FP.Core.b32 n ≠ .nan := by
  show (if n / 8388608 % 256 = 255 then (if n % 8388608 = 0 then FP.Core.Datum.inf (FP.Core.fieldS FP.Core.b32 n) else .nan) else if n / 8388608 % 256 = 0 then .fin (FP.Core.fieldS FP.Core.b32 n) (n % 8388608) FP.Core.b32.qmin else .fin (FP.Core.fieldS FP.Core.b32 n) (8388608 + n % 8388608) (FP.Core.b32.qmin + (((n / 8388608 % 256 : Nat) : Int) - 1))) ≠ .nan
  by_cases g : n / 8388608 % 256 = 255
  · rw [if_pos g, if_pos (by omega)]
    intro e
    cases e
  · rw [if_neg g]
    split <;> (intro e; cases e)
theorem fl_i2f (a : Int32) : (FP.Core.i2f a).toNat % 2147483648 ≤ 2139095040 := by
  have h4 := fl_enc32 (d := FP.Core.round FP.Core.b32 (FP.Core.ofInt a.toInt)) (fl_round (n := a.toInt.natAbs) rfl (by decide) (by decide))
  show (UInt32.ofNat (FP.Core.encode FP.Core.b32 (FP.Core.round FP.Core.b32 (FP.Core.ofInt a.toInt)))).toNat % 2147483648 ≤ 2139095040
  rw [UInt32.toNat_ofNat', Nat.mod_eq_of_lt (show _ < 2 ^ 32 from h4.1)]
  exact h4.2
theorem fl_div {a b : Nat} (hb1 : 1 ≤ b) (hb2 : b ≤ 400) : (FP.fdiv (FP.i2f (nI a)) (FP.i2f (nI b))).toNat % 2147483648 ≤ 2139095040 := by
  have h1 := fl_dec32 (fl_i2f (nI a))
  have h2 := allI_at allI_b hb1 hb2
  have h3 : flok FP.Core.b32 (FP.Core.quotient FP.Core.b32 (FP.Core.decode FP.Core.b32 (FP.Core.i2f (nI a)).toNat) (FP.Core.decode FP.Core.b32 (FP.Core.i2f (nI b)).toNat)) := by
    generalize FP.Core.decode FP.Core.b32 (FP.Core.i2f (nI a)).toNat = x at h1 ⊢
    generalize FP.Core.decode FP.Core.b32 (FP.Core.i2f (nI b)).toNat = y at h2 ⊢
    cases y with
    | nan => cases h2
    | inf s => cases h2
    | fin t d r =>
      have hd : d ≠ 0 := by
        intro e
        rw [e] at h2
        cases h2
      cases x with
      | nan => exact absurd rfl h1
      | inf s => trivial
      | fin s c q =>
        show flok FP.Core.b32 (if d = 0 then (if c = 0 then .nan else .inf (s != t)) else FP.Core.roundRatio FP.Core.b32 (s != t) c d (q - r))
        rw [if_neg hd]
        exact fl_round rfl (by decide) (by decide)
  have h4 := fl_enc32 h3
  show (UInt32.ofNat (FP.Core.encode FP.Core.b32 (FP.Core.quotient FP.Core.b32 (FP.Core.decode FP.Core.b32 (FP.Core.i2f (nI a)).toNat) (FP.Core.decode FP.Core.b32 (FP.Core.i2f (nI b)).toNat)))).toNat % 2147483648 ≤ 2139095040
  rw [UInt32.toNat_ofNat', Nat.mod_eq_of_lt (show _ < 2 ^ 32 from h4.1)]
  exact h4.2
theorem vf32_of {r : UInt32} (h : r.toNat % 2147483648 ≤ 2139095040) : vf_n32 r := by
  unfold vf_n32
  rw [UInt32.le_iff_toNat_le, UInt32.toNat_and, show (0x7fffffff : UInt32).toNat = 2 ^ 31 - 1 from rfl, Nat.and_two_pow_sub_one_eq_mod]
  exact h
theorem vf64_of {r : UInt64} (h : r.toNat % 9223372036854775808 ≤ 9218868437227405312) : vf_n64 r := by
  unfold vf_n64
  rw [UInt64.le_iff_toNat_le, UInt64.toNat_and, show (0x7fffffffffffffff : UInt64).toNat = 2 ^ 63 - 1 from rfl, Nat.and_two_pow_sub_one_eq_mod]
  exact h
theorem fl_dec64 {n : Nat} (h : n % 9223372036854775808 ≤ 9218868437227405312) : FP.Core.decode FP.Core.b64 n ≠ .nan := by
  show (if n / 4503599627370496 % 2048 = 2047 then (if n % 4503599627370496 = 0 then FP.Core.Datum.inf (FP.Core.fieldS FP.Core.b64 n) else .nan) else if n / 4503599627370496 % 2048 = 0 then .fin (FP.Core.fieldS FP.Core.b64 n) (n % 4503599627370496) FP.Core.b64.qmin else .fin (FP.Core.fieldS FP.Core.b64 n) (4503599627370496 + n % 4503599627370496) (FP.Core.b64.qmin + (((n / 4503599627370496 % 2048 : Nat) : Int) - 1))) ≠ .nan
  by_cases g : n / 4503599627370496 % 2048 = 2047
  · rw [if_pos g, if_pos (by omega)]
    intro e
    cases e
  · rw [if_neg g]
    split <;> (intro e; cases e)
theorem fl_f2d {r : UInt32} (h : r.toNat % 2147483648 ≤ 2139095040) : (FP.f2d r).toNat % 9223372036854775808 ≤ 9218868437227405312 := by
  have h1 := fl_dec32 h
  have h2 : FP.f2d r = FP.Core.f2d r := by
    unfold FP.f2d
    rw [show FP.Core.fIsNaN r = false from decide_eq_false h1]
    rfl
  rw [h2]
  have h3 : flok FP.Core.b64 (FP.Core.round FP.Core.b64 (FP.Core.decode FP.Core.b32 r.toNat)) := by
    generalize FP.Core.decode FP.Core.b32 r.toNat = x at h1 ⊢
    cases x with
    | nan => exact absurd rfl h1
    | inf s => trivial
    | fin s c q => exact fl_round rfl (by decide) (by decide)
  have h4 := fl_enc64 h3
  show (UInt64.ofNat (FP.Core.encode FP.Core.b64 (FP.Core.round FP.Core.b64 (FP.Core.decode FP.Core.b32 r.toNat)))).toNat % 9223372036854775808 ≤ 9218868437227405312
  rw [UInt64.toNat_ofNat', Nat.mod_eq_of_lt (show _ < 2 ^ 64 from h4.1)]
  exact h4.2
theorem fl_cmp {x : UInt64} (h : x.toNat % 9223372036854775808 ≤ 9218868437227405312) : FP.dcmp x x = some .eq := by
  have h1 := fl_dec64 h
  show FP.Core.order (FP.Core.decode FP.Core.b64 x.toNat) (FP.Core.decode FP.Core.b64 x.toNat) = some .eq
  generalize FP.Core.decode FP.Core.b64 x.toNat = d at h1 ⊢
  have hc : ∀ v : Int, compare v v = .eq := fun v => by simp [compare, compareOfLessAndEq]
  cases d with
  | nan => exact absurd rfl h1
  | inf s => exact congrArg some (hc _)
  | fin s c q => exact congrArg some (hc _)
