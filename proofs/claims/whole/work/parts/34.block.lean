/-! ===== digits, blocks ===== -/
def dgF : Nat → Nat → Nat
  | 0, _ => 0
  | f + 1, n => if n = 0 then 0 else dgF f (n / 2) + 1
theorem dgF_s (f n : Nat) : dgF (f + 1) n = if n = 0 then 0 else dgF f (n / 2) + 1 := rfl
theorem dgF_0 : ∀ f, dgF f 0 = 0
  | 0 => rfl
  | f + 1 => by
    unfold dgF
    rw [if_pos rfl]
def dgI (x : Int32) : Int32 := if x < 0 then 0 else nI (dgF 31 x.toNatClampNeg)
theorem dgI_nI {n : Nat} (h : n < 2 ^ 31) : dgI (nI n) = nI (dgF 31 n) := by
  unfold dgI
  rw [if_neg (nI_pos h), nI_clamp h]
theorem eq_X8_digitsOf (x : Int32) : lf_X8_digitsOf x = some (dgI x) := by
  suffices h : Ok (lf_X8_digitsOf x) (fun o => o = dgI x) by
    obtain ⟨o, h1, h2⟩ := h
    rw [h1, h2]
  unfold lf_X8_digitsOf
  by_cases h0 : x < 0
  · refine Ok.bind (fun o => o = dgI x) (Ok.fix (fun k z => z.1 = 0 ∧ z.2 = x) 0 (by omega) ⟨rfl, rfl⟩ ?_) (fun o ho => Ok.some ho)
    rintro k ⟨x1, x2⟩ self hk ⟨h1, h2⟩ K
    dsimp only at h1 h2 ⊢
    subst h1 h2
    refine Ok.pos (Int32.le_of_lt h0) (Ok.some ?_)
    unfold dgI
    rw [if_pos h0]
  · obtain ⟨n, hn, rfl⟩ := nI_of h0
    rw [dgI_nI hn]
    refine Ok.bind (fun o => o = nI (dgF 31 n)) (Ok.fix (fun k z => z.1 = nI k ∧ ∃ m, z.2 = nI m ∧ m < 2 ^ (31 - k) ∧ k + dgF (31 - k) m = dgF 31 n) 31 (by omega) ⟨rfl, n, rfl, hn, Nat.zero_add _⟩ ?_) (fun o ho => Ok.some ho)
    rintro k ⟨x1, x2⟩ self hk ⟨h1, m, h2, h3, h4⟩ K
    dsimp only at h1 h2 ⊢
    subst h1 h2
    have hm : m < 2 ^ 31 := Nat.lt_of_lt_of_le h3 (Nat.pow_le_pow_right (by decide) (by omega))
    by_cases hc : m = 0
    · subst hc
      rw [dgF_0] at h4
      exact Ok.pos (by simp (disch := omega) only [lI0, lI1, lI2, lI3, lI4, lI5, lI7, lI8, lI9, lI10, lI11, lI12, lI15, lI16, lI17, lI20, lI24, lI32, lI33, lI40, lI63, lI64, lI80, lI82, lI101, lI110, lI115, lI251, lI255, lI256, lI384, lI16384, lI20000, lI32768, lI49152, lI65535, nI_add, pk_mul, pk_sub, pk_div, nI_leI, nI_ltI, nI_eq] <;> omega) (Ok.some (by rw [← h4]; rfl))
    · have hk2 : k < 31 := by
        rcases Nat.lt_or_ge k 31 with h | h
        · exact h
        · rw [show 31 - k = 0 from by omega] at h3
          omega
      have e1 : 31 - k = (31 - (k + 1)) + 1 := by omega
      rw [e1] at h3 h4
      rw [Nat.pow_succ] at h3
      rw [dgF_s (31 - (k + 1)) m, if_neg hc] at h4
      exact Ok.neg (by simp (disch := omega) only [lI0, lI1, lI2, lI3, lI4, lI5, lI7, lI8, lI9, lI10, lI11, lI12, lI15, lI16, lI17, lI20, lI24, lI32, lI33, lI40, lI63, lI64, lI80, lI82, lI101, lI110, lI115, lI251, lI255, lI256, lI384, lI16384, lI20000, lI32768, lI49152, lI65535, nI_add, pk_mul, pk_sub, pk_div, nI_leI, nI_ltI, nI_eq] <;> omega) (Ok.bnd (Ok.bnd (K _ hk2 ⟨(by first | rfl | (simp (disch := omega) only [lI0, lI1, lI2, lI3, lI4, lI5, lI7, lI8, lI9, lI10, lI11, lI12, lI15, lI16, lI17, lI20, lI24, lI32, lI33, lI40, lI63, lI64, lI80, lI82, lI101, lI110, lI115, lI251, lI255, lI256, lI384, lI16384, lI20000, lI32768, lI49152, lI65535, nI_add, pk_mul, pk_sub, pk_div] <;> (apply congrArg nI; omega))), m / 2, (by first | rfl | (simp (disch := omega) only [lI0, lI1, lI2, lI3, lI4, lI5, lI7, lI8, lI9, lI10, lI11, lI12, lI15, lI16, lI17, lI20, lI24, lI32, lI33, lI40, lI63, lI64, lI80, lI82, lI101, lI110, lI115, lI251, lI255, lI256, lI384, lI16384, lI20000, lI32768, lI49152, lI65535, nI_add, pk_mul, pk_sub, pk_div] <;> (apply congrArg nI; omega))), by omega, by omega⟩)))
theorem eq_X9_digits (x : Int32) : lf_X9_digits x = some (dgI (mag x)) := by
  suffices h : Ok (lf_X9_digits x) (fun o => o = dgI (mag x)) by
    obtain ⟨o, h1, h2⟩ := h
    rw [h1, h2]
  unfold lf_X9_digits
  refine Ok.jnR (fun s => s = mag x) (fun kk hkk => ?_) (fun s hs => ?_)
  · unfold mag at hkk
    by_cases h0 : 0 ≤ x
    · exact Ok.pos h0 (hkk _ (by rw [if_pos h0]))
    · exact Ok.neg h0 (hkk _ (by rw [if_neg h0]))
  subst hs
  generalize mag x = x
  by_cases h0 : x < 0
  · refine Ok.bind (fun o => o = dgI x) (Ok.fix (fun k z => z.1 = x ∧ z.2 = 0) 0 (by omega) ⟨rfl, rfl⟩ ?_) (fun o ho => Ok.some ho)
    rintro k ⟨x1, x2⟩ self hk ⟨h1, h2⟩ K
    dsimp only at h1 h2 ⊢
    subst h1 h2
    refine Ok.pos (Int32.le_of_lt h0) (Ok.some ?_)
    unfold dgI
    rw [if_pos h0]
  · obtain ⟨n, hn, rfl⟩ := nI_of h0
    rw [dgI_nI hn]
    refine Ok.bind (fun o => o = nI (dgF 31 n)) (Ok.fix (fun k z => z.2 = nI k ∧ ∃ m, z.1 = nI m ∧ m < 2 ^ (31 - k) ∧ k + dgF (31 - k) m = dgF 31 n) 31 (by omega) ⟨rfl, n, rfl, hn, Nat.zero_add _⟩ ?_) (fun o ho => Ok.some ho)
    rintro k ⟨x1, x2⟩ self hk ⟨h1, m, h2, h3, h4⟩ K
    dsimp only at h1 h2 ⊢
    subst h1 h2
    have hm : m < 2 ^ 31 := Nat.lt_of_lt_of_le h3 (Nat.pow_le_pow_right (by decide) (by omega))
    by_cases hc : m = 0
    · subst hc
      rw [dgF_0] at h4
      exact Ok.pos (by simp (disch := omega) only [lI0, lI1, lI2, lI3, lI4, lI5, lI7, lI8, lI9, lI10, lI11, lI12, lI15, lI16, lI17, lI20, lI24, lI32, lI33, lI40, lI63, lI64, lI80, lI82, lI101, lI110, lI115, lI251, lI255, lI256, lI384, lI16384, lI20000, lI32768, lI49152, lI65535, nI_add, pk_mul, pk_sub, pk_div, nI_leI, nI_ltI, nI_eq] <;> omega) (Ok.some (by rw [← h4]; rfl))
    · have hk2 : k < 31 := by
        rcases Nat.lt_or_ge k 31 with h | h
        · exact h
        · rw [show 31 - k = 0 from by omega] at h3
          omega
      have e1 : 31 - k = (31 - (k + 1)) + 1 := by omega
      rw [e1] at h3 h4
      rw [Nat.pow_succ] at h3
      rw [dgF_s (31 - (k + 1)) m, if_neg hc] at h4
      exact Ok.neg (by simp (disch := omega) only [lI0, lI1, lI2, lI3, lI4, lI5, lI7, lI8, lI9, lI10, lI11, lI12, lI15, lI16, lI17, lI20, lI24, lI32, lI33, lI40, lI63, lI64, lI80, lI82, lI101, lI110, lI115, lI251, lI255, lI256, lI384, lI16384, lI20000, lI32768, lI49152, lI65535, nI_add, pk_mul, pk_sub, pk_div, nI_leI, nI_ltI, nI_eq] <;> omega) (Ok.bnd (Ok.bnd (K _ hk2 ⟨(by first | rfl | (simp (disch := omega) only [lI0, lI1, lI2, lI3, lI4, lI5, lI7, lI8, lI9, lI10, lI11, lI12, lI15, lI16, lI17, lI20, lI24, lI32, lI33, lI40, lI63, lI64, lI80, lI82, lI101, lI110, lI115, lI251, lI255, lI256, lI384, lI16384, lI20000, lI32768, lI49152, lI65535, nI_add, pk_mul, pk_sub, pk_div] <;> (apply congrArg nI; omega))), m / 2, (by first | rfl | (simp (disch := omega) only [lI0, lI1, lI2, lI3, lI4, lI5, lI7, lI8, lI9, lI10, lI11, lI12, lI15, lI16, lI17, lI20, lI24, lI32, lI33, lI40, lI63, lI64, lI80, lI82, lI101, lI110, lI115, lI251, lI255, lI256, lI384, lI16384, lI20000, lI32768, lI49152, lI65535, nI_add, pk_mul, pk_sub, pk_div] <;> (apply congrArg nI; omega))), by omega, by omega⟩)))
/-- a picture of n by n, written place by place: so far -/
def dblP (n : Nat) (pos : Nat → Nat → Nat) (w : Nat → Nat → Int32) (i k : Nat) (f g : Nat → Int32) : Prop :=
  (∀ r c, r < n → c < n → (r < i ∨ r = i ∧ c < k) → g (pos r c) = w r c) ∧ ∀ j, (∀ r c, r < n → c < n → (r < i ∨ r = i ∧ c < k) → j ≠ pos r c) → g j = f j
def posInj (n : Nat) (pos : Nat → Nat → Nat) : Prop := ∀ r c i k, r < n → c < n → i < n → k < n → pos r c = pos i k → r = i ∧ c = k
/-- written whole -/
def setP (n : Nat) (pos : Nat → Nat → Nat) (w : Nat → Nat → Int32) (f g : Nat → Int32) : Prop :=
  (∀ r c, r < n → c < n → g (pos r c) = w r c) ∧ ∀ j, (∀ r c, r < n → c < n → j ≠ pos r c) → g j = f j
theorem dbl_0 {n : Nat} {pos : Nat → Nat → Nat} {w : Nat → Nat → Int32} {f : Nat → Int32} : dblP n pos w 0 0 f f := ⟨fun r c _ _ h => absurd h (by omega), fun j _ => rfl⟩
theorem dbl_step {n : Nat} {pos : Nat → Nat → Nat} {w : Nat → Nat → Int32} {i k : Nat} {f g : Nat → Int32} (hp : posInj n pos) (hi : i < n) (hk : k < n) (h : dblP n pos w i k f g) : dblP n pos w i (k + 1) f (upd g (pos i k) (w i k)) := by
  refine ⟨fun r c hr hc h1 => ?_, fun j hj => ?_⟩
  · by_cases h2 : r = i ∧ c = k
    · obtain ⟨rfl, rfl⟩ := h2
      exact upd_eq
    · rw [upd_ne (fun h3 => h2 (hp r c i k hr hc hi hk h3))]
      exact h.1 r c hr hc (by omega)
  · rw [upd_ne (hj i k hi hk (by omega))]
    exact h.2 j (fun r c hr hc h1 => hj r c hr hc (by omega))
theorem dbl_row {n : Nat} {pos : Nat → Nat → Nat} {w : Nat → Nat → Int32} {i : Nat} {f g : Nat → Int32} (h : dblP n pos w i n f g) : dblP n pos w (i + 1) 0 f g :=
  ⟨fun r c hr hc h1 => h.1 r c hr hc (by omega), fun j hj => h.2 j (fun r c hr hc h1 => hj r c hr hc (by omega))⟩
theorem dbl_end {n : Nat} {pos : Nat → Nat → Nat} {w : Nat → Nat → Int32} {f g : Nat → Int32} (h : dblP n pos w n 0 f g) : setP n pos w f g :=
  ⟨fun r c hr hc => h.1 r c hr hc (by omega), fun j hj => h.2 j (fun r c hr hc _ => hj r c hr hc)⟩
theorem dbl_here {n : Nat} {pos : Nat → Nat → Nat} {w : Nat → Nat → Int32} {i k : Nat} {f g : Nat → Int32} (hp : posInj n pos) (hi : i < n) (hk : k < n) (h : dblP n pos w i k f g) : g (pos i k) = f (pos i k) :=
  h.2 _ (fun r c hr hc h1 h2 => by
    have := hp r c i k hr hc hi hk h2.symm
    omega)
def p16 (x y r c : Nat) : Nat := 16 * (y + r) + x + c
def pS (S r c : Nat) : Nat := S * r + c
theorem p16_inj {x y n : Nat} (hx : x + n ≤ 16) : posInj n (p16 x y) := fun r c i k hr hc hi hk h => by
  unfold p16 at h
  omega
theorem pS_inj {S n : Nat} (h8 : n ≤ S) : posInj n (pS S) := fun r c i k hr hc hi hk h => rc_inj (by omega) (by omega) h
theorem setP_agr {S n : Nat} {w : Nat → Nat → Int32} {f g : Nat → Int32} (h : setP n (pS S) w f g) : agr S n g w := fun r c hr hc => h.1 r c hr hc
/-! one block: its mean, mode, levels, cost, result -/
def bMean (K : Nat) (L U : Nat → Int32) : Int32 := mnS (2 ^ K) L U
def bMode (K : Nat) (L U : Nat → Int32) (T : Nat → Nat → Int32) : Nat := bmS (dsS (2 ^ K) (bMean K L U) L U T) 3
def bDif (K : Nat) (L U : Nat → Int32) (T : Nat → Nat → Int32) (r c : Nat) : Int32 := T r c - prS (bMean K L U) L U (bMode K L U T) r c
def bLev (K : Nat) (L U : Nat → Int32) (T : Nat → Nat → Int32) (st : Int32) (r c : Nat) : Int32 := spK K K (bDif K L U T) r c / st
def bDig (K : Nat) (L U : Nat → Int32) (T : Nat → Nat → Int32) (st : Int32) (r c : Nat) : Int32 := 2 * dgI (mag (bLev K L U T st r c))
def bCost (K : Nat) (L U : Nat → Int32) (T : Nat → Nat → Int32) (st : Int32) : Int32 := 4 + sumN (2 ^ K) fun r => sumN (2 ^ K) (bDig K L U T st r)
def bRes (K : Nat) (L U : Nat → Int32) (st : Int32) (m : Nat) (lev : Nat → Nat → Int32) (r c : Nat) : Int32 := jnK K (fun r c => lev r c * st) r c + prS (bMean K L U) L U m r c
theorem bMode_lt {K : Nat} {L U : Nat → Int32} {T : Nat → Nat → Int32} : bMode K L U T < 4 := by
  have := bmS_le (dsS (2 ^ K) (bMean K L U) L U T) 3
  unfold bMode
  omega
theorem mnS_congr {n : Nat} {L U L2 U2 : Nat → Int32} (hL : ∀ i, i < n → L i = L2 i) (hU : ∀ i, i < n → U i = U2 i) : mnS n L U = mnS n L2 U2 := by
  unfold mnS
  rw [sumN_congr (g := fun k => L2 k + U2 k) (fun k hk => by rw [hL k hk, hU k hk])]
/-! the class: where the size, the mode and the cost of a block stand -/
def szN (sizes : Nat → Int32) (x y : Nat) : Nat := if sizes (2 * (y / 8) + x / 8) = 4 then 4 else 8
def cellN (n x y : Nat) : Nat := if n = 4 then 4 * (y / 4) + x / 4 else 8 * (y / 8) + 2 * (x / 8)
theorem eq_X4_sizeAt {sizes : Nat → Int32} {p0 p1 : Int32} {x y : Nat} (e0 : p0 = nI x) (e1 : p1 = nI y) (hx : x < 16) (hy : y < 24) : lf_X4_sizeAt sizes p0 p1 = some (nI (szN sizes x y)) := by
  subst e0 e1
  unfold lf_X4_sizeAt szN
  rw [show nI y / (8 : Int32) * (2 : Int32) + nI x / (8 : Int32) = nI (2 * (y / 8) + x / 8) from (by first | rfl | (simp (disch := omega) only [lI0, lI1, lI2, lI3, lI4, lI5, lI7, lI8, lI9, lI10, lI11, lI12, lI15, lI16, lI17, lI20, lI24, lI32, lI33, lI40, lI63, lI64, lI80, lI82, lI101, lI110, lI115, lI251, lI255, lI256, lI384, lI16384, lI20000, lI32768, lI49152, lI65535, nI_add, pk_mul, pk_sub, pk_div] <;> (apply congrArg nI; omega))), rd_nI (by omega) (by decide)]
  dsimp only [Option.bind]
  by_cases h : sizes (2 * (y / 8) + x / 8) = 4
  · rw [if_pos h, if_pos h]
    rfl
  · rw [if_neg h, if_neg h]
    rfl
theorem eq_X4_setSizeAt {sizes : Nat → Int32} {p0 p1 p2 : Int32} {x y : Nat} (e0 : p0 = nI x) (e1 : p1 = nI y) (hx : x < 16) (hy : y < 24) : lf_X4_setSizeAt sizes p0 p1 p2 = some (upd sizes (2 * (y / 8) + x / 8) p2) := by
  subst e0 e1
  unfold lf_X4_setSizeAt
  rw [show nI y / (8 : Int32) * (2 : Int32) + nI x / (8 : Int32) = nI (2 * (y / 8) + x / 8) from (by first | rfl | (simp (disch := omega) only [lI0, lI1, lI2, lI3, lI4, lI5, lI7, lI8, lI9, lI10, lI11, lI12, lI15, lI16, lI17, lI20, lI24, lI32, lI33, lI40, lI63, lI64, lI80, lI82, lI101, lI110, lI115, lI251, lI255, lI256, lI384, lI16384, lI20000, lI32768, lI49152, lI65535, nI_add, pk_mul, pk_sub, pk_div] <;> (apply congrArg nI; omega))), wr_nI (by omega) (by decide)]
  rfl
theorem szN_or (sizes : Nat → Int32) (x y : Nat) : szN sizes x y = 4 ∨ szN sizes x y = 8 := by
  unfold szN
  split
  · exact Or.inl rfl
  · exact Or.inr rfl
theorem cellN_lt {n x y : Nat} (hx : x < 16) (hy : y < 24) : cellN n x y < 24 := by
  unfold cellN
  split <;> omega
theorem eq_X4_firstCell {sizes : Nat → Int32} {p0 p1 : Int32} {x y : Nat} (e0 : p0 = nI x) (e1 : p1 = nI y) (hx : x < 16) (hy : y < 24) : lf_X4_firstCell sizes p0 p1 = some (nI (cellN (szN sizes x y) x y)) := by
  unfold lf_X4_firstCell
  rw [eq_X4_sizeAt e0 e1 hx hy]
  subst e0 e1
  rcases szN_or sizes x y with h | h
  · rw [h]
    show ((rmO (nI y / 4) (nI 4 / 4)).bind fun x5 => (rmO (nI x / 4) (nI 4 / 4)).bind fun x6 => some ((((nI y / 4) - x5) * (4 : Int32)) + (nI x / 4) - x6)) = _
    unfold rmO
    rw [if_neg (by decide)]
    dsimp only [Option.bind]
    rw [if_neg (by decide)]
    dsimp only [Option.bind]
    refine congrArg some ?_
    rw [show nI y / (4 : Int32) = nI (y / 4) from (by first | rfl | (simp (disch := omega) only [lI0, lI1, lI2, lI3, lI4, lI5, lI7, lI8, lI9, lI10, lI11, lI12, lI15, lI16, lI17, lI20, lI24, lI32, lI33, lI40, lI63, lI64, lI80, lI82, lI101, lI110, lI115, lI251, lI255, lI256, lI384, lI16384, lI20000, lI32768, lI49152, lI65535, nI_add, pk_mul, pk_sub, pk_div] <;> (apply congrArg nI; omega))), show nI x / (4 : Int32) = nI (x / 4) from (by first | rfl | (simp (disch := omega) only [lI0, lI1, lI2, lI3, lI4, lI5, lI7, lI8, lI9, lI10, lI11, lI12, lI15, lI16, lI17, lI20, lI24, lI32, lI33, lI40, lI63, lI64, lI80, lI82, lI101, lI110, lI115, lI251, lI255, lI256, lI384, lI16384, lI20000, lI32768, lI49152, lI65535, nI_add, pk_mul, pk_sub, pk_div] <;> (apply congrArg nI; omega))), show nI 4 / (4 : Int32) = nI 1 from by decide]
    unfold cellN
    rw [if_pos rfl]
    rw [pk_div (by omega) (by decide) (by decide), pk_mul, pk_sub (by omega), pk_div (by omega) (by decide) (by decide), pk_mul, pk_sub (a := x / 4) (by omega)]
    (first | rfl | (simp (disch := omega) only [lI0, lI1, lI2, lI3, lI4, lI5, lI7, lI8, lI9, lI10, lI11, lI12, lI15, lI16, lI17, lI20, lI24, lI32, lI33, lI40, lI63, lI64, lI80, lI82, lI101, lI110, lI115, lI251, lI255, lI256, lI384, lI16384, lI20000, lI32768, lI49152, lI65535, nI_add, pk_mul, pk_sub, pk_div] <;> (apply congrArg nI; omega)))
  · rw [h]
    show ((rmO (nI y / 4) (nI 8 / 4)).bind fun x5 => (rmO (nI x / 4) (nI 8 / 4)).bind fun x6 => some ((((nI y / 4) - x5) * (4 : Int32)) + (nI x / 4) - x6)) = _
    unfold rmO
    rw [if_neg (by decide)]
    dsimp only [Option.bind]
    rw [if_neg (by decide)]
    dsimp only [Option.bind]
    refine congrArg some ?_
    rw [show nI y / (4 : Int32) = nI (y / 4) from (by first | rfl | (simp (disch := omega) only [lI0, lI1, lI2, lI3, lI4, lI5, lI7, lI8, lI9, lI10, lI11, lI12, lI15, lI16, lI17, lI20, lI24, lI32, lI33, lI40, lI63, lI64, lI80, lI82, lI101, lI110, lI115, lI251, lI255, lI256, lI384, lI16384, lI20000, lI32768, lI49152, lI65535, nI_add, pk_mul, pk_sub, pk_div] <;> (apply congrArg nI; omega))), show nI x / (4 : Int32) = nI (x / 4) from (by first | rfl | (simp (disch := omega) only [lI0, lI1, lI2, lI3, lI4, lI5, lI7, lI8, lI9, lI10, lI11, lI12, lI15, lI16, lI17, lI20, lI24, lI32, lI33, lI40, lI63, lI64, lI80, lI82, lI101, lI110, lI115, lI251, lI255, lI256, lI384, lI16384, lI20000, lI32768, lI49152, lI65535, nI_add, pk_mul, pk_sub, pk_div] <;> (apply congrArg nI; omega))), show nI 8 / (4 : Int32) = nI 2 from by decide]
    unfold cellN
    rw [if_neg (by decide)]
    (first | rfl | (simp (disch := omega) only [lI0, lI1, lI2, lI3, lI4, lI5, lI7, lI8, lI9, lI10, lI11, lI12, lI15, lI16, lI17, lI20, lI24, lI32, lI33, lI40, lI63, lI64, lI80, lI82, lI101, lI110, lI115, lI251, lI255, lI256, lI384, lI16384, lI20000, lI32768, lI49152, lI65535, nI_add, pk_mul, pk_sub, pk_div] <;> (apply congrArg nI; omega)))
