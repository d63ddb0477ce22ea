/-! ===== the transform of a block ===== -/
theorem rc_inj {S r c i k : Nat} (hc : c < S) (hk : k < S) (h : S * r + c = S * i + k) : r = i ∧ c = k := by
  have h1 : (S * r + c) / S = r := by rw [Nat.mul_add_div (by omega), Nat.div_eq_of_lt hc, Nat.add_zero]
  have h2 : (S * i + k) / S = i := by rw [Nat.mul_add_div (by omega), Nat.div_eq_of_lt hk, Nat.add_zero]
  have h3 : r = i := by rw [← h1, ← h2, h]
  subst h3
  exact ⟨rfl, by omega⟩
theorem rc_lt {S n r c : Nat} (hS : n ≤ S) (h8 : S ≤ 8) (hr : r < n) (hc : c < n) : S * r + c < 64 := by
  have h1 : S * r ≤ S * (S - 1) := Nat.mul_le_mul_left S (by omega)
  have h2 : S * (S - 1) + S = S * S := by
    have h3 : S = (S - 1) + 1 := by omega
    generalize S - 1 = q at h3
    subst h3
    rw [Nat.mul_succ]
  have h4 : S * S ≤ 8 * 8 := Nat.mul_le_mul h8 h8
  omega
def opOk (op : Nat → (Nat → Int32) → Nat → Int32) : Prop := ∀ h v w c, c < 2 * h → (∀ k, k < 2 * h → v k = w k) → op h v c = op h w c
theorem spv_ok : opOk spv := by
  intro h v w c hc hv
  unfold spv
  by_cases h1 : c < h
  · rw [if_pos h1, if_pos h1, hv (2 * c) (by omega), hv (2 * c + 1) (by omega)]
  · rw [if_neg h1, if_neg h1, hv (2 * (c - h)) (by omega), hv (2 * (c - h) + 1) (by omega)]
theorem jnv_ok : opOk jnv := by
  intro h v w c hc hv
  unfold jnv
  rw [hv (c / 2) (by omega), hv (h + c / 2) (by omega)]
def rowT (op : Nat → (Nat → Int32) → Nat → Int32) (h : Nat) (M : Nat → Nat → Int32) (r c : Nat) : Int32 := if r < 2 * h ∧ c < 2 * h then op h (M r) c else M r c
def colT (op : Nat → (Nat → Int32) → Nat → Int32) (h : Nat) (M : Nat → Nat → Int32) (r c : Nat) : Int32 := if r < 2 * h ∧ c < 2 * h then op h (fun k => M k c) r else M r c
/-- the cells g, S apart, hold the picture M of n by n -/
def agr (S n : Nat) (g : Nat → Int32) (M : Nat → Nat → Int32) : Prop := ∀ r c, r < n → c < n → g (S * r + c) = M r c
def rowI (op : Nat → (Nat → Int32) → Nat → Int32) (h : Nat) (M : Nat → Nat → Int32) (i r c : Nat) : Int32 := if r < i ∧ c < 2 * h then op h (M r) c else M r c
def colI (op : Nat → (Nat → Int32) → Nat → Int32) (h : Nat) (M : Nat → Nat → Int32) (i r c : Nat) : Int32 := if r < 2 * h ∧ c < i then op h (fun k => M k c) r else M r c
theorem row_step {op : Nat → (Nat → Int32) → Nat → Int32} (ho : opOk op) {S n h i : Nat} {M : Nat → Nat → Int32} {g g1 : Nat → Int32} (hS : n ≤ S) (hh : 2 * h ≤ n) (hi : i < 2 * h) (hI : agr S n g (rowI op h M i))
    (hl : lnP (2 * h) (S * i) 1 (op h (fun k => g (S * i + k * 1))) g g1) : agr S n g1 (rowI op h M (i + 1)) := by
  intro r c hr hc
  unfold rowI
  by_cases h1 : r = i ∧ c < 2 * h
  · obtain ⟨rfl, h2⟩ := h1
    rw [if_pos ⟨by omega, h2⟩]
    have h3 := hl.1 c h2
    rw [show S * r + c * 1 = S * r + c from by omega] at h3
    rw [h3]
    refine ho _ _ _ _ h2 (fun k hk => ?_)
    have h4 := hI r k hr (by omega)
    unfold rowI at h4
    rw [if_neg (by omega)] at h4
    rw [show S * r + k * 1 = S * r + k from by omega]
    exact h4
  · rw [hl.2 _ (fun k hk h2 => ?_)]
    · have h4 := hI r c hr hc
      unfold rowI at h4
      rw [h4]
      by_cases h5 : r < i ∧ c < 2 * h
      · rw [if_pos h5, if_pos ⟨by omega, h5.2⟩]
      · rw [if_neg h5, if_neg (by omega)]
    · have h3 := rc_inj (S := S) (r := r) (c := c) (i := i) (k := k) (by omega) (by omega) (by omega)
      exact h1 ⟨h3.1, by omega⟩
theorem col_step {op : Nat → (Nat → Int32) → Nat → Int32} (ho : opOk op) {S n h i : Nat} {M : Nat → Nat → Int32} {g g1 : Nat → Int32} (hS : n ≤ S) (hh : 2 * h ≤ n) (hi : i < 2 * h) (hI : agr S n g (colI op h M i))
    (hl : lnP (2 * h) i S (op h (fun k => g (i + k * S))) g g1) : agr S n g1 (colI op h M (i + 1)) := by
  intro r c hr hc
  unfold colI
  by_cases h1 : c = i ∧ r < 2 * h
  · obtain ⟨rfl, h2⟩ := h1
    rw [if_pos ⟨h2, by omega⟩]
    have h3 := hl.1 r h2
    rw [show c + r * S = S * r + c from by rw [Nat.mul_comm r S, Nat.add_comm]] at h3
    rw [h3]
    refine ho _ _ _ _ h2 (fun k hk => ?_)
    have h4 := hI k c (by omega) hc
    unfold colI at h4
    rw [if_neg (by omega)] at h4
    rw [show c + k * S = S * k + c from by rw [Nat.mul_comm k S, Nat.add_comm]]
    exact h4
  · rw [hl.2 _ (fun k hk h2 => ?_)]
    · have h4 := hI r c hr hc
      unfold colI at h4
      rw [h4]
      by_cases h5 : r < 2 * h ∧ c < i
      · rw [if_pos h5, if_pos ⟨h5.1, by omega⟩]
      · rw [if_neg h5, if_neg (by omega)]
    · have h3 := rc_inj (S := S) (r := r) (c := c) (i := k) (k := i) (by omega) (by omega) (by rw [h2, Nat.mul_comm k S, Nat.add_comm])
      exact h1 ⟨h3.2, by omega⟩
theorem row_0 {op : Nat → (Nat → Int32) → Nat → Int32} {S n h : Nat} {M : Nat → Nat → Int32} {g : Nat → Int32} (hI : agr S n g M) : agr S n g (rowI op h M 0) := by
  intro r c hr hc
  unfold rowI
  rw [if_neg (by omega)]
  exact hI r c hr hc
theorem col_0 {op : Nat → (Nat → Int32) → Nat → Int32} {S n h : Nat} {M : Nat → Nat → Int32} {g : Nat → Int32} (hI : agr S n g M) : agr S n g (colI op h M 0) := by
  intro r c hr hc
  unfold colI
  rw [if_neg (by omega)]
  exact hI r c hr hc
def spK (K : Nat) : Nat → (Nat → Nat → Int32) → Nat → Nat → Int32
  | 0, M => M
  | k + 1, M => colT spv (2 ^ (K - 1 - k)) (rowT spv (2 ^ (K - 1 - k)) (spK K k M))
def jnK : Nat → (Nat → Nat → Int32) → Nat → Nat → Int32
  | 0, M => M
  | k + 1, M => rowT jnv (2 ^ k) (colT jnv (2 ^ k) (jnK k M))
theorem pw_half {K k : Nat} (hK : K ≤ 3) (hk : k < K) : 2 ^ (K - k) = 2 * 2 ^ (K - 1 - k) ∧ 2 ^ (K - 1 - k) ≤ 4 ∧ 2 * 2 ^ (K - 1 - k) ≤ 2 ^ K ∧ 2 ^ K ≤ 8 ∧ 1 ≤ 2 ^ (K - 1 - k) := by
  have h1 : 2 ^ (K - k) = 2 * 2 ^ (K - 1 - k) := by
    rw [show K - k = (K - 1 - k) + 1 from by omega, Nat.pow_succ, Nat.mul_comm]
  have h2 : 2 ^ (K - 1 - k) ≤ 2 ^ 2 := Nat.pow_le_pow_right (by decide) (by omega)
  have h3 : 2 ^ (K - k) ≤ 2 ^ K := Nat.pow_le_pow_right (by decide) (by omega)
  have h4 : 2 ^ K ≤ 2 ^ 3 := Nat.pow_le_pow_right (by decide) hK
  have h5 : 1 ≤ 2 ^ (K - 1 - k) := Nat.one_le_two_pow
  exact ⟨h1, h2, by omega, h4, h5⟩
theorem pw_up {K k : Nat} (hK : K ≤ 3) (hk : k < K) : 2 ^ (k + 1) = 2 * 2 ^ k ∧ 2 ^ k ≤ 4 ∧ 2 * 2 ^ k ≤ 2 ^ K ∧ 2 ^ K ≤ 8 ∧ 1 ≤ 2 ^ k ∧ 2 ^ (k + 1 + 1) = 2 * 2 ^ k * 2 := by
  have h1 : 2 ^ (k + 1) = 2 * 2 ^ k := by rw [Nat.pow_succ, Nat.mul_comm]
  have h2 : 2 ^ k ≤ 2 ^ 2 := Nat.pow_le_pow_right (by decide) (by omega)
  have h3 : 2 ^ (k + 1) ≤ 2 ^ K := Nat.pow_le_pow_right (by decide) (by omega)
  have h4 : 2 ^ K ≤ 2 ^ 3 := Nat.pow_le_pow_right (by decide) hK
  have h5 : 1 ≤ 2 ^ k := Nat.one_le_two_pow
  exact ⟨h1, h2, by omega, h4, h5, by rw [Nat.pow_succ, h1]⟩
theorem agr_row {op : Nat → (Nat → Int32) → Nat → Int32} {S n h : Nat} {M : Nat → Nat → Int32} {g : Nat → Int32} (hI : agr S n g (rowI op h M (2 * h))) : agr S n g (rowT op h M) := hI
theorem agr_col {op : Nat → (Nat → Int32) → Nat → Int32} {S n h : Nat} {M : Nat → Nat → Int32} {g : Nat → Int32} (hI : agr S n g (colI op h M (2 * h))) : agr S n g (colT op h M) := hI
set_option maxHeartbeats 1000000 in
theorem ok_X7_split {line pl : Nat → Int32} {p0 : Int32} {K : Nat} {M : Nat → Nat → Int32} (e0 : p0 = nI (2 ^ K)) (hK : K ≤ 3) (hM : agr 8 (2 ^ K) pl M) : Ok (lf_X7_split line pl p0) (fun o => agr 8 (2 ^ K) o.2 (spK K K M)) := by
  subst e0
  unfold lf_X7_split
  refine Ok.bind (fun o => agr 8 (2 ^ K) o.2 (spK K K M)) (Ok.fix (fun k z => z.1 = nI (2 ^ (K - k)) ∧ agr 8 (2 ^ K) z.2.2 (spK K k M)) K (by omega) ⟨rfl, hM⟩ ?_) (fun o ho => Ok.some ho)
  rintro k ⟨x1, g2, g3⟩ self hk ⟨rfl, hg⟩ KK
  dsimp only at hg ⊢
  by_cases hc : k < K
  · obtain ⟨w1, w2, w3, w4, w5⟩ := pw_half hK hc
    generalize hq : 2 ^ (K - 1 - k) = h at w1 w2 w3 w5
    rw [w1]
    refine Ok.neg (by simp (disch := omega) only [lI0, lI1, lI2, lI3, lI4, lI5, lI7, lI8, lI9, lI10, lI11, lI12, lI15, lI16, lI17, lI20, lI24, lI32, lI33, lI40, lI63, lI64, lI80, lI82, lI101, lI110, lI115, lI251, lI255, lI256, lI384, lI16384, lI20000, lI32768, lI49152, lI65535, nI_add, pk_mul, pk_sub, pk_div, nI_leI, nI_ltI, nI_eq] <;> omega) ?_
    refine Ok.bind (fun o => agr 8 (2 ^ K) o.2 (rowT spv h (spK K k M))) (Ok.fix (fun i z => z.1 = nI i ∧ agr 8 (2 ^ K) z.2.2 (rowI spv h (spK K k M) i)) (2 * h) (by omega) ⟨rfl, row_0 hg⟩ ?_) ?_
    · rintro i ⟨x6, g7, g8⟩ self2 hi ⟨rfl, hg⟩ K2
      dsimp only at hg ⊢
      by_cases hc2 : i < 2 * h
      · refine Ok.neg (by simp (disch := omega) only [lI0, lI1, lI2, lI3, lI4, lI5, lI7, lI8, lI9, lI10, lI11, lI12, lI15, lI16, lI17, lI20, lI24, lI32, lI33, lI40, lI63, lI64, lI80, lI82, lI101, lI110, lI115, lI251, lI255, lI256, lI384, lI16384, lI20000, lI32768, lI49152, lI65535, nI_add, pk_mul, pk_sub, pk_div, nI_leI, nI_ltI, nI_eq] <;> omega) (Ok.bind _ (ok_X7_splitLine (a := 8 * i) (ap := 1) (h := h) (by first | rfl | (simp (disch := omega) only [lI0, lI1, lI2, lI3, lI4, lI5, lI7, lI8, lI9, lI10, lI11, lI12, lI15, lI16, lI17, lI20, lI24, lI32, lI33, lI40, lI63, lI64, lI80, lI82, lI101, lI110, lI115, lI251, lI255, lI256, lI384, lI16384, lI20000, lI32768, lI49152, lI65535, nI_add, pk_mul, pk_sub, pk_div] <;> (apply congrArg nI; omega))) (by first | rfl | (simp (disch := omega) only [lI0, lI1, lI2, lI3, lI4, lI5, lI7, lI8, lI9, lI10, lI11, lI12, lI15, lI16, lI17, lI20, lI24, lI32, lI33, lI40, lI63, lI64, lI80, lI82, lI101, lI110, lI115, lI251, lI255, lI256, lI384, lI16384, lI20000, lI32768, lI49152, lI65535, nI_add, pk_mul, pk_sub, pk_div] <;> (apply congrArg nI; omega))) (by first | rfl | (simp (disch := omega) only [lI0, lI1, lI2, lI3, lI4, lI5, lI7, lI8, lI9, lI10, lI11, lI12, lI15, lI16, lI17, lI20, lI24, lI32, lI33, lI40, lI63, lI64, lI80, lI82, lI101, lI110, lI115, lI251, lI255, lI256, lI384, lI16384, lI20000, lI32768, lI49152, lI65535, nI_add, pk_mul, pk_sub, pk_div] <;> (apply congrArg nI; omega))) (by decide) w2 (fun q hq => by omega)) (fun o ho => ?_))
        exact Ok.bnd (K2 _ hc2 ⟨(by first | rfl | (simp (disch := omega) only [lI0, lI1, lI2, lI3, lI4, lI5, lI7, lI8, lI9, lI10, lI11, lI12, lI15, lI16, lI17, lI20, lI24, lI32, lI33, lI40, lI63, lI64, lI80, lI82, lI101, lI110, lI115, lI251, lI255, lI256, lI384, lI16384, lI20000, lI32768, lI49152, lI65535, nI_add, pk_mul, pk_sub, pk_div] <;> (apply congrArg nI; omega))), row_step spv_ok (by omega) w3 hc2 hg ho⟩)
      · refine Ok.pos (by simp (disch := omega) only [lI0, lI1, lI2, lI3, lI4, lI5, lI7, lI8, lI9, lI10, lI11, lI12, lI15, lI16, lI17, lI20, lI24, lI32, lI33, lI40, lI63, lI64, lI80, lI82, lI101, lI110, lI115, lI251, lI255, lI256, lI384, lI16384, lI20000, lI32768, lI49152, lI65535, nI_add, pk_mul, pk_sub, pk_div, nI_leI, nI_ltI, nI_eq] <;> omega) (Ok.some ?_)
        have hi2 : i = 2 * h := by omega
        subst hi2
        exact hg
    · intro o9 h9
      refine Ok.bind (fun o => agr 8 (2 ^ K) o.2 (spK K (k + 1) M)) (Ok.fix (fun i z => z.1 = nI i ∧ agr 8 (2 ^ K) z.2.2 (colI spv h (rowT spv h (spK K k M)) i)) (2 * h) (by omega) ⟨rfl, col_0 h9⟩ ?_) ?_
      · rintro i ⟨x6, g7, g8⟩ self2 hi ⟨rfl, hg⟩ K2
        dsimp only at hg ⊢
        by_cases hc2 : i < 2 * h
        · refine Ok.neg (by simp (disch := omega) only [lI0, lI1, lI2, lI3, lI4, lI5, lI7, lI8, lI9, lI10, lI11, lI12, lI15, lI16, lI17, lI20, lI24, lI32, lI33, lI40, lI63, lI64, lI80, lI82, lI101, lI110, lI115, lI251, lI255, lI256, lI384, lI16384, lI20000, lI32768, lI49152, lI65535, nI_add, pk_mul, pk_sub, pk_div, nI_leI, nI_ltI, nI_eq] <;> omega) (Ok.bind _ (ok_X7_splitLine (a := i) (ap := 8) (h := h) rfl (by first | rfl | (simp (disch := omega) only [lI0, lI1, lI2, lI3, lI4, lI5, lI7, lI8, lI9, lI10, lI11, lI12, lI15, lI16, lI17, lI20, lI24, lI32, lI33, lI40, lI63, lI64, lI80, lI82, lI101, lI110, lI115, lI251, lI255, lI256, lI384, lI16384, lI20000, lI32768, lI49152, lI65535, nI_add, pk_mul, pk_sub, pk_div] <;> (apply congrArg nI; omega))) rfl (by decide) w2 (fun q hq => by omega)) (fun o ho => ?_))
          exact Ok.bnd (K2 _ hc2 ⟨(by first | rfl | (simp (disch := omega) only [lI0, lI1, lI2, lI3, lI4, lI5, lI7, lI8, lI9, lI10, lI11, lI12, lI15, lI16, lI17, lI20, lI24, lI32, lI33, lI40, lI63, lI64, lI80, lI82, lI101, lI110, lI115, lI251, lI255, lI256, lI384, lI16384, lI20000, lI32768, lI49152, lI65535, nI_add, pk_mul, pk_sub, pk_div] <;> (apply congrArg nI; omega))), col_step spv_ok (by omega) w3 hc2 hg ho⟩)
        · refine Ok.pos (by simp (disch := omega) only [lI0, lI1, lI2, lI3, lI4, lI5, lI7, lI8, lI9, lI10, lI11, lI12, lI15, lI16, lI17, lI20, lI24, lI32, lI33, lI40, lI63, lI64, lI80, lI82, lI101, lI110, lI115, lI251, lI255, lI256, lI384, lI16384, lI20000, lI32768, lI49152, lI65535, nI_add, pk_mul, pk_sub, pk_div, nI_leI, nI_ltI, nI_eq] <;> omega) (Ok.some ?_)
          have hi2 : i = 2 * h := by omega
          subst hi2
          show agr 8 (2 ^ K) _ (colT spv (2 ^ (K - 1 - k)) (rowT spv (2 ^ (K - 1 - k)) (spK K k M)))
          rw [hq]
          exact hg
      · intro o16 h16
        refine Ok.bnd (KK _ hc ⟨?_, h16⟩)
        dsimp only
        rw [show K - (k + 1) = K - 1 - k from by omega, hq]
        exact (by first | rfl | (simp (disch := omega) only [lI0, lI1, lI2, lI3, lI4, lI5, lI7, lI8, lI9, lI10, lI11, lI12, lI15, lI16, lI17, lI20, lI24, lI32, lI33, lI40, lI63, lI64, lI80, lI82, lI101, lI110, lI115, lI251, lI255, lI256, lI384, lI16384, lI20000, lI32768, lI49152, lI65535, nI_add, pk_mul, pk_sub, pk_div] <;> (apply congrArg nI; omega)))
  · have hk2 : k = K := by omega
    subst hk2
    refine Ok.pos ?_ (Ok.some hg)
    rw [Nat.sub_self]
    decide
set_option maxHeartbeats 1000000 in
theorem ok_X7_join {line pl : Nat → Int32} {p0 : Int32} {K : Nat} {M : Nat → Nat → Int32} (e0 : p0 = nI (2 ^ K)) (hK : K ≤ 3) (hM : agr 8 (2 ^ K) pl M) : Ok (lf_X7_join line pl p0) (fun o => agr 8 (2 ^ K) o.2 (jnK K M)) := by
  subst e0
  unfold lf_X7_join
  refine Ok.bind (fun o => agr 8 (2 ^ K) o.2 (jnK K M)) (Ok.fix (fun k z => z.1 = nI (2 ^ (k + 1)) ∧ agr 8 (2 ^ K) z.2.2 (jnK k M)) K (by omega) ⟨rfl, hM⟩ ?_) (fun o ho => Ok.some ho)
  rintro k ⟨x1, g2, g3⟩ self hk ⟨rfl, hg⟩ KK
  dsimp only at hg ⊢
  by_cases hc : k < K
  · obtain ⟨w1, w2, w3, w4, w5, w6⟩ := pw_up hK hc
    generalize hq : 2 ^ k = h at w1 w2 w3 w5 w6
    rw [w1]
    refine Ok.neg (by simp (disch := omega) only [lI0, lI1, lI2, lI3, lI4, lI5, lI7, lI8, lI9, lI10, lI11, lI12, lI15, lI16, lI17, lI20, lI24, lI32, lI33, lI40, lI63, lI64, lI80, lI82, lI101, lI110, lI115, lI251, lI255, lI256, lI384, lI16384, lI20000, lI32768, lI49152, lI65535, nI_add, pk_mul, pk_sub, pk_div, nI_leI, nI_ltI, nI_eq] <;> omega) ?_
    refine Ok.bind (fun o => agr 8 (2 ^ K) o.2 (colT jnv h (jnK k M))) (Ok.fix (fun i z => z.1 = nI i ∧ agr 8 (2 ^ K) z.2.2 (colI jnv h (jnK k M) i)) (2 * h) (by omega) ⟨rfl, col_0 hg⟩ ?_) ?_
    · rintro i ⟨x6, g7, g8⟩ self2 hi ⟨rfl, hg⟩ K2
      dsimp only at hg ⊢
      by_cases hc2 : i < 2 * h
      · refine Ok.neg (by simp (disch := omega) only [lI0, lI1, lI2, lI3, lI4, lI5, lI7, lI8, lI9, lI10, lI11, lI12, lI15, lI16, lI17, lI20, lI24, lI32, lI33, lI40, lI63, lI64, lI80, lI82, lI101, lI110, lI115, lI251, lI255, lI256, lI384, lI16384, lI20000, lI32768, lI49152, lI65535, nI_add, pk_mul, pk_sub, pk_div, nI_leI, nI_ltI, nI_eq] <;> omega) (Ok.bind _ (ok_X7_joinLine (a := i) (ap := 8) (h := h) rfl (by first | rfl | (simp (disch := omega) only [lI0, lI1, lI2, lI3, lI4, lI5, lI7, lI8, lI9, lI10, lI11, lI12, lI15, lI16, lI17, lI20, lI24, lI32, lI33, lI40, lI63, lI64, lI80, lI82, lI101, lI110, lI115, lI251, lI255, lI256, lI384, lI16384, lI20000, lI32768, lI49152, lI65535, nI_add, pk_mul, pk_sub, pk_div] <;> (apply congrArg nI; omega))) rfl (by decide) w2 (fun q hq => by omega)) (fun o ho => ?_))
        exact Ok.bnd (K2 _ hc2 ⟨(by first | rfl | (simp (disch := omega) only [lI0, lI1, lI2, lI3, lI4, lI5, lI7, lI8, lI9, lI10, lI11, lI12, lI15, lI16, lI17, lI20, lI24, lI32, lI33, lI40, lI63, lI64, lI80, lI82, lI101, lI110, lI115, lI251, lI255, lI256, lI384, lI16384, lI20000, lI32768, lI49152, lI65535, nI_add, pk_mul, pk_sub, pk_div] <;> (apply congrArg nI; omega))), col_step jnv_ok (by omega) w3 hc2 hg ho⟩)
      · refine Ok.pos (by simp (disch := omega) only [lI0, lI1, lI2, lI3, lI4, lI5, lI7, lI8, lI9, lI10, lI11, lI12, lI15, lI16, lI17, lI20, lI24, lI32, lI33, lI40, lI63, lI64, lI80, lI82, lI101, lI110, lI115, lI251, lI255, lI256, lI384, lI16384, lI20000, lI32768, lI49152, lI65535, nI_add, pk_mul, pk_sub, pk_div, nI_leI, nI_ltI, nI_eq] <;> omega) (Ok.some ?_)
        have hi2 : i = 2 * h := by omega
        subst hi2
        exact hg
    · intro o9 h9
      refine Ok.bind (fun o => agr 8 (2 ^ K) o.2 (jnK (k + 1) M)) (Ok.fix (fun i z => z.1 = nI i ∧ agr 8 (2 ^ K) z.2.2 (rowI jnv h (colT jnv h (jnK k M)) i)) (2 * h) (by omega) ⟨rfl, row_0 h9⟩ ?_) ?_
      · rintro i ⟨x6, g7, g8⟩ self2 hi ⟨rfl, hg⟩ K2
        dsimp only at hg ⊢
        by_cases hc2 : i < 2 * h
        · refine Ok.neg (by simp (disch := omega) only [lI0, lI1, lI2, lI3, lI4, lI5, lI7, lI8, lI9, lI10, lI11, lI12, lI15, lI16, lI17, lI20, lI24, lI32, lI33, lI40, lI63, lI64, lI80, lI82, lI101, lI110, lI115, lI251, lI255, lI256, lI384, lI16384, lI20000, lI32768, lI49152, lI65535, nI_add, pk_mul, pk_sub, pk_div, nI_leI, nI_ltI, nI_eq] <;> omega) (Ok.bind _ (ok_X7_joinLine (a := 8 * i) (ap := 1) (h := h) (by first | rfl | (simp (disch := omega) only [lI0, lI1, lI2, lI3, lI4, lI5, lI7, lI8, lI9, lI10, lI11, lI12, lI15, lI16, lI17, lI20, lI24, lI32, lI33, lI40, lI63, lI64, lI80, lI82, lI101, lI110, lI115, lI251, lI255, lI256, lI384, lI16384, lI20000, lI32768, lI49152, lI65535, nI_add, pk_mul, pk_sub, pk_div] <;> (apply congrArg nI; omega))) (by first | rfl | (simp (disch := omega) only [lI0, lI1, lI2, lI3, lI4, lI5, lI7, lI8, lI9, lI10, lI11, lI12, lI15, lI16, lI17, lI20, lI24, lI32, lI33, lI40, lI63, lI64, lI80, lI82, lI101, lI110, lI115, lI251, lI255, lI256, lI384, lI16384, lI20000, lI32768, lI49152, lI65535, nI_add, pk_mul, pk_sub, pk_div] <;> (apply congrArg nI; omega))) (by first | rfl | (simp (disch := omega) only [lI0, lI1, lI2, lI3, lI4, lI5, lI7, lI8, lI9, lI10, lI11, lI12, lI15, lI16, lI17, lI20, lI24, lI32, lI33, lI40, lI63, lI64, lI80, lI82, lI101, lI110, lI115, lI251, lI255, lI256, lI384, lI16384, lI20000, lI32768, lI49152, lI65535, nI_add, pk_mul, pk_sub, pk_div] <;> (apply congrArg nI; omega))) (by decide) w2 (fun q hq => by omega)) (fun o ho => ?_))
          exact Ok.bnd (K2 _ hc2 ⟨(by first | rfl | (simp (disch := omega) only [lI0, lI1, lI2, lI3, lI4, lI5, lI7, lI8, lI9, lI10, lI11, lI12, lI15, lI16, lI17, lI20, lI24, lI32, lI33, lI40, lI63, lI64, lI80, lI82, lI101, lI110, lI115, lI251, lI255, lI256, lI384, lI16384, lI20000, lI32768, lI49152, lI65535, nI_add, pk_mul, pk_sub, pk_div] <;> (apply congrArg nI; omega))), row_step jnv_ok (by omega) w3 hc2 hg ho⟩)
        · refine Ok.pos (by simp (disch := omega) only [lI0, lI1, lI2, lI3, lI4, lI5, lI7, lI8, lI9, lI10, lI11, lI12, lI15, lI16, lI17, lI20, lI24, lI32, lI33, lI40, lI63, lI64, lI80, lI82, lI101, lI110, lI115, lI251, lI255, lI256, lI384, lI16384, lI20000, lI32768, lI49152, lI65535, nI_add, pk_mul, pk_sub, pk_div, nI_leI, nI_ltI, nI_eq] <;> omega) (Ok.some ?_)
          have hi2 : i = 2 * h := by omega
          subst hi2
          show agr 8 (2 ^ K) _ (rowT jnv (2 ^ k) (colT jnv (2 ^ k) (jnK k M)))
          rw [hq]
          exact hg
      · intro o16 h16
        refine Ok.bnd (KK _ hc ⟨?_, h16⟩)
        dsimp only
        rw [w6]
        exact (by first | rfl | (simp (disch := omega) only [lI0, lI1, lI2, lI3, lI4, lI5, lI7, lI8, lI9, lI10, lI11, lI12, lI15, lI16, lI17, lI20, lI24, lI32, lI33, lI40, lI63, lI64, lI80, lI82, lI101, lI110, lI115, lI251, lI255, lI256, lI384, lI16384, lI20000, lI32768, lI49152, lI65535, nI_add, pk_mul, pk_sub, pk_div] <;> (apply congrArg nI; omega)))
  · have hk2 : k = K := by omega
    subst hk2
    have w1 : 2 ^ (k + 1) = 2 * 2 ^ k := by rw [Nat.pow_succ, Nat.mul_comm]
    have w2 : 2 ^ k ≤ 2 ^ 3 := Nat.pow_le_pow_right (by decide) hK
    have w5 : 1 ≤ 2 ^ k := Nat.one_le_two_pow
    rw [w1]
    generalize 2 ^ k = h at w1 w2 w5 hg ⊢
    exact Ok.pos (by simp (disch := omega) only [lI0, lI1, lI2, lI3, lI4, lI5, lI7, lI8, lI9, lI10, lI11, lI12, lI15, lI16, lI17, lI20, lI24, lI32, lI33, lI40, lI63, lI64, lI80, lI82, lI101, lI110, lI115, lI251, lI255, lI256, lI384, lI16384, lI20000, lI32768, lI49152, lI65535, nI_add, pk_mul, pk_sub, pk_div, nI_leI, nI_ltI, nI_eq] <;> omega) (Ok.some hg)
