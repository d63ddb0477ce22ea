/-! ===== the coder: one bit, written on both sides ===== -/
def vwS (start : Nat) (f : Nat → Int32) : Nat → Int32 := fun j => f (start + j)
theorem or_nI (a b : Nat) : nI a ||| nI b = nI (a ||| b) := by
  refine Int32.toBitVec_inj.mp ?_
  show (Int32.ofNat a ||| Int32.ofNat b).toBitVec = (Int32.ofNat (a ||| b)).toBitVec
  rw [Int32.toBitVec_or, Int32.toBitVec_ofNat', Int32.toBitVec_ofNat', Int32.toBitVec_ofNat', BitVec.ofNat_or]
/-- where a bit goes in its byte -/
def bsh (b : Int32) (k : Nat) : Int32 := b <<< (((7 : Int32) - (nI k - nI k / (8 : Int32) * (8 : Int32))) &&& 31)
theorem sm8 : ∀ s, s < 8 → ((nI s).toBitVec.smod 32).toNat = s := by decide
theorem bsh_nI {v k : Nat} (hv : v < 2) (hk : k < 2 ^ 31) : bsh (nI v) k = nI (v * 2 ^ (7 - k % 8)) := by
  unfold bsh
  rw [show (7 : Int32) - (nI k - nI k / (8 : Int32) * (8 : Int32)) = nI (7 - k % 8) from (by first | rfl | (simp (disch := omega) only [lI0, lI1, lI2, lI3, lI4, lI5, lI7, lI8, lI9, lI10, lI11, lI12, lI15, lI16, lI17, lI20, lI24, lI32, lI33, lI40, lI63, lI64, lI80, lI82, lI101, lI110, lI115, lI251, lI255, lI256, lI384, lI16384, lI20000, lI32768, lI49152, lI65535, nI_add, pk_mul, pk_sub, pk_div] <;> (apply congrArg nI; omega))), pk_andN (m := 31) (by omega) 5 (by decide), Nat.mod_eq_of_lt (by omega)]
  have h1 : 2 ^ (7 - k % 8) ≤ 2 ^ 7 := Nat.pow_le_pow_right (by decide) (by omega)
  refine pk_shlN _ _ (sm8 _ (by omega)) ?_
  have h2 : v = 0 ∨ v = 1 := by omega
  rcases h2 with rfl | rfl <;> omega
/-- one bit more -/
def stp (b : Int32) (s : Nat × (Nat → Int32)) : Nat × (Nat → Int32) := (s.1 + 1, upd s.2 (s.1 / 8) ((if s.1 % 8 = 0 then 0 else s.2 (s.1 / 8)) ||| bsh b s.1))
/-- a bit, and n of the opposite -/
def emN (b : Int32) : Nat → Nat × (Nat → Int32) → Nat × (Nat → Int32)
  | 0, s => stp b s
  | n + 1, s => stp (1 - b) (emN b n s)
theorem emN_1 (b : Int32) (s : Nat × (Nat → Int32)) : ∀ n, (emN b n s).1 = s.1 + 1 + n
  | 0 => rfl
  | n + 1 => by
    show (emN b n s).1 + 1 = _
    rw [emN_1 b s n]
    omega
/-- the same bytes, as far as n bits go -/
def wrel (n : Nat) (f g : Nat → Int32) : Prop := ∀ j, 8 * j < n → f j = g j ∧ ∃ v, v < 256 ∧ f j = nI v
theorem stp_rel {v n : Nat} {f g : Nat → Int32} (hv : v < 2) (hn : n < 2 ^ 31) (h : wrel n f g) : wrel (n + 1) (stp (nI v) (n, f)).2 (stp (nI v) (n, g)).2 := by
  intro j hj
  unfold stp
  dsimp only
  by_cases h1 : j = n / 8
  · subst h1
    rw [upd_eq, upd_eq, bsh_nI hv hn]
    have hp : v * 2 ^ (7 - n % 8) < 2 ^ 8 := by
      have h1 : 2 ^ (7 - n % 8) ≤ 2 ^ 7 := Nat.pow_le_pow_right (by decide) (by omega)
      have h2 : v = 0 ∨ v = 1 := by omega
      rcases h2 with rfl | rfl <;> omega
    by_cases h2 : n % 8 = 0
    · rw [if_pos h2, if_pos h2]
      refine ⟨rfl, _, hp, ?_⟩
      show nI 0 ||| _ = _
      rw [or_nI, Nat.zero_or]
    · rw [if_neg h2, if_neg h2]
      obtain ⟨e, w, hw, e2⟩ := h (n / 8) (by omega)
      rw [← e, e2, or_nI]
      exact ⟨rfl, _, Nat.or_lt_two_pow hw hp, rfl⟩
  · rw [upd_ne h1, upd_ne h1]
    exact h j (by omega)
theorem one_sub {v : Nat} (hv : v < 2) : (1 : Int32) - nI v = nI (1 - v) := (by first | rfl | (simp (disch := omega) only [lI0, lI1, lI2, lI3, lI4, lI5, lI7, lI8, lI9, lI10, lI11, lI12, lI15, lI16, lI17, lI20, lI24, lI32, lI33, lI40, lI63, lI64, lI80, lI82, lI101, lI110, lI115, lI251, lI255, lI256, lI384, lI16384, lI20000, lI32768, lI49152, lI65535, nI_add, pk_mul, pk_sub, pk_div] <;> (apply congrArg nI; omega)))
theorem emN_rel {v n : Nat} {f g : Nat → Int32} (hv : v < 2) (h : wrel n f g) : ∀ k, n + 1 + k < 2 ^ 31 → wrel (n + 1 + k) (emN (nI v) k (n, f)).2 (emN (nI v) k (n, g)).2
  | 0, hn => stp_rel hv (by omega) h
  | k + 1, hn => by
    have h1 := emN_rel hv h k (by omega)
    have e1 := emN_1 (nI v) (n, f) k
    have e2 := emN_1 (nI v) (n, g) k
    show wrel (n + 1 + k + 1) (stp (1 - nI v) (emN (nI v) k (n, f))).2 (stp (1 - nI v) (emN (nI v) k (n, g))).2
    rw [one_sub hv]
    generalize emN (nI v) k (n, f) = s at h1 e1
    generalize emN (nI v) k (n, g) = t at h1 e2
    obtain ⟨s1, s2⟩ := s
    obtain ⟨t1, t2⟩ := t
    dsimp only at h1 e1 e2
    subst e1 e2
    exact stp_rel (by omega) (by omega) h1
theorem ok_X9_write {st : Nat → Int32} {n start : Nat} {b : Int32} (hn : n < 2 ^ 30) (hs : start + n / 8 < 20000) : Ok (lf_X9_write (nI n) (nI start) st b) (fun o => o.1 = nI (n + 1) ∧ vwS start o.2 = (stp b (n, vwS start st)).2 ∧ ∀ j, j < start → o.2 j = st j) := by
  unfold lf_X9_write
  have hat : nI start + nI n / (8 : Int32) = nI (start + n / 8) := (by first | rfl | (simp (disch := omega) only [lI0, lI1, lI2, lI3, lI4, lI5, lI7, lI8, lI9, lI10, lI11, lI12, lI15, lI16, lI17, lI20, lI24, lI32, lI33, lI40, lI63, lI64, lI80, lI82, lI101, lI110, lI115, lI251, lI255, lI256, lI384, lI16384, lI20000, lI32768, lI49152, lI65535, nI_add, pk_mul, pk_sub, pk_div] <;> (apply congrArg nI; omega)))
  rw [hat]
  have hv : ∀ (f : Nat → Int32) (x : Int32), vwS start (upd f (start + n / 8) x) = upd (vwS start f) (n / 8) x := by
    intro f x
    funext j
    unfold vwS upd
    by_cases h : j = n / 8
    · rw [if_pos (by omega), if_pos h]
    · rw [if_neg (by omega), if_neg h]
  refine Ok.jnR (fun g => (n % 8 = 0 ∧ g = upd st (start + n / 8) 0) ∨ (¬ n % 8 = 0 ∧ g = st)) (fun k hk => ?_) (fun g hg => ?_)
  · by_cases h : n % 8 = 0
    · exact Ok.pos (by simp (disch := omega) only [lI0, lI1, lI2, lI3, lI4, lI5, lI7, lI8, lI9, lI10, lI11, lI12, lI15, lI16, lI17, lI20, lI24, lI32, lI33, lI40, lI63, lI64, lI80, lI82, lI101, lI110, lI115, lI251, lI255, lI256, lI384, lI16384, lI20000, lI32768, lI49152, lI65535, nI_add, pk_mul, pk_sub, pk_div, nI_leI, nI_ltI, nI_eq] <;> omega) (Ok.wr _ rfl hs (by decide) (hk _ (Or.inl ⟨h, rfl⟩)))
    · exact Ok.neg (by simp (disch := omega) only [lI0, lI1, lI2, lI3, lI4, lI5, lI7, lI8, lI9, lI10, lI11, lI12, lI15, lI16, lI17, lI20, lI24, lI32, lI33, lI40, lI63, lI64, lI80, lI82, lI101, lI110, lI115, lI251, lI255, lI256, lI384, lI16384, lI20000, lI32768, lI49152, lI65535, nI_add, pk_mul, pk_sub, pk_div, nI_leI, nI_ltI, nI_eq] <;> omega) (hk _ (Or.inr ⟨h, rfl⟩))
  · refine Ok.rd _ rfl hs (by decide) (Ok.wr _ rfl hs (by decide) (Ok.some ⟨(by first | rfl | (simp (disch := omega) only [lI0, lI1, lI2, lI3, lI4, lI5, lI7, lI8, lI9, lI10, lI11, lI12, lI15, lI16, lI17, lI20, lI24, lI32, lI33, lI40, lI63, lI64, lI80, lI82, lI101, lI110, lI115, lI251, lI255, lI256, lI384, lI16384, lI20000, lI32768, lI49152, lI65535, nI_add, pk_mul, pk_sub, pk_div] <;> (apply congrArg nI; omega))), ?_, fun j hj => ?_⟩))
    · dsimp only
      rw [hv]
      unfold stp
      dsimp only
      rcases hg with ⟨h, rfl⟩ | ⟨h, rfl⟩
      · rw [upd_eq, if_pos h, hv]
        funext j
        by_cases h2 : j = n / 8
        · rw [h2, upd_eq, upd_eq]
          rfl
        · rw [upd_ne h2, upd_ne h2, upd_ne h2]
      · rw [if_neg h]
        rfl
    · dsimp only
      rw [upd_ne (by omega)]
      rcases hg with ⟨h, rfl⟩ | ⟨h, rfl⟩
      · rw [upd_ne (by omega)]
      · rfl
theorem ok_X9_writes {st : Nat → Int32} {n p start : Nat} {b : Int32} (hn : n + p < 16384) (hs : start + 2048 ≤ 20000) : Ok (lf_X9_writes (nI n) (nI p) (nI start) st b) (fun o => o.1 = nI (n + 1 + p) ∧ o.2.1 = nI 0 ∧ vwS start o.2.2 = (emN b p (n, vwS start st)).2 ∧ ∀ j, j < start → o.2.2 j = st j) := by
  unfold lf_X9_writes
  refine Ok.bind _ (ok_X9_write (by omega) (by omega)) ?_
  rintro ⟨n1, st1⟩ ⟨h1, h2, h3⟩
  dsimp only at h1 h2 h3 ⊢
  subst h1
  refine Ok.bind (fun o => o.1 = nI (n + 1 + p) ∧ o.2.1 = nI 0 ∧ vwS start o.2.2 = (emN b p (n, vwS start st)).2 ∧ ∀ j, j < start → o.2.2 j = st j) (Ok.fix (fun k z => z.1 = nI (n + 1 + k) ∧ z.2.1 = nI (p - k) ∧ vwS start z.2.2 = (emN b k (n, vwS start st)).2 ∧ ∀ j, j < start → z.2.2 j = st j) p (by omega) ⟨rfl, rfl, h2, h3⟩ ?_) (fun o ho => Ok.some ho)
  rintro k ⟨v2, v3, g4⟩ self hk ⟨h4, h5, h6, h7⟩ K
  dsimp only at h4 h5 h6 h7 ⊢
  subst h4 h5
  by_cases hc : k < p
  · refine Ok.neg (by simp (disch := omega) only [lI0, lI1, lI2, lI3, lI4, lI5, lI7, lI8, lI9, lI10, lI11, lI12, lI15, lI16, lI17, lI20, lI24, lI32, lI33, lI40, lI63, lI64, lI80, lI82, lI101, lI110, lI115, lI251, lI255, lI256, lI384, lI16384, lI20000, lI32768, lI49152, lI65535, nI_add, pk_mul, pk_sub, pk_div, nI_leI, nI_ltI, nI_eq] <;> omega) (Ok.bind _ (ok_X9_write (n := n + 1 + k) (by omega) (by omega)) ?_)
    rintro ⟨n1, st1⟩ ⟨h8, h9, h10⟩
    dsimp only at h8 h9 h10 ⊢
    subst h8
    refine K _ hc ⟨rfl, (by first | rfl | (simp (disch := omega) only [lI0, lI1, lI2, lI3, lI4, lI5, lI7, lI8, lI9, lI10, lI11, lI12, lI15, lI16, lI17, lI20, lI24, lI32, lI33, lI40, lI63, lI64, lI80, lI82, lI101, lI110, lI115, lI251, lI255, lI256, lI384, lI16384, lI20000, lI32768, lI49152, lI65535, nI_add, pk_mul, pk_sub, pk_div] <;> (apply congrArg nI; omega))), ?_, fun j hj => (h10 j hj).trans (h7 j hj)⟩
    dsimp only
    rw [h9, h6]
    show _ = (stp (1 - b) (emN b k (n, vwS start st))).2
    have e1 := emN_1 b (n, vwS start st) k
    dsimp only at e1
    rw [← e1]
  · have hk2 : k = p := by omega
    subst hk2
    exact Ok.pos (by simp (disch := omega) only [lI0, lI1, lI2, lI3, lI4, lI5, lI7, lI8, lI9, lI10, lI11, lI12, lI15, lI16, lI17, lI20, lI24, lI32, lI33, lI40, lI63, lI64, lI80, lI82, lI101, lI110, lI115, lI251, lI255, lI256, lI384, lI16384, lI20000, lI32768, lI49152, lI65535, nI_add, pk_mul, pk_sub, pk_div, nI_leI, nI_ltI, nI_eq] <;> omega) (Ok.some ⟨rfl, by rw [Nat.sub_self], h6, h7⟩)
/-- the class's: at an offset that isn't the middle one -/
theorem ok_X2_take {by1 : Nat → Int32} {n p : Nat} {b off : Int32} (hn : n + p < 16384 - 1) (ho : off = 0 ∧ b = 0 ∨ off = 32768 ∧ b = 1) : Ok (lf_X2_take (nI n) (nI p) by1 off) (fun o => o.1 = nI (n + 1 + p) ∧ o.2.1 = nI 0 ∧ o.2.2 = (emN b p (n, by1)).2) := by
  unfold lf_X2_take
  refine Ok.neg (by rcases ho with ⟨rfl, -⟩ | ⟨rfl, -⟩ <;> decide) ?_
  refine Ok.jnR (fun s => s = b) (fun k hk => ?_) (fun s hs => ?_)
  · rcases ho with ⟨rfl, rfl⟩ | ⟨rfl, rfl⟩
    · exact Ok.neg (by decide) (hk _ rfl)
    · exact Ok.pos (by decide) (hk _ rfl)
  subst hs
  refine Ok.bnd ?_
  refine Ok.bind (fun o => o.1 = nI (n + 1 + p) ∧ o.2 = (emN s p (n, by1)).2) (Ok.fix (fun i z => z.1 = nI i ∧ z.2.1 = nI (n + i) ∧ ((i = 0 ∧ z.2.2 = by1) ∨ ∃ q, i = q + 1 ∧ z.2.2 = (emN s q (n, by1)).2)) (p + 1) (by omega) ⟨rfl, rfl, Or.inl ⟨rfl, rfl⟩⟩ ?_) ?_
  · rintro i ⟨x6, v7, g8⟩ self hi ⟨h1, h2, h3⟩ K
    dsimp only at h1 h2 h3 ⊢
    subst h1 h2
    by_cases hc : i < p + 1
    · refine Ok.neg (by simp (disch := omega) only [lI0, lI1, lI2, lI3, lI4, lI5, lI7, lI8, lI9, lI10, lI11, lI12, lI15, lI16, lI17, lI20, lI24, lI32, lI33, lI40, lI63, lI64, lI80, lI82, lI101, lI110, lI115, lI251, lI255, lI256, lI384, lI16384, lI20000, lI32768, lI49152, lI65535, nI_add, pk_mul, pk_sub, pk_div, nI_leI, nI_ltI, nI_eq] <;> omega) (Ok.neg (by
        show ¬ nI 2048 ≤ _
        (simp (disch := omega) only [lI0, lI1, lI2, lI3, lI4, lI5, lI7, lI8, lI9, lI10, lI11, lI12, lI15, lI16, lI17, lI20, lI24, lI32, lI33, lI40, lI63, lI64, lI80, lI82, lI101, lI110, lI115, lI251, lI255, lI256, lI384, lI16384, lI20000, lI32768, lI49152, lI65535, nI_add, pk_mul, pk_sub, pk_div, nI_leI, nI_ltI, nI_eq] <;> omega)) ?_)
      refine Ok.jnR (fun t => (i = 0 ∧ t = s) ∨ (i ≠ 0 ∧ t = 1 - s)) (fun k hk => ?_) (fun t ht => ?_)
      · by_cases h0 : i = 0
        · exact Ok.pos (by simp (disch := omega) only [lI0, lI1, lI2, lI3, lI4, lI5, lI7, lI8, lI9, lI10, lI11, lI12, lI15, lI16, lI17, lI20, lI24, lI32, lI33, lI40, lI63, lI64, lI80, lI82, lI101, lI110, lI115, lI251, lI255, lI256, lI384, lI16384, lI20000, lI32768, lI49152, lI65535, nI_add, pk_mul, pk_sub, pk_div, nI_leI, nI_ltI, nI_eq] <;> omega) (hk _ (Or.inl ⟨h0, rfl⟩))
        · exact Ok.neg (by simp (disch := omega) only [lI0, lI1, lI2, lI3, lI4, lI5, lI7, lI8, lI9, lI10, lI11, lI12, lI15, lI16, lI17, lI20, lI24, lI32, lI33, lI40, lI63, lI64, lI80, lI82, lI101, lI110, lI115, lI251, lI255, lI256, lI384, lI16384, lI20000, lI32768, lI49152, lI65535, nI_add, pk_mul, pk_sub, pk_div, nI_leI, nI_ltI, nI_eq] <;> omega) (hk _ (Or.inr ⟨h0, rfl⟩))
      · refine Ok.bnd ?_
        rw [show nI (n + i) / (8 : Int32) = nI ((n + i) / 8) from (by first | rfl | (simp (disch := omega) only [lI0, lI1, lI2, lI3, lI4, lI5, lI7, lI8, lI9, lI10, lI11, lI12, lI15, lI16, lI17, lI20, lI24, lI32, lI33, lI40, lI63, lI64, lI80, lI82, lI101, lI110, lI115, lI251, lI255, lI256, lI384, lI16384, lI20000, lI32768, lI49152, lI65535, nI_add, pk_mul, pk_sub, pk_div] <;> (apply congrArg nI; omega)))]
        refine Ok.jnR (fun x => x = if (n + i) % 8 = 0 then 0 else g8 ((n + i) / 8)) (fun k hk => ?_) (fun x hx => ?_)
        · by_cases h0 : (n + i) % 8 = 0
          · exact Ok.pos (by simp (disch := omega) only [lI0, lI1, lI2, lI3, lI4, lI5, lI7, lI8, lI9, lI10, lI11, lI12, lI15, lI16, lI17, lI20, lI24, lI32, lI33, lI40, lI63, lI64, lI80, lI82, lI101, lI110, lI115, lI251, lI255, lI256, lI384, lI16384, lI20000, lI32768, lI49152, lI65535, nI_add, pk_mul, pk_sub, pk_div, nI_leI, nI_ltI, nI_eq] <;> omega) (hk _ (by rw [if_pos h0]))
          · exact Ok.neg (by simp (disch := omega) only [lI0, lI1, lI2, lI3, lI4, lI5, lI7, lI8, lI9, lI10, lI11, lI12, lI15, lI16, lI17, lI20, lI24, lI32, lI33, lI40, lI63, lI64, lI80, lI82, lI101, lI110, lI115, lI251, lI255, lI256, lI384, lI16384, lI20000, lI32768, lI49152, lI65535, nI_add, pk_mul, pk_sub, pk_div, nI_leI, nI_ltI, nI_eq] <;> omega) (Ok.rd _ rfl (by omega) (by decide) (hk _ (by rw [if_neg h0])))
        · subst hx
          refine Ok.wr _ rfl (by omega) (by decide) (Ok.bnd (K _ hc ⟨(by first | rfl | (simp (disch := omega) only [lI0, lI1, lI2, lI3, lI4, lI5, lI7, lI8, lI9, lI10, lI11, lI12, lI15, lI16, lI17, lI20, lI24, lI32, lI33, lI40, lI63, lI64, lI80, lI82, lI101, lI110, lI115, lI251, lI255, lI256, lI384, lI16384, lI20000, lI32768, lI49152, lI65535, nI_add, pk_mul, pk_sub, pk_div] <;> (apply congrArg nI; omega))), ?_, Or.inr ⟨i, rfl, ?_⟩⟩))
          · dsimp only
            rw [show (1 : Int32) = nI 1 from rfl, nI_add]
            rfl
          · dsimp only
            have e8 : t <<< (((7 : Int32) - (nI (n + i) - nI ((n + i) / 8) * (8 : Int32))) &&& 31) = bsh t (n + i) := by
              unfold bsh
              rw [show nI (n + i) / (8 : Int32) = nI ((n + i) / 8) from (by first | rfl | (simp (disch := omega) only [lI0, lI1, lI2, lI3, lI4, lI5, lI7, lI8, lI9, lI10, lI11, lI12, lI15, lI16, lI17, lI20, lI24, lI32, lI33, lI40, lI63, lI64, lI80, lI82, lI101, lI110, lI115, lI251, lI255, lI256, lI384, lI16384, lI20000, lI32768, lI49152, lI65535, nI_add, pk_mul, pk_sub, pk_div] <;> (apply congrArg nI; omega)))]
            rw [e8]
            rcases ht with ⟨rfl, rfl⟩ | ⟨h0, rfl⟩
            · rcases h3 with ⟨-, rfl⟩ | ⟨q, h4, -⟩
              · rfl
              · omega
            · rcases h3 with ⟨h4, -⟩ | ⟨q, rfl, rfl⟩
              · exact absurd h4 h0
              · show _ = (stp (1 - s) (emN s q (n, by1))).2
                have e1 := emN_1 s (n, by1) q
                dsimp only at e1
                unfold stp
                dsimp only
                rw [e1, show n + 1 + q = n + (q + 1) from by omega]
    · have hi2 : i = p + 1 := by omega
      subst hi2
      refine Ok.pos (by simp (disch := omega) only [lI0, lI1, lI2, lI3, lI4, lI5, lI7, lI8, lI9, lI10, lI11, lI12, lI15, lI16, lI17, lI20, lI24, lI32, lI33, lI40, lI63, lI64, lI80, lI82, lI101, lI110, lI115, lI251, lI255, lI256, lI384, lI16384, lI20000, lI32768, lI49152, lI65535, nI_add, pk_mul, pk_sub, pk_div, nI_leI, nI_ltI, nI_eq] <;> omega) (Ok.some ⟨by rw [show n + 1 + p = n + (p + 1) from by omega], ?_⟩)
      rcases h3 with ⟨h4, -⟩ | ⟨q, h4, h5⟩
      · omega
      · have : q = p := by omega
        subst this
        exact h5
  · rintro ⟨o1, o2⟩ ⟨h1, h2⟩
    exact Ok.some ⟨h1, rfl, h2⟩
theorem eq_X2_takeM {by1 : Nat → Int32} {n p : Int32} : lf_X2_take n p by1 16384 = some (n, p + 1, by1) := by
  unfold lf_X2_take
  rw [if_pos rfl]
