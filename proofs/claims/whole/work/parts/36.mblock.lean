/-! ===== the reference: a block is made, a block is rebuilt ===== -/
def fl (n : Nat) (M : Nat → Nat → Int32) (j : Nat) : Int32 := M (j / n) (j % n)
theorem fl_at {n r c : Nat} {M : Nat → Nat → Int32} (hc : c < n) : fl n M (n * r + c) = M r c := by
  unfold fl
  rw [Nat.mul_add_div (by omega), Nat.div_eq_of_lt hc, Nat.add_zero, Nat.mul_add_mod, Nat.mod_eq_of_lt hc]
theorem agr_fl {n j : Nat} {M : Nat → Nat → Int32} {g : Nat → Int32} (h : agr n n g M) (hj : j < n * n) : g j = fl n M j := by
  have h0 : 0 < n := by
    rcases Nat.eq_zero_or_pos n with h | h
    · subst h
      omega
    · exact h
  have h1 := h (j / n) (j % n) (Nat.div_lt_of_lt_mul hj) (Nat.mod_lt _ h0)
  rw [Nat.div_add_mod] at h1
  exact h1
theorem fl_agr {n : Nat} {M : Nat → Nat → Int32} {g : Nat → Int32} (h : ∀ j, j < n * n → g j = fl n M j) : agr n n g M := by
  intro r c hr hc
  have h1 : n * r + c < n * n := by
    have h2 : n * (r + 1) ≤ n * n := Nat.mul_le_mul_left n (by omega)
    rw [Nat.mul_succ] at h2
    omega
  rw [h _ h1, fl_at hc]
theorem sumN_add {f : Nat → Int32} {a : Nat} : ∀ {b : Nat}, sumN (a + b) f = sumN a f + sumN b (fun k => f (a + k))
  | 0 => by
    show sumN a f = sumN a f + (0 : Int32)
    rw [Int32.add_zero]
  | b + 1 => by
    show sumN (a + b) f + f (a + b) = sumN a f + (sumN b (fun k => f (a + k)) + f (a + b))
    rw [sumN_add, Int32.add_assoc]
theorem sumN_fl {n : Nat} {F : Nat → Nat → Int32} : ∀ m, sumN (n * m) (fl n F) = sumN m fun r => sumN n (F r)
  | 0 => rfl
  | m + 1 => by
    show sumN (n * (m + 1)) (fl n F) = sumN m (fun r => sumN n (F r)) + sumN n (F m)
    rw [Nat.mul_succ, sumN_add, sumN_fl m]
    refine congrArg _ (sumN_congr fun k hk => fl_at hk)
theorem sq_le {K : Nat} (hn : 2 ^ K = 4 ∨ 2 ^ K = 8) : 2 ^ K * 2 ^ K ≤ 64 := by
  rcases hn with h | h <;> rw [h] <;> decide
set_option maxHeartbeats 2000000 in
theorem ok_X9_rebuild {mn : Int32} {line res work L U : Nat → Int32} {lev : Nat → Nat → Int32} {p0 p1 p2 p3 p4 step : Int32} {x y K m top : Nat} (e0 : p0 = nI m) (e1 : p1 = nI x) (e2 : p2 = nI y) (e3 : p3 = nI (2 ^ K)) (e4 : p4 = nI top) (hK : K ≤ 3) (hn : 2 ^ K = 4 ∨ 2 ^ K = 8) (hx : x + 2 ^ K ≤ 16) (hy : y + 2 ^ K ≤ 24)
    (hm : m < 4) (ht : y = top ↔ y % 8 = 0) (htop : top < 24) (hL : ∀ i, i < 2 ^ K → nbL res x y i = L i) (hU : ∀ i, i < 2 ^ K → nbU res x y i = U i) (hlev : agr (2 ^ K) (2 ^ K) work lev) :
    Ok (lf_X9_rebuild mn line res work p0 p1 p2 p3 p4 step) (fun o => o.1 = bMean K L U ∧ setP (2 ^ K) (p16 x y) (bRes K L U step m lev) res o.2.2.1) := by
  subst e0 e1 e2 e3 e4
  have hsq := sq_le hn
  have hpr : ∀ r c, r < 2 ^ K → c < 2 ^ K → lf_X9_predicted (bMean K L U) res (nI m) (nI x) (nI y) (nI top) (nI c) (nI r) = some (prS (bMean K L U) L U m r c) := by
    intro r c hr hc
    rw [eq_X9_predicted hm ht htop hr hc hx hy]
    unfold prS
    rw [hL r hr, hU c hc]
  unfold lf_X9_rebuild
  refine Ok.bindE _ (eq_X9_average ht htop (by omega) (by omega) hx hy) ?_
  rw [show mnS (2 ^ K) (nbL res x y) (nbU res x y) = bMean K L U from mnS_congr hL hU]
  rw [show nI (2 ^ K) * nI (2 ^ K) = nI (2 ^ K * 2 ^ K) from pk_mul _ _]
  refine Ok.bind (fun g => agr (2 ^ K) (2 ^ K) g (fun r c => lev r c * step)) (Ok.fix (fun k z => z.1 = nI k ∧ (∀ j, j < k → z.2 j = work j * step) ∧ ∀ j, k ≤ j → z.2 j = work j) (2 ^ K * 2 ^ K) (by omega) ⟨rfl, fun j hj => absurd hj (by omega), fun j _ => rfl⟩ ?_) ?_
  · rintro k ⟨x2, g3⟩ self hk ⟨h1, h2, h3⟩ KK
    dsimp only at h1 h2 h3 ⊢
    subst h1
    by_cases hc : k < 2 ^ K * 2 ^ K
    · refine Ok.neg (by simp (disch := omega) only [lI0, lI1, lI2, lI3, lI4, lI5, lI7, lI8, lI9, lI10, lI11, lI12, lI15, lI16, lI17, lI20, lI24, lI32, lI33, lI40, lI63, lI64, lI80, lI82, lI101, lI110, lI115, lI251, lI255, lI256, lI384, lI16384, lI20000, lI32768, lI49152, lI65535, nI_add, pk_mul, pk_sub, pk_div, nI_leI, nI_ltI, nI_eq] <;> omega) (Ok.rd k rfl (by omega) (by decide) (Ok.wr k rfl (by omega) (by decide) (Ok.bnd (KK _ hc ⟨(by first | rfl | (simp (disch := omega) only [lI0, lI1, lI2, lI3, lI4, lI5, lI7, lI8, lI9, lI10, lI11, lI12, lI15, lI16, lI17, lI20, lI24, lI32, lI33, lI40, lI63, lI64, lI80, lI82, lI101, lI110, lI115, lI251, lI255, lI256, lI384, lI16384, lI20000, lI32768, lI49152, lI65535, nI_add, pk_mul, pk_sub, pk_div] <;> (apply congrArg nI; omega))), fun j hj => ?_, fun j hj => ?_⟩))))
      · dsimp only
        by_cases h4 : j = k
        · rw [h4, upd_eq, h3 k (Nat.le_refl _)]
        · rw [upd_ne h4]
          exact h2 j (by omega)
      · dsimp only
        rw [upd_ne (by omega)]
        exact h3 j (by omega)
    · have hk2 : k = 2 ^ K * 2 ^ K := by omega
      subst hk2
      refine Ok.pos (by simp (disch := omega) only [lI0, lI1, lI2, lI3, lI4, lI5, lI7, lI8, lI9, lI10, lI11, lI12, lI15, lI16, lI17, lI20, lI24, lI32, lI33, lI40, lI63, lI64, lI80, lI82, lI101, lI110, lI115, lI251, lI255, lI256, lI384, lI16384, lI20000, lI32768, lI49152, lI65535, nI_add, pk_mul, pk_sub, pk_div, nI_leI, nI_ltI, nI_eq] <;> omega) (Ok.some (fl_agr fun j hj => ?_))
      rw [h2 j hj, agr_fl hlev hj]
      rfl
  intro o4 h4
  refine Ok.bind (fun o => agr (2 ^ K) (2 ^ K) o.2 (jnK K (fun r c => lev r c * step))) (Ok.fix (fun k z => z.1 = nI (2 ^ (k + 1)) ∧ agr (2 ^ K) (2 ^ K) z.2.2 (jnK k (fun r c => lev r c * step))) K (by omega) ⟨rfl, h4⟩ ?_) ?_
  · rintro k ⟨x1, g2, g3⟩ self hk ⟨h1, hg⟩ KK
    dsimp only at h1 hg ⊢
    subst h1
    by_cases hc : k < K
    · obtain ⟨w1, w2, w3, w4, w5, w6⟩ := pw_up hK hc
      generalize hq : 2 ^ k = h at w1 w2 w3 w5 w6
      rw [w1]
      refine Ok.neg (by simp (disch := omega) only [lI0, lI1, lI2, lI3, lI4, lI5, lI7, lI8, lI9, lI10, lI11, lI12, lI15, lI16, lI17, lI20, lI24, lI32, lI33, lI40, lI63, lI64, lI80, lI82, lI101, lI110, lI115, lI251, lI255, lI256, lI384, lI16384, lI20000, lI32768, lI49152, lI65535, nI_add, pk_mul, pk_sub, pk_div, nI_leI, nI_ltI, nI_eq] <;> omega) ?_
      refine Ok.bind (fun o => agr (2 ^ K) (2 ^ K) o.2 (colT jnv h (jnK k (fun r c => lev r c * step)))) (Ok.fix (fun i z => z.1 = nI i ∧ agr (2 ^ K) (2 ^ K) z.2.2 (colI jnv h (jnK k (fun r c => lev r c * step)) i)) (2 * h) (by omega) ⟨rfl, col_0 hg⟩ ?_) ?_
      · rintro i ⟨x6, g7, g8⟩ self2 hi ⟨h1, hg⟩ K2
        dsimp only at h1 hg ⊢
        subst h1
        by_cases hc2 : i < 2 * h
        · refine Ok.neg (by simp (disch := omega) only [lI0, lI1, lI2, lI3, lI4, lI5, lI7, lI8, lI9, lI10, lI11, lI12, lI15, lI16, lI17, lI20, lI24, lI32, lI33, lI40, lI63, lI64, lI80, lI82, lI101, lI110, lI115, lI251, lI255, lI256, lI384, lI16384, lI20000, lI32768, lI49152, lI65535, nI_add, pk_mul, pk_sub, pk_div, nI_leI, nI_ltI, nI_eq] <;> omega) (Ok.bind _ (ok_X9_join (a := i) (ap := 2 ^ K) (h := h) rfl rfl rfl (by omega) w2 (fun q hq => ?_)) (fun o ho => ?_))
          · have := rc_lt (S := 2 ^ K) (n := 2 ^ K) (r := q) (c := i) (Nat.le_refl _) w4 (by omega) (by omega)
            rw [Nat.mul_comm q, Nat.add_comm]
            exact this
          · exact Ok.bnd (K2 _ hc2 ⟨(by first | rfl | (simp (disch := omega) only [lI0, lI1, lI2, lI3, lI4, lI5, lI7, lI8, lI9, lI10, lI11, lI12, lI15, lI16, lI17, lI20, lI24, lI32, lI33, lI40, lI63, lI64, lI80, lI82, lI101, lI110, lI115, lI251, lI255, lI256, lI384, lI16384, lI20000, lI32768, lI49152, lI65535, nI_add, pk_mul, pk_sub, pk_div] <;> (apply congrArg nI; omega))), col_step jnv_ok (Nat.le_refl _) w3 hc2 hg ho⟩)
        · refine Ok.pos (by simp (disch := omega) only [lI0, lI1, lI2, lI3, lI4, lI5, lI7, lI8, lI9, lI10, lI11, lI12, lI15, lI16, lI17, lI20, lI24, lI32, lI33, lI40, lI63, lI64, lI80, lI82, lI101, lI110, lI115, lI251, lI255, lI256, lI384, lI16384, lI20000, lI32768, lI49152, lI65535, nI_add, pk_mul, pk_sub, pk_div, nI_leI, nI_ltI, nI_eq] <;> omega) (Ok.some ?_)
          have hi2 : i = 2 * h := by omega
          subst hi2
          exact hg
      · intro o9 h9
        refine Ok.bind (fun o => agr (2 ^ K) (2 ^ K) o.2 (jnK (k + 1) (fun r c => lev r c * step))) (Ok.fix (fun i z => z.1 = nI i ∧ agr (2 ^ K) (2 ^ K) z.2.2 (rowI jnv h (colT jnv h (jnK k (fun r c => lev r c * step))) i)) (2 * h) (by omega) ⟨rfl, row_0 h9⟩ ?_) ?_
        · rintro i ⟨x6, g7, g8⟩ self2 hi ⟨h1, hg⟩ K2
          dsimp only at h1 hg ⊢
          subst h1
          by_cases hc2 : i < 2 * h
          · refine Ok.neg (by simp (disch := omega) only [lI0, lI1, lI2, lI3, lI4, lI5, lI7, lI8, lI9, lI10, lI11, lI12, lI15, lI16, lI17, lI20, lI24, lI32, lI33, lI40, lI63, lI64, lI80, lI82, lI101, lI110, lI115, lI251, lI255, lI256, lI384, lI16384, lI20000, lI32768, lI49152, lI65535, nI_add, pk_mul, pk_sub, pk_div, nI_leI, nI_ltI, nI_eq] <;> omega) (Ok.bind _ (ok_X9_join (a := 2 ^ K * i) (ap := 1) (h := h) (pk_mul _ _) (by first | rfl | (simp (disch := omega) only [lI0, lI1, lI2, lI3, lI4, lI5, lI7, lI8, lI9, lI10, lI11, lI12, lI15, lI16, lI17, lI20, lI24, lI32, lI33, lI40, lI63, lI64, lI80, lI82, lI101, lI110, lI115, lI251, lI255, lI256, lI384, lI16384, lI20000, lI32768, lI49152, lI65535, nI_add, pk_mul, pk_sub, pk_div] <;> (apply congrArg nI; omega))) rfl (by decide) w2 (fun q hq => ?_)) (fun o ho => ?_))
            · have := rc_lt (S := 2 ^ K) (n := 2 ^ K) (r := i) (c := q) (Nat.le_refl _) w4 (by omega) (by omega)
              omega
            · exact Ok.bnd (K2 _ hc2 ⟨(by first | rfl | (simp (disch := omega) only [lI0, lI1, lI2, lI3, lI4, lI5, lI7, lI8, lI9, lI10, lI11, lI12, lI15, lI16, lI17, lI20, lI24, lI32, lI33, lI40, lI63, lI64, lI80, lI82, lI101, lI110, lI115, lI251, lI255, lI256, lI384, lI16384, lI20000, lI32768, lI49152, lI65535, nI_add, pk_mul, pk_sub, pk_div] <;> (apply congrArg nI; omega))), row_step jnv_ok (Nat.le_refl _) w3 hc2 hg ho⟩)
          · refine Ok.pos (by simp (disch := omega) only [lI0, lI1, lI2, lI3, lI4, lI5, lI7, lI8, lI9, lI10, lI11, lI12, lI15, lI16, lI17, lI20, lI24, lI32, lI33, lI40, lI63, lI64, lI80, lI82, lI101, lI110, lI115, lI251, lI255, lI256, lI384, lI16384, lI20000, lI32768, lI49152, lI65535, nI_add, pk_mul, pk_sub, pk_div, nI_leI, nI_ltI, nI_eq] <;> omega) (Ok.some ?_)
            have hi2 : i = 2 * h := by omega
            subst hi2
            show agr (2 ^ K) (2 ^ K) _ (rowT jnv (2 ^ k) (colT jnv (2 ^ k) (jnK k (fun r c => lev r c * step))))
            rw [hq]
            exact hg
        · intro o16 h16
          refine Ok.bnd (KK _ hc ⟨?_, h16⟩)
          dsimp only
          rw [w6]
          exact (by first | rfl | (simp (disch := omega) only [lI0, lI1, lI2, lI3, lI4, lI5, lI7, lI8, lI9, lI10, lI11, lI12, lI15, lI16, lI17, lI20, lI24, lI32, lI33, lI40, lI63, lI64, lI80, lI82, lI101, lI110, lI115, lI251, lI255, lI256, lI384, lI16384, lI20000, lI32768, lI49152, lI65535, nI_add, pk_mul, pk_sub, pk_div] <;> (apply congrArg nI; omega)))
    · have hk2 : k = K := by omega
      subst hk2
      have w1 : 2 ^ (k + 1) = 2 * 2 ^ k := by rw [Nat.pow_succ, Nat.mul_comm]
      rw [w1]
      exact Ok.pos (by simp (disch := omega) only [lI0, lI1, lI2, lI3, lI4, lI5, lI7, lI8, lI9, lI10, lI11, lI12, lI15, lI16, lI17, lI20, lI24, lI32, lI33, lI40, lI63, lI64, lI80, lI82, lI101, lI110, lI115, lI251, lI255, lI256, lI384, lI16384, lI20000, lI32768, lI49152, lI65535, nI_add, pk_mul, pk_sub, pk_div, nI_leI, nI_ltI, nI_eq] <;> omega) (Ok.some hg)
  rintro ⟨ln, o12⟩ h12
  dsimp only at h12 ⊢
  refine Ok.bind (fun g => setP (2 ^ K) (pS (2 ^ K)) (bRes K L U step m lev) o12 g) (Ok.fix (fun i z => z.1 = nI i ∧ dblP (2 ^ K) (pS (2 ^ K)) (bRes K L U step m lev) i 0 o12 z.2) (2 ^ K) (by omega) ⟨rfl, dbl_0⟩ ?_) ?_
  · rintro i ⟨x3, g4⟩ self hi ⟨h6, h7⟩ KK
    dsimp only at h6 h7 ⊢
    subst h6
    by_cases hc : i < 2 ^ K
    · refine Ok.neg (by simp (disch := omega) only [lI0, lI1, lI2, lI3, lI4, lI5, lI7, lI8, lI9, lI10, lI11, lI12, lI15, lI16, lI17, lI20, lI24, lI32, lI33, lI40, lI63, lI64, lI80, lI82, lI101, lI110, lI115, lI251, lI255, lI256, lI384, lI16384, lI20000, lI32768, lI49152, lI65535, nI_add, pk_mul, pk_sub, pk_div, nI_leI, nI_ltI, nI_eq] <;> omega) (Ok.bind (fun g => dblP (2 ^ K) (pS (2 ^ K)) (bRes K L U step m lev) i (2 ^ K) o12 g) (Ok.fix (fun k z => z.1 = nI k ∧ dblP (2 ^ K) (pS (2 ^ K)) (bRes K L U step m lev) i k o12 z.2) (2 ^ K) (by omega) ⟨rfl, h7⟩ ?_) (fun o ho => Ok.bnd (KK _ hc ⟨(by first | rfl | (simp (disch := omega) only [lI0, lI1, lI2, lI3, lI4, lI5, lI7, lI8, lI9, lI10, lI11, lI12, lI15, lI16, lI17, lI20, lI24, lI32, lI33, lI40, lI63, lI64, lI80, lI82, lI101, lI110, lI115, lI251, lI255, lI256, lI384, lI16384, lI20000, lI32768, lI49152, lI65535, nI_add, pk_mul, pk_sub, pk_div] <;> (apply congrArg nI; omega))), dbl_row ho⟩)))
      rintro k ⟨x7, g8⟩ self2 hk ⟨h6, h7⟩ K2
      dsimp only at h6 h7 ⊢
      subst h6
      by_cases hc2 : k < 2 ^ K
      · have hlt := rc_lt (S := 2 ^ K) (n := 2 ^ K) (r := i) (c := k) (Nat.le_refl _) (by omega) hc hc2
        refine Ok.neg (by simp (disch := omega) only [lI0, lI1, lI2, lI3, lI4, lI5, lI7, lI8, lI9, lI10, lI11, lI12, lI15, lI16, lI17, lI20, lI24, lI32, lI33, lI40, lI63, lI64, lI80, lI82, lI101, lI110, lI115, lI251, lI255, lI256, lI384, lI16384, lI20000, lI32768, lI49152, lI65535, nI_add, pk_mul, pk_sub, pk_div, nI_leI, nI_ltI, nI_eq] <;> omega) (Ok.rd (pS (2 ^ K) i k) (by unfold pS; (first | rfl | (simp (disch := omega) only [lI0, lI1, lI2, lI3, lI4, lI5, lI7, lI8, lI9, lI10, lI11, lI12, lI15, lI16, lI17, lI20, lI24, lI32, lI33, lI40, lI63, lI64, lI80, lI82, lI101, lI110, lI115, lI251, lI255, lI256, lI384, lI16384, lI20000, lI32768, lI49152, lI65535, nI_add, pk_mul, pk_sub, pk_div] <;> (apply congrArg nI; omega)))) hlt (by decide) ?_)
        refine Ok.bindE _ (hpr i k hc hc2) ?_
        rw [dbl_here (pS_inj (Nat.le_refl _)) hc hc2 h7, show o12 (pS (2 ^ K) i k) = _ from h12 i k hc hc2]
        exact Ok.wr (pS (2 ^ K) i k) (by unfold pS; (first | rfl | (simp (disch := omega) only [lI0, lI1, lI2, lI3, lI4, lI5, lI7, lI8, lI9, lI10, lI11, lI12, lI15, lI16, lI17, lI20, lI24, lI32, lI33, lI40, lI63, lI64, lI80, lI82, lI101, lI110, lI115, lI251, lI255, lI256, lI384, lI16384, lI20000, lI32768, lI49152, lI65535, nI_add, pk_mul, pk_sub, pk_div] <;> (apply congrArg nI; omega)))) hlt (by decide) (Ok.bnd (K2 _ hc2 ⟨(by first | rfl | (simp (disch := omega) only [lI0, lI1, lI2, lI3, lI4, lI5, lI7, lI8, lI9, lI10, lI11, lI12, lI15, lI16, lI17, lI20, lI24, lI32, lI33, lI40, lI63, lI64, lI80, lI82, lI101, lI110, lI115, lI251, lI255, lI256, lI384, lI16384, lI20000, lI32768, lI49152, lI65535, nI_add, pk_mul, pk_sub, pk_div] <;> (apply congrArg nI; omega))), dbl_step (w := bRes K L U step m lev) (pS_inj (Nat.le_refl _)) hc hc2 h7⟩))
      · have hk2 : k = 2 ^ K := by omega
        subst hk2
        exact Ok.pos (by simp (disch := omega) only [lI0, lI1, lI2, lI3, lI4, lI5, lI7, lI8, lI9, lI10, lI11, lI12, lI15, lI16, lI17, lI20, lI24, lI32, lI33, lI40, lI63, lI64, lI80, lI82, lI101, lI110, lI115, lI251, lI255, lI256, lI384, lI16384, lI20000, lI32768, lI49152, lI65535, nI_add, pk_mul, pk_sub, pk_div, nI_leI, nI_ltI, nI_eq] <;> omega) (Ok.some h7)
    · have hi2 : i = 2 ^ K := by omega
      subst hi2
      exact Ok.pos (by simp (disch := omega) only [lI0, lI1, lI2, lI3, lI4, lI5, lI7, lI8, lI9, lI10, lI11, lI12, lI15, lI16, lI17, lI20, lI24, lI32, lI33, lI40, lI63, lI64, lI80, lI82, lI101, lI110, lI115, lI251, lI255, lI256, lI384, lI16384, lI20000, lI32768, lI49152, lI65535, nI_add, pk_mul, pk_sub, pk_div, nI_leI, nI_ltI, nI_eq] <;> omega) (Ok.some (dbl_end h7))
  intro o31 h31
  refine Ok.bind (fun g => setP (2 ^ K) (p16 x y) (bRes K L U step m lev) res g) (Ok.fix (fun i z => z.1 = nI i ∧ dblP (2 ^ K) (p16 x y) (bRes K L U step m lev) i 0 res z.2) (2 ^ K) (by omega) ⟨rfl, dbl_0⟩ ?_) (fun o ho => Ok.some ⟨rfl, ho⟩)
  rintro i ⟨x3, g4⟩ self hi ⟨h6, h7⟩ KK
  dsimp only at h6 h7 ⊢
  subst h6
  by_cases hc : i < 2 ^ K
  · refine Ok.neg (by simp (disch := omega) only [lI0, lI1, lI2, lI3, lI4, lI5, lI7, lI8, lI9, lI10, lI11, lI12, lI15, lI16, lI17, lI20, lI24, lI32, lI33, lI40, lI63, lI64, lI80, lI82, lI101, lI110, lI115, lI251, lI255, lI256, lI384, lI16384, lI20000, lI32768, lI49152, lI65535, nI_add, pk_mul, pk_sub, pk_div, nI_leI, nI_ltI, nI_eq] <;> omega) (Ok.bind (fun g => dblP (2 ^ K) (p16 x y) (bRes K L U step m lev) i (2 ^ K) res g) (Ok.fix (fun k z => z.1 = nI k ∧ dblP (2 ^ K) (p16 x y) (bRes K L U step m lev) i k res z.2) (2 ^ K) (by omega) ⟨rfl, h7⟩ ?_) (fun o ho => Ok.bnd (KK _ hc ⟨(by first | rfl | (simp (disch := omega) only [lI0, lI1, lI2, lI3, lI4, lI5, lI7, lI8, lI9, lI10, lI11, lI12, lI15, lI16, lI17, lI20, lI24, lI32, lI33, lI40, lI63, lI64, lI80, lI82, lI101, lI110, lI115, lI251, lI255, lI256, lI384, lI16384, lI20000, lI32768, lI49152, lI65535, nI_add, pk_mul, pk_sub, pk_div] <;> (apply congrArg nI; omega))), dbl_row ho⟩)))
    rintro k ⟨x7, g8⟩ self2 hk ⟨h6, h7⟩ K2
    dsimp only at h6 h7 ⊢
    subst h6
    by_cases hc2 : k < 2 ^ K
    · have hlt := rc_lt (S := 2 ^ K) (n := 2 ^ K) (r := i) (c := k) (Nat.le_refl _) (by omega) hc hc2
      refine Ok.neg (by simp (disch := omega) only [lI0, lI1, lI2, lI3, lI4, lI5, lI7, lI8, lI9, lI10, lI11, lI12, lI15, lI16, lI17, lI20, lI24, lI32, lI33, lI40, lI63, lI64, lI80, lI82, lI101, lI110, lI115, lI251, lI255, lI256, lI384, lI16384, lI20000, lI32768, lI49152, lI65535, nI_add, pk_mul, pk_sub, pk_div, nI_leI, nI_ltI, nI_eq] <;> omega) (Ok.rd (pS (2 ^ K) i k) (by unfold pS; (first | rfl | (simp (disch := omega) only [lI0, lI1, lI2, lI3, lI4, lI5, lI7, lI8, lI9, lI10, lI11, lI12, lI15, lI16, lI17, lI20, lI24, lI32, lI33, lI40, lI63, lI64, lI80, lI82, lI101, lI110, lI115, lI251, lI255, lI256, lI384, lI16384, lI20000, lI32768, lI49152, lI65535, nI_add, pk_mul, pk_sub, pk_div] <;> (apply congrArg nI; omega)))) hlt (by decide) ?_)
      rw [h31.1 i k hc hc2]
      exact Ok.wr (p16 x y i k) (by unfold p16; (first | rfl | (simp (disch := omega) only [lI0, lI1, lI2, lI3, lI4, lI5, lI7, lI8, lI9, lI10, lI11, lI12, lI15, lI16, lI17, lI20, lI24, lI32, lI33, lI40, lI63, lI64, lI80, lI82, lI101, lI110, lI115, lI251, lI255, lI256, lI384, lI16384, lI20000, lI32768, lI49152, lI65535, nI_add, pk_mul, pk_sub, pk_div] <;> (apply congrArg nI; omega)))) (by unfold p16; omega) (by decide) (Ok.bnd (K2 _ hc2 ⟨(by first | rfl | (simp (disch := omega) only [lI0, lI1, lI2, lI3, lI4, lI5, lI7, lI8, lI9, lI10, lI11, lI12, lI15, lI16, lI17, lI20, lI24, lI32, lI33, lI40, lI63, lI64, lI80, lI82, lI101, lI110, lI115, lI251, lI255, lI256, lI384, lI16384, lI20000, lI32768, lI49152, lI65535, nI_add, pk_mul, pk_sub, pk_div] <;> (apply congrArg nI; omega))), dbl_step (w := bRes K L U step m lev) (p16_inj hx) hc hc2 h7⟩))
    · have hk2 : k = 2 ^ K := by omega
      subst hk2
      exact Ok.pos (by simp (disch := omega) only [lI0, lI1, lI2, lI3, lI4, lI5, lI7, lI8, lI9, lI10, lI11, lI12, lI15, lI16, lI17, lI20, lI24, lI32, lI33, lI40, lI63, lI64, lI80, lI82, lI101, lI110, lI115, lI251, lI255, lI256, lI384, lI16384, lI20000, lI32768, lI49152, lI65535, nI_add, pk_mul, pk_sub, pk_div, nI_leI, nI_ltI, nI_eq] <;> omega) (Ok.some h7)
  · have hi2 : i = 2 ^ K := by omega
    subst hi2
    exact Ok.pos (by simp (disch := omega) only [lI0, lI1, lI2, lI3, lI4, lI5, lI7, lI8, lI9, lI10, lI11, lI12, lI15, lI16, lI17, lI20, lI24, lI32, lI33, lI40, lI63, lI64, lI80, lI82, lI101, lI110, lI115, lI251, lI255, lI256, lI384, lI16384, lI20000, lI32768, lI49152, lI65535, nI_add, pk_mul, pk_sub, pk_div, nI_leI, nI_ltI, nI_eq] <;> omega) (Ok.some (dbl_end h7))
set_option maxHeartbeats 2000000 in
theorem ok_X9_make {bm mn : Int32} {line one res work tg L U : Nat → Int32} {T : Nat → Nat → Int32} {p0 p1 p2 p3 p4 : Int32} {x y K st top : Nat} (e0 : p0 = nI x) (e1 : p1 = nI y) (e2 : p2 = nI (2 ^ K)) (e3 : p3 = nI top) (e4 : p4 = nI st) (hK : K ≤ 3) (hn : 2 ^ K = 4 ∨ 2 ^ K = 8) (hx : x + 2 ^ K ≤ 16) (hy : y + 2 ^ K ≤ 24) (hs0 : 0 < st) (hs1 : st ≤ 32)
    (ht : y = top ↔ y % 8 = 0) (htop : top < 24) (hL : ∀ i, i < 2 ^ K → nbL res x y i = L i) (hU : ∀ i, i < 2 ^ K → nbU res x y i = U i) (hT : ∀ r c, r < 2 ^ K → c < 2 ^ K → tg (p16 x y r c) = T r c) :
    Ok (lf_X9_make bm mn line one res tg work p0 p1 p2 p3 p4) (fun o => o.1 = bCost K L U T (nI st) ∧ o.2.1 = nI (bMode K L U T) ∧ agr (2 ^ K) (2 ^ K) o.2.2.2.2.1 (bLev K L U T (nI st)) ∧ setP (2 ^ K) (p16 x y) (bRes K L U (nI st) (bMode K L U T) (bLev K L U T (nI st))) res o.2.2.2.2.2.1) := by
  subst e0 e1 e2 e3 e4
  have hsq := sq_le hn
  have hpr : ∀ m r c, m < 4 → r < 2 ^ K → c < 2 ^ K → lf_X9_predicted (bMean K L U) res (nI m) (nI x) (nI y) (nI top) (nI c) (nI r) = some (prS (bMean K L U) L U m r c) := by
    intro m r c hm hr hc
    rw [eq_X9_predicted hm ht htop hr hc hx hy]
    unfold prS
    rw [hL r hr, hU c hc]
  unfold lf_X9_make
  refine Ok.bindE _ (eq_X9_average ht htop (by omega) (by omega) hx hy) ?_
  rw [show mnS (2 ^ K) (nbL res x y) (nbU res x y) = bMean K L U from mnS_congr hL hU]
  generalize hd : dsS (2 ^ K) (bMean K L U) L U T = d
  have hbm : bMode K L U T = bmS d 3 := by
    unfold bMode
    rw [hd]
  refine Ok.bind (fun o => o = nI (bMode K L U T)) (Ok.fix (fun k z => z.2.1 = nI k ∧ (k = 0 ∨ z.1 = d (bmS d (k - 1)) ∧ z.2.2 = nI (bmS d (k - 1)))) 4 (by omega) ⟨rfl, Or.inl rfl⟩ ?_) ?_
  · rintro k ⟨x2, x3, v4⟩ self hk ⟨h1, h2⟩ KK
    dsimp only at h1 h2 ⊢
    subst h1
    by_cases hc : k < 4
    · generalize hw : (fun r c => mag (T r c - prS (bMean K L U) L U k r c)) = w
      have hdk : d k = sumN (2 ^ K) fun r => sumN (2 ^ K) (w r) := by rw [← hw, ← hd]; rfl
      refine Ok.neg (by simp (disch := omega) only [lI0, lI1, lI2, lI3, lI4, lI5, lI7, lI8, lI9, lI10, lI11, lI12, lI15, lI16, lI17, lI20, lI24, lI32, lI33, lI40, lI63, lI64, lI80, lI82, lI101, lI110, lI115, lI251, lI255, lI256, lI384, lI16384, lI20000, lI32768, lI49152, lI65535, nI_add, pk_mul, pk_sub, pk_div, nI_leI, nI_ltI, nI_eq] <;> omega) (Ok.bind (fun o => o = d k) (Ok.fix (fun i z => z.2 = nI i ∧ z.1 = sumD (2 ^ K) w i 0) (2 ^ K) (by omega) ⟨rfl, by unfold sumD; rfl⟩ ?_) ?_)
      · rintro i ⟨x7, x8⟩ self2 hi ⟨h3, h4⟩ K2
        dsimp only at h3 h4 ⊢
        subst h3 h4
        by_cases hc2 : i < 2 ^ K
        · refine Ok.neg (by simp (disch := omega) only [lI0, lI1, lI2, lI3, lI4, lI5, lI7, lI8, lI9, lI10, lI11, lI12, lI15, lI16, lI17, lI20, lI24, lI32, lI33, lI40, lI63, lI64, lI80, lI82, lI101, lI110, lI115, lI251, lI255, lI256, lI384, lI16384, lI20000, lI32768, lI49152, lI65535, nI_add, pk_mul, pk_sub, pk_div, nI_leI, nI_ltI, nI_eq] <;> omega) (Ok.bind (fun o => o = sumD (2 ^ K) w i (2 ^ K)) (Ok.fix (fun j z => z.2 = nI j ∧ z.1 = sumD (2 ^ K) w i j) (2 ^ K) (by omega) ⟨rfl, rfl⟩ ?_) (fun o ho => Ok.bnd (K2 _ hc2 ⟨(by first | rfl | (simp (disch := omega) only [lI0, lI1, lI2, lI3, lI4, lI5, lI7, lI8, lI9, lI10, lI11, lI12, lI15, lI16, lI17, lI20, lI24, lI32, lI33, lI40, lI63, lI64, lI80, lI82, lI101, lI110, lI115, lI251, lI255, lI256, lI384, lI16384, lI20000, lI32768, lI49152, lI65535, nI_add, pk_mul, pk_sub, pk_div] <;> (apply congrArg nI; omega))), by rw [← sumD_row]; exact ho⟩)))
          rintro j ⟨x11, x12⟩ self3 hj ⟨h3, h4⟩ K3
          dsimp only at h3 h4 ⊢
          subst h3 h4
          by_cases hc3 : j < 2 ^ K
          · refine Ok.neg (by simp (disch := omega) only [lI0, lI1, lI2, lI3, lI4, lI5, lI7, lI8, lI9, lI10, lI11, lI12, lI15, lI16, lI17, lI20, lI24, lI32, lI33, lI40, lI63, lI64, lI80, lI82, lI101, lI110, lI115, lI251, lI255, lI256, lI384, lI16384, lI20000, lI32768, lI49152, lI65535, nI_add, pk_mul, pk_sub, pk_div, nI_leI, nI_ltI, nI_eq] <;> omega) (Ok.rd (p16 x y i j) (by unfold p16; (first | rfl | (simp (disch := omega) only [lI0, lI1, lI2, lI3, lI4, lI5, lI7, lI8, lI9, lI10, lI11, lI12, lI15, lI16, lI17, lI20, lI24, lI32, lI33, lI40, lI63, lI64, lI80, lI82, lI101, lI110, lI115, lI251, lI255, lI256, lI384, lI16384, lI20000, lI32768, lI49152, lI65535, nI_add, pk_mul, pk_sub, pk_div] <;> (apply congrArg nI; omega)))) (by unfold p16; omega) (by decide) (Ok.bindE _ (hpr k i j hc hc2 hc3) (Ok.bnd ?_)))
            rw [hT i j hc2 hc3]
            refine Ok.jnR (fun s => s = mag (T i j - prS (bMean K L U) L U k i j)) (fun kk hkk => ?_) (fun s hs => ?_)
            · unfold mag at hkk
              by_cases h0 : 0 ≤ T i j - prS (bMean K L U) L U k i j
              · exact Ok.pos h0 (hkk _ (by rw [if_pos h0]))
              · exact Ok.neg h0 (hkk _ (by rw [if_neg h0]))
            · subst hs
              refine Ok.bnd (Ok.bnd (K3 _ hc3 ⟨(by first | rfl | (simp (disch := omega) only [lI0, lI1, lI2, lI3, lI4, lI5, lI7, lI8, lI9, lI10, lI11, lI12, lI15, lI16, lI17, lI20, lI24, lI32, lI33, lI40, lI63, lI64, lI80, lI82, lI101, lI110, lI115, lI251, lI255, lI256, lI384, lI16384, lI20000, lI32768, lI49152, lI65535, nI_add, pk_mul, pk_sub, pk_div] <;> (apply congrArg nI; omega))), ?_⟩))
              dsimp only
              rw [← sumD_step, ← hw]
          · have hj2 : j = 2 ^ K := by omega
            subst hj2
            exact Ok.pos (by simp (disch := omega) only [lI0, lI1, lI2, lI3, lI4, lI5, lI7, lI8, lI9, lI10, lI11, lI12, lI15, lI16, lI17, lI20, lI24, lI32, lI33, lI40, lI63, lI64, lI80, lI82, lI101, lI110, lI115, lI251, lI255, lI256, lI384, lI16384, lI20000, lI32768, lI49152, lI65535, nI_add, pk_mul, pk_sub, pk_div, nI_leI, nI_ltI, nI_eq] <;> omega) (Ok.some rfl)
        · have hi2 : i = 2 ^ K := by omega
          subst hi2
          exact Ok.pos (by simp (disch := omega) only [lI0, lI1, lI2, lI3, lI4, lI5, lI7, lI8, lI9, lI10, lI11, lI12, lI15, lI16, lI17, lI20, lI24, lI32, lI33, lI40, lI63, lI64, lI80, lI82, lI101, lI110, lI115, lI251, lI255, lI256, lI384, lI16384, lI20000, lI32768, lI49152, lI65535, nI_add, pk_mul, pk_sub, pk_div, nI_leI, nI_ltI, nI_eq] <;> omega) (Ok.some (by rw [hdk]; exact sumD_end))
      · rintro o rfl
        refine Ok.jnR (fun z => z.1 = d (bmS d k) ∧ z.2 = nI (bmS d k)) (fun kk hkk => ?_) (fun z hz => Ok.bnd (KK _ hc ⟨(by first | rfl | (simp (disch := omega) only [lI0, lI1, lI2, lI3, lI4, lI5, lI7, lI8, lI9, lI10, lI11, lI12, lI15, lI16, lI17, lI20, lI24, lI32, lI33, lI40, lI63, lI64, lI80, lI82, lI101, lI110, lI115, lI251, lI255, lI256, lI384, lI16384, lI20000, lI32768, lI49152, lI65535, nI_add, pk_mul, pk_sub, pk_div] <;> (apply congrArg nI; omega))), Or.inr hz⟩))
        refine Ok.jnR (fun _ => k = 0 ∨ d k < d (bmS d (k - 1))) (fun k2 hk2 => ?_) (fun _ h5 => ?_)
        · by_cases h0 : k = 0
          · exact Ok.pos (by simp (disch := omega) only [lI0, lI1, lI2, lI3, lI4, lI5, lI7, lI8, lI9, lI10, lI11, lI12, lI15, lI16, lI17, lI20, lI24, lI32, lI33, lI40, lI63, lI64, lI80, lI82, lI101, lI110, lI115, lI251, lI255, lI256, lI384, lI16384, lI20000, lI32768, lI49152, lI65535, nI_add, pk_mul, pk_sub, pk_div, nI_leI, nI_ltI, nI_eq] <;> omega) (hk2 () (Or.inl h0))
          · rcases h2 with h2 | ⟨h2, h3⟩
            · exact absurd h2 h0
            subst h2 h3
            refine Ok.neg (by simp (disch := omega) only [lI0, lI1, lI2, lI3, lI4, lI5, lI7, lI8, lI9, lI10, lI11, lI12, lI15, lI16, lI17, lI20, lI24, lI32, lI33, lI40, lI63, lI64, lI80, lI82, lI101, lI110, lI115, lI251, lI255, lI256, lI384, lI16384, lI20000, lI32768, lI49152, lI65535, nI_add, pk_mul, pk_sub, pk_div, nI_leI, nI_ltI, nI_eq] <;> omega) ?_
            have hb : bmS d ((k - 1) + 1) = if d ((k - 1) + 1) < d (bmS d (k - 1)) then (k - 1) + 1 else bmS d (k - 1) := rfl
            rw [show k - 1 + 1 = k from by omega] at hb
            by_cases h5 : d k < d (bmS d (k - 1))
            · exact Ok.neg (Int32.not_le.mpr h5) (hk2 () (Or.inr h5))
            · rw [if_neg h5] at hb
              exact Ok.pos (Int32.not_lt.mp h5) (hkk _ ⟨by rw [hb], by rw [hb]⟩)
        · have hb : bmS d k = k := by
            rcases Nat.eq_zero_or_pos k with h0 | h0
            · subst h0
              rfl
            · have hb : bmS d ((k - 1) + 1) = if d ((k - 1) + 1) < d (bmS d (k - 1)) then (k - 1) + 1 else bmS d (k - 1) := rfl
              rw [show k - 1 + 1 = k from by omega] at hb
              rw [hb, if_pos (by
                rcases h5 with h5 | h5
                · omega
                · exact h5)]
          exact hkk _ ⟨by rw [hb], by rw [hb]⟩
    · have hk2 : k = 4 := by omega
      subst hk2
      rcases h2 with h2 | ⟨h2, h3⟩
      · exact absurd h2 (by decide)
      · exact Ok.pos (by simp (disch := omega) only [lI0, lI1, lI2, lI3, lI4, lI5, lI7, lI8, lI9, lI10, lI11, lI12, lI15, lI16, lI17, lI20, lI24, lI32, lI33, lI40, lI63, lI64, lI80, lI82, lI101, lI110, lI115, lI251, lI255, lI256, lI384, lI16384, lI20000, lI32768, lI49152, lI65535, nI_add, pk_mul, pk_sub, pk_div, nI_leI, nI_ltI, nI_eq] <;> omega) (Ok.some (by rw [h3, hbm]))
  rintro o rfl
  have hm := bMode_lt (K := K) (L := L) (U := U) (T := T)
  refine Ok.bind (fun g => setP (2 ^ K) (pS (2 ^ K)) (bDif K L U T) work g) (Ok.fix (fun i z => z.1 = nI i ∧ dblP (2 ^ K) (pS (2 ^ K)) (bDif K L U T) i 0 work z.2) (2 ^ K) (by omega) ⟨rfl, dbl_0⟩ ?_) ?_
  · rintro i ⟨x3, g4⟩ self hi ⟨h5, h6⟩ KK
    dsimp only at h5 h6 ⊢
    subst h5
    by_cases hc : i < 2 ^ K
    · refine Ok.neg (by simp (disch := omega) only [lI0, lI1, lI2, lI3, lI4, lI5, lI7, lI8, lI9, lI10, lI11, lI12, lI15, lI16, lI17, lI20, lI24, lI32, lI33, lI40, lI63, lI64, lI80, lI82, lI101, lI110, lI115, lI251, lI255, lI256, lI384, lI16384, lI20000, lI32768, lI49152, lI65535, nI_add, pk_mul, pk_sub, pk_div, nI_leI, nI_ltI, nI_eq] <;> omega) (Ok.bind (fun g => dblP (2 ^ K) (pS (2 ^ K)) (bDif K L U T) i (2 ^ K) work g) (Ok.fix (fun k z => z.1 = nI k ∧ dblP (2 ^ K) (pS (2 ^ K)) (bDif K L U T) i k work z.2) (2 ^ K) (by omega) ⟨rfl, h6⟩ ?_) (fun o ho => Ok.bnd (KK _ hc ⟨(by first | rfl | (simp (disch := omega) only [lI0, lI1, lI2, lI3, lI4, lI5, lI7, lI8, lI9, lI10, lI11, lI12, lI15, lI16, lI17, lI20, lI24, lI32, lI33, lI40, lI63, lI64, lI80, lI82, lI101, lI110, lI115, lI251, lI255, lI256, lI384, lI16384, lI20000, lI32768, lI49152, lI65535, nI_add, pk_mul, pk_sub, pk_div] <;> (apply congrArg nI; omega))), dbl_row ho⟩)))
      rintro k ⟨x7, g8⟩ self2 hk ⟨h5, h6⟩ K2
      dsimp only at h5 h6 ⊢
      subst h5
      by_cases hc2 : k < 2 ^ K
      · have hlt := rc_lt (S := 2 ^ K) (n := 2 ^ K) (r := i) (c := k) (Nat.le_refl _) (by omega) hc hc2
        refine Ok.neg (by simp (disch := omega) only [lI0, lI1, lI2, lI3, lI4, lI5, lI7, lI8, lI9, lI10, lI11, lI12, lI15, lI16, lI17, lI20, lI24, lI32, lI33, lI40, lI63, lI64, lI80, lI82, lI101, lI110, lI115, lI251, lI255, lI256, lI384, lI16384, lI20000, lI32768, lI49152, lI65535, nI_add, pk_mul, pk_sub, pk_div, nI_leI, nI_ltI, nI_eq] <;> omega) (Ok.rd (p16 x y i k) (by unfold p16; (first | rfl | (simp (disch := omega) only [lI0, lI1, lI2, lI3, lI4, lI5, lI7, lI8, lI9, lI10, lI11, lI12, lI15, lI16, lI17, lI20, lI24, lI32, lI33, lI40, lI63, lI64, lI80, lI82, lI101, lI110, lI115, lI251, lI255, lI256, lI384, lI16384, lI20000, lI32768, lI49152, lI65535, nI_add, pk_mul, pk_sub, pk_div] <;> (apply congrArg nI; omega)))) (by unfold p16; omega) (by decide) ?_)
        refine Ok.bindE _ (hpr _ i k hm hc hc2) ?_
        rw [hT i k hc hc2]
        exact Ok.wr (pS (2 ^ K) i k) (by unfold pS; (first | rfl | (simp (disch := omega) only [lI0, lI1, lI2, lI3, lI4, lI5, lI7, lI8, lI9, lI10, lI11, lI12, lI15, lI16, lI17, lI20, lI24, lI32, lI33, lI40, lI63, lI64, lI80, lI82, lI101, lI110, lI115, lI251, lI255, lI256, lI384, lI16384, lI20000, lI32768, lI49152, lI65535, nI_add, pk_mul, pk_sub, pk_div] <;> (apply congrArg nI; omega)))) hlt (by decide) (Ok.bnd (K2 _ hc2 ⟨(by first | rfl | (simp (disch := omega) only [lI0, lI1, lI2, lI3, lI4, lI5, lI7, lI8, lI9, lI10, lI11, lI12, lI15, lI16, lI17, lI20, lI24, lI32, lI33, lI40, lI63, lI64, lI80, lI82, lI101, lI110, lI115, lI251, lI255, lI256, lI384, lI16384, lI20000, lI32768, lI49152, lI65535, nI_add, pk_mul, pk_sub, pk_div] <;> (apply congrArg nI; omega))), dbl_step (w := bDif K L U T) (pS_inj (Nat.le_refl _)) hc hc2 h6⟩))
      · have hk2 : k = 2 ^ K := by omega
        subst hk2
        exact Ok.pos (by simp (disch := omega) only [lI0, lI1, lI2, lI3, lI4, lI5, lI7, lI8, lI9, lI10, lI11, lI12, lI15, lI16, lI17, lI20, lI24, lI32, lI33, lI40, lI63, lI64, lI80, lI82, lI101, lI110, lI115, lI251, lI255, lI256, lI384, lI16384, lI20000, lI32768, lI49152, lI65535, nI_add, pk_mul, pk_sub, pk_div, nI_leI, nI_ltI, nI_eq] <;> omega) (Ok.some h6)
    · have hi2 : i = 2 ^ K := by omega
      subst hi2
      exact Ok.pos (by simp (disch := omega) only [lI0, lI1, lI2, lI3, lI4, lI5, lI7, lI8, lI9, lI10, lI11, lI12, lI15, lI16, lI17, lI20, lI24, lI32, lI33, lI40, lI63, lI64, lI80, lI82, lI101, lI110, lI115, lI251, lI255, lI256, lI384, lI16384, lI20000, lI32768, lI49152, lI65535, nI_add, pk_mul, pk_sub, pk_div, nI_leI, nI_ltI, nI_eq] <;> omega) (Ok.some (dbl_end h6))
  intro o33 h33
  refine Ok.bind (fun o => agr (2 ^ K) (2 ^ K) o.2 (spK K K (bDif K L U T))) (Ok.fix (fun k z => z.1 = nI (2 ^ (K - k)) ∧ agr (2 ^ K) (2 ^ K) z.2.2 (spK K k (bDif K L U T))) K (by omega) ⟨rfl, setP_agr h33⟩ ?_) ?_
  · rintro k ⟨x1, g2, g3⟩ self hk ⟨h1, hg⟩ KK
    dsimp only at h1 hg ⊢
    subst h1
    by_cases hc : k < K
    · obtain ⟨w1, w2, w3, w4, w5⟩ := pw_half hK hc
      generalize hq : 2 ^ (K - 1 - k) = h at w1 w2 w3 w5
      rw [w1]
      refine Ok.neg (by simp (disch := omega) only [lI0, lI1, lI2, lI3, lI4, lI5, lI7, lI8, lI9, lI10, lI11, lI12, lI15, lI16, lI17, lI20, lI24, lI32, lI33, lI40, lI63, lI64, lI80, lI82, lI101, lI110, lI115, lI251, lI255, lI256, lI384, lI16384, lI20000, lI32768, lI49152, lI65535, nI_add, pk_mul, pk_sub, pk_div, nI_leI, nI_ltI, nI_eq] <;> omega) ?_
      refine Ok.bind (fun o => agr (2 ^ K) (2 ^ K) o.2 (rowT spv h (spK K k (bDif K L U T)))) (Ok.fix (fun i z => z.1 = nI i ∧ agr (2 ^ K) (2 ^ K) z.2.2 (rowI spv h (spK K k (bDif K L U T)) i)) (2 * h) (by omega) ⟨rfl, row_0 hg⟩ ?_) ?_
      · rintro i ⟨x6, g7, g8⟩ self2 hi ⟨h1, hg⟩ K2
        dsimp only at h1 hg ⊢
        subst h1
        by_cases hc2 : i < 2 * h
        · refine Ok.neg (by simp (disch := omega) only [lI0, lI1, lI2, lI3, lI4, lI5, lI7, lI8, lI9, lI10, lI11, lI12, lI15, lI16, lI17, lI20, lI24, lI32, lI33, lI40, lI63, lI64, lI80, lI82, lI101, lI110, lI115, lI251, lI255, lI256, lI384, lI16384, lI20000, lI32768, lI49152, lI65535, nI_add, pk_mul, pk_sub, pk_div, nI_leI, nI_ltI, nI_eq] <;> omega) (Ok.bind _ (ok_X9_split (a := 2 ^ K * i) (ap := 1) (h := h) (pk_mul _ _) (by first | rfl | (simp (disch := omega) only [lI0, lI1, lI2, lI3, lI4, lI5, lI7, lI8, lI9, lI10, lI11, lI12, lI15, lI16, lI17, lI20, lI24, lI32, lI33, lI40, lI63, lI64, lI80, lI82, lI101, lI110, lI115, lI251, lI255, lI256, lI384, lI16384, lI20000, lI32768, lI49152, lI65535, nI_add, pk_mul, pk_sub, pk_div] <;> (apply congrArg nI; omega))) rfl (by decide) w2 (fun q hq => ?_)) (fun o ho => ?_))
          · have := rc_lt (S := 2 ^ K) (n := 2 ^ K) (r := i) (c := q) (Nat.le_refl _) w4 (by omega) (by omega)
            omega
          · exact Ok.bnd (K2 _ hc2 ⟨(by first | rfl | (simp (disch := omega) only [lI0, lI1, lI2, lI3, lI4, lI5, lI7, lI8, lI9, lI10, lI11, lI12, lI15, lI16, lI17, lI20, lI24, lI32, lI33, lI40, lI63, lI64, lI80, lI82, lI101, lI110, lI115, lI251, lI255, lI256, lI384, lI16384, lI20000, lI32768, lI49152, lI65535, nI_add, pk_mul, pk_sub, pk_div] <;> (apply congrArg nI; omega))), row_step spv_ok (Nat.le_refl _) w3 hc2 hg ho⟩)
        · refine Ok.pos (by simp (disch := omega) only [lI0, lI1, lI2, lI3, lI4, lI5, lI7, lI8, lI9, lI10, lI11, lI12, lI15, lI16, lI17, lI20, lI24, lI32, lI33, lI40, lI63, lI64, lI80, lI82, lI101, lI110, lI115, lI251, lI255, lI256, lI384, lI16384, lI20000, lI32768, lI49152, lI65535, nI_add, pk_mul, pk_sub, pk_div, nI_leI, nI_ltI, nI_eq] <;> omega) (Ok.some ?_)
          have hi2 : i = 2 * h := by omega
          subst hi2
          exact hg
      · intro o9 h9
        refine Ok.bind (fun o => agr (2 ^ K) (2 ^ K) o.2 (spK K (k + 1) (bDif K L U T))) (Ok.fix (fun i z => z.1 = nI i ∧ agr (2 ^ K) (2 ^ K) z.2.2 (colI spv h (rowT spv h (spK K k (bDif K L U T))) i)) (2 * h) (by omega) ⟨rfl, col_0 h9⟩ ?_) ?_
        · rintro i ⟨x6, g7, g8⟩ self2 hi ⟨h1, hg⟩ K2
          dsimp only at h1 hg ⊢
          subst h1
          by_cases hc2 : i < 2 * h
          · refine Ok.neg (by simp (disch := omega) only [lI0, lI1, lI2, lI3, lI4, lI5, lI7, lI8, lI9, lI10, lI11, lI12, lI15, lI16, lI17, lI20, lI24, lI32, lI33, lI40, lI63, lI64, lI80, lI82, lI101, lI110, lI115, lI251, lI255, lI256, lI384, lI16384, lI20000, lI32768, lI49152, lI65535, nI_add, pk_mul, pk_sub, pk_div, nI_leI, nI_ltI, nI_eq] <;> omega) (Ok.bind _ (ok_X9_split (a := i) (ap := 2 ^ K) (h := h) rfl rfl rfl (by omega) w2 (fun q hq => ?_)) (fun o ho => ?_))
            · have := rc_lt (S := 2 ^ K) (n := 2 ^ K) (r := q) (c := i) (Nat.le_refl _) w4 (by omega) (by omega)
              rw [Nat.mul_comm q, Nat.add_comm]
              exact this
            · exact Ok.bnd (K2 _ hc2 ⟨(by first | rfl | (simp (disch := omega) only [lI0, lI1, lI2, lI3, lI4, lI5, lI7, lI8, lI9, lI10, lI11, lI12, lI15, lI16, lI17, lI20, lI24, lI32, lI33, lI40, lI63, lI64, lI80, lI82, lI101, lI110, lI115, lI251, lI255, lI256, lI384, lI16384, lI20000, lI32768, lI49152, lI65535, nI_add, pk_mul, pk_sub, pk_div] <;> (apply congrArg nI; omega))), col_step spv_ok (Nat.le_refl _) w3 hc2 hg ho⟩)
          · refine Ok.pos (by simp (disch := omega) only [lI0, lI1, lI2, lI3, lI4, lI5, lI7, lI8, lI9, lI10, lI11, lI12, lI15, lI16, lI17, lI20, lI24, lI32, lI33, lI40, lI63, lI64, lI80, lI82, lI101, lI110, lI115, lI251, lI255, lI256, lI384, lI16384, lI20000, lI32768, lI49152, lI65535, nI_add, pk_mul, pk_sub, pk_div, nI_leI, nI_ltI, nI_eq] <;> omega) (Ok.some ?_)
            have hi2 : i = 2 * h := by omega
            subst hi2
            show agr (2 ^ K) (2 ^ K) _ (colT spv (2 ^ (K - 1 - k)) (rowT spv (2 ^ (K - 1 - k)) (spK K k (bDif K L U T))))
            rw [hq]
            exact hg
        · intro o16 h16
          refine Ok.bnd (KK _ hc ⟨?_, h16⟩)
          dsimp only
          rw [show K - (k + 1) = K - 1 - k from by omega, hq]
          exact (by first | rfl | (simp (disch := omega) only [lI0, lI1, lI2, lI3, lI4, lI5, lI7, lI8, lI9, lI10, lI11, lI12, lI15, lI16, lI17, lI20, lI24, lI32, lI33, lI40, lI63, lI64, lI80, lI82, lI101, lI110, lI115, lI251, lI255, lI256, lI384, lI16384, lI20000, lI32768, lI49152, lI65535, nI_add, pk_mul, pk_sub, pk_div] <;> (apply congrArg nI; omega)))
    · have hk2 : k = K := by omega
      subst hk2
      refine Ok.pos ?_ (Ok.some hg)
      rw [Nat.sub_self]
      decide
  rintro ⟨ln, o47⟩ h47
  dsimp only at h47 ⊢
  rw [show nI (2 ^ K) * nI (2 ^ K) = nI (2 ^ K * 2 ^ K) from pk_mul _ _]
  refine Ok.bind (fun o => o.1 = bCost K L U T (nI st) ∧ agr (2 ^ K) (2 ^ K) o.2.1 (bLev K L U T (nI st)) ∧ agr (2 ^ K) (2 ^ K) o.2.2 (bLev K L U T (nI st))) (Ok.fix (fun k z => z.2.1 = nI k ∧ z.1 = 4 + sumN k (fl (2 ^ K) (bDig K L U T (nI st))) ∧ (∀ j, j < k → z.2.2.1 j = fl (2 ^ K) (bLev K L U T (nI st)) j) ∧ (∀ j, j < k → z.2.2.2 j = fl (2 ^ K) (bLev K L U T (nI st)) j) ∧ ∀ j, k ≤ j → z.2.2.2 j = o47 j) (2 ^ K * 2 ^ K) (by omega) ⟨rfl, rfl, fun j hj => absurd hj (by omega), fun j hj => absurd hj (by omega), fun j _ => rfl⟩ ?_) ?_
  · rintro k ⟨x64, x65, g66, g67⟩ self hk ⟨h1, h2, h3, h4, h5⟩ KK
    dsimp only at h1 h2 h3 h4 h5 ⊢
    subst h1 h2
    by_cases hc : k < 2 ^ K * 2 ^ K
    · have hlv : g67 k / nI st = fl (2 ^ K) (bLev K L U T (nI st)) k := by
        rw [h5 k (Nat.le_refl _), agr_fl h47 hc]
        rfl
      refine Ok.neg (by simp (disch := omega) only [lI0, lI1, lI2, lI3, lI4, lI5, lI7, lI8, lI9, lI10, lI11, lI12, lI15, lI16, lI17, lI20, lI24, lI32, lI33, lI40, lI63, lI64, lI80, lI82, lI101, lI110, lI115, lI251, lI255, lI256, lI384, lI16384, lI20000, lI32768, lI49152, lI65535, nI_add, pk_mul, pk_sub, pk_div, nI_leI, nI_ltI, nI_eq] <;> omega) (Ok.rd k rfl (by omega) (by decide) (Ok.bindE _ (dv_nI hs0 (by omega)) ?_))
      rw [hlv]
      refine Ok.wr k rfl (by omega) (by decide) (Ok.rd k rfl (by omega) (by decide) ?_)
      rw [upd_eq]
      refine Ok.wr k rfl (by omega) (by decide) (Ok.rd k rfl (by omega) (by decide) ?_)
      rw [upd_eq]
      refine Ok.bindE _ (eq_X9_digits _) (Ok.bnd (Ok.bnd (KK _ hc ⟨(by first | rfl | (simp (disch := omega) only [lI0, lI1, lI2, lI3, lI4, lI5, lI7, lI8, lI9, lI10, lI11, lI12, lI15, lI16, lI17, lI20, lI24, lI32, lI33, lI40, lI63, lI64, lI80, lI82, lI101, lI110, lI115, lI251, lI255, lI256, lI384, lI16384, lI20000, lI32768, lI49152, lI65535, nI_add, pk_mul, pk_sub, pk_div] <;> (apply congrArg nI; omega))), ?_, fun j hj => ?_, fun j hj => ?_, fun j hj => ?_⟩)))
      · dsimp only [sumN]
        rw [← Int32.add_assoc]
        rfl
      · dsimp only
        by_cases h6 : j = k
        · rw [h6, upd_eq]
        · rw [upd_ne h6]
          exact h3 j (by omega)
      · dsimp only
        by_cases h6 : j = k
        · rw [h6, upd_eq]
        · rw [upd_ne h6]
          exact h4 j (by omega)
      · dsimp only
        rw [upd_ne (by omega)]
        exact h5 j (by omega)
    · have hk2 : k = 2 ^ K * 2 ^ K := by omega
      subst hk2
      exact Ok.pos (by simp (disch := omega) only [lI0, lI1, lI2, lI3, lI4, lI5, lI7, lI8, lI9, lI10, lI11, lI12, lI15, lI16, lI17, lI20, lI24, lI32, lI33, lI40, lI63, lI64, lI80, lI82, lI101, lI110, lI115, lI251, lI255, lI256, lI384, lI16384, lI20000, lI32768, lI49152, lI65535, nI_add, pk_mul, pk_sub, pk_div, nI_leI, nI_ltI, nI_eq] <;> omega) (Ok.some ⟨by rw [sumN_fl]; rfl, fl_agr h3, fl_agr h4⟩)
  rintro ⟨cst, one2, wk2⟩ ⟨h1, h2, h3⟩
  dsimp only at h1 h2 h3 ⊢
  refine Ok.bind _ (ok_X9_rebuild (step := nI st) (lev := bLev K L U T (nI st)) rfl rfl rfl rfl rfl hK hn hx hy hm ht htop hL hU h3) ?_
  rintro ⟨m1, l1, r1, w1⟩ ⟨h4, h5⟩
  exact Ok.some ⟨h1, rfl, h2, h5⟩
