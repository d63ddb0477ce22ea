/-! ===== the transform of one line ===== -/
def hf (x : Int32) : Int32 := x >>> ((1 : Int32) &&& 31)
def spv (h : Nat) (v : Nat → Int32) (k : Nat) : Int32 := if k < h then hf (v (2 * k) + v (2 * k + 1)) else v (2 * (k - h)) - v (2 * (k - h) + 1)
def jnv (h : Nat) (v : Nat → Int32) (k : Nat) : Int32 := if k % 2 = 0 then v (k / 2) + hf (v (h + k / 2) + 1) else v (k / 2) + hf (v (h + k / 2) + 1) - v (h + k / 2)
/-- one line of n places from a on, ap apart, has become w; the rest is as it was -/
def lnP (n a ap : Nat) (w : Nat → Int32) (f g : Nat → Int32) : Prop := (∀ k, k < n → g (a + k * ap) = w k) ∧ ∀ j, (∀ k, k < n → j ≠ a + k * ap) → g j = f j
theorem ln_ne {a ap i k : Nat} (hp : 0 < ap) (h : i ≠ k) : a + i * ap ≠ a + k * ap := by
  intro h2
  exact h (Nat.eq_of_mul_eq_mul_right hp (by omega))
theorem ln_step {n a ap k : Nat} {w f g : Nat → Int32} (hp : 0 < ap) (hg : lnP k a ap w f g) : lnP (k + 1) a ap w f (upd g (a + k * ap) (w k)) := by
  refine ⟨fun i hi => ?_, fun j hj => ?_⟩
  · by_cases h : i = k
    · subst h
      exact upd_eq
    · rw [upd_ne (ln_ne hp h)]
      exact hg.1 i (by omega)
  · rw [upd_ne (hj k (by omega))]
    exact hg.2 j (fun i hi => hj i (by omega))
theorem ok_X7_splitLine {line pl : Nat → Int32} {p0 p1 p2 : Int32} {a ap h : Nat} (e0 : p0 = nI a) (e1 : p1 = nI ap) (e2 : p2 = nI (2 * h)) (hp : 0 < ap) (h4 : h ≤ 4) (hB : ∀ k, k < 2 * h → a + k * ap < 64) :
    Ok (lf_X7_splitLine line pl p0 p1 p2) (fun o => lnP (2 * h) a ap (spv h (fun k => pl (a + k * ap))) pl o.2) := by
  subst e0 e1 e2
  unfold lf_X7_splitLine
  refine Ok.bnd ?_
  rw [show nI (2 * h) / (2 : Int32) = nI h from (by first | rfl | (simp (disch := omega) only [lI0, lI1, lI2, lI3, lI4, lI5, lI7, lI8, lI9, lI10, lI11, lI12, lI15, lI16, lI17, lI20, lI24, lI32, lI33, lI40, lI63, lI64, lI80, lI82, lI101, lI110, lI115, lI251, lI255, lI256, lI384, lI16384, lI20000, lI32768, lI49152, lI65535, nI_add, pk_mul, pk_sub, pk_div] <;> (apply congrArg nI; omega)))]
  refine Ok.bind (fun g => ∀ k, k < 2 * h → g k = spv h (fun k => pl (a + k * ap)) k) (Ok.fix (fun k z => z.1 = nI k ∧ ∀ i, i < k → z.2 i = hf (pl (a + 2 * i * ap) + pl (a + (2 * i + 1) * ap)) ∧ z.2 (h + i) = pl (a + 2 * i * ap) - pl (a + (2 * i + 1) * ap)) h (by omega) ⟨rfl, fun i hi => absurd hi (by omega)⟩ ?_) ?_
  · rintro k ⟨x2, g3⟩ self hk ⟨rfl, hg⟩ K
    dsimp only at hg ⊢
    by_cases hc : k < h
    · refine Ok.neg (by simp (disch := omega) only [lI0, lI1, lI2, lI3, lI4, lI5, lI7, lI8, lI9, lI10, lI11, lI12, lI15, lI16, lI17, lI20, lI24, lI32, lI33, lI40, lI63, lI64, lI80, lI82, lI101, lI110, lI115, lI251, lI255, lI256, lI384, lI16384, lI20000, lI32768, lI49152, lI65535, nI_add, pk_mul, pk_sub, pk_div, nI_leI, nI_ltI, nI_eq] <;> omega) ?_
      have b1 := hB (2 * k) (by omega)
      have b2 := hB (2 * k + 1) (by omega)
      refine Ok.rd (a + 2 * k * ap) (by first | rfl | (simp (disch := omega) only [lI0, lI1, lI2, lI3, lI4, lI5, lI7, lI8, lI9, lI10, lI11, lI12, lI15, lI16, lI17, lI20, lI24, lI32, lI33, lI40, lI63, lI64, lI80, lI82, lI101, lI110, lI115, lI251, lI255, lI256, lI384, lI16384, lI20000, lI32768, lI49152, lI65535, nI_add, pk_mul, pk_sub, pk_div] <;> (apply congrArg nI; omega))) (by omega) (by decide) ?_
      refine Ok.rd (a + (2 * k + 1) * ap) (by first | rfl | (simp (disch := omega) only [lI0, lI1, lI2, lI3, lI4, lI5, lI7, lI8, lI9, lI10, lI11, lI12, lI15, lI16, lI17, lI20, lI24, lI32, lI33, lI40, lI63, lI64, lI80, lI82, lI101, lI110, lI115, lI251, lI255, lI256, lI384, lI16384, lI20000, lI32768, lI49152, lI65535, nI_add, pk_mul, pk_sub, pk_div] <;> (apply congrArg nI; omega))) (by omega) (by decide) ?_
      refine Ok.wr k (by first | rfl | (simp (disch := omega) only [lI0, lI1, lI2, lI3, lI4, lI5, lI7, lI8, lI9, lI10, lI11, lI12, lI15, lI16, lI17, lI20, lI24, lI32, lI33, lI40, lI63, lI64, lI80, lI82, lI101, lI110, lI115, lI251, lI255, lI256, lI384, lI16384, lI20000, lI32768, lI49152, lI65535, nI_add, pk_mul, pk_sub, pk_div] <;> (apply congrArg nI; omega))) (by omega) (by decide) ?_
      refine Ok.wr (h + k) (by first | rfl | (simp (disch := omega) only [lI0, lI1, lI2, lI3, lI4, lI5, lI7, lI8, lI9, lI10, lI11, lI12, lI15, lI16, lI17, lI20, lI24, lI32, lI33, lI40, lI63, lI64, lI80, lI82, lI101, lI110, lI115, lI251, lI255, lI256, lI384, lI16384, lI20000, lI32768, lI49152, lI65535, nI_add, pk_mul, pk_sub, pk_div] <;> (apply congrArg nI; omega))) (by omega) (by decide) ?_
      refine Ok.bnd ?_
      refine K _ hc ⟨(by first | rfl | (simp (disch := omega) only [lI0, lI1, lI2, lI3, lI4, lI5, lI7, lI8, lI9, lI10, lI11, lI12, lI15, lI16, lI17, lI20, lI24, lI32, lI33, lI40, lI63, lI64, lI80, lI82, lI101, lI110, lI115, lI251, lI255, lI256, lI384, lI16384, lI20000, lI32768, lI49152, lI65535, nI_add, pk_mul, pk_sub, pk_div] <;> (apply congrArg nI; omega))), fun i hi => ?_⟩
      dsimp only
      by_cases hik : i = k
      · subst hik
        refine ⟨?_, upd_eq⟩
        rw [upd_ne (by omega), upd_eq]
        rfl
      · rw [upd_ne (by omega), upd_ne (by omega), upd_ne (by omega), upd_ne (by omega)]
        exact hg i (by omega)
    · refine Ok.pos (by simp (disch := omega) only [lI0, lI1, lI2, lI3, lI4, lI5, lI7, lI8, lI9, lI10, lI11, lI12, lI15, lI16, lI17, lI20, lI24, lI32, lI33, lI40, lI63, lI64, lI80, lI82, lI101, lI110, lI115, lI251, lI255, lI256, lI384, lI16384, lI20000, lI32768, lI49152, lI65535, nI_add, pk_mul, pk_sub, pk_div, nI_leI, nI_ltI, nI_eq] <;> omega) (Ok.some fun i hi => ?_)
      unfold spv
      by_cases hi2 : i < h
      · rw [if_pos hi2]
        exact (hg i (by omega)).1
      · rw [if_neg hi2]
        have h3 := (hg (i - h) (by omega)).2
        rw [show h + (i - h) = i from by omega] at h3
        exact h3
  · intro o4 ho
    refine Ok.bind (fun g => lnP (2 * h) a ap o4 pl g) (Ok.fix (fun k z => z.1 = nI k ∧ lnP k a ap o4 pl z.2) (2 * h) (by omega) ⟨rfl, fun i hi => absurd hi (by omega), fun j _ => rfl⟩ ?_) ?_
    · rintro k ⟨x2, g3⟩ self hk ⟨rfl, hg⟩ K
      dsimp only at hg ⊢
      by_cases hc : k < 2 * h
      · refine Ok.neg (by simp (disch := omega) only [lI0, lI1, lI2, lI3, lI4, lI5, lI7, lI8, lI9, lI10, lI11, lI12, lI15, lI16, lI17, lI20, lI24, lI32, lI33, lI40, lI63, lI64, lI80, lI82, lI101, lI110, lI115, lI251, lI255, lI256, lI384, lI16384, lI20000, lI32768, lI49152, lI65535, nI_add, pk_mul, pk_sub, pk_div, nI_leI, nI_ltI, nI_eq] <;> omega) ?_
        have b1 := hB k hc
        refine Ok.rd k rfl (by omega) (by decide) ?_
        refine Ok.wr (a + k * ap) (by first | rfl | (simp (disch := omega) only [lI0, lI1, lI2, lI3, lI4, lI5, lI7, lI8, lI9, lI10, lI11, lI12, lI15, lI16, lI17, lI20, lI24, lI32, lI33, lI40, lI63, lI64, lI80, lI82, lI101, lI110, lI115, lI251, lI255, lI256, lI384, lI16384, lI20000, lI32768, lI49152, lI65535, nI_add, pk_mul, pk_sub, pk_div] <;> (apply congrArg nI; omega))) (by omega) (by decide) ?_
        exact K _ hc ⟨(by first | rfl | (simp (disch := omega) only [lI0, lI1, lI2, lI3, lI4, lI5, lI7, lI8, lI9, lI10, lI11, lI12, lI15, lI16, lI17, lI20, lI24, lI32, lI33, lI40, lI63, lI64, lI80, lI82, lI101, lI110, lI115, lI251, lI255, lI256, lI384, lI16384, lI20000, lI32768, lI49152, lI65535, nI_add, pk_mul, pk_sub, pk_div] <;> (apply congrArg nI; omega))), ln_step (n := 2 * h) hp hg⟩
      · refine Ok.pos (by simp (disch := omega) only [lI0, lI1, lI2, lI3, lI4, lI5, lI7, lI8, lI9, lI10, lI11, lI12, lI15, lI16, lI17, lI20, lI24, lI32, lI33, lI40, lI63, lI64, lI80, lI82, lI101, lI110, lI115, lI251, lI255, lI256, lI384, lI16384, lI20000, lI32768, lI49152, lI65535, nI_add, pk_mul, pk_sub, pk_div, nI_leI, nI_ltI, nI_eq] <;> omega) (Ok.some ?_)
        rw [show 2 * h = k from by omega]
        exact hg
    · intro o13 h13
      exact Ok.some ⟨fun k hk => (h13.1 k hk).trans (ho k hk), h13.2⟩
theorem ok_X9_split {line pl : Nat → Int32} {p0 p1 p2 : Int32} {a ap h : Nat} (e0 : p0 = nI a) (e1 : p1 = nI ap) (e2 : p2 = nI (2 * h)) (hp : 0 < ap) (h4 : h ≤ 4) (hB : ∀ k, k < 2 * h → a + k * ap < 64) :
    Ok (lf_X9_split line pl p0 p1 p2) (fun o => lnP (2 * h) a ap (spv h (fun k => pl (a + k * ap))) pl o.2) := by
  subst e0 e1 e2
  unfold lf_X9_split
  rw [show nI (2 * h) / (2 : Int32) = nI h from (by first | rfl | (simp (disch := omega) only [lI0, lI1, lI2, lI3, lI4, lI5, lI7, lI8, lI9, lI10, lI11, lI12, lI15, lI16, lI17, lI20, lI24, lI32, lI33, lI40, lI63, lI64, lI80, lI82, lI101, lI110, lI115, lI251, lI255, lI256, lI384, lI16384, lI20000, lI32768, lI49152, lI65535, nI_add, pk_mul, pk_sub, pk_div] <;> (apply congrArg nI; omega)))]
  refine Ok.bind (fun g => ∀ k, k < 2 * h → g k = spv h (fun k => pl (a + k * ap)) k) (Ok.fix (fun k z => z.1 = nI k ∧ ∀ i, i < k → z.2 i = hf (pl (a + 2 * i * ap) + pl (a + (2 * i + 1) * ap)) ∧ z.2 (h + i) = pl (a + 2 * i * ap) - pl (a + (2 * i + 1) * ap)) h (by omega) ⟨rfl, fun i hi => absurd hi (by omega)⟩ ?_) ?_
  · rintro k ⟨x2, g3⟩ self hk ⟨rfl, hg⟩ K
    dsimp only at hg ⊢
    by_cases hc : k < h
    · refine Ok.neg (by simp (disch := omega) only [lI0, lI1, lI2, lI3, lI4, lI5, lI7, lI8, lI9, lI10, lI11, lI12, lI15, lI16, lI17, lI20, lI24, lI32, lI33, lI40, lI63, lI64, lI80, lI82, lI101, lI110, lI115, lI251, lI255, lI256, lI384, lI16384, lI20000, lI32768, lI49152, lI65535, nI_add, pk_mul, pk_sub, pk_div, nI_leI, nI_ltI, nI_eq] <;> omega) ?_
      have b1 := hB (2 * k) (by omega)
      have b2 := hB (2 * k + 1) (by omega)
      refine Ok.rd (a + 2 * k * ap) (by first | rfl | (simp (disch := omega) only [lI0, lI1, lI2, lI3, lI4, lI5, lI7, lI8, lI9, lI10, lI11, lI12, lI15, lI16, lI17, lI20, lI24, lI32, lI33, lI40, lI63, lI64, lI80, lI82, lI101, lI110, lI115, lI251, lI255, lI256, lI384, lI16384, lI20000, lI32768, lI49152, lI65535, nI_add, pk_mul, pk_sub, pk_div] <;> (apply congrArg nI; omega))) (by omega) (by decide) ?_
      refine Ok.rd (a + (2 * k + 1) * ap) (by first | rfl | (simp (disch := omega) only [lI0, lI1, lI2, lI3, lI4, lI5, lI7, lI8, lI9, lI10, lI11, lI12, lI15, lI16, lI17, lI20, lI24, lI32, lI33, lI40, lI63, lI64, lI80, lI82, lI101, lI110, lI115, lI251, lI255, lI256, lI384, lI16384, lI20000, lI32768, lI49152, lI65535, nI_add, pk_mul, pk_sub, pk_div] <;> (apply congrArg nI; omega))) (by omega) (by decide) ?_
      refine Ok.bindE _ rfl ?_
      refine Ok.wr k (by first | rfl | (simp (disch := omega) only [lI0, lI1, lI2, lI3, lI4, lI5, lI7, lI8, lI9, lI10, lI11, lI12, lI15, lI16, lI17, lI20, lI24, lI32, lI33, lI40, lI63, lI64, lI80, lI82, lI101, lI110, lI115, lI251, lI255, lI256, lI384, lI16384, lI20000, lI32768, lI49152, lI65535, nI_add, pk_mul, pk_sub, pk_div] <;> (apply congrArg nI; omega))) (by omega) (by decide) ?_
      refine Ok.wr (h + k) (by first | rfl | (simp (disch := omega) only [lI0, lI1, lI2, lI3, lI4, lI5, lI7, lI8, lI9, lI10, lI11, lI12, lI15, lI16, lI17, lI20, lI24, lI32, lI33, lI40, lI63, lI64, lI80, lI82, lI101, lI110, lI115, lI251, lI255, lI256, lI384, lI16384, lI20000, lI32768, lI49152, lI65535, nI_add, pk_mul, pk_sub, pk_div] <;> (apply congrArg nI; omega))) (by omega) (by decide) ?_
      refine Ok.bnd ?_
      refine K _ hc ⟨(by first | rfl | (simp (disch := omega) only [lI0, lI1, lI2, lI3, lI4, lI5, lI7, lI8, lI9, lI10, lI11, lI12, lI15, lI16, lI17, lI20, lI24, lI32, lI33, lI40, lI63, lI64, lI80, lI82, lI101, lI110, lI115, lI251, lI255, lI256, lI384, lI16384, lI20000, lI32768, lI49152, lI65535, nI_add, pk_mul, pk_sub, pk_div] <;> (apply congrArg nI; omega))), fun i hi => ?_⟩
      dsimp only
      by_cases hik : i = k
      · subst hik
        refine ⟨?_, upd_eq⟩
        rw [upd_ne (by omega), upd_eq]
        rfl
      · rw [upd_ne (by omega), upd_ne (by omega), upd_ne (by omega), upd_ne (by omega)]
        exact hg i (by omega)
    · refine Ok.pos (by simp (disch := omega) only [lI0, lI1, lI2, lI3, lI4, lI5, lI7, lI8, lI9, lI10, lI11, lI12, lI15, lI16, lI17, lI20, lI24, lI32, lI33, lI40, lI63, lI64, lI80, lI82, lI101, lI110, lI115, lI251, lI255, lI256, lI384, lI16384, lI20000, lI32768, lI49152, lI65535, nI_add, pk_mul, pk_sub, pk_div, nI_leI, nI_ltI, nI_eq] <;> omega) (Ok.some fun i hi => ?_)
      unfold spv
      by_cases hi2 : i < h
      · rw [if_pos hi2]
        exact (hg i (by omega)).1
      · rw [if_neg hi2]
        have h3 := (hg (i - h) (by omega)).2
        rw [show h + (i - h) = i from by omega] at h3
        exact h3
  · intro o4 ho
    refine Ok.bind (fun g => lnP (2 * h) a ap o4 pl g) (Ok.fix (fun k z => z.1 = nI k ∧ lnP k a ap o4 pl z.2) (2 * h) (by omega) ⟨rfl, fun i hi => absurd hi (by omega), fun j _ => rfl⟩ ?_) ?_
    · rintro k ⟨x2, g3⟩ self hk ⟨rfl, hg⟩ K
      dsimp only at hg ⊢
      by_cases hc : k < 2 * h
      · refine Ok.neg (by simp (disch := omega) only [lI0, lI1, lI2, lI3, lI4, lI5, lI7, lI8, lI9, lI10, lI11, lI12, lI15, lI16, lI17, lI20, lI24, lI32, lI33, lI40, lI63, lI64, lI80, lI82, lI101, lI110, lI115, lI251, lI255, lI256, lI384, lI16384, lI20000, lI32768, lI49152, lI65535, nI_add, pk_mul, pk_sub, pk_div, nI_leI, nI_ltI, nI_eq] <;> omega) ?_
        have b1 := hB k hc
        refine Ok.rd k rfl (by omega) (by decide) ?_
        refine Ok.wr (a + k * ap) (by first | rfl | (simp (disch := omega) only [lI0, lI1, lI2, lI3, lI4, lI5, lI7, lI8, lI9, lI10, lI11, lI12, lI15, lI16, lI17, lI20, lI24, lI32, lI33, lI40, lI63, lI64, lI80, lI82, lI101, lI110, lI115, lI251, lI255, lI256, lI384, lI16384, lI20000, lI32768, lI49152, lI65535, nI_add, pk_mul, pk_sub, pk_div] <;> (apply congrArg nI; omega))) (by omega) (by decide) ?_
        exact K _ hc ⟨(by first | rfl | (simp (disch := omega) only [lI0, lI1, lI2, lI3, lI4, lI5, lI7, lI8, lI9, lI10, lI11, lI12, lI15, lI16, lI17, lI20, lI24, lI32, lI33, lI40, lI63, lI64, lI80, lI82, lI101, lI110, lI115, lI251, lI255, lI256, lI384, lI16384, lI20000, lI32768, lI49152, lI65535, nI_add, pk_mul, pk_sub, pk_div] <;> (apply congrArg nI; omega))), ln_step (n := 2 * h) hp hg⟩
      · refine Ok.pos (by simp (disch := omega) only [lI0, lI1, lI2, lI3, lI4, lI5, lI7, lI8, lI9, lI10, lI11, lI12, lI15, lI16, lI17, lI20, lI24, lI32, lI33, lI40, lI63, lI64, lI80, lI82, lI101, lI110, lI115, lI251, lI255, lI256, lI384, lI16384, lI20000, lI32768, lI49152, lI65535, nI_add, pk_mul, pk_sub, pk_div, nI_leI, nI_ltI, nI_eq] <;> omega) (Ok.some ?_)
        rw [show 2 * h = k from by omega]
        exact hg
    · intro o13 h13
      exact Ok.some ⟨fun k hk => (h13.1 k hk).trans (ho k hk), h13.2⟩
theorem ok_X7_joinLine {line pl : Nat → Int32} {p0 p1 p2 : Int32} {a ap h : Nat} (e0 : p0 = nI a) (e1 : p1 = nI ap) (e2 : p2 = nI (2 * h)) (hp : 0 < ap) (h4 : h ≤ 4) (hB : ∀ k, k < 2 * h → a + k * ap < 64) :
    Ok (lf_X7_joinLine line pl p0 p1 p2) (fun o => lnP (2 * h) a ap (jnv h (fun k => pl (a + k * ap))) pl o.2) := by
  subst e0 e1 e2
  unfold lf_X7_joinLine
  refine Ok.bnd ?_
  rw [show nI (2 * h) / (2 : Int32) = nI h from (by first | rfl | (simp (disch := omega) only [lI0, lI1, lI2, lI3, lI4, lI5, lI7, lI8, lI9, lI10, lI11, lI12, lI15, lI16, lI17, lI20, lI24, lI32, lI33, lI40, lI63, lI64, lI80, lI82, lI101, lI110, lI115, lI251, lI255, lI256, lI384, lI16384, lI20000, lI32768, lI49152, lI65535, nI_add, pk_mul, pk_sub, pk_div] <;> (apply congrArg nI; omega)))]
  refine Ok.bind (fun g => ∀ k, k < 2 * h → g k = jnv h (fun k => pl (a + k * ap)) k) (Ok.fix (fun k z => z.1 = nI k ∧ ∀ i, i < k → z.2 (2 * i) = pl (a + i * ap) + hf (pl (a + (h + i) * ap) + 1) ∧ z.2 (2 * i + 1) = pl (a + i * ap) + hf (pl (a + (h + i) * ap) + 1) - pl (a + (h + i) * ap)) h (by omega) ⟨rfl, fun i hi => absurd hi (by omega)⟩ ?_) ?_
  · rintro k ⟨x2, g3⟩ self hk ⟨rfl, hg⟩ K
    dsimp only at hg ⊢
    by_cases hc : k < h
    · refine Ok.neg (by simp (disch := omega) only [lI0, lI1, lI2, lI3, lI4, lI5, lI7, lI8, lI9, lI10, lI11, lI12, lI15, lI16, lI17, lI20, lI24, lI32, lI33, lI40, lI63, lI64, lI80, lI82, lI101, lI110, lI115, lI251, lI255, lI256, lI384, lI16384, lI20000, lI32768, lI49152, lI65535, nI_add, pk_mul, pk_sub, pk_div, nI_leI, nI_ltI, nI_eq] <;> omega) ?_
      have b1 := hB k (by omega)
      have b2 := hB (h + k) (by omega)
      refine Ok.rd (a + k * ap) (by first | rfl | (simp (disch := omega) only [lI0, lI1, lI2, lI3, lI4, lI5, lI7, lI8, lI9, lI10, lI11, lI12, lI15, lI16, lI17, lI20, lI24, lI32, lI33, lI40, lI63, lI64, lI80, lI82, lI101, lI110, lI115, lI251, lI255, lI256, lI384, lI16384, lI20000, lI32768, lI49152, lI65535, nI_add, pk_mul, pk_sub, pk_div] <;> (apply congrArg nI; omega))) (by omega) (by decide) ?_
      refine Ok.rd (a + (h + k) * ap) (by first | rfl | (simp (disch := omega) only [lI0, lI1, lI2, lI3, lI4, lI5, lI7, lI8, lI9, lI10, lI11, lI12, lI15, lI16, lI17, lI20, lI24, lI32, lI33, lI40, lI63, lI64, lI80, lI82, lI101, lI110, lI115, lI251, lI255, lI256, lI384, lI16384, lI20000, lI32768, lI49152, lI65535, nI_add, pk_mul, pk_sub, pk_div] <;> (apply congrArg nI; omega))) (by omega) (by decide) ?_
      refine Ok.bnd ?_
      refine Ok.wr (2 * k) (by first | rfl | (simp (disch := omega) only [lI0, lI1, lI2, lI3, lI4, lI5, lI7, lI8, lI9, lI10, lI11, lI12, lI15, lI16, lI17, lI20, lI24, lI32, lI33, lI40, lI63, lI64, lI80, lI82, lI101, lI110, lI115, lI251, lI255, lI256, lI384, lI16384, lI20000, lI32768, lI49152, lI65535, nI_add, pk_mul, pk_sub, pk_div] <;> (apply congrArg nI; omega))) (by omega) (by decide) ?_
      refine Ok.wr (2 * k + 1) (by first | rfl | (simp (disch := omega) only [lI0, lI1, lI2, lI3, lI4, lI5, lI7, lI8, lI9, lI10, lI11, lI12, lI15, lI16, lI17, lI20, lI24, lI32, lI33, lI40, lI63, lI64, lI80, lI82, lI101, lI110, lI115, lI251, lI255, lI256, lI384, lI16384, lI20000, lI32768, lI49152, lI65535, nI_add, pk_mul, pk_sub, pk_div] <;> (apply congrArg nI; omega))) (by omega) (by decide) ?_
      refine Ok.bnd ?_
      refine K _ hc ⟨(by first | rfl | (simp (disch := omega) only [lI0, lI1, lI2, lI3, lI4, lI5, lI7, lI8, lI9, lI10, lI11, lI12, lI15, lI16, lI17, lI20, lI24, lI32, lI33, lI40, lI63, lI64, lI80, lI82, lI101, lI110, lI115, lI251, lI255, lI256, lI384, lI16384, lI20000, lI32768, lI49152, lI65535, nI_add, pk_mul, pk_sub, pk_div] <;> (apply congrArg nI; omega))), fun i hi => ?_⟩
      dsimp only
      by_cases hik : i = k
      · subst hik
        refine ⟨?_, upd_eq⟩
        rw [upd_ne (by omega), upd_eq]
        rfl
      · rw [upd_ne (by omega), upd_ne (by omega), upd_ne (by omega), upd_ne (by omega)]
        exact hg i (by omega)
    · refine Ok.pos (by simp (disch := omega) only [lI0, lI1, lI2, lI3, lI4, lI5, lI7, lI8, lI9, lI10, lI11, lI12, lI15, lI16, lI17, lI20, lI24, lI32, lI33, lI40, lI63, lI64, lI80, lI82, lI101, lI110, lI115, lI251, lI255, lI256, lI384, lI16384, lI20000, lI32768, lI49152, lI65535, nI_add, pk_mul, pk_sub, pk_div, nI_leI, nI_ltI, nI_eq] <;> omega) (Ok.some fun i hi => ?_)
      unfold jnv
      by_cases hi2 : i % 2 = 0
      · rw [if_pos hi2]
        have h3 := (hg (i / 2) (by omega)).1
        rw [show 2 * (i / 2) = i from by omega] at h3
        exact h3
      · rw [if_neg hi2]
        have h3 := (hg (i / 2) (by omega)).2
        rw [show 2 * (i / 2) + 1 = i from by omega] at h3
        exact h3
  · intro o4 ho
    refine Ok.bind (fun g => lnP (2 * h) a ap o4 pl g) (Ok.fix (fun k z => z.1 = nI k ∧ lnP k a ap o4 pl z.2) (2 * h) (by omega) ⟨rfl, fun i hi => absurd hi (by omega), fun j _ => rfl⟩ ?_) ?_
    · rintro k ⟨x2, g3⟩ self hk ⟨rfl, hg⟩ K
      dsimp only at hg ⊢
      by_cases hc : k < 2 * h
      · refine Ok.neg (by simp (disch := omega) only [lI0, lI1, lI2, lI3, lI4, lI5, lI7, lI8, lI9, lI10, lI11, lI12, lI15, lI16, lI17, lI20, lI24, lI32, lI33, lI40, lI63, lI64, lI80, lI82, lI101, lI110, lI115, lI251, lI255, lI256, lI384, lI16384, lI20000, lI32768, lI49152, lI65535, nI_add, pk_mul, pk_sub, pk_div, nI_leI, nI_ltI, nI_eq] <;> omega) ?_
        have b1 := hB k hc
        refine Ok.rd k rfl (by omega) (by decide) ?_
        refine Ok.wr (a + k * ap) (by first | rfl | (simp (disch := omega) only [lI0, lI1, lI2, lI3, lI4, lI5, lI7, lI8, lI9, lI10, lI11, lI12, lI15, lI16, lI17, lI20, lI24, lI32, lI33, lI40, lI63, lI64, lI80, lI82, lI101, lI110, lI115, lI251, lI255, lI256, lI384, lI16384, lI20000, lI32768, lI49152, lI65535, nI_add, pk_mul, pk_sub, pk_div] <;> (apply congrArg nI; omega))) (by omega) (by decide) ?_
        exact K _ hc ⟨(by first | rfl | (simp (disch := omega) only [lI0, lI1, lI2, lI3, lI4, lI5, lI7, lI8, lI9, lI10, lI11, lI12, lI15, lI16, lI17, lI20, lI24, lI32, lI33, lI40, lI63, lI64, lI80, lI82, lI101, lI110, lI115, lI251, lI255, lI256, lI384, lI16384, lI20000, lI32768, lI49152, lI65535, nI_add, pk_mul, pk_sub, pk_div] <;> (apply congrArg nI; omega))), ln_step (n := 2 * h) hp hg⟩
      · refine Ok.pos (by simp (disch := omega) only [lI0, lI1, lI2, lI3, lI4, lI5, lI7, lI8, lI9, lI10, lI11, lI12, lI15, lI16, lI17, lI20, lI24, lI32, lI33, lI40, lI63, lI64, lI80, lI82, lI101, lI110, lI115, lI251, lI255, lI256, lI384, lI16384, lI20000, lI32768, lI49152, lI65535, nI_add, pk_mul, pk_sub, pk_div, nI_leI, nI_ltI, nI_eq] <;> omega) (Ok.some ?_)
        rw [show 2 * h = k from by omega]
        exact hg
    · intro o13 h13
      exact Ok.some ⟨fun k hk => (h13.1 k hk).trans (ho k hk), h13.2⟩
theorem ok_X9_join {line pl : Nat → Int32} {p0 p1 p2 : Int32} {a ap h : Nat} (e0 : p0 = nI a) (e1 : p1 = nI ap) (e2 : p2 = nI (2 * h)) (hp : 0 < ap) (h4 : h ≤ 4) (hB : ∀ k, k < 2 * h → a + k * ap < 64) :
    Ok (lf_X9_join line pl p0 p1 p2) (fun o => lnP (2 * h) a ap (jnv h (fun k => pl (a + k * ap))) pl o.2) := by
  subst e0 e1 e2
  unfold lf_X9_join
  rw [show nI (2 * h) / (2 : Int32) = nI h from (by first | rfl | (simp (disch := omega) only [lI0, lI1, lI2, lI3, lI4, lI5, lI7, lI8, lI9, lI10, lI11, lI12, lI15, lI16, lI17, lI20, lI24, lI32, lI33, lI40, lI63, lI64, lI80, lI82, lI101, lI110, lI115, lI251, lI255, lI256, lI384, lI16384, lI20000, lI32768, lI49152, lI65535, nI_add, pk_mul, pk_sub, pk_div] <;> (apply congrArg nI; omega)))]
  refine Ok.bind (fun g => ∀ k, k < 2 * h → g k = jnv h (fun k => pl (a + k * ap)) k) (Ok.fix (fun k z => z.1 = nI k ∧ ∀ i, i < k → z.2 (2 * i) = pl (a + i * ap) + hf (pl (a + (h + i) * ap) + 1) ∧ z.2 (2 * i + 1) = pl (a + i * ap) + hf (pl (a + (h + i) * ap) + 1) - pl (a + (h + i) * ap)) h (by omega) ⟨rfl, fun i hi => absurd hi (by omega)⟩ ?_) ?_
  · rintro k ⟨x2, g3⟩ self hk ⟨rfl, hg⟩ K
    dsimp only at hg ⊢
    by_cases hc : k < h
    · refine Ok.neg (by simp (disch := omega) only [lI0, lI1, lI2, lI3, lI4, lI5, lI7, lI8, lI9, lI10, lI11, lI12, lI15, lI16, lI17, lI20, lI24, lI32, lI33, lI40, lI63, lI64, lI80, lI82, lI101, lI110, lI115, lI251, lI255, lI256, lI384, lI16384, lI20000, lI32768, lI49152, lI65535, nI_add, pk_mul, pk_sub, pk_div, nI_leI, nI_ltI, nI_eq] <;> omega) ?_
      have b1 := hB k (by omega)
      have b2 := hB (h + k) (by omega)
      refine Ok.rd (a + k * ap) (by first | rfl | (simp (disch := omega) only [lI0, lI1, lI2, lI3, lI4, lI5, lI7, lI8, lI9, lI10, lI11, lI12, lI15, lI16, lI17, lI20, lI24, lI32, lI33, lI40, lI63, lI64, lI80, lI82, lI101, lI110, lI115, lI251, lI255, lI256, lI384, lI16384, lI20000, lI32768, lI49152, lI65535, nI_add, pk_mul, pk_sub, pk_div] <;> (apply congrArg nI; omega))) (by omega) (by decide) ?_
      refine Ok.rd (a + (h + k) * ap) (by first | rfl | (simp (disch := omega) only [lI0, lI1, lI2, lI3, lI4, lI5, lI7, lI8, lI9, lI10, lI11, lI12, lI15, lI16, lI17, lI20, lI24, lI32, lI33, lI40, lI63, lI64, lI80, lI82, lI101, lI110, lI115, lI251, lI255, lI256, lI384, lI16384, lI20000, lI32768, lI49152, lI65535, nI_add, pk_mul, pk_sub, pk_div] <;> (apply congrArg nI; omega))) (by omega) (by decide) ?_
      refine Ok.bindE _ rfl ?_
      refine Ok.bnd ?_
      refine Ok.wr (2 * k) (by first | rfl | (simp (disch := omega) only [lI0, lI1, lI2, lI3, lI4, lI5, lI7, lI8, lI9, lI10, lI11, lI12, lI15, lI16, lI17, lI20, lI24, lI32, lI33, lI40, lI63, lI64, lI80, lI82, lI101, lI110, lI115, lI251, lI255, lI256, lI384, lI16384, lI20000, lI32768, lI49152, lI65535, nI_add, pk_mul, pk_sub, pk_div] <;> (apply congrArg nI; omega))) (by omega) (by decide) ?_
      refine Ok.wr (2 * k + 1) (by first | rfl | (simp (disch := omega) only [lI0, lI1, lI2, lI3, lI4, lI5, lI7, lI8, lI9, lI10, lI11, lI12, lI15, lI16, lI17, lI20, lI24, lI32, lI33, lI40, lI63, lI64, lI80, lI82, lI101, lI110, lI115, lI251, lI255, lI256, lI384, lI16384, lI20000, lI32768, lI49152, lI65535, nI_add, pk_mul, pk_sub, pk_div] <;> (apply congrArg nI; omega))) (by omega) (by decide) ?_
      refine Ok.bnd ?_
      refine K _ hc ⟨(by first | rfl | (simp (disch := omega) only [lI0, lI1, lI2, lI3, lI4, lI5, lI7, lI8, lI9, lI10, lI11, lI12, lI15, lI16, lI17, lI20, lI24, lI32, lI33, lI40, lI63, lI64, lI80, lI82, lI101, lI110, lI115, lI251, lI255, lI256, lI384, lI16384, lI20000, lI32768, lI49152, lI65535, nI_add, pk_mul, pk_sub, pk_div] <;> (apply congrArg nI; omega))), fun i hi => ?_⟩
      dsimp only
      by_cases hik : i = k
      · subst hik
        refine ⟨?_, upd_eq⟩
        rw [upd_ne (by omega), upd_eq]
        rfl
      · rw [upd_ne (by omega), upd_ne (by omega), upd_ne (by omega), upd_ne (by omega)]
        exact hg i (by omega)
    · refine Ok.pos (by simp (disch := omega) only [lI0, lI1, lI2, lI3, lI4, lI5, lI7, lI8, lI9, lI10, lI11, lI12, lI15, lI16, lI17, lI20, lI24, lI32, lI33, lI40, lI63, lI64, lI80, lI82, lI101, lI110, lI115, lI251, lI255, lI256, lI384, lI16384, lI20000, lI32768, lI49152, lI65535, nI_add, pk_mul, pk_sub, pk_div, nI_leI, nI_ltI, nI_eq] <;> omega) (Ok.some fun i hi => ?_)
      unfold jnv
      by_cases hi2 : i % 2 = 0
      · rw [if_pos hi2]
        have h3 := (hg (i / 2) (by omega)).1
        rw [show 2 * (i / 2) = i from by omega] at h3
        exact h3
      · rw [if_neg hi2]
        have h3 := (hg (i / 2) (by omega)).2
        rw [show 2 * (i / 2) + 1 = i from by omega] at h3
        exact h3
  · intro o4 ho
    refine Ok.bind (fun g => lnP (2 * h) a ap o4 pl g) (Ok.fix (fun k z => z.1 = nI k ∧ lnP k a ap o4 pl z.2) (2 * h) (by omega) ⟨rfl, fun i hi => absurd hi (by omega), fun j _ => rfl⟩ ?_) ?_
    · rintro k ⟨x2, g3⟩ self hk ⟨rfl, hg⟩ K
      dsimp only at hg ⊢
      by_cases hc : k < 2 * h
      · refine Ok.neg (by simp (disch := omega) only [lI0, lI1, lI2, lI3, lI4, lI5, lI7, lI8, lI9, lI10, lI11, lI12, lI15, lI16, lI17, lI20, lI24, lI32, lI33, lI40, lI63, lI64, lI80, lI82, lI101, lI110, lI115, lI251, lI255, lI256, lI384, lI16384, lI20000, lI32768, lI49152, lI65535, nI_add, pk_mul, pk_sub, pk_div, nI_leI, nI_ltI, nI_eq] <;> omega) ?_
        have b1 := hB k hc
        refine Ok.rd k rfl (by omega) (by decide) ?_
        refine Ok.wr (a + k * ap) (by first | rfl | (simp (disch := omega) only [lI0, lI1, lI2, lI3, lI4, lI5, lI7, lI8, lI9, lI10, lI11, lI12, lI15, lI16, lI17, lI20, lI24, lI32, lI33, lI40, lI63, lI64, lI80, lI82, lI101, lI110, lI115, lI251, lI255, lI256, lI384, lI16384, lI20000, lI32768, lI49152, lI65535, nI_add, pk_mul, pk_sub, pk_div] <;> (apply congrArg nI; omega))) (by omega) (by decide) ?_
        exact K _ hc ⟨(by first | rfl | (simp (disch := omega) only [lI0, lI1, lI2, lI3, lI4, lI5, lI7, lI8, lI9, lI10, lI11, lI12, lI15, lI16, lI17, lI20, lI24, lI32, lI33, lI40, lI63, lI64, lI80, lI82, lI101, lI110, lI115, lI251, lI255, lI256, lI384, lI16384, lI20000, lI32768, lI49152, lI65535, nI_add, pk_mul, pk_sub, pk_div] <;> (apply congrArg nI; omega))), ln_step (n := 2 * h) hp hg⟩
      · refine Ok.pos (by simp (disch := omega) only [lI0, lI1, lI2, lI3, lI4, lI5, lI7, lI8, lI9, lI10, lI11, lI12, lI15, lI16, lI17, lI20, lI24, lI32, lI33, lI40, lI63, lI64, lI80, lI82, lI101, lI110, lI115, lI251, lI255, lI256, lI384, lI16384, lI20000, lI32768, lI49152, lI65535, nI_add, pk_mul, pk_sub, pk_div, nI_leI, nI_ltI, nI_eq] <;> omega) (Ok.some ?_)
        rw [show 2 * h = k from by omega]
        exact hg
    · intro o13 h13
      exact Ok.some ⟨fun k hk => (h13.1 k hk).trans (ho k hk), h13.2⟩
