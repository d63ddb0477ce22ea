/-! ===== when a stream's header is valid, both sides ===== -/
def stV (b : Nat → Nat) (i : Nat) : Prop := 1 ≤ b (4 + i) ∧ b (4 + i) < (if i = 0 then 33 else b (3 + i))
def svN (sz : Nat) (b : Nat → Nat) : Prop := 4 ≤ sz ∧ 1 ≤ b 3 ∧ b 3 ≤ 3 ∧ 4 + b 3 ≤ sz ∧ ∀ i, i < b 3 → stV b i
def hvN (sz : Nat) (b : Nat → Nat) : Prop := 3 ≤ sz ∧ (b 0 = 80 ∨ b 0 = 82) ∧ (1 ≤ b 1 ∧ b 1 ≤ 16) ∧ (1 ≤ b 2 ∧ b 2 ≤ 24) ∧ (b 0 = 82 ∨ svN sz b)
theorem eq_isIn {v a c : Nat} (hv : v < 2 ^ 31) (ha : a < 2 ^ 31) (hc : c < 2 ^ 31) : lf_X9_isIn (nI v) (nI a) (nI c) = some (if a ≤ v ∧ v ≤ c then 1 else 0) := by
  suffices hs : Ok (lf_X9_isIn (nI v) (nI a) (nI c)) (fun o => o = if a ≤ v ∧ v ≤ c then 1 else 0) by
    obtain ⟨o, h1, h2⟩ := hs
    rw [h1, h2]
  unfold lf_X9_isIn
  refine Ok.jnI ?_
  by_cases h1 : a ≤ v
  · refine Ok.neg (by simp (disch := omega) only [lI0, lI1, lI2, lI3, lI4, lI5, lI7, lI8, lI9, lI10, lI11, lI12, lI15, lI16, lI17, lI20, lI24, lI32, lI33, lI40, lI63, lI64, lI80, lI82, lI101, lI110, lI115, lI251, lI255, lI256, lI384, lI16384, lI20000, lI32768, lI49152, lI65535, nI_add, pk_mul, pk_sub, pk_div, nI_leI, nI_ltI, nI_eq] <;> omega) ?_
    by_cases h2 : v ≤ c
    · exact Ok.neg (by simp (disch := omega) only [lI0, lI1, lI2, lI3, lI4, lI5, lI7, lI8, lI9, lI10, lI11, lI12, lI15, lI16, lI17, lI20, lI24, lI32, lI33, lI40, lI63, lI64, lI80, lI82, lI101, lI110, lI115, lI251, lI255, lI256, lI384, lI16384, lI20000, lI32768, lI49152, lI65535, nI_add, pk_mul, pk_sub, pk_div, nI_leI, nI_ltI, nI_eq] <;> omega) (Ok.some (if_pos ⟨h1, h2⟩).symm)
    · exact Ok.pos (by simp (disch := omega) only [lI0, lI1, lI2, lI3, lI4, lI5, lI7, lI8, lI9, lI10, lI11, lI12, lI15, lI16, lI17, lI20, lI24, lI32, lI33, lI40, lI63, lI64, lI80, lI82, lI101, lI110, lI115, lI251, lI255, lI256, lI384, lI16384, lI20000, lI32768, lI49152, lI65535, nI_add, pk_mul, pk_sub, pk_div, nI_leI, nI_ltI, nI_eq] <;> omega) (Ok.some (if_neg (fun h => h2 h.2)).symm)
  · exact Ok.pos (by simp (disch := omega) only [lI0, lI1, lI2, lI3, lI4, lI5, lI7, lI8, lI9, lI10, lI11, lI12, lI15, lI16, lI17, lI20, lI24, lI32, lI33, lI40, lI63, lI64, lI80, lI82, lI101, lI110, lI115, lI251, lI255, lI256, lI384, lI16384, lI20000, lI32768, lI49152, lI65535, nI_add, pk_mul, pk_sub, pk_div, nI_leI, nI_ltI, nI_eq] <;> omega) (Ok.some (if_neg (fun h => h1 h.1)).symm)
theorem ok_isHeader {sz : Nat} {stm : Nat → Int32} {b : Nat → Nat} (hsz : sz ≤ 18500) (hb : ∀ i, i < sz → stm i = nI (b i) ∧ b i < 256) : Ok (lf_X9_isHeader (nI sz) stm) (fun o => o = 1 ∧ hvN sz b ∨ o = 0 ∧ ¬ hvN sz b) := by
  unfold lf_X9_isHeader
  by_cases h3 : sz < 3
  · refine Ok.pos (by simp (disch := omega) only [lI0, lI1, lI2, lI3, lI4, lI5, lI7, lI8, lI9, lI10, lI11, lI12, lI15, lI16, lI17, lI20, lI24, lI32, lI33, lI40, lI63, lI64, lI80, lI82, lI101, lI110, lI115, lI251, lI255, lI256, lI384, lI16384, lI20000, lI32768, lI49152, lI65535, nI_add, pk_mul, pk_sub, pk_div, nI_leI, nI_ltI, nI_eq] <;> omega) (Ok.some (Or.inr ⟨rfl, fun h => ?_⟩))
    have := h.1
    omega
  · obtain ⟨b00, b01⟩ := hb 0 (by omega)
    obtain ⟨b10, b11⟩ := hb 1 (by omega)
    obtain ⟨b20, b21⟩ := hb 2 (by omega)
    refine Ok.neg (by simp (disch := omega) only [lI0, lI1, lI2, lI3, lI4, lI5, lI7, lI8, lI9, lI10, lI11, lI12, lI15, lI16, lI17, lI20, lI24, lI32, lI33, lI40, lI63, lI64, lI80, lI82, lI101, lI110, lI115, lI251, lI255, lI256, lI384, lI16384, lI20000, lI32768, lI49152, lI65535, nI_add, pk_mul, pk_sub, pk_div, nI_leI, nI_ltI, nI_eq] <;> omega) (Ok.rd 0 rfl (by decide) (by decide) ?_)
    rw [b00]
    refine Ok.jnR (fun _ => b 0 = 80 ∨ b 0 = 82) (fun k hk => ?_) (fun x hx => ?_)
    · by_cases h0 : b 0 = 80
      · exact Ok.pos (by simp (disch := omega) only [lI0, lI1, lI2, lI3, lI4, lI5, lI7, lI8, lI9, lI10, lI11, lI12, lI15, lI16, lI17, lI20, lI24, lI32, lI33, lI40, lI63, lI64, lI80, lI82, lI101, lI110, lI115, lI251, lI255, lI256, lI384, lI16384, lI20000, lI32768, lI49152, lI65535, nI_add, pk_mul, pk_sub, pk_div, nI_leI, nI_ltI, nI_eq] <;> omega) (hk _ (Or.inl h0))
      · refine Ok.neg (by simp (disch := omega) only [lI0, lI1, lI2, lI3, lI4, lI5, lI7, lI8, lI9, lI10, lI11, lI12, lI15, lI16, lI17, lI20, lI24, lI32, lI33, lI40, lI63, lI64, lI80, lI82, lI101, lI110, lI115, lI251, lI255, lI256, lI384, lI16384, lI20000, lI32768, lI49152, lI65535, nI_add, pk_mul, pk_sub, pk_div, nI_leI, nI_ltI, nI_eq] <;> omega) (Ok.rd 0 rfl (by decide) (by decide) ?_)
        rw [b00]
        by_cases h1 : b 0 = 82
        · exact Ok.pos (by simp (disch := omega) only [lI0, lI1, lI2, lI3, lI4, lI5, lI7, lI8, lI9, lI10, lI11, lI12, lI15, lI16, lI17, lI20, lI24, lI32, lI33, lI40, lI63, lI64, lI80, lI82, lI101, lI110, lI115, lI251, lI255, lI256, lI384, lI16384, lI20000, lI32768, lI49152, lI65535, nI_add, pk_mul, pk_sub, pk_div, nI_leI, nI_ltI, nI_eq] <;> omega) (hk _ (Or.inr h1))
        · refine Ok.neg (by simp (disch := omega) only [lI0, lI1, lI2, lI3, lI4, lI5, lI7, lI8, lI9, lI10, lI11, lI12, lI15, lI16, lI17, lI20, lI24, lI32, lI33, lI40, lI63, lI64, lI80, lI82, lI101, lI110, lI115, lI251, lI255, lI256, lI384, lI16384, lI20000, lI32768, lI49152, lI65535, nI_add, pk_mul, pk_sub, pk_div, nI_leI, nI_ltI, nI_eq] <;> omega) (Ok.some (Or.inr ⟨rfl, fun h => ?_⟩))
          rcases h.2.1 with h4 | h4
          · exact h0 h4
          · exact h1 h4
    refine Ok.rd 1 rfl (by decide) (by decide) ?_
    rw [b10]
    refine Ok.bindE _ (eq_isIn (a := 1) (c := 16) (by omega) (by decide) (by decide)) ?_
    by_cases h1 : 1 ≤ b 1 ∧ b 1 ≤ 16
    · rw [if_pos h1]
      refine Ok.neg (by decide) (Ok.rd 2 rfl (by decide) (by decide) ?_)
      rw [b20]
      refine Ok.bindE _ (eq_isIn (a := 1) (c := 24) (by omega) (by decide) (by decide)) ?_
      by_cases h2 : 1 ≤ b 2 ∧ b 2 ≤ 24
      · rw [if_pos h2]
        refine Ok.neg (by decide) (Ok.rd 0 rfl (by decide) (by decide) ?_)
        rw [b00]
        by_cases h0 : b 0 = 82
        · exact Ok.pos (by simp (disch := omega) only [lI0, lI1, lI2, lI3, lI4, lI5, lI7, lI8, lI9, lI10, lI11, lI12, lI15, lI16, lI17, lI20, lI24, lI32, lI33, lI40, lI63, lI64, lI80, lI82, lI101, lI110, lI115, lI251, lI255, lI256, lI384, lI16384, lI20000, lI32768, lI49152, lI65535, nI_add, pk_mul, pk_sub, pk_div, nI_leI, nI_ltI, nI_eq] <;> omega) (Ok.some (Or.inl ⟨rfl, by omega, Or.inr h0, h1, h2, Or.inl h0⟩))
        · refine Ok.neg (by simp (disch := omega) only [lI0, lI1, lI2, lI3, lI4, lI5, lI7, lI8, lI9, lI10, lI11, lI12, lI15, lI16, lI17, lI20, lI24, lI32, lI33, lI40, lI63, lI64, lI80, lI82, lI101, lI110, lI115, lI251, lI255, lI256, lI384, lI16384, lI20000, lI32768, lI49152, lI65535, nI_add, pk_mul, pk_sub, pk_div, nI_leI, nI_ltI, nI_eq] <;> omega) ?_
          by_cases h4 : sz < 4
          · refine Ok.pos (by simp (disch := omega) only [lI0, lI1, lI2, lI3, lI4, lI5, lI7, lI8, lI9, lI10, lI11, lI12, lI15, lI16, lI17, lI20, lI24, lI32, lI33, lI40, lI63, lI64, lI80, lI82, lI101, lI110, lI115, lI251, lI255, lI256, lI384, lI16384, lI20000, lI32768, lI49152, lI65535, nI_add, pk_mul, pk_sub, pk_div, nI_leI, nI_ltI, nI_eq] <;> omega) (Ok.some (Or.inr ⟨rfl, fun h => ?_⟩))
            rcases h.2.2.2.2 with h5 | h5
            · exact h0 h5
            · have := h5.1
              omega
          · obtain ⟨b30, b31⟩ := hb 3 (by omega)
            refine Ok.neg (by simp (disch := omega) only [lI0, lI1, lI2, lI3, lI4, lI5, lI7, lI8, lI9, lI10, lI11, lI12, lI15, lI16, lI17, lI20, lI24, lI32, lI33, lI40, lI63, lI64, lI80, lI82, lI101, lI110, lI115, lI251, lI255, lI256, lI384, lI16384, lI20000, lI32768, lI49152, lI65535, nI_add, pk_mul, pk_sub, pk_div, nI_leI, nI_ltI, nI_eq] <;> omega) (Ok.rd 3 rfl (by decide) (by decide) ?_)
            rw [b30]
            refine Ok.bindE _ (eq_isIn (a := 1) (c := 3) (by omega) (by decide) (by decide)) ?_
            by_cases h5 : 1 ≤ b 3 ∧ b 3 ≤ 3
            · rw [if_pos h5]
              refine Ok.neg (by decide) (Ok.rd 3 rfl (by decide) (by decide) ?_)
              rw [b30]
              by_cases h6 : 4 + b 3 ≤ sz
              · refine Ok.pos (by simp (disch := omega) only [lI0, lI1, lI2, lI3, lI4, lI5, lI7, lI8, lI9, lI10, lI11, lI12, lI15, lI16, lI17, lI20, lI24, lI32, lI33, lI40, lI63, lI64, lI80, lI82, lI101, lI110, lI115, lI251, lI255, lI256, lI384, lI16384, lI20000, lI32768, lI49152, lI65535, nI_add, pk_mul, pk_sub, pk_div, nI_leI, nI_ltI, nI_eq] <;> omega) (Ok.bind (fun o => o = Sum.inl () ∧ (∀ i, i < b 3 → stV b i) ∨ o = Sum.inr 0 ∧ ¬ ∀ i, i < b 3 → stV b i) (Ok.fix (fun k z => z = nI k ∧ ∀ i, i < k → stV b i) (b 3) (by omega) ⟨rfl, fun i hi => absurd hi (by omega)⟩ ?_) ?_)
                · rintro k z self hk ⟨rfl, h7⟩ K
                  refine Ok.rd 3 rfl (by decide) (by decide) ?_
                  rw [b30]
                  by_cases hc : k < b 3
                  · obtain ⟨c0, c1⟩ := hb (4 + k) (by omega)
                    refine Ok.neg (by simp (disch := omega) only [lI0, lI1, lI2, lI3, lI4, lI5, lI7, lI8, lI9, lI10, lI11, lI12, lI15, lI16, lI17, lI20, lI24, lI32, lI33, lI40, lI63, lI64, lI80, lI82, lI101, lI110, lI115, lI251, lI255, lI256, lI384, lI16384, lI20000, lI32768, lI49152, lI65535, nI_add, pk_mul, pk_sub, pk_div, nI_leI, nI_ltI, nI_eq] <;> omega) (Ok.rd (4 + k) (by first | (simp (disch := omega) only [lI0, lI1, lI2, lI3, lI4, lI5, lI7, lI8, lI9, lI10, lI11, lI12, lI15, lI16, lI17, lI20, lI24, lI32, lI33, lI40, lI63, lI64, lI80, lI82, lI101, lI110, lI115, lI251, lI255, lI256, lI384, lI16384, lI20000, lI32768, lI49152, lI65535, nI_add, pk_mul, pk_sub, pk_div] <;> (apply congrArg nI; omega)) | rfl) (by omega) (by decide) ?_)
                    rw [c0]
                    refine Ok.jnR (fun x => x = nI ((if k = 0 then 33 else b (3 + k)) - 1)) (fun k2 hk2 => ?_) (fun x hx2 => ?_)
                    · by_cases h8 : k = 0
                      · subst h8
                        exact Ok.pos rfl (hk2 _ rfl)
                      · obtain ⟨d0, d1⟩ := hb (3 + k) (by omega)
                        have h9 := (h7 (k - 1) (by omega)).1
                        rw [show 4 + (k - 1) = 3 + k from by omega] at h9
                        refine Ok.neg (by simp (disch := omega) only [lI0, lI1, lI2, lI3, lI4, lI5, lI7, lI8, lI9, lI10, lI11, lI12, lI15, lI16, lI17, lI20, lI24, lI32, lI33, lI40, lI63, lI64, lI80, lI82, lI101, lI110, lI115, lI251, lI255, lI256, lI384, lI16384, lI20000, lI32768, lI49152, lI65535, nI_add, pk_mul, pk_sub, pk_div, nI_leI, nI_ltI, nI_eq] <;> omega) (Ok.rd (3 + k) (by first | (simp (disch := omega) only [lI0, lI1, lI2, lI3, lI4, lI5, lI7, lI8, lI9, lI10, lI11, lI12, lI15, lI16, lI17, lI20, lI24, lI32, lI33, lI40, lI63, lI64, lI80, lI82, lI101, lI110, lI115, lI251, lI255, lI256, lI384, lI16384, lI20000, lI32768, lI49152, lI65535, nI_add, pk_mul, pk_sub, pk_div] <;> (apply congrArg nI; omega)) | rfl) (by omega) (by decide) (hk2 _ ?_))
                        rw [d0, if_neg h8]
                        (first | (simp (disch := omega) only [lI0, lI1, lI2, lI3, lI4, lI5, lI7, lI8, lI9, lI10, lI11, lI12, lI15, lI16, lI17, lI20, lI24, lI32, lI33, lI40, lI63, lI64, lI80, lI82, lI101, lI110, lI115, lI251, lI255, lI256, lI384, lI16384, lI20000, lI32768, lI49152, lI65535, nI_add, pk_mul, pk_sub, pk_div] <;> (apply congrArg nI; omega)) | rfl)
                    · subst hx2
                      have hp : (if k = 0 then 33 else b (3 + k)) < 257 := by
                        split
                        · decide
                        · exact Nat.lt_succ_of_lt (hb (3 + k) (by omega)).2
                      refine Ok.bindE _ (eq_isIn (a := 1) (by omega) (by decide) (by omega)) ?_
                      by_cases h8 : stV b k
                      · have h9 : 1 ≤ b (4 + k) ∧ b (4 + k) ≤ (if k = 0 then 33 else b (3 + k)) - 1 := by
                          obtain ⟨h9, h10⟩ := h8
                          omega
                        rw [if_pos h9]
                        refine Ok.neg (by decide) (Ok.bnd (K _ hc ⟨(by first | (simp (disch := omega) only [lI0, lI1, lI2, lI3, lI4, lI5, lI7, lI8, lI9, lI10, lI11, lI12, lI15, lI16, lI17, lI20, lI24, lI32, lI33, lI40, lI63, lI64, lI80, lI82, lI101, lI110, lI115, lI251, lI255, lI256, lI384, lI16384, lI20000, lI32768, lI49152, lI65535, nI_add, pk_mul, pk_sub, pk_div] <;> (apply congrArg nI; omega)) | rfl), fun i hi => ?_⟩))
                        by_cases h11 : i = k
                        · subst h11
                          exact h8
                        · exact h7 i (by omega)
                      · have h9 : ¬ (1 ≤ b (4 + k) ∧ b (4 + k) ≤ (if k = 0 then 33 else b (3 + k)) - 1) := by
                          intro h9
                          refine h8 ⟨h9.1, ?_⟩
                          omega
                        rw [if_neg h9]
                        exact Ok.pos rfl (Ok.some (Or.inr ⟨rfl, fun h => h8 (h k hc)⟩))
                  · have hk3 : k = b 3 := by omega
                    refine Ok.pos (by simp (disch := omega) only [lI0, lI1, lI2, lI3, lI4, lI5, lI7, lI8, lI9, lI10, lI11, lI12, lI15, lI16, lI17, lI20, lI24, lI32, lI33, lI40, lI63, lI64, lI80, lI82, lI101, lI110, lI115, lI251, lI255, lI256, lI384, lI16384, lI20000, lI32768, lI49152, lI65535, nI_add, pk_mul, pk_sub, pk_div, nI_leI, nI_ltI, nI_eq] <;> omega) (Ok.some (Or.inl ⟨rfl, ?_⟩))
                    rw [← hk3]
                    exact h7
                · rintro o (⟨rfl, h7⟩ | ⟨rfl, h7⟩)
                  · exact Ok.some (Or.inl ⟨rfl, by omega, hx, h1, h2, Or.inr ⟨by omega, h5.1, h5.2, h6, h7⟩⟩)
                  · refine Ok.some (Or.inr ⟨rfl, fun h => ?_⟩)
                    rcases h.2.2.2.2 with h8 | h8
                    · exact h0 h8
                    · exact h7 h8.2.2.2.2
              · refine Ok.neg (by simp (disch := omega) only [lI0, lI1, lI2, lI3, lI4, lI5, lI7, lI8, lI9, lI10, lI11, lI12, lI15, lI16, lI17, lI20, lI24, lI32, lI33, lI40, lI63, lI64, lI80, lI82, lI101, lI110, lI115, lI251, lI255, lI256, lI384, lI16384, lI20000, lI32768, lI49152, lI65535, nI_add, pk_mul, pk_sub, pk_div, nI_leI, nI_ltI, nI_eq] <;> omega) (Ok.some (Or.inr ⟨rfl, fun h => ?_⟩))
                rcases h.2.2.2.2 with h8 | h8
                · exact h0 h8
                · exact h6 h8.2.2.2.1
            · rw [if_neg h5]
              refine Ok.pos rfl (Ok.some (Or.inr ⟨rfl, fun h => ?_⟩))
              rcases h.2.2.2.2 with h8 | h8
              · exact h0 h8
              · exact h5 ⟨h8.2.1, h8.2.2.1⟩
      · rw [if_neg h2]
        exact Ok.pos rfl (Ok.some (Or.inr ⟨rfl, fun h => h2 h.2.2.2.1⟩))
    · rw [if_neg h1]
      exact Ok.pos rfl (Ok.some (Or.inr ⟨rfl, fun h => h1 h.2.2.1⟩))
theorem eq_stepAfter {p v : Nat} (hp : p < 2 ^ 31) (hv : v < 2 ^ 31) : lf_X8_isStepAfter (nI p) (nI v) = some (if 1 ≤ v ∧ v ≤ 32 ∧ v < p then 1 else 0) := by
  suffices hs : Ok (lf_X8_isStepAfter (nI p) (nI v)) (fun o => o = if 1 ≤ v ∧ v ≤ 32 ∧ v < p then 1 else 0) by
    obtain ⟨o, h1, h2⟩ := hs
    rw [h1, h2]
  unfold lf_X8_isStepAfter
  refine Ok.jnI ?_
  by_cases h1 : 1 ≤ v
  · refine Ok.neg (by simp (disch := omega) only [lI0, lI1, lI2, lI3, lI4, lI5, lI7, lI8, lI9, lI10, lI11, lI12, lI15, lI16, lI17, lI20, lI24, lI32, lI33, lI40, lI63, lI64, lI80, lI82, lI101, lI110, lI115, lI251, lI255, lI256, lI384, lI16384, lI20000, lI32768, lI49152, lI65535, nI_add, pk_mul, pk_sub, pk_div, nI_leI, nI_ltI, nI_eq] <;> omega) ?_
    by_cases h2 : v ≤ 32
    · refine Ok.neg (by simp (disch := omega) only [lI0, lI1, lI2, lI3, lI4, lI5, lI7, lI8, lI9, lI10, lI11, lI12, lI15, lI16, lI17, lI20, lI24, lI32, lI33, lI40, lI63, lI64, lI80, lI82, lI101, lI110, lI115, lI251, lI255, lI256, lI384, lI16384, lI20000, lI32768, lI49152, lI65535, nI_add, pk_mul, pk_sub, pk_div, nI_leI, nI_ltI, nI_eq] <;> omega) ?_
      by_cases h3 : v < p
      · exact Ok.neg (by simp (disch := omega) only [lI0, lI1, lI2, lI3, lI4, lI5, lI7, lI8, lI9, lI10, lI11, lI12, lI15, lI16, lI17, lI20, lI24, lI32, lI33, lI40, lI63, lI64, lI80, lI82, lI101, lI110, lI115, lI251, lI255, lI256, lI384, lI16384, lI20000, lI32768, lI49152, lI65535, nI_add, pk_mul, pk_sub, pk_div, nI_leI, nI_ltI, nI_eq] <;> omega) (Ok.some (if_pos ⟨h1, h2, h3⟩).symm)
      · exact Ok.pos (by simp (disch := omega) only [lI0, lI1, lI2, lI3, lI4, lI5, lI7, lI8, lI9, lI10, lI11, lI12, lI15, lI16, lI17, lI20, lI24, lI32, lI33, lI40, lI63, lI64, lI80, lI82, lI101, lI110, lI115, lI251, lI255, lI256, lI384, lI16384, lI20000, lI32768, lI49152, lI65535, nI_add, pk_mul, pk_sub, pk_div, nI_leI, nI_ltI, nI_eq] <;> omega) (Ok.some (if_neg (fun h => h3 h.2.2)).symm)
    · exact Ok.pos (by simp (disch := omega) only [lI0, lI1, lI2, lI3, lI4, lI5, lI7, lI8, lI9, lI10, lI11, lI12, lI15, lI16, lI17, lI20, lI24, lI32, lI33, lI40, lI63, lI64, lI80, lI82, lI101, lI110, lI115, lI251, lI255, lI256, lI384, lI16384, lI20000, lI32768, lI49152, lI65535, nI_add, pk_mul, pk_sub, pk_div, nI_leI, nI_ltI, nI_eq] <;> omega) (Ok.some (if_neg (fun h => h2 h.2.1)).symm)
  · exact Ok.pos (by simp (disch := omega) only [lI0, lI1, lI2, lI3, lI4, lI5, lI7, lI8, lI9, lI10, lI11, lI12, lI15, lI16, lI17, lI20, lI24, lI32, lI33, lI40, lI63, lI64, lI80, lI82, lI101, lI110, lI115, lI251, lI255, lI256, lI384, lI16384, lI20000, lI32768, lI49152, lI65535, nI_add, pk_mul, pk_sub, pk_div, nI_leI, nI_ltI, nI_eq] <;> omega) (Ok.some (if_neg (fun h => h1 h.1)).symm)
theorem eq_stepAfterN {p : Int32} : lf_X8_isStepAfter p (-1) = some 0 := rfl
theorem eq_picSize {v u : Nat} (hp : v < 2 ^ 31) (hv : u < 2 ^ 31) : lf_X8_isPictureSize (nI v) (nI u) = some (if (1 ≤ v ∧ v ≤ 16) ∧ 1 ≤ u ∧ u ≤ 24 then 1 else 0) := by
  suffices hs : Ok (lf_X8_isPictureSize (nI v) (nI u)) (fun o => o = if (1 ≤ v ∧ v ≤ 16) ∧ 1 ≤ u ∧ u ≤ 24 then 1 else 0) by
    obtain ⟨o, h1, h2⟩ := hs
    rw [h1, h2]
  unfold lf_X8_isPictureSize
  refine Ok.jnI ?_
  by_cases h1 : 1 ≤ v
  · refine Ok.neg (by simp (disch := omega) only [lI0, lI1, lI2, lI3, lI4, lI5, lI7, lI8, lI9, lI10, lI11, lI12, lI15, lI16, lI17, lI20, lI24, lI32, lI33, lI40, lI63, lI64, lI80, lI82, lI101, lI110, lI115, lI251, lI255, lI256, lI384, lI16384, lI20000, lI32768, lI49152, lI65535, nI_add, pk_mul, pk_sub, pk_div, nI_leI, nI_ltI, nI_eq] <;> omega) ?_
    by_cases h2 : v ≤ 16
    · refine Ok.neg (by simp (disch := omega) only [lI0, lI1, lI2, lI3, lI4, lI5, lI7, lI8, lI9, lI10, lI11, lI12, lI15, lI16, lI17, lI20, lI24, lI32, lI33, lI40, lI63, lI64, lI80, lI82, lI101, lI110, lI115, lI251, lI255, lI256, lI384, lI16384, lI20000, lI32768, lI49152, lI65535, nI_add, pk_mul, pk_sub, pk_div, nI_leI, nI_ltI, nI_eq] <;> omega) ?_
      by_cases h3 : 1 ≤ u
      · refine Ok.neg (by simp (disch := omega) only [lI0, lI1, lI2, lI3, lI4, lI5, lI7, lI8, lI9, lI10, lI11, lI12, lI15, lI16, lI17, lI20, lI24, lI32, lI33, lI40, lI63, lI64, lI80, lI82, lI101, lI110, lI115, lI251, lI255, lI256, lI384, lI16384, lI20000, lI32768, lI49152, lI65535, nI_add, pk_mul, pk_sub, pk_div, nI_leI, nI_ltI, nI_eq] <;> omega) ?_
        by_cases h4 : u ≤ 24
        · exact Ok.neg (by simp (disch := omega) only [lI0, lI1, lI2, lI3, lI4, lI5, lI7, lI8, lI9, lI10, lI11, lI12, lI15, lI16, lI17, lI20, lI24, lI32, lI33, lI40, lI63, lI64, lI80, lI82, lI101, lI110, lI115, lI251, lI255, lI256, lI384, lI16384, lI20000, lI32768, lI49152, lI65535, nI_add, pk_mul, pk_sub, pk_div, nI_leI, nI_ltI, nI_eq] <;> omega) (Ok.some (if_pos ⟨⟨h1, h2⟩, h3, h4⟩).symm)
        · exact Ok.pos (by simp (disch := omega) only [lI0, lI1, lI2, lI3, lI4, lI5, lI7, lI8, lI9, lI10, lI11, lI12, lI15, lI16, lI17, lI20, lI24, lI32, lI33, lI40, lI63, lI64, lI80, lI82, lI101, lI110, lI115, lI251, lI255, lI256, lI384, lI16384, lI20000, lI32768, lI49152, lI65535, nI_add, pk_mul, pk_sub, pk_div, nI_leI, nI_ltI, nI_eq] <;> omega) (Ok.some (if_neg (fun h => h4 h.2.2)).symm)
      · exact Ok.pos (by simp (disch := omega) only [lI0, lI1, lI2, lI3, lI4, lI5, lI7, lI8, lI9, lI10, lI11, lI12, lI15, lI16, lI17, lI20, lI24, lI32, lI33, lI40, lI63, lI64, lI80, lI82, lI101, lI110, lI115, lI251, lI255, lI256, lI384, lI16384, lI20000, lI32768, lI49152, lI65535, nI_add, pk_mul, pk_sub, pk_div, nI_leI, nI_ltI, nI_eq] <;> omega) (Ok.some (if_neg (fun h => h3 h.2.1)).symm)
    · exact Ok.pos (by simp (disch := omega) only [lI0, lI1, lI2, lI3, lI4, lI5, lI7, lI8, lI9, lI10, lI11, lI12, lI15, lI16, lI17, lI20, lI24, lI32, lI33, lI40, lI63, lI64, lI80, lI82, lI101, lI110, lI115, lI251, lI255, lI256, lI384, lI16384, lI20000, lI32768, lI49152, lI65535, nI_add, pk_mul, pk_sub, pk_div, nI_leI, nI_ltI, nI_eq] <;> omega) (Ok.some (if_neg (fun h => h2 h.1.2)).symm)
  · exact Ok.pos (by simp (disch := omega) only [lI0, lI1, lI2, lI3, lI4, lI5, lI7, lI8, lI9, lI10, lI11, lI12, lI15, lI16, lI17, lI20, lI24, lI32, lI33, lI40, lI63, lI64, lI80, lI82, lI101, lI110, lI115, lI251, lI255, lI256, lI384, lI16384, lI20000, lI32768, lI49152, lI65535, nI_add, pk_mul, pk_sub, pk_div, nI_leI, nI_ltI, nI_eq] <;> omega) (Ok.some (if_neg (fun h => h1 h.1.1)).symm)
theorem eq_picSizeN {p : Int32} : lf_X8_isPictureSize p (-1) = some 0 := by
  suffices hs : Ok (lf_X8_isPictureSize p (-1)) (fun o => o = 0) by
    obtain ⟨o, h1, h2⟩ := hs
    rw [h1, h2]
  unfold lf_X8_isPictureSize
  exact Ok.jnI (Ok.ite (fun _ => Ok.some rfl) fun _ => Ok.ite (fun _ => Ok.some rfl) fun _ => Ok.pos (by decide) (Ok.some rfl))
theorem ok_validSteps {sz n : Nat} {cy : Nat → Int32} {b : Nat → Nat} (hsz : sz ≤ n) (hn : n ≤ 32768) (hb : ∀ i, i < sz → cy i = nI (b i) ∧ b i < 256) : Ok (lf_X8_hasValidSteps (nI sz) n cy) (fun o => o = 1 ∧ svN sz b ∨ o = 0 ∧ ¬ svN sz b) := by
  unfold lf_X8_hasValidSteps
  refine Ok.bindE _ (eq_X3_at (i := 3) hsz hn (by decide)) ?_
  by_cases h4 : 3 < sz
  · obtain ⟨b30, b31⟩ := hb 3 h4
    rw [if_pos h4, b30]
    by_cases h5 : 1 ≤ b 3
    · refine Ok.neg (by simp (disch := omega) only [lI0, lI1, lI2, lI3, lI4, lI5, lI7, lI8, lI9, lI10, lI11, lI12, lI15, lI16, lI17, lI20, lI24, lI32, lI33, lI40, lI63, lI64, lI80, lI82, lI101, lI110, lI115, lI251, lI255, lI256, lI384, lI16384, lI20000, lI32768, lI49152, lI65535, nI_add, pk_mul, pk_sub, pk_div, nI_leI, nI_ltI, nI_eq] <;> omega) ?_
      by_cases h6 : b 3 ≤ 3
      · refine Ok.pos (by simp (disch := omega) only [lI0, lI1, lI2, lI3, lI4, lI5, lI7, lI8, lI9, lI10, lI11, lI12, lI15, lI16, lI17, lI20, lI24, lI32, lI33, lI40, lI63, lI64, lI80, lI82, lI101, lI110, lI115, lI251, lI255, lI256, lI384, lI16384, lI20000, lI32768, lI49152, lI65535, nI_add, pk_mul, pk_sub, pk_div, nI_leI, nI_ltI, nI_eq] <;> omega) (Ok.bind (fun o => o = Sum.inl () ∧ (4 + b 3 ≤ sz ∧ ∀ i, i < b 3 → stV b i) ∨ o = Sum.inr 0 ∧ ¬ (4 + b 3 ≤ sz ∧ ∀ i, i < b 3 → stV b i)) (Ok.fix (fun k z => z.1 = nI (if k = 0 then 33 else b (3 + k)) ∧ z.2 = nI k ∧ (if k = 0 then 33 else b (3 + k)) ≤ 33 ∧ 4 + k ≤ sz ∧ ∀ i, i < k → stV b i) (b 3) (by omega) ⟨rfl, rfl, Nat.le_refl _, by omega, fun i hi => absurd hi (by omega)⟩ ?_) ?_)
        · rintro k ⟨z1, z2⟩ self hk ⟨e1, e2, h7, h8, h9⟩ K
          dsimp only at e1 e2 ⊢
          subst e1 e2
          by_cases hc : k < b 3
          · refine Ok.neg (by simp (disch := omega) only [lI0, lI1, lI2, lI3, lI4, lI5, lI7, lI8, lI9, lI10, lI11, lI12, lI15, lI16, lI17, lI20, lI24, lI32, lI33, lI40, lI63, lI64, lI80, lI82, lI101, lI110, lI115, lI251, lI255, lI256, lI384, lI16384, lI20000, lI32768, lI49152, lI65535, nI_add, pk_mul, pk_sub, pk_div, nI_leI, nI_ltI, nI_eq] <;> omega) ?_
            rw [show (4 : Int32) + nI k = nI (4 + k) from (by first | (simp (disch := omega) only [lI0, lI1, lI2, lI3, lI4, lI5, lI7, lI8, lI9, lI10, lI11, lI12, lI15, lI16, lI17, lI20, lI24, lI32, lI33, lI40, lI63, lI64, lI80, lI82, lI101, lI110, lI115, lI251, lI255, lI256, lI384, lI16384, lI20000, lI32768, lI49152, lI65535, nI_add, pk_mul, pk_sub, pk_div] <;> (apply congrArg nI; omega)) | rfl)]
            refine Ok.bindE _ (eq_X3_at hsz hn (by omega)) ?_
            by_cases h10 : 4 + k < sz
            · obtain ⟨c0, c1⟩ := hb (4 + k) h10
              rw [if_pos h10, c0]
              generalize hpv : (if k = 0 then 33 else b (3 + k)) = pv at h7 ⊢
              refine Ok.bindE _ (eq_stepAfter (by omega) (by omega)) ?_
              by_cases h11 : stV b k
              · have h12 := h11.1
                have h13 := h11.2
                rw [hpv] at h13
                rw [if_pos (show 1 ≤ b (4 + k) ∧ b (4 + k) ≤ 32 ∧ b (4 + k) < pv from ⟨h12, by omega, h13⟩)]
                refine Ok.neg (by decide) (Ok.bnd (K _ hc ⟨?_, (by first | (simp (disch := omega) only [lI0, lI1, lI2, lI3, lI4, lI5, lI7, lI8, lI9, lI10, lI11, lI12, lI15, lI16, lI17, lI20, lI24, lI32, lI33, lI40, lI63, lI64, lI80, lI82, lI101, lI110, lI115, lI251, lI255, lI256, lI384, lI16384, lI20000, lI32768, lI49152, lI65535, nI_add, pk_mul, pk_sub, pk_div] <;> (apply congrArg nI; omega)) | rfl), ?_, by omega, fun i hi => ?_⟩))
                · rw [if_neg (by omega), show 3 + (k + 1) = 4 + k from by omega]
                · rw [if_neg (by omega), show 3 + (k + 1) = 4 + k from by omega]
                  omega
                · by_cases h14 : i = k
                  · subst h14
                    exact h11
                  · exact h9 i (by omega)
              · rw [if_neg (show ¬ (1 ≤ b (4 + k) ∧ b (4 + k) ≤ 32 ∧ b (4 + k) < pv) from fun h => h11 ⟨h.1, by rw [hpv]; exact h.2.2⟩)]
                exact Ok.pos rfl (Ok.some (Or.inr ⟨rfl, fun h => h11 (h.2 k hc)⟩))
            · rw [if_neg h10]
              refine Ok.bindE _ eq_stepAfterN (Ok.pos rfl (Ok.some (Or.inr ⟨rfl, fun h => ?_⟩)))
              have := h.1
              omega
          · have hk3 : k = b 3 := by omega
            refine Ok.pos (by simp (disch := omega) only [lI0, lI1, lI2, lI3, lI4, lI5, lI7, lI8, lI9, lI10, lI11, lI12, lI15, lI16, lI17, lI20, lI24, lI32, lI33, lI40, lI63, lI64, lI80, lI82, lI101, lI110, lI115, lI251, lI255, lI256, lI384, lI16384, lI20000, lI32768, lI49152, lI65535, nI_add, pk_mul, pk_sub, pk_div, nI_leI, nI_ltI, nI_eq] <;> omega) (Ok.some (Or.inl ⟨rfl, ?_⟩))
            rw [← hk3]
            exact ⟨h8, h9⟩
        · rintro o (⟨rfl, h7⟩ | ⟨rfl, h7⟩)
          · exact Ok.some (Or.inl ⟨rfl, h4, h5, h6, h7.1, h7.2⟩)
          · exact Ok.some (Or.inr ⟨rfl, fun h => h7 h.2.2.2⟩)
      · exact Ok.neg (by simp (disch := omega) only [lI0, lI1, lI2, lI3, lI4, lI5, lI7, lI8, lI9, lI10, lI11, lI12, lI15, lI16, lI17, lI20, lI24, lI32, lI33, lI40, lI63, lI64, lI80, lI82, lI101, lI110, lI115, lI251, lI255, lI256, lI384, lI16384, lI20000, lI32768, lI49152, lI65535, nI_add, pk_mul, pk_sub, pk_div, nI_leI, nI_ltI, nI_eq] <;> omega) (Ok.some (Or.inr ⟨rfl, fun h => h6 h.2.2.1⟩))
    · exact Ok.pos (by simp (disch := omega) only [lI0, lI1, lI2, lI3, lI4, lI5, lI7, lI8, lI9, lI10, lI11, lI12, lI15, lI16, lI17, lI20, lI24, lI32, lI33, lI40, lI63, lI64, lI80, lI82, lI101, lI110, lI115, lI251, lI255, lI256, lI384, lI16384, lI20000, lI32768, lI49152, lI65535, nI_add, pk_mul, pk_sub, pk_div, nI_leI, nI_ltI, nI_eq] <;> omega) (Ok.some (Or.inr ⟨rfl, fun h => h5 h.2.1⟩))
  · rw [if_neg h4]
    exact Ok.pos (by decide) (Ok.some (Or.inr ⟨rfl, fun h => h4 h.1⟩))
theorem ok_validHeader {sz n : Nat} {cy : Nat → Int32} {b : Nat → Nat} (hsz : sz ≤ n) (hn : n ≤ 32768) (hb : ∀ i, i < sz → cy i = nI (b i) ∧ b i < 256) : Ok (lf_X8_hasValidHeader (nI sz) n cy) (fun o => o = 1 ∧ hvN sz b ∨ o = 0 ∧ ¬ hvN sz b) := by
  unfold lf_X8_hasValidHeader
  refine Ok.bindE _ (eq_X3_at (i := 1) hsz hn (by decide)) (Ok.bindE _ (eq_X3_at (i := 2) hsz hn (by decide)) ?_)
  by_cases h3 : 2 < sz
  · obtain ⟨b00, b01⟩ := hb 0 (by omega)
    obtain ⟨b10, b11⟩ := hb 1 (by omega)
    obtain ⟨b20, b21⟩ := hb 2 (by omega)
    rw [if_pos h3, if_pos (by omega : 1 < sz), b10, b20]
    refine Ok.bindE _ (eq_picSize (by omega) (by omega)) ?_
    by_cases h1 : (1 ≤ b 1 ∧ b 1 ≤ 16) ∧ 1 ≤ b 2 ∧ b 2 ≤ 24
    · rw [if_pos h1]
      refine Ok.neg (by decide) (Ok.bindE _ (eq_X3_at (i := 0) hsz hn (by decide)) ?_)
      rw [if_pos (by omega : 0 < sz), b00]
      by_cases h0 : b 0 = 82
      · exact Ok.pos (by simp (disch := omega) only [lI0, lI1, lI2, lI3, lI4, lI5, lI7, lI8, lI9, lI10, lI11, lI12, lI15, lI16, lI17, lI20, lI24, lI32, lI33, lI40, lI63, lI64, lI80, lI82, lI101, lI110, lI115, lI251, lI255, lI256, lI384, lI16384, lI20000, lI32768, lI49152, lI65535, nI_add, pk_mul, pk_sub, pk_div, nI_leI, nI_ltI, nI_eq] <;> omega) (Ok.some (Or.inl ⟨rfl, h3, Or.inr h0, h1.1, h1.2, Or.inl h0⟩))
      · refine Ok.neg (by simp (disch := omega) only [lI0, lI1, lI2, lI3, lI4, lI5, lI7, lI8, lI9, lI10, lI11, lI12, lI15, lI16, lI17, lI20, lI24, lI32, lI33, lI40, lI63, lI64, lI80, lI82, lI101, lI110, lI115, lI251, lI255, lI256, lI384, lI16384, lI20000, lI32768, lI49152, lI65535, nI_add, pk_mul, pk_sub, pk_div, nI_leI, nI_ltI, nI_eq] <;> omega) (Ok.bindE _ (eq_X3_at (i := 0) hsz hn (by decide)) ?_)
        rw [if_pos (by omega : 0 < sz), b00]
        refine Ok.jnR (fun _ => ¬ hvN sz b) (fun k hk => ?_) (fun x hx => Ok.some (Or.inr ⟨rfl, hx⟩))
        by_cases h5 : b 0 = 80
        · refine Ok.pos (by simp (disch := omega) only [lI0, lI1, lI2, lI3, lI4, lI5, lI7, lI8, lI9, lI10, lI11, lI12, lI15, lI16, lI17, lI20, lI24, lI32, lI33, lI40, lI63, lI64, lI80, lI82, lI101, lI110, lI115, lI251, lI255, lI256, lI384, lI16384, lI20000, lI32768, lI49152, lI65535, nI_add, pk_mul, pk_sub, pk_div, nI_leI, nI_ltI, nI_eq] <;> omega) (Ok.bind _ (ok_validSteps hsz hn hb) ?_)
          rintro o (⟨rfl, h6⟩ | ⟨rfl, h6⟩)
          · exact Ok.neg (by decide) (Ok.some (Or.inl ⟨rfl, h3, Or.inl h5, h1.1, h1.2, Or.inr h6⟩))
          · refine Ok.pos rfl (hk _ fun h => ?_)
            rcases h.2.2.2.2 with h7 | h7
            · exact h0 h7
            · exact h6 h7
        · refine Ok.neg (by simp (disch := omega) only [lI0, lI1, lI2, lI3, lI4, lI5, lI7, lI8, lI9, lI10, lI11, lI12, lI15, lI16, lI17, lI20, lI24, lI32, lI33, lI40, lI63, lI64, lI80, lI82, lI101, lI110, lI115, lI251, lI255, lI256, lI384, lI16384, lI20000, lI32768, lI49152, lI65535, nI_add, pk_mul, pk_sub, pk_div, nI_leI, nI_ltI, nI_eq] <;> omega) (hk _ fun h => ?_)
          rcases h.2.1 with h7 | h7
          · exact h5 h7
          · exact h0 h7
    · rw [if_neg h1]
      exact Ok.pos rfl (Ok.some (Or.inr ⟨rfl, fun h => h1 ⟨h.2.2.1, h.2.2.2.1⟩⟩))
  · rw [if_neg h3]
    exact Ok.bindE _ eq_picSizeN (Ok.pos rfl (Ok.some (Or.inr ⟨rfl, fun h => h3 h.1⟩)))
