/-! ===== the parts of all layers ===== -/
theorem ok_addRows {w h s : Nat} {pix pln : Nat → Int32} {p1 : Int32} (e1 : p1 = nI (8 * s)) (hw : w ≤ 16) (hh : h ≤ 24) (hs : 8 * s ≤ h) : Ok (lf_X5_addRows (nI w) (nI h) pix 384 pln p1) (fun o => ∀ x y, x < w → y < h → o (16 * y + x) = if 8 * s ≤ y ∧ y < 8 * s + 8 then pix (16 * y + x) + pln (16 * y + x) else pix (16 * y + x)) := by
  subst e1
  unfold lf_X5_addRows
  refine Ok.bnd ?_
  obtain ⟨e, he, he2⟩ : ∃ e, jmin (nI (8 * s) + (8 : Int32)) (nI h) = nI e ∧ e = if h < 8 * s + 8 then h else 8 * s + 8 := by
    refine ⟨_, ?_, rfl⟩
    unfold jmin
    rw [show nI (8 * s) + (8 : Int32) = nI (8 * s + 8) from nI_add (8 * s) 8]
    by_cases h1 : h < 8 * s + 8
    · rw [if_pos (by simp (disch := omega) only [lI0, lI1, lI2, lI3, lI4, lI5, lI7, lI8, lI9, lI10, lI11, lI12, lI15, lI16, lI17, lI20, lI24, lI32, lI33, lI40, lI63, lI64, lI80, lI82, lI101, lI110, lI115, lI251, lI255, lI256, lI384, lI16384, lI20000, lI32768, lI49152, lI65535, nI_add, pk_mul, pk_sub, pk_div, nI_leI, nI_ltI, nI_eq] <;> omega), if_pos h1]
    · rw [if_neg (by simp (disch := omega) only [lI0, lI1, lI2, lI3, lI4, lI5, lI7, lI8, lI9, lI10, lI11, lI12, lI15, lI16, lI17, lI20, lI24, lI32, lI33, lI40, lI63, lI64, lI80, lI82, lI101, lI110, lI115, lI251, lI255, lI256, lI384, lI16384, lI20000, lI32768, lI49152, lI65535, nI_add, pk_mul, pk_sub, pk_div, nI_leI, nI_ltI, nI_eq] <;> omega), if_neg h1]
  rw [he]
  have heb : 8 * s ≤ e ∧ e ≤ h ∧ e ≤ 8 * s + 8 := by
    rw [he2]
    split <;> omega
  have hee : ∀ y, y < h → (y < e ↔ y < 8 * s + 8) := by
    intro y hy
    rw [he2]
    split <;> omega
  refine Ok.bind (fun o => ∀ x y, x < w → y < h → o (16 * y + x) = if 8 * s ≤ y ∧ y < e then pix (16 * y + x) + pln (16 * y + x) else pix (16 * y + x)) (Ok.fix (fun i z => z.1 = nI (8 * s + i) ∧ ∀ x y, x < w → y < h → z.2 (16 * y + x) = if 8 * s ≤ y ∧ y < 8 * s + i then pix (16 * y + x) + pln (16 * y + x) else pix (16 * y + x)) (e - 8 * s) (by omega) ⟨rfl, fun x y _ _ => (if_neg (by omega)).symm⟩ ?_) ?_
  · rintro i ⟨x2, g3⟩ self hi ⟨h1, h2⟩ K
    dsimp only at h1 h2 ⊢
    subst h1
    by_cases hc : i < e - 8 * s
    · refine Ok.neg (by simp (disch := omega) only [lI0, lI1, lI2, lI3, lI4, lI5, lI7, lI8, lI9, lI10, lI11, lI12, lI15, lI16, lI17, lI20, lI24, lI32, lI33, lI40, lI63, lI64, lI80, lI82, lI101, lI110, lI115, lI251, lI255, lI256, lI384, lI16384, lI20000, lI32768, lI49152, lI65535, nI_add, pk_mul, pk_sub, pk_div, nI_leI, nI_ltI, nI_eq] <;> omega) (Ok.bind (fun o => ∀ x y, x < w → y < h → o (16 * y + x) = if 8 * s ≤ y ∧ y < 8 * s + (i + 1) then pix (16 * y + x) + pln (16 * y + x) else pix (16 * y + x)) (Ok.fix (fun k z => z.1 = nI k ∧ ∀ x y, x < w → y < h → z.2 (16 * y + x) = if 8 * s ≤ y ∧ (y < 8 * s + i ∨ y = 8 * s + i ∧ x < k) then pix (16 * y + x) + pln (16 * y + x) else pix (16 * y + x)) w (by omega) ⟨rfl, fun x y hx hy => ?_⟩ ?_) (fun o ho => Ok.bnd (K _ hc ⟨(by first | (simp (disch := omega) only [lI0, lI1, lI2, lI3, lI4, lI5, lI7, lI8, lI9, lI10, lI11, lI12, lI15, lI16, lI17, lI20, lI24, lI32, lI33, lI40, lI63, lI64, lI80, lI82, lI101, lI110, lI115, lI251, lI255, lI256, lI384, lI16384, lI20000, lI32768, lI49152, lI65535, nI_add, pk_mul, pk_sub, pk_div] <;> (apply congrArg nI; omega)) | rfl), ho⟩)))
      · dsimp only
        rw [h2 x y hx hy]
        by_cases h3 : 8 * s ≤ y ∧ y < 8 * s + i
        · rw [if_pos h3, if_pos (by omega)]
        · rw [if_neg h3, if_neg (by omega)]
      · rintro k ⟨x6, g7⟩ self2 hk ⟨h3, h4⟩ K2
        dsimp only at h3 h4 ⊢
        subst h3
        by_cases hc2 : k < w
        · refine Ok.neg (by simp (disch := omega) only [lI0, lI1, lI2, lI3, lI4, lI5, lI7, lI8, lI9, lI10, lI11, lI12, lI15, lI16, lI17, lI20, lI24, lI32, lI33, lI40, lI63, lI64, lI80, lI82, lI101, lI110, lI115, lI251, lI255, lI256, lI384, lI16384, lI20000, lI32768, lI49152, lI65535, nI_add, pk_mul, pk_sub, pk_div, nI_leI, nI_ltI, nI_eq] <;> omega) (Ok.rd (16 * (8 * s + i) + k) (by first | (simp (disch := omega) only [lI0, lI1, lI2, lI3, lI4, lI5, lI7, lI8, lI9, lI10, lI11, lI12, lI15, lI16, lI17, lI20, lI24, lI32, lI33, lI40, lI63, lI64, lI80, lI82, lI101, lI110, lI115, lI251, lI255, lI256, lI384, lI16384, lI20000, lI32768, lI49152, lI65535, nI_add, pk_mul, pk_sub, pk_div] <;> (apply congrArg nI; omega)) | rfl) (by omega) (by decide) (Ok.rd (16 * (8 * s + i) + k) (by first | (simp (disch := omega) only [lI0, lI1, lI2, lI3, lI4, lI5, lI7, lI8, lI9, lI10, lI11, lI12, lI15, lI16, lI17, lI20, lI24, lI32, lI33, lI40, lI63, lI64, lI80, lI82, lI101, lI110, lI115, lI251, lI255, lI256, lI384, lI16384, lI20000, lI32768, lI49152, lI65535, nI_add, pk_mul, pk_sub, pk_div] <;> (apply congrArg nI; omega)) | rfl) (by omega) (by decide) (Ok.wr (16 * (8 * s + i) + k) (by first | (simp (disch := omega) only [lI0, lI1, lI2, lI3, lI4, lI5, lI7, lI8, lI9, lI10, lI11, lI12, lI15, lI16, lI17, lI20, lI24, lI32, lI33, lI40, lI63, lI64, lI80, lI82, lI101, lI110, lI115, lI251, lI255, lI256, lI384, lI16384, lI20000, lI32768, lI49152, lI65535, nI_add, pk_mul, pk_sub, pk_div] <;> (apply congrArg nI; omega)) | rfl) (by omega) (by decide) (Ok.bnd (K2 _ hc2 ⟨(by first | (simp (disch := omega) only [lI0, lI1, lI2, lI3, lI4, lI5, lI7, lI8, lI9, lI10, lI11, lI12, lI15, lI16, lI17, lI20, lI24, lI32, lI33, lI40, lI63, lI64, lI80, lI82, lI101, lI110, lI115, lI251, lI255, lI256, lI384, lI16384, lI20000, lI32768, lI49152, lI65535, nI_add, pk_mul, pk_sub, pk_div] <;> (apply congrArg nI; omega)) | rfl), fun x y hx hy => ?_⟩)))))
          dsimp only
          by_cases h5 : y = 8 * s + i ∧ x = k
          · obtain ⟨rfl, rfl⟩ := h5
            rw [upd_eq, h4 x _ hx hy, if_neg (by omega), if_pos (by omega)]
          · rw [upd_ne (by omega), h4 x y hx hy]
            by_cases h6 : 8 * s ≤ y ∧ (y < 8 * s + i ∨ y = 8 * s + i ∧ x < k)
            · rw [if_pos h6, if_pos (by omega)]
            · rw [if_neg h6, if_neg (by omega)]
        · have hk2 : k = w := by omega
          subst hk2
          refine Ok.pos (by simp (disch := omega) only [lI0, lI1, lI2, lI3, lI4, lI5, lI7, lI8, lI9, lI10, lI11, lI12, lI15, lI16, lI17, lI20, lI24, lI32, lI33, lI40, lI63, lI64, lI80, lI82, lI101, lI110, lI115, lI251, lI255, lI256, lI384, lI16384, lI20000, lI32768, lI49152, lI65535, nI_add, pk_mul, pk_sub, pk_div, nI_leI, nI_ltI, nI_eq] <;> omega) (Ok.some fun x y hx hy => ?_)
          rw [h4 x y hx hy]
          by_cases h6 : 8 * s ≤ y ∧ (y < 8 * s + i ∨ y = 8 * s + i ∧ x < k)
          · rw [if_pos h6, if_pos (by omega)]
          · rw [if_neg h6, if_neg (by omega)]
    · have hi2 : i = e - 8 * s := by omega
      refine Ok.pos (by simp (disch := omega) only [lI0, lI1, lI2, lI3, lI4, lI5, lI7, lI8, lI9, lI10, lI11, lI12, lI15, lI16, lI17, lI20, lI24, lI32, lI33, lI40, lI63, lI64, lI80, lI82, lI101, lI110, lI115, lI251, lI255, lI256, lI384, lI16384, lI20000, lI32768, lI49152, lI65535, nI_add, pk_mul, pk_sub, pk_div, nI_leI, nI_ltI, nI_eq] <;> omega) (Ok.some fun x y hx hy => ?_)
      rw [h2 x y hx hy, show 8 * s + i = e from by omega]
  · intro o ho
    refine Ok.some fun x y hx hy => ?_
    rw [ho x y hx hy]
    have := hee y hy
    by_cases h6 : 8 * s ≤ y ∧ y < e
    · rw [if_pos h6, if_pos (by omega)]
    · rw [if_neg h6, if_neg (by omega)]
theorem Ok2.rjnI {φ β γ : Type} {K : φ → Option β} {B : (φ → Option β) → Option β} {d : Option γ} {R : γ → β → Prop} (h : Ok2 d (B K) R) : Ok2 d (jn K B) R := h
theorem nI_inj {a b : Nat} (ha : a < 2 ^ 31) (hb : b < 2 ^ 31) (h : nI a = nI b) : a = b := by
  rw [← nI_clamp (n := a) ha, h, nI_clamp hb]
theorem eq_X3_at {sz n i : Nat} {cy : Nat → Int32} (hsz : sz ≤ n) (hn : n ≤ 32768) (hi : i < 2 ^ 30) : lf_X3_at (nI sz) n cy (nI i) = some (if i < sz then cy i else -1) := by
  suffices hs : Ok (lf_X3_at (nI sz) n cy (nI i)) (fun o => o = if i < sz then cy i else -1) by
    obtain ⟨o, h1, h2⟩ := hs
    rw [h1, h2]
  unfold lf_X3_at
  refine Ok.jnI (Ok.neg (by simp (disch := omega) only [lI0, lI1, lI2, lI3, lI4, lI5, lI7, lI8, lI9, lI10, lI11, lI12, lI15, lI16, lI17, lI20, lI24, lI32, lI33, lI40, lI63, lI64, lI80, lI82, lI101, lI110, lI115, lI251, lI255, lI256, lI384, lI16384, lI20000, lI32768, lI49152, lI65535, nI_add, pk_mul, pk_sub, pk_div, nI_leI, nI_ltI, nI_eq] <;> omega) ?_)
  by_cases h : i < sz
  · rw [if_pos h]
    exact Ok.neg (by simp (disch := omega) only [lI0, lI1, lI2, lI3, lI4, lI5, lI7, lI8, lI9, lI10, lI11, lI12, lI15, lI16, lI17, lI20, lI24, lI32, lI33, lI40, lI63, lI64, lI80, lI82, lI101, lI110, lI115, lI251, lI255, lI256, lI384, lI16384, lI20000, lI32768, lI49152, lI65535, nI_add, pk_mul, pk_sub, pk_div, nI_leI, nI_ltI, nI_eq] <;> omega) (Ok.rd i rfl (by omega) (by omega) (Ok.some rfl))
  · rw [if_neg h]
    exact Ok.pos (by simp (disch := omega) only [lI0, lI1, lI2, lI3, lI4, lI5, lI7, lI8, lI9, lI10, lI11, lI12, lI15, lI16, lI17, lI20, lI24, lI32, lI33, lI40, lI63, lI64, lI80, lI82, lI101, lI110, lI115, lI251, lI255, lI256, lI384, lI16384, lI20000, lI32768, lI49152, lI65535, nI_add, pk_mul, pk_sub, pk_div, nI_leI, nI_ltI, nI_eq] <;> omega) (Ok.some rfl)
/-- what a part's head says -/
def ptN (sz at1 b0 b1 : Nat) : Prop := at1 + 3 ≤ sz ∧ at1 + 3 + (256 * b0 + b1) ≤ sz
/-- what was decoded, on both sides -/
def dPix (w h : Nat) (wm pc fm fc um uc : Nat → Int32) : Prop := (∀ x y, x < w → y < h → wm (16 * y + x) = pc (16 * y + x)) ∧ (∀ s, s < 3 → fm s = fc s ∧ (fm s = 110 ∨ fm s = 101 ∨ fm s = 115)) ∧ ∀ s, s < 3 → um s = uc s
def dAt (sz : Nat) (cut ma ca : Int32) : Prop := ∃ a, ma = nI a ∧ a ≤ sz ∧ (cut = 0 ∧ ca = nI a ∨ cut = 1 ∧ ca = nI sz)
/-- the class's look at a part -/
theorem ok_look {sz n a : Nat} {st cy : Nat → Int32} (hsz : sz ≤ n) (hn : n ≤ 32768) (hR : sR sz st cy) (ha : a ≤ sz) : ∃ o57 o58, lf_X8_partCount (nI sz) n cy (nI a) = some o57 ∧ lf_X8_partFault (nI sz) n cy (nI a) o57 = some o58 ∧ ((¬ a + 3 ≤ sz ∧ o58 = 101) ∨ ∃ b0 b1, b0 < 256 ∧ b1 < 256 ∧ a + 3 ≤ sz ∧ st a = nI b0 ∧ st (a + 1) = nI b1 ∧ o57 = nI (256 * b0 + b1) ∧ ((¬ a + 3 + (256 * b0 + b1) ≤ sz ∧ o58 = 101) ∨ a + 3 + (256 * b0 + b1) ≤ sz ∧ ∃ v : Nat → Nat, (∀ k, k < 256 * b0 + b1 → st (a + 3 + k) = nI (v k) ∧ v k < 256) ∧ o58 = if nI (ckN v (256 * b0 + b1)) = st (a + 2) then 110 else 115)) := by
  by_cases h3 : a + 3 ≤ sz
  · obtain ⟨r0, b0, hb0, e0⟩ := hR a (by omega)
    obtain ⟨r1, b1, hb1, e1⟩ := hR (a + 1) (by omega)
    obtain ⟨r2, b2, hb2, e2⟩ := hR (a + 2) (by omega)
    have ec : lf_X8_partCount (nI sz) n cy (nI a) = some (nI (256 * b0 + b1)) := by
      unfold lf_X8_partCount
      rw [if_pos (by simp (disch := omega) only [lI0, lI1, lI2, lI3, lI4, lI5, lI7, lI8, lI9, lI10, lI11, lI12, lI15, lI16, lI17, lI20, lI24, lI32, lI33, lI40, lI63, lI64, lI80, lI82, lI101, lI110, lI115, lI251, lI255, lI256, lI384, lI16384, lI20000, lI32768, lI49152, lI65535, nI_add, pk_mul, pk_sub, pk_div, nI_leI, nI_ltI, nI_eq] <;> omega), eq_X3_at hsz hn (by omega)]
      dsimp only [Option.bind]
      rw [show nI a + (1 : Int32) = nI (a + 1) from nI_1 a, eq_X3_at hsz hn (by omega)]
      dsimp only [Option.bind]
      rw [if_pos (by omega), if_pos (by omega), r0, r1, e0, e1]
      refine congrArg some ?_
      (first | (simp (disch := omega) only [lI0, lI1, lI2, lI3, lI4, lI5, lI7, lI8, lI9, lI10, lI11, lI12, lI15, lI16, lI17, lI20, lI24, lI32, lI33, lI40, lI63, lI64, lI80, lI82, lI101, lI110, lI115, lI251, lI255, lI256, lI384, lI16384, lI20000, lI32768, lI49152, lI65535, nI_add, pk_mul, pk_sub, pk_div] <;> (apply congrArg nI; omega)) | rfl)
    by_cases h4 : a + 3 + (256 * b0 + b1) ≤ sz
    · have hv : ∀ k, k < 256 * b0 + b1 → st (a + 3 + k) = nI (st (a + 3 + k)).toNatClampNeg ∧ (st (a + 3 + k)).toNatClampNeg < 256 := by
        intro k hk
        obtain ⟨-, v, hv1, hv2⟩ := hR (a + 3 + k) (by omega)
        rw [hv2, nI_clamp (by omega)]
        exact ⟨rfl, hv1⟩
      have ek : lf_X8_checksum n cy (nI (a + 3)) (nI (256 * b0 + b1)) = some (nI (ckN (fun k => (st (a + 3 + k)).toNatClampNeg) (256 * b0 + b1))) := eq_X8_checksum (by omega) (by omega) (by omega) (fun k hk => by
        rw [(hR (a + 3 + k) (by omega)).1]
        exact hv k hk)
      refine ⟨_, if nI (ckN (fun k => (st (a + 3 + k)).toNatClampNeg) (256 * b0 + b1)) = st (a + 2) then 110 else 115, ec, ?_, Or.inr ⟨b0, b1, hb0, hb1, h3, e0, e1, rfl, Or.inr ⟨h4, _, hv, rfl⟩⟩⟩
      unfold lf_X8_partFault
      rw [if_neg (by simp (disch := omega) only [lI0, lI1, lI2, lI3, lI4, lI5, lI7, lI8, lI9, lI10, lI11, lI12, lI15, lI16, lI17, lI20, lI24, lI32, lI33, lI40, lI63, lI64, lI80, lI82, lI101, lI110, lI115, lI251, lI255, lI256, lI384, lI16384, lI20000, lI32768, lI49152, lI65535, nI_add, pk_mul, pk_sub, pk_div, nI_leI, nI_ltI, nI_eq] <;> omega), if_pos (by simp (disch := omega) only [lI0, lI1, lI2, lI3, lI4, lI5, lI7, lI8, lI9, lI10, lI11, lI12, lI15, lI16, lI17, lI20, lI24, lI32, lI33, lI40, lI63, lI64, lI80, lI82, lI101, lI110, lI115, lI251, lI255, lI256, lI384, lI16384, lI20000, lI32768, lI49152, lI65535, nI_add, pk_mul, pk_sub, pk_div, nI_leI, nI_ltI, nI_eq] <;> omega), show nI a + (3 : Int32) = nI (a + 3) from nI_add a 3, ek]
      dsimp only [Option.bind]
      rw [show nI a + (2 : Int32) = nI (a + 2) from nI_add a 2, eq_X3_at hsz hn (by omega)]
      dsimp only [Option.bind]
      rw [if_pos (by omega : a + 2 < sz), r2]
      split <;> rfl
    · refine ⟨_, 101, ec, ?_, Or.inr ⟨b0, b1, hb0, hb1, h3, e0, e1, rfl, Or.inl ⟨h4, rfl⟩⟩⟩
      unfold lf_X8_partFault
      rw [if_neg (by simp (disch := omega) only [lI0, lI1, lI2, lI3, lI4, lI5, lI7, lI8, lI9, lI10, lI11, lI12, lI15, lI16, lI17, lI20, lI24, lI32, lI33, lI40, lI63, lI64, lI80, lI82, lI101, lI110, lI115, lI251, lI255, lI256, lI384, lI16384, lI20000, lI32768, lI49152, lI65535, nI_add, pk_mul, pk_sub, pk_div, nI_leI, nI_ltI, nI_eq] <;> omega), if_neg (by simp (disch := omega) only [lI0, lI1, lI2, lI3, lI4, lI5, lI7, lI8, lI9, lI10, lI11, lI12, lI15, lI16, lI17, lI20, lI24, lI32, lI33, lI40, lI63, lI64, lI80, lI82, lI101, lI110, lI115, lI251, lI255, lI256, lI384, lI16384, lI20000, lI32768, lI49152, lI65535, nI_add, pk_mul, pk_sub, pk_div, nI_leI, nI_ltI, nI_eq] <;> omega)]
  · refine ⟨-1, 101, ?_, ?_, Or.inl ⟨h3, rfl⟩⟩
    · unfold lf_X8_partCount
      rw [if_neg (by simp (disch := omega) only [lI0, lI1, lI2, lI3, lI4, lI5, lI7, lI8, lI9, lI10, lI11, lI12, lI15, lI16, lI17, lI20, lI24, lI32, lI33, lI40, lI63, lI64, lI80, lI82, lI101, lI110, lI115, lI251, lI255, lI256, lI384, lI16384, lI20000, lI32768, lI49152, lI65535, nI_add, pk_mul, pk_sub, pk_div, nI_leI, nI_ltI, nI_eq] <;> omega)]
    · unfold lf_X8_partFault
      rw [if_pos (by decide)]
set_option maxHeartbeats 8000000 in
theorem ok_layers {w h S tiles sz n many nL : Nat} {stm cy : Nat → Int32} {i_m_bits i_m_code i_m_end i_m_high i_m_low i_m_mean i_m_pending i_m_start : Int32} {t_m_counts t_m_faults t_m_line t_m_one t_m_result t_m_used t_m_whole t_m_work : Nat → Int32} {i_c_decodedLayer_prediction_average i_c_decodedLayer_prediction_size i_c_decodedLayer_step i_c_reader_code i_c_reader_end i_c_reader_high i_c_reader_low i_c_reader_position : Int32} {t_c_decoded_pixels t_c_decodedLayer_levels t_c_decodedLayer_modes t_c_decodedLayer_prediction_above t_c_decodedLayer_prediction_left t_c_decodedLayer_result t_c_decodedLayer_sizes t_c_decodedLayer_transform_line t_c_decodedLayer_transform_places t_c_faults t_c_reader_ones t_c_reader_zeros t_c_usedLayers : Nat → Int32}
    (hw1 : 1 ≤ w) (hw2 : w ≤ 16) (hh2 : h ≤ 24) (hS : S = (h + 7) / 8) (hsz : sz ≤ 18500) (ha : aI sz n) (hR : sR sz stm cy) (hnL : nL ≤ 3) (h3 : stm 3 = nI nL) (hsz2 : 4 + nL ≤ sz) (hmn : many ≤ nL) (hP : dPix w h t_m_whole t_c_decoded_pixels t_m_faults t_c_faults t_m_used t_c_usedLayers) :
    Ok2 (lf_X9_takeLayers i_m_bits i_m_code (nI w) i_m_end i_m_high i_m_low i_m_mean i_m_pending (nI sz) i_m_start t_m_counts t_m_faults t_m_line t_m_one t_m_result stm t_m_used t_m_whole t_m_work (nI many) (nI S)) (lf_X8_readParts (nI w) (nI h) i_c_decodedLayer_prediction_average i_c_decodedLayer_prediction_size i_c_decodedLayer_step i_c_reader_code i_c_reader_end i_c_reader_high i_c_reader_low i_c_reader_position (nI sz) t_c_decoded_pixels t_c_decodedLayer_levels t_c_decodedLayer_modes t_c_decodedLayer_prediction_above t_c_decodedLayer_prediction_left t_c_decodedLayer_result t_c_decodedLayer_sizes t_c_decodedLayer_transform_line t_c_decodedLayer_transform_places t_c_faults t_c_reader_ones t_c_reader_zeros n cy t_c_usedLayers (nI many)) (fun o k => dPix w h o.2.2.2.2.2.2.2.2.2.2.2.2.2.2.1 k.2.2.2.2.2.2.2.2.1 o.2.2.2.2.2.2.2.2.2.1 k.2.2.2.2.2.2.2.2.2.2.2.2.2.2.2.2.2.1 o.2.2.2.2.2.2.2.2.2.2.2.2.2.1 k.2.2.2.2.2.2.2.2.2.2.2.2.2.2.2.2.2.2.2.2) := by
  obtain ⟨q1, q2, q3⟩ := aI_le ha
  have hat : ∀ i, i < sz → lf_X3_at (nI sz) n cy (nI i) = some (stm i) := fun i hi => by
    rw [eq_X3_at q3 q1 (by omega), if_pos hi, (hR i hi).1]
  unfold lf_X9_takeLayers lf_X8_readParts
  refine Ok2.lrd 3 rfl (by decide) (by decide) ?_
  rw [h3]
  refine Ok2.rE _ (eq_tilesOf (by omega)) (Ok2.rE _ (eq_slicesOf hh2) (Ok2.rE _ (hat 3 (by omega)) ?_))
  rw [h3, ← hS, show (4 : Int32) + nI nL = nI (4 + nL) from nI_add 4 nL]
  generalize htl : (w + 7) / 8 = tiles
  refine Ok2.lbnd (Ok2.rbnd (Ok2.bind (fun o k => dPix w h o.2.2.2.2.2.2.2.2.2.2.2.2.2.2.1 k.2.2.2.2.2.2.2.2.1 o.2.2.2.2.2.2.2.2.2.1 k.2.2.2.2.2.2.2.2.2.2.2.2.2.2.2.2.2.1 o.2.2.2.2.2.2.2.2.2.2.2.2.2.1 k.2.2.2.2.2.2.2.2.2.2.2.2.2.2.2.2.2.2.2.2) ?_ (fun o k hok => Ok2.some hok)))
  refine Ok2.fix (fun l x z => x.2.2.1 = nI l ∧ z.2.1 = nI l ∧ dAt sz x.2.1 x.1 z.1 ∧ dPix w h x.2.2.2.2.2.2.2.2.2.2.2.2.2.2.2.2.2.1 z.2.2.2.2.2.2.2.2.2.2.1 x.2.2.2.2.2.2.2.2.2.2.2.2.1 z.2.2.2.2.2.2.2.2.2.2.2.2.2.2.2.2.2.2.2.1 x.2.2.2.2.2.2.2.2.2.2.2.2.2.2.2.2.1 z.2.2.2.2.2.2.2.2.2.2.2.2.2.2.2.2.2.2.2.2.2.2) many (by omega) ⟨rfl, rfl, ⟨4 + nL, rfl, by omega, Or.inl ⟨rfl, rfl⟩⟩, hP⟩ ?_
  rintro l ⟨xat, xcut, xs, xbits, xcode, xend, xhigh, xlow, xmean, xpend, xstart, xcounts, xfaults, xline, xone, xresult, xused, xwhole, xwork⟩ ⟨zat, zlay, zav, zps, zst, zcode, zend, zhigh, zlow, zpos, zpix, zlev, zmod, zab, zlf, zres, zsiz, zli, zpl, zfaults, zones, zzeros, zused⟩ s1 s2 hl ⟨e1, e2, hA, hP⟩ K
  dsimp only at e1 e2 hA hP ⊢
  subst e1 e2
  by_cases hc : l < many
  · refine Ok2.lneg (by simp (disch := omega) only [lI0, lI1, lI2, lI3, lI4, lI5, lI7, lI8, lI9, lI10, lI11, lI12, lI15, lI16, lI17, lI20, lI24, lI32, lI33, lI40, lI63, lI64, lI80, lI82, lI101, lI110, lI115, lI251, lI255, lI256, lI384, lI16384, lI20000, lI32768, lI49152, lI65535, nI_add, pk_mul, pk_sub, pk_div, nI_leI, nI_ltI, nI_eq] <;> omega) (Ok2.rneg (by simp (disch := omega) only [lI0, lI1, lI2, lI3, lI4, lI5, lI7, lI8, lI9, lI10, lI11, lI12, lI15, lI16, lI17, lI20, lI24, lI32, lI33, lI40, lI63, lI64, lI80, lI82, lI101, lI110, lI115, lI251, lI255, lI256, lI384, lI16384, lI20000, lI32768, lI49152, lI65535, nI_add, pk_mul, pk_sub, pk_div, nI_leI, nI_ltI, nI_eq] <;> omega) ?_)
    rw [show (4 : Int32) + nI l = nI (4 + l) from nI_add 4 l]
    refine Ok2.rE _ (hat (4 + l) (by omega)) ?_
    generalize hstep : stm (4 + l) = step
    refine Ok2.bind (fun o k => dAt sz o.2.1 o.1 k.1 ∧ dPix w h o.2.2.2.2.2.2.2.2.2.2.2.2.2.2.2.2.1 k.2.2.2.2.2.2.2.2.1 o.2.2.2.2.2.2.2.2.2.2.2.1 k.2.2.2.2.2.2.2.2.2.2.2.2.2.2.2.2.2.1 o.2.2.2.2.2.2.2.2.2.2.2.2.2.2.2.1 k.2.2.2.2.2.2.2.2.2.2.2.2.2.2.2.2.2.2.2.2) (Ok2.fix (fun s x z => x.2.2.1 = nI s ∧ z.2.1 = nI s ∧ dAt sz x.2.1 x.1 z.1 ∧ dPix w h x.2.2.2.2.2.2.2.2.2.2.2.2.2.2.2.2.2.1 z.2.2.2.2.2.2.2.2.2.1 x.2.2.2.2.2.2.2.2.2.2.2.2.1 z.2.2.2.2.2.2.2.2.2.2.2.2.2.2.2.2.2.2.1 x.2.2.2.2.2.2.2.2.2.2.2.2.2.2.2.2.1 z.2.2.2.2.2.2.2.2.2.2.2.2.2.2.2.2.2.2.2.2.2) S (by omega) ⟨rfl, rfl, hA, hP⟩ ?_) (fun o k hok => Ok2.lbnd (Ok2.rbnd (K _ _ hc ⟨(by first | (simp (disch := omega) only [lI0, lI1, lI2, lI3, lI4, lI5, lI7, lI8, lI9, lI10, lI11, lI12, lI15, lI16, lI17, lI20, lI24, lI32, lI33, lI40, lI63, lI64, lI80, lI82, lI101, lI110, lI115, lI251, lI255, lI256, lI384, lI16384, lI20000, lI32768, lI49152, lI65535, nI_add, pk_mul, pk_sub, pk_div] <;> (apply congrArg nI; omega)) | rfl), (by first | (simp (disch := omega) only [lI0, lI1, lI2, lI3, lI4, lI5, lI7, lI8, lI9, lI10, lI11, lI12, lI15, lI16, lI17, lI20, lI24, lI32, lI33, lI40, lI63, lI64, lI80, lI82, lI101, lI110, lI115, lI251, lI255, lI256, lI384, lI16384, lI20000, lI32768, lI49152, lI65535, nI_add, pk_mul, pk_sub, pk_div] <;> (apply congrArg nI; omega)) | rfl), hok.1, hok.2⟩)))
    rintro s ⟨yat, ycut, ys, ybits, ycode, yend, yhigh, ylow, ymean, ypend, ystart, ycounts, yfaults, yline, yone, yresult, yused, ywhole, ywork⟩ ⟨wat, ws, wav, wps, wcode, wend, whigh, wlow, wpos, wpix, wlev, wmod, wab, wlf, wres, wsiz, wli, wpl, wfaults, wones, wzeros, wused⟩ s3 s4 hs ⟨e1, e2, ⟨a, ea, hal, hcut⟩, hPx, hFt, hUs⟩ K2
    dsimp only at e1 e2 ea hcut hPx hFt hUs ⊢
    subst e1 e2 ea
    by_cases hc2 : s < S
    · refine Ok2.lneg (by simp (disch := omega) only [lI0, lI1, lI2, lI3, lI4, lI5, lI7, lI8, lI9, lI10, lI11, lI12, lI15, lI16, lI17, lI20, lI24, lI32, lI33, lI40, lI63, lI64, lI80, lI82, lI101, lI110, lI115, lI251, lI255, lI256, lI384, lI16384, lI20000, lI32768, lI49152, lI65535, nI_add, pk_mul, pk_sub, pk_div, nI_leI, nI_ltI, nI_eq] <;> omega) (Ok2.rneg (by simp (disch := omega) only [lI0, lI1, lI2, lI3, lI4, lI5, lI7, lI8, lI9, lI10, lI11, lI12, lI15, lI16, lI17, lI20, lI24, lI32, lI33, lI40, lI63, lI64, lI80, lI82, lI101, lI110, lI115, lI251, lI255, lI256, lI384, lI16384, lI20000, lI32768, lI49152, lI65535, nI_add, pk_mul, pk_sub, pk_div, nI_leI, nI_ltI, nI_eq] <;> omega) ?_)
      obtain ⟨ff1, ff2⟩ := hFt s (by omega)
      have hfin : ∀ {cut2 ma2 ca2 : Int32} {fm fc : Nat → Int32} {v1 v2 v3 v4 v5 v6 v7 v8 : Int32} {g1 g3 g4 g5 g8 : Nat → Int32} {u1 u2 u3 u4 u5 u6 u7 : Int32} {k2 k3 k4 k5 k6 k7 k8 k9 k11 k12 um uc wm pc : Nat → Int32}, dAt sz cut2 ma2 ca2 → (∀ x y, x < w → y < h → wm (16 * y + x) = pc (16 * y + x)) → (∀ i, i < 3 → fm i = fc i ∧ (fm i = 110 ∨ fm i = 101 ∨ fm i = 115)) → (∀ i, i < 3 → um i = uc i) →
          Ok2 (s3 (ma2, cut2, nI s + (1 : Int32), v1, v2, v3, v4, v5, v6, v7, v8, g1, fm, g3, g4, g5, um, wm, g8)) (s4 (ca2, nI s + (1 : Int32), u1, u2, u3, u4, u5, u6, u7, pc, k2, k3, k4, k5, k6, k7, k8, k9, fc, k11, k12, uc)) (fun o k => dAt sz o.2.1 o.1 k.1 ∧ dPix w h o.2.2.2.2.2.2.2.2.2.2.2.2.2.2.2.2.1 k.2.2.2.2.2.2.2.2.1 o.2.2.2.2.2.2.2.2.2.2.2.1 k.2.2.2.2.2.2.2.2.2.2.2.2.2.2.2.2.2.1 o.2.2.2.2.2.2.2.2.2.2.2.2.2.2.2.1 k.2.2.2.2.2.2.2.2.2.2.2.2.2.2.2.2.2.2.2.2) := by
        intros
        exact K2 _ _ hc2 ⟨(by first | (simp (disch := omega) only [lI0, lI1, lI2, lI3, lI4, lI5, lI7, lI8, lI9, lI10, lI11, lI12, lI15, lI16, lI17, lI20, lI24, lI32, lI33, lI40, lI63, lI64, lI80, lI82, lI101, lI110, lI115, lI251, lI255, lI256, lI384, lI16384, lI20000, lI32768, lI49152, lI65535, nI_add, pk_mul, pk_sub, pk_div] <;> (apply congrArg nI; omega)) | rfl), (by first | (simp (disch := omega) only [lI0, lI1, lI2, lI3, lI4, lI5, lI7, lI8, lI9, lI10, lI11, lI12, lI15, lI16, lI17, lI20, lI24, lI32, lI33, lI40, lI63, lI64, lI80, lI82, lI101, lI110, lI115, lI251, lI255, lI256, lI384, lI16384, lI20000, lI32768, lI49152, lI65535, nI_add, pk_mul, pk_sub, pk_div] <;> (apply congrArg nI; omega)) | rfl), by assumption, by assumption, by assumption, by assumption⟩
      -- the class's look
      obtain ⟨ca, hca, hcale, hcale2⟩ : ∃ ca, wat = nI ca ∧ ca ≤ sz ∧ (ycut = 0 ∧ ca = a ∨ ycut = 1 ∧ ca = sz) := by
        rcases hcut with ⟨h5, h6⟩ | ⟨h5, h6⟩
        · exact ⟨a, h6, hal, Or.inl ⟨h5, rfl⟩⟩
        · exact ⟨sz, h6, Nat.le_refl _, Or.inr ⟨h5, rfl⟩⟩
      subst hca
      obtain ⟨o57, o58, ec1, ec2, hpt⟩ := ok_look q3 q1 hR hcale
      refine Ok2.rE _ ec1 (Ok2.rE _ ec2 (Ok2.rrd s rfl (by omega) (by decide) ?_))
      rw [← ff1]
      -- the reference's length
      obtain ⟨L0, hL0, hL1⟩ : ∃ L0, L0 < 65536 ∧ (a + 3 ≤ sz → ∃ b0 b1, b0 < 256 ∧ b1 < 256 ∧ stm a = nI b0 ∧ stm (a + 1) = nI b1 ∧ L0 = 256 * b0 + b1) ∧ (¬ a + 3 ≤ sz → L0 = 0) := by
        by_cases h3 : a + 3 ≤ sz
        · obtain ⟨-, b0, hb0, e0⟩ := hR a (by omega)
          obtain ⟨-, b1, hb1, e1⟩ := hR (a + 1) (by omega)
          exact ⟨256 * b0 + b1, by omega, fun _ => ⟨b0, b1, hb0, hb1, e0, e1, rfl⟩, fun h => absurd h3 h⟩
        · exact ⟨0, by decide, fun h => absurd h h3, fun _ => rfl⟩
      obtain ⟨hL1, hL2⟩ := hL1
      -- what both find
      obtain ⟨cf, hcf, hcase⟩ : ∃ cf : Int32, (cf = 0 ∨ cf = 1) ∧ ((cf = 0 ∧ ycut = 0 ∧ ca = a ∧ a + 3 ≤ sz ∧ a + 3 + L0 ≤ sz ∧ o57 = nI L0 ∧ ∃ v : Nat → Nat, (∀ k, k < L0 → stm (a + 3 + k) = nI (v k) ∧ v k < 256) ∧ o58 = if nI (ckN v L0) = stm (a + 2) then 110 else 115) ∨ (cf = 1 ∧ (ycut = 1 ∨ ycut = 0 ∧ ¬ (a + 3 ≤ sz ∧ a + 3 + L0 ≤ sz)) ∧ o58 = 101)) := by
        rcases hcale2 with ⟨h5, h6⟩ | ⟨h5, h6⟩
        · subst h6
          rcases hpt with ⟨h7, h8⟩ | ⟨b0, b1, hb0, hb1, h7, e0, e1, h8, h9⟩
          · exact ⟨1, Or.inr rfl, Or.inr ⟨rfl, Or.inr ⟨h5, fun h => h7 h.1⟩, h8⟩⟩
          · obtain ⟨b2, b3, hb2, hb3, e2, e3, e4⟩ := hL1 h7
            have e5 : b2 = b0 := nI_inj (by omega) (by omega) (e2.symm.trans e0)
            have e6 : b3 = b1 := nI_inj (by omega) (by omega) (e3.symm.trans e1)
            subst e5 e6
            subst e4
            rcases h9 with ⟨h9, h10⟩ | ⟨h9, v, h10, h11⟩
            · exact ⟨1, Or.inr rfl, Or.inr ⟨rfl, Or.inr ⟨h5, fun h => h9 h.2⟩, h10⟩⟩
            · exact ⟨0, Or.inl rfl, Or.inl ⟨rfl, h5, rfl, h7, h9, h8, v, h10, h11⟩⟩
        · rcases hpt with ⟨h7, h8⟩ | ⟨b0, b1, hb0, hb1, h7, e0, e1, h8, h9⟩
          · exact ⟨1, Or.inr rfl, Or.inr ⟨rfl, Or.inl h5, h8⟩⟩
          · exact absurd h7 (by omega)
      refine Ok2.ljn (fun x => x = nI L0) (fun k hk => ?_) (fun x hx => ?_)
      · by_cases h3 : a + 3 ≤ sz
        · obtain ⟨b2, b3, hb2, hb3, e2, e3, e4⟩ := hL1 h3
          refine Ok2.lneg (by simp (disch := omega) only [lI0, lI1, lI2, lI3, lI4, lI5, lI7, lI8, lI9, lI10, lI11, lI12, lI15, lI16, lI17, lI20, lI24, lI32, lI33, lI40, lI63, lI64, lI80, lI82, lI101, lI110, lI115, lI251, lI255, lI256, lI384, lI16384, lI20000, lI32768, lI49152, lI65535, nI_add, pk_mul, pk_sub, pk_div, nI_leI, nI_ltI, nI_eq] <;> omega) (Ok2.lrd a rfl (by omega) (by decide) (Ok2.lrd (a + 1) (by first | (simp (disch := omega) only [lI0, lI1, lI2, lI3, lI4, lI5, lI7, lI8, lI9, lI10, lI11, lI12, lI15, lI16, lI17, lI20, lI24, lI32, lI33, lI40, lI63, lI64, lI80, lI82, lI101, lI110, lI115, lI251, lI255, lI256, lI384, lI16384, lI20000, lI32768, lI49152, lI65535, nI_add, pk_mul, pk_sub, pk_div] <;> (apply congrArg nI; omega)) | rfl) (by omega) (by decide) (hk _ ?_)))
          rw [e2, e3, e4]
          (first | (simp (disch := omega) only [lI0, lI1, lI2, lI3, lI4, lI5, lI7, lI8, lI9, lI10, lI11, lI12, lI15, lI16, lI17, lI20, lI24, lI32, lI33, lI40, lI63, lI64, lI80, lI82, lI101, lI110, lI115, lI251, lI255, lI256, lI384, lI16384, lI20000, lI32768, lI49152, lI65535, nI_add, pk_mul, pk_sub, pk_div] <;> (apply congrArg nI; omega)) | rfl)
        · refine Ok2.lpos (by simp (disch := omega) only [lI0, lI1, lI2, lI3, lI4, lI5, lI7, lI8, lI9, lI10, lI11, lI12, lI15, lI16, lI17, lI20, lI24, lI32, lI33, lI40, lI63, lI64, lI80, lI82, lI101, lI110, lI115, lI251, lI255, lI256, lI384, lI16384, lI20000, lI32768, lI49152, lI65535, nI_add, pk_mul, pk_sub, pk_div, nI_leI, nI_ltI, nI_eq] <;> omega) (hk _ ?_)
          rw [hL2 h3]
          rfl
      subst hx
      refine Ok2.ljn (fun x => x = cf) (fun k hk => ?_) (fun xcf hx => ?_)
      · refine Ok2.ljnI ?_
        rcases hcase with ⟨c1, c2, c3, c4, c5, c6, c7⟩ | ⟨c1, c2, c3⟩
        · subst c1 c2
          exact Ok2.lpos rfl (Ok2.lneg (by simp (disch := omega) only [lI0, lI1, lI2, lI3, lI4, lI5, lI7, lI8, lI9, lI10, lI11, lI12, lI15, lI16, lI17, lI20, lI24, lI32, lI33, lI40, lI63, lI64, lI80, lI82, lI101, lI110, lI115, lI251, lI255, lI256, lI384, lI16384, lI20000, lI32768, lI49152, lI65535, nI_add, pk_mul, pk_sub, pk_div, nI_leI, nI_ltI, nI_eq] <;> omega) (Ok2.lpos (by simp (disch := omega) only [lI0, lI1, lI2, lI3, lI4, lI5, lI7, lI8, lI9, lI10, lI11, lI12, lI15, lI16, lI17, lI20, lI24, lI32, lI33, lI40, lI63, lI64, lI80, lI82, lI101, lI110, lI115, lI251, lI255, lI256, lI384, lI16384, lI20000, lI32768, lI49152, lI65535, nI_add, pk_mul, pk_sub, pk_div, nI_leI, nI_ltI, nI_eq] <;> omega) (hk _ rfl)))
        · subst c1
          rcases c2 with c2 | ⟨c2, c4⟩
          · subst c2
            exact Ok2.lneg (by decide) (hk _ rfl)
          · subst c2
            refine Ok2.lpos rfl ?_
            by_cases h3 : a + 3 ≤ sz
            · exact Ok2.lneg (by simp (disch := omega) only [lI0, lI1, lI2, lI3, lI4, lI5, lI7, lI8, lI9, lI10, lI11, lI12, lI15, lI16, lI17, lI20, lI24, lI32, lI33, lI40, lI63, lI64, lI80, lI82, lI101, lI110, lI115, lI251, lI255, lI256, lI384, lI16384, lI20000, lI32768, lI49152, lI65535, nI_add, pk_mul, pk_sub, pk_div, nI_leI, nI_ltI, nI_eq] <;> omega) (Ok2.lneg (by simp (disch := omega) only [lI0, lI1, lI2, lI3, lI4, lI5, lI7, lI8, lI9, lI10, lI11, lI12, lI15, lI16, lI17, lI20, lI24, lI32, lI33, lI40, lI63, lI64, lI80, lI82, lI101, lI110, lI115, lI251, lI255, lI256, lI384, lI16384, lI20000, lI32768, lI49152, lI65535, nI_add, pk_mul, pk_sub, pk_div, nI_leI, nI_ltI, nI_eq] <;> omega) (hk _ rfl))
            · exact Ok2.lpos (by simp (disch := omega) only [lI0, lI1, lI2, lI3, lI4, lI5, lI7, lI8, lI9, lI10, lI11, lI12, lI15, lI16, lI17, lI20, lI24, lI32, lI33, lI40, lI63, lI64, lI80, lI82, lI101, lI110, lI115, lI251, lI255, lI256, lI384, lI16384, lI20000, lI32768, lI49152, lI65535, nI_add, pk_mul, pk_sub, pk_div, nI_leI, nI_ltI, nI_eq] <;> omega) (hk _ rfl)
      subst hx
      refine Ok2.ljn (fun x => x = o58) (fun k hk => ?_) (fun x hx => ?_)
      · rcases hcase with ⟨c1, c2, c3, c4, c5, c6, v, c7, c8⟩ | ⟨c1, c2, c3⟩
        · subst c1
          refine Ok2.lpos rfl (Ok2.lE _ (by
            rw [show nI a + (3 : Int32) = nI (a + 3) from nI_add a 3]
            exact eq_X9_checksum (by omega) (by omega) c7) (Ok2.lrd (a + 2) (by first | (simp (disch := omega) only [lI0, lI1, lI2, lI3, lI4, lI5, lI7, lI8, lI9, lI10, lI11, lI12, lI15, lI16, lI17, lI20, lI24, lI32, lI33, lI40, lI63, lI64, lI80, lI82, lI101, lI110, lI115, lI251, lI255, lI256, lI384, lI16384, lI20000, lI32768, lI49152, lI65535, nI_add, pk_mul, pk_sub, pk_div] <;> (apply congrArg nI; omega)) | rfl) (by omega) (by decide) ?_))
          by_cases h5 : nI (ckN v L0) = stm (a + 2)
          · exact Ok2.lpos h5 (hk _ (by rw [c8, if_pos h5]))
          · exact Ok2.lneg h5 (hk _ (by rw [c8, if_neg h5]))
        · subst c1
          exact Ok2.lneg (by decide) (hk _ c3.symm)
      subst hx
      refine Ok2.lrd s rfl (by omega) (by decide) ?_
      have hnar : ∀ x : Int32, x = 110 ∨ x = 101 ∨ x = 115 → vp_nar .char x = x := by
        rintro x (rfl | rfl | rfl) <;> decide
      have ho58 : x = 110 ∨ x = 101 ∨ x = 115 := by
        rcases hcase with ⟨c1, c2, c3, c4, c5, c6, v, c7, c8⟩ | ⟨c1, c2, c3⟩
        · rw [c8]
          split
          · exact Or.inl rfl
          · exact Or.inr (Or.inr rfl)
        · exact Or.inr (Or.inl c3)
      have hw : ∀ i, i < 3 → upd yfaults s x i = upd wfaults s x i ∧ (upd yfaults s x i = 110 ∨ upd yfaults s x i = 101 ∨ upd yfaults s x i = 115) := by
        intro i hi
        by_cases h6 : i = s
        · subst h6
          rw [upd_eq, upd_eq]
          exact ⟨rfl, ho58⟩
        · rw [upd_ne h6, upd_ne h6]
          exact hFt i hi
      have hat2 : dAt sz xcf (if xcf = 0 then nI a + ((3 : Int32) + nI L0) else nI a) (if x = 101 then nI sz else nI ca + (3 : Int32) + o57) := by
        rcases hcase with ⟨c1, c2, c3, c4, c5, c6, v, c7, c8⟩ | ⟨c1, c2, c3⟩
        · subst c1 c3 c6
          rw [if_pos rfl, if_neg (by rw [c8]; split <;> decide), show nI ca + ((3 : Int32) + nI L0) = nI (ca + 3 + L0) from (by first | (simp (disch := omega) only [lI0, lI1, lI2, lI3, lI4, lI5, lI7, lI8, lI9, lI10, lI11, lI12, lI15, lI16, lI17, lI20, lI24, lI32, lI33, lI40, lI63, lI64, lI80, lI82, lI101, lI110, lI115, lI251, lI255, lI256, lI384, lI16384, lI20000, lI32768, lI49152, lI65535, nI_add, pk_mul, pk_sub, pk_div] <;> (apply congrArg nI; omega)) | rfl), show nI ca + (3 : Int32) + nI L0 = nI (ca + 3 + L0) from (by first | (simp (disch := omega) only [lI0, lI1, lI2, lI3, lI4, lI5, lI7, lI8, lI9, lI10, lI11, lI12, lI15, lI16, lI17, lI20, lI24, lI32, lI33, lI40, lI63, lI64, lI80, lI82, lI101, lI110, lI115, lI251, lI255, lI256, lI384, lI16384, lI20000, lI32768, lI49152, lI65535, nI_add, pk_mul, pk_sub, pk_div] <;> (apply congrArg nI; omega)) | rfl)]
          exact ⟨_, rfl, c5, Or.inl ⟨rfl, rfl⟩⟩
        · subst c1 c3
          exact ⟨a, rfl, hal, Or.inr ⟨rfl, rfl⟩⟩
      -- how both go on
      have hend : ∀ {fm fc : Nat → Int32} {v1 v2 v3 v4 v5 v6 v7 v8 : Int32} {g1 g3 g4 g5 g8 : Nat → Int32} {u1 u2 u3 u4 u5 u6 u7 : Int32} {k2 k3 k4 k5 k6 k7 k8 k9 k11 k12 um uc wm pc : Nat → Int32}, (∀ x y, x < w → y < h → wm (16 * y + x) = pc (16 * y + x)) → (∀ i, i < 3 → fm i = fc i ∧ (fm i = 110 ∨ fm i = 101 ∨ fm i = 115)) → (∀ i, i < 3 → um i = uc i) →
          Ok2 (if xcf = (0 : Int32) then s3 (nI a + ((3 : Int32) + nI L0), xcf, nI s + (1 : Int32), v1, v2, v3, v4, v5, v6, v7, v8, g1, fm, g3, g4, g5, um, wm, g8) else s3 (nI a + (0 : Int32), xcf, nI s + (1 : Int32), v1, v2, v3, v4, v5, v6, v7, v8, g1, fm, g3, g4, g5, um, wm, g8)) (if x = (101 : Int32) then s4 (nI sz, nI s + (1 : Int32), u1, u2, u3, u4, u5, u6, u7, pc, k2, k3, k4, k5, k6, k7, k8, k9, fc, k11, k12, uc) else s4 (nI ca + (3 : Int32) + o57, nI s + (1 : Int32), u1, u2, u3, u4, u5, u6, u7, pc, k2, k3, k4, k5, k6, k7, k8, k9, fc, k11, k12, uc)) (fun o k => dAt sz o.2.1 o.1 k.1 ∧ dPix w h o.2.2.2.2.2.2.2.2.2.2.2.2.2.2.2.2.1 k.2.2.2.2.2.2.2.2.1 o.2.2.2.2.2.2.2.2.2.2.2.1 k.2.2.2.2.2.2.2.2.2.2.2.2.2.2.2.2.2.1 o.2.2.2.2.2.2.2.2.2.2.2.2.2.2.2.1 k.2.2.2.2.2.2.2.2.2.2.2.2.2.2.2.2.2.2.2.2) := by
        intro fm fc v1 v2 v3 v4 v5 v6 v7 v8 g1 g3 g4 g5 g8 u1 u2 u3 u4 u5 u6 u7 k2 k3 k4 k5 k6 k7 k8 k9 k11 k12 um uc wm pc hx1 hx2 hx3
        by_cases c1 : xcf = 0
        · rw [if_pos c1] at hat2 ⊢
          by_cases c2 : x = 101
          · rw [if_pos c2] at hat2 ⊢
            exact hfin hat2 hx1 hx2 hx3
          · rw [if_neg c2] at hat2 ⊢
            exact hfin hat2 hx1 hx2 hx3
        · rw [if_neg c1] at hat2 ⊢
          rw [show nI a + (0 : Int32) = nI a from Int32.add_zero _]
          by_cases c2 : x = 101
          · rw [if_pos c2] at hat2 ⊢
            exact hfin hat2 hx1 hx2 hx3
          · rw [if_neg c2] at hat2 ⊢
            exact hfin hat2 hx1 hx2 hx3
      by_cases h5 : yfaults s = 110
      · by_cases h6 : x = 110
        · subst h6
          rcases hcase with ⟨c1, c2, c3, c4, c5, c6, -⟩ | ⟨c1, c2, c3⟩
          · subst c3 c6
            obtain ⟨om, o1, o2, o3, q4, q5, q6, q7, q8⟩ := ok_takePart (mb := ybits) (mc := ycode) (mh := yhigh) (ml := ylow) (mean := ymean) (mp := ypend) (ct := ycounts) (line := yline) (one := yone) (rM := yresult) (work := ywork) (rc := wcode) (re := wend) (rh := whigh) (rl := wlow) (rp := wpos) (on := wones) (ze := wzeros) (lC := wlev) (mC := wmod) (ab := wab) (lf := wlf) (rC := wres) (sC := wsiz) (ln := wli) (pl := wpl) (av := wav) (ps := wps) (step := step) (stm := stm) (cy := cy) (n := n) (start := ca + 3) (len := L0) (slice := s) (y := 8 * s) (w := w) (tiles := tiles) (p0 := (8 : Int32) * nI s) (p1 := nI w) (p2 := nI ca + (3 : Int32)) (p3 := nI L0) (en := nI ca + (3 : Int32) + nI L0) (sta := nI ca + (3 : Int32)) (by first | (simp (disch := omega) only [lI0, lI1, lI2, lI3, lI4, lI5, lI7, lI8, lI9, lI10, lI11, lI12, lI15, lI16, lI17, lI20, lI24, lI32, lI33, lI40, lI63, lI64, lI80, lI82, lI101, lI110, lI115, lI251, lI255, lI256, lI384, lI16384, lI20000, lI32768, lI49152, lI65535, nI_add, pk_mul, pk_sub, pk_div] <;> (apply congrArg nI; omega)) | rfl) rfl (by first | (simp (disch := omega) only [lI0, lI1, lI2, lI3, lI4, lI5, lI7, lI8, lI9, lI10, lI11, lI12, lI15, lI16, lI17, lI20, lI24, lI32, lI33, lI40, lI63, lI64, lI80, lI82, lI101, lI110, lI115, lI251, lI255, lI256, lI384, lI16384, lI20000, lI32768, lI49152, lI65535, nI_add, pk_mul, pk_sub, pk_div] <;> (apply congrArg nI; omega)) | rfl) (by first | (simp (disch := omega) only [lI0, lI1, lI2, lI3, lI4, lI5, lI7, lI8, lI9, lI10, lI11, lI12, lI15, lI16, lI17, lI20, lI24, lI32, lI33, lI40, lI63, lI64, lI80, lI82, lI101, lI110, lI115, lI251, lI255, lI256, lI384, lI16384, lI20000, lI32768, lI49152, lI65535, nI_add, pk_mul, pk_sub, pk_div] <;> (apply congrArg nI; omega)) | rfl) (by first | (simp (disch := omega) only [lI0, lI1, lI2, lI3, lI4, lI5, lI7, lI8, lI9, lI10, lI11, lI12, lI15, lI16, lI17, lI20, lI24, lI32, lI33, lI40, lI63, lI64, lI80, lI82, lI101, lI110, lI115, lI251, lI255, lI256, lI384, lI16384, lI20000, lI32768, lI49152, lI65535, nI_add, pk_mul, pk_sub, pk_div] <;> (apply congrArg nI; omega)) | rfl) rfl rfl htl.symm hw1 hw2 (by omega) (by omega) (by omega) (by omega) (fun i hi => (hR i (by omega)).1)
            refine Ok2.ljnI (Ok2.rjnI (Ok2.rjnI (Ok2.lpos h5 (Ok2.lwr s rfl (by omega) (by decide) (Ok2.lpos rfl (Ok2.lrd (4 + l) (by first | (simp (disch := omega) only [lI0, lI1, lI2, lI3, lI4, lI5, lI7, lI8, lI9, lI10, lI11, lI12, lI15, lI16, lI17, lI20, lI24, lI32, lI33, lI40, lI63, lI64, lI80, lI82, lI101, lI110, lI115, lI251, lI255, lI256, lI384, lI16384, lI20000, lI32768, lI49152, lI65535, nI_add, pk_mul, pk_sub, pk_div] <;> (apply congrArg nI; omega)) | rfl) (by omega) (by decide) ?_))))))
            rw [hstep]
            have e128 : (128 : Int32) * nI s = nI (128 * s + 0) := by
              rw [show (128 : Int32) = nI 128 from rfl]
              (first | (simp (disch := omega) only [lI0, lI1, lI2, lI3, lI4, lI5, lI7, lI8, lI9, lI10, lI11, lI12, lI15, lI16, lI17, lI20, lI24, lI32, lI33, lI40, lI63, lI64, lI80, lI82, lI101, lI110, lI115, lI251, lI255, lI256, lI384, lI16384, lI20000, lI32768, lI49152, lI65535, nI_add, pk_mul, pk_sub, pk_div] <;> (apply congrArg nI; omega)) | rfl)
            have e129 : (128 : Int32) * (nI s + (1 : Int32)) = nI (128 * s + 128) := by
              rw [show (128 : Int32) = nI 128 from rfl]
              (first | (simp (disch := omega) only [lI0, lI1, lI2, lI3, lI4, lI5, lI7, lI8, lI9, lI10, lI11, lI12, lI15, lI16, lI17, lI20, lI24, lI32, lI33, lI40, lI63, lI64, lI80, lI82, lI101, lI110, lI115, lI251, lI255, lI256, lI384, lI16384, lI20000, lI32768, lI49152, lI65535, nI_add, pk_mul, pk_sub, pk_div] <;> (apply congrArg nI; omega)) | rfl)
            rw [e129]
            refine Ok2.lE _ q4 (Ok2.lbnd (Ok2.l (fun o => ∀ i, o i = if 128 * s ≤ i ∧ i < 128 * s + 128 then ywhole i + om.2.2.2.2.2.2.2.2.2.1 i else ywhole i) (Ok.fix (fun k z => z.1 = nI (128 * s + k) ∧ ∀ i, z.2 i = if 128 * s ≤ i ∧ i < 128 * s + k then ywhole i + om.2.2.2.2.2.2.2.2.2.1 i else ywhole i) 128 (by decide) ⟨e128, fun i => (if_neg (by omega)).symm⟩ ?_) ?_))
            · rintro k ⟨x2, g3⟩ self hk ⟨h6, h7⟩ K3
              dsimp only at h6 h7 ⊢
              subst h6
              by_cases hc3 : k < 128
              · refine Ok.neg (by simp (disch := omega) only [lI0, lI1, lI2, lI3, lI4, lI5, lI7, lI8, lI9, lI10, lI11, lI12, lI15, lI16, lI17, lI20, lI24, lI32, lI33, lI40, lI63, lI64, lI80, lI82, lI101, lI110, lI115, lI251, lI255, lI256, lI384, lI16384, lI20000, lI32768, lI49152, lI65535, nI_add, pk_mul, pk_sub, pk_div, nI_leI, nI_ltI, nI_eq] <;> omega) (Ok.rd (128 * s + k) rfl (by omega) (by decide) (Ok.rd (128 * s + k) rfl (by omega) (by decide) (Ok.wr (128 * s + k) rfl (by omega) (by decide) (Ok.bnd (K3 _ hc3 ⟨(by first | (simp (disch := omega) only [lI0, lI1, lI2, lI3, lI4, lI5, lI7, lI8, lI9, lI10, lI11, lI12, lI15, lI16, lI17, lI20, lI24, lI32, lI33, lI40, lI63, lI64, lI80, lI82, lI101, lI110, lI115, lI251, lI255, lI256, lI384, lI16384, lI20000, lI32768, lI49152, lI65535, nI_add, pk_mul, pk_sub, pk_div] <;> (apply congrArg nI; omega)) | rfl), fun i => ?_⟩)))))
                dsimp only
                by_cases h8 : i = 128 * s + k
                · subst h8
                  rw [upd_eq, h7, if_neg (by omega), if_pos (by omega)]
                · rw [upd_ne h8, h7]
                  by_cases h9 : 128 * s ≤ i ∧ i < 128 * s + k
                  · rw [if_pos h9, if_pos (by omega)]
                  · rw [if_neg h9, if_neg (by omega)]
              · have hk2 : k = 128 := by omega
                subst hk2
                exact Ok.pos (by simp (disch := omega) only [lI0, lI1, lI2, lI3, lI4, lI5, lI7, lI8, lI9, lI10, lI11, lI12, lI15, lI16, lI17, lI20, lI24, lI32, lI33, lI40, lI63, lI64, lI80, lI82, lI101, lI110, lI115, lI251, lI255, lI256, lI384, lI16384, lI20000, lI32768, lI49152, lI65535, nI_add, pk_mul, pk_sub, pk_div, nI_leI, nI_ltI, nI_eq] <;> omega) (Ok.some h7)
            · intro nw hnw
              refine Ok2.lrd s rfl (by omega) (by decide) (Ok2.lwr s rfl (by omega) (by decide) (Ok2.ljnI ?_))
              refine Ok2.rpos h5 (Ok2.rpos rfl (Ok2.rE _ q5 (Ok2.rE _ q6 (Ok2.rE _ q7 (Ok2.r _ (ok_addRows (s := s) (by first | (simp (disch := omega) only [lI0, lI1, lI2, lI3, lI4, lI5, lI7, lI8, lI9, lI10, lI11, lI12, lI15, lI16, lI17, lI20, lI24, lI32, lI33, lI40, lI63, lI64, lI80, lI82, lI101, lI110, lI115, lI251, lI255, lI256, lI384, lI16384, lI20000, lI32768, lI49152, lI65535, nI_add, pk_mul, pk_sub, pk_div] <;> (apply congrArg nI; omega)) | rfl) hw2 hh2 (by omega)) ?_)))))
              intro np hnp
              refine Ok2.rrd s rfl (by omega) (by decide) (Ok2.rwr s rfl (by omega) (by decide) (Ok2.rjnI ?_))
              refine hend (fun x y hx hy => ?_) (fun i hi => ?_) (fun i hi => ?_)
              · dsimp only
                rw [hnw, hnp x y hx hy]
                by_cases h8 : 8 * s ≤ y ∧ y < 8 * s + 8
                · rw [if_pos (by omega), if_pos h8, hPx x y hx hy]
                  have h9 := q8 (y - 8 * s) x (by omega) (by omega)
                  rw [show 8 * s + (y - 8 * s) = y from by omega] at h9
                  rw [h9]
                · rw [if_neg (by omega), if_neg h8, hPx x y hx hy]
              · dsimp only
                by_cases h8 : i = s
                · subst h8
                  rw [upd_eq, ← ff1, h5]
                  exact ⟨rfl, Or.inl rfl⟩
                · rw [upd_ne h8]
                  exact hFt i hi
              · dsimp only
                by_cases h8 : i = s
                · subst h8
                  rw [upd_eq, upd_eq, hUs i hi]
                · rw [upd_ne h8, upd_ne h8]
                  exact hUs i hi
          · exact absurd c3 (by decide)
        · refine Ok2.ljnI (Ok2.rjnI (Ok2.rjnI (Ok2.lpos h5 (Ok2.lwr s rfl (by omega) (by decide) (Ok2.lneg h6 (Ok2.ljnI ?_))))))
          refine Ok2.rpos h5 (Ok2.rneg h6 (Ok2.rrd s rfl (by omega) (by decide) ?_))
          rw [← ff1]
          refine Ok2.rpos h5 (Ok2.rwr s rfl (by omega) (by decide) (Ok2.rjnI ?_))
          rw [hnar x ho58]
          exact hend hPx hw hUs
      · refine Ok2.ljnI (Ok2.rjnI (Ok2.rjnI (Ok2.lneg h5 (Ok2.ljnI ?_))))
        refine Ok2.rneg h5 (Ok2.rrd s rfl (by omega) (by decide) ?_)
        rw [← ff1]
        exact Ok2.rneg h5 (Ok2.rjnI (hend hPx hFt hUs))
    · have hs2 : s = S := by omega
      subst hs2
      exact Ok2.lpos (by simp (disch := omega) only [lI0, lI1, lI2, lI3, lI4, lI5, lI7, lI8, lI9, lI10, lI11, lI12, lI15, lI16, lI17, lI20, lI24, lI32, lI33, lI40, lI63, lI64, lI80, lI82, lI101, lI110, lI115, lI251, lI255, lI256, lI384, lI16384, lI20000, lI32768, lI49152, lI65535, nI_add, pk_mul, pk_sub, pk_div, nI_leI, nI_ltI, nI_eq] <;> omega) (Ok2.rpos (by simp (disch := omega) only [lI0, lI1, lI2, lI3, lI4, lI5, lI7, lI8, lI9, lI10, lI11, lI12, lI15, lI16, lI17, lI20, lI24, lI32, lI33, lI40, lI63, lI64, lI80, lI82, lI101, lI110, lI115, lI251, lI255, lI256, lI384, lI16384, lI20000, lI32768, lI49152, lI65535, nI_add, pk_mul, pk_sub, pk_div, nI_leI, nI_ltI, nI_eq] <;> omega) (Ok2.some ⟨⟨a, rfl, hal, hcut⟩, hPx, hFt, hUs⟩))
  · have hl2 : l = many := by omega
    subst hl2
    exact Ok2.lpos (by simp (disch := omega) only [lI0, lI1, lI2, lI3, lI4, lI5, lI7, lI8, lI9, lI10, lI11, lI12, lI15, lI16, lI17, lI20, lI24, lI32, lI33, lI40, lI63, lI64, lI80, lI82, lI101, lI110, lI115, lI251, lI255, lI256, lI384, lI16384, lI20000, lI32768, lI49152, lI65535, nI_add, pk_mul, pk_sub, pk_div, nI_leI, nI_ltI, nI_eq] <;> omega) (Ok2.rpos (by simp (disch := omega) only [lI0, lI1, lI2, lI3, lI4, lI5, lI7, lI8, lI9, lI10, lI11, lI12, lI15, lI16, lI17, lI20, lI24, lI32, lI33, lI40, lI63, lI64, lI80, lI82, lI101, lI110, lI115, lI251, lI255, lI256, lI384, lI16384, lI20000, lI32768, lI49152, lI65535, nI_add, pk_mul, pk_sub, pk_div, nI_leI, nI_ltI, nI_eq] <;> omega) (Ok2.some hP))
