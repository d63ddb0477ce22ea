/-! ===== the class: a block is fitted, a block is restored ===== -/
theorem dv_nI {x : Int32} {n : Nat} (h0 : 0 < n) (hn : n < 2 ^ 31) : dvO x (nI n) = some (x / nI n) := by
  unfold dvO
  rw [if_neg (nI_ne0 h0 hn)]
theorem jmax_st {st : Nat} (h0 : 0 < st) (h1 : st ≤ 32) : jmax (1 : Int32) (nI st) = nI st := by
  unfold jmax
  by_cases h : st = 1
  · subst h
    rfl
  · exact if_pos (by simp (disch := omega) only [lI0, lI1, lI2, lI3, lI4, lI5, lI7, lI8, lI9, lI10, lI11, lI12, lI15, lI16, lI17, lI20, lI24, lI32, lI33, lI40, lI63, lI64, lI80, lI82, lI101, lI110, lI115, lI251, lI255, lI256, lI384, lI16384, lI20000, lI32768, lI49152, lI65535, nI_add, pk_mul, pk_sub, pk_div, nI_leI, nI_ltI, nI_eq] <;> omega)
set_option maxHeartbeats 1000000 in
theorem ok_X4_fitBlock {av sz : Int32} {costs levels modes ab lf res sizes line pl tg L U : Nat → Int32} {T : Nat → Nat → Int32} {p1 p2 p3 : Int32} {x y K st : Nat} (e1 : p1 = nI x) (e2 : p2 = nI y) (e3 : p3 = nI (2 ^ K)) (hK : K ≤ 3) (hn : 2 ^ K = 4 ∨ 2 ^ K = 8) (hx : x + 2 ^ K ≤ 16) (hy : y + 2 ^ K ≤ 24) (hs0 : 0 < st) (hs1 : st ≤ 32) (hsz : szN sizes x y = 2 ^ K)
    (hL : ∀ i, i < 2 ^ K → nbL res x y i = L i) (hU : ∀ i, i < 2 ^ K → nbU res x y i = U i) (hT : ∀ r c, r < 2 ^ K → c < 2 ^ K → tg (p16 x y r c) = T r c) :
    Ok (lf_X4_fitBlock av sz (nI st) costs levels modes ab lf res sizes line pl 384 tg p1 p2 p3) (fun o => o.1 = bCost K L U T (nI st) ∧ o.2.2.2.1 = upd costs (cellN (2 ^ K) x y) (bCost K L U T (nI st)) ∧ setP (2 ^ K) (p16 x y) (bLev K L U T (nI st)) levels o.2.2.2.2.1 ∧ o.2.2.2.2.2.1 = upd modes (cellN (2 ^ K) x y) (nI (bMode K L U T))) := by
  subst e1 e2 e3
  unfold lf_X4_fitBlock
  refine Ok.bind _ (ok_X6_look (n := 2 ^ K) rfl rfl rfl hn hx hy) ?_
  rintro ⟨a1, s1, ab1, lf1⟩ ⟨h1, h2, h3, h4⟩
  dsimp only at h1 h2 h3 h4 ⊢
  have ha : a1 = bMean K L U := h1.trans (mnS_congr hL hU)
  have h3 : ∀ i, i < 2 ^ K → ab1 i = U i := fun i hi => (h3 i hi).trans (hU i hi)
  have h4 : ∀ i, i < 2 ^ K → lf1 i = L i := fun i hi => (h4 i hi).trans (hL i hi)
  subst ha h2
  have hT2 : ∀ r c, r < 2 ^ K → c < 2 ^ K → tg (16 * (y + r) + x + c) = T r c := hT
  refine Ok.bindE _ (ok_X6_bestMode (T := T) (L := L) (U := U) rfl rfl rfl (by omega) hx hy h4 h3 hT2) ?_
  have hb : nI (bmS (dsS (2 ^ K) (bMean K L U) L U T) 3) = nI (bMode K L U T) := rfl
  rw [hb]
  have hm := bMode_lt (K := K) (L := L) (U := U) (T := T)
  refine Ok.bind (fun g => setP (2 ^ K) (pS 8) (bDif K L U T) pl g) (Ok.fix (fun i z => z.1 = nI i ∧ dblP (2 ^ K) (pS 8) (bDif K L U T) i 0 pl z.2) (2 ^ K) (by omega) ⟨rfl, dbl_0⟩ ?_) ?_
  · rintro i ⟨x3, g4⟩ self hi ⟨h5, h6⟩ KK
    dsimp only at h5 h6 ⊢
    subst h5
    by_cases hc : i < 2 ^ K
    · refine Ok.neg (by simp (disch := omega) only [lI0, lI1, lI2, lI3, lI4, lI5, lI7, lI8, lI9, lI10, lI11, lI12, lI15, lI16, lI17, lI20, lI24, lI32, lI33, lI40, lI63, lI64, lI80, lI82, lI101, lI110, lI115, lI251, lI255, lI256, lI384, lI16384, lI20000, lI32768, lI49152, lI65535, nI_add, pk_mul, pk_sub, pk_div, nI_leI, nI_ltI, nI_eq] <;> omega) (Ok.bind (fun g => dblP (2 ^ K) (pS 8) (bDif K L U T) i (2 ^ K) pl g) (Ok.fix (fun k z => z.1 = nI k ∧ dblP (2 ^ K) (pS 8) (bDif K L U T) i k pl z.2) (2 ^ K) (by omega) ⟨rfl, h6⟩ ?_) (fun o ho => Ok.bnd (KK _ hc ⟨(by first | (simp (disch := omega) only [lI0, lI1, lI2, lI3, lI4, lI5, lI7, lI8, lI9, lI10, lI11, lI12, lI15, lI16, lI17, lI20, lI24, lI32, lI33, lI40, lI63, lI64, lI80, lI82, lI101, lI110, lI115, lI251, lI255, lI256, lI384, lI16384, lI20000, lI32768, lI49152, lI65535, nI_add, pk_mul, pk_sub, pk_div] <;> (apply congrArg nI; omega)) | rfl), dbl_row ho⟩)))
      rintro k ⟨x7, g8⟩ self2 hk ⟨h5, h6⟩ K2
      dsimp only at h5 h6 ⊢
      subst h5
      by_cases hc2 : k < 2 ^ K
      · refine Ok.neg (by simp (disch := omega) only [lI0, lI1, lI2, lI3, lI4, lI5, lI7, lI8, lI9, lI10, lI11, lI12, lI15, lI16, lI17, lI20, lI24, lI32, lI33, lI40, lI63, lI64, lI80, lI82, lI101, lI110, lI115, lI251, lI255, lI256, lI384, lI16384, lI20000, lI32768, lI49152, lI65535, nI_add, pk_mul, pk_sub, pk_div, nI_leI, nI_ltI, nI_eq] <;> omega) (Ok.rd (p16 x y i k) (by unfold p16; (first | (simp (disch := omega) only [lI0, lI1, lI2, lI3, lI4, lI5, lI7, lI8, lI9, lI10, lI11, lI12, lI15, lI16, lI17, lI20, lI24, lI32, lI33, lI40, lI63, lI64, lI80, lI82, lI101, lI110, lI115, lI251, lI255, lI256, lI384, lI16384, lI20000, lI32768, lI49152, lI65535, nI_add, pk_mul, pk_sub, pk_div] <;> (apply congrArg nI; omega)) | rfl)) (by unfold p16; omega) (by decide) ?_)
        refine Ok.bindE _ (eq_X6_of hm (by omega) (by omega) (h4 i hc) (h3 k hc2)) ?_
        refine Ok.wr (pS 8 i k) (by unfold pS; (first | (simp (disch := omega) only [lI0, lI1, lI2, lI3, lI4, lI5, lI7, lI8, lI9, lI10, lI11, lI12, lI15, lI16, lI17, lI20, lI24, lI32, lI33, lI40, lI63, lI64, lI80, lI82, lI101, lI110, lI115, lI251, lI255, lI256, lI384, lI16384, lI20000, lI32768, lI49152, lI65535, nI_add, pk_mul, pk_sub, pk_div] <;> (apply congrArg nI; omega)) | rfl)) (by unfold pS; omega) (by decide) (Ok.bnd (K2 _ hc2 ⟨(by first | (simp (disch := omega) only [lI0, lI1, lI2, lI3, lI4, lI5, lI7, lI8, lI9, lI10, lI11, lI12, lI15, lI16, lI17, lI20, lI24, lI32, lI33, lI40, lI63, lI64, lI80, lI82, lI101, lI110, lI115, lI251, lI255, lI256, lI384, lI16384, lI20000, lI32768, lI49152, lI65535, nI_add, pk_mul, pk_sub, pk_div] <;> (apply congrArg nI; omega)) | rfl), ?_⟩))
        dsimp only
        rw [hT i k hc hc2]
        exact dbl_step (w := bDif K L U T) (pS_inj (by omega)) hc hc2 h6
      · have hk2 : k = 2 ^ K := by omega
        subst hk2
        exact Ok.pos (by simp (disch := omega) only [lI0, lI1, lI2, lI3, lI4, lI5, lI7, lI8, lI9, lI10, lI11, lI12, lI15, lI16, lI17, lI20, lI24, lI32, lI33, lI40, lI63, lI64, lI80, lI82, lI101, lI110, lI115, lI251, lI255, lI256, lI384, lI16384, lI20000, lI32768, lI49152, lI65535, nI_add, pk_mul, pk_sub, pk_div, nI_leI, nI_ltI, nI_eq] <;> omega) (Ok.some h6)
    · have hi2 : i = 2 ^ K := by omega
      subst hi2
      exact Ok.pos (by simp (disch := omega) only [lI0, lI1, lI2, lI3, lI4, lI5, lI7, lI8, lI9, lI10, lI11, lI12, lI15, lI16, lI17, lI20, lI24, lI32, lI33, lI40, lI63, lI64, lI80, lI82, lI101, lI110, lI115, lI251, lI255, lI256, lI384, lI16384, lI20000, lI32768, lI49152, lI65535, nI_add, pk_mul, pk_sub, pk_div, nI_leI, nI_ltI, nI_eq] <;> omega) (Ok.some (dbl_end h6))
  intro o5 h5
  refine Ok.bind _ (ok_X7_split (K := K) (M := bDif K L U T) rfl hK (setP_agr h5)) ?_
  rintro ⟨ln, o16⟩ h16
  dsimp only at h16 ⊢
  rw [jmax_st hs0 hs1]
  refine Ok.bnd ?_
  refine Ok.bind (fun o => o.1 = bCost K L U T (nI st) ∧ setP (2 ^ K) (p16 x y) (bLev K L U T (nI st)) levels o.2) (Ok.fix (fun i z => z.2.1 = nI i ∧ z.1 = 4 + sumD (2 ^ K) (bDig K L U T (nI st)) i 0 ∧ dblP (2 ^ K) (p16 x y) (bLev K L U T (nI st)) i 0 levels z.2.2) (2 ^ K) (by omega) ⟨rfl, rfl, dbl_0⟩ ?_) ?_
  · rintro i ⟨x17, x18, g19⟩ self hi ⟨h6, h7, h8⟩ KK
    dsimp only at h6 h7 h8 ⊢
    subst h6 h7
    by_cases hc : i < 2 ^ K
    · refine Ok.neg (by simp (disch := omega) only [lI0, lI1, lI2, lI3, lI4, lI5, lI7, lI8, lI9, lI10, lI11, lI12, lI15, lI16, lI17, lI20, lI24, lI32, lI33, lI40, lI63, lI64, lI80, lI82, lI101, lI110, lI115, lI251, lI255, lI256, lI384, lI16384, lI20000, lI32768, lI49152, lI65535, nI_add, pk_mul, pk_sub, pk_div, nI_leI, nI_ltI, nI_eq] <;> omega) (Ok.bind (fun o => o.1 = 4 + sumD (2 ^ K) (bDig K L U T (nI st)) i (2 ^ K) ∧ dblP (2 ^ K) (p16 x y) (bLev K L U T (nI st)) i (2 ^ K) levels o.2) (Ok.fix (fun k z => z.2.1 = nI k ∧ z.1 = 4 + sumD (2 ^ K) (bDig K L U T (nI st)) i k ∧ dblP (2 ^ K) (p16 x y) (bLev K L U T (nI st)) i k levels z.2.2) (2 ^ K) (by omega) ⟨rfl, rfl, h8⟩ ?_) (fun o ho => Ok.bnd (KK _ hc ⟨(by first | (simp (disch := omega) only [lI0, lI1, lI2, lI3, lI4, lI5, lI7, lI8, lI9, lI10, lI11, lI12, lI15, lI16, lI17, lI20, lI24, lI32, lI33, lI40, lI63, lI64, lI80, lI82, lI101, lI110, lI115, lI251, lI255, lI256, lI384, lI16384, lI20000, lI32768, lI49152, lI65535, nI_add, pk_mul, pk_sub, pk_div] <;> (apply congrArg nI; omega)) | rfl), by rw [ho.1, sumD_row], dbl_row ho.2⟩)))
      rintro k ⟨x22, x23, g24⟩ self2 hk ⟨h6, h7, h8⟩ K2
      dsimp only at h6 h7 h8 ⊢
      subst h6 h7
      by_cases hc2 : k < 2 ^ K
      · refine Ok.neg (by simp (disch := omega) only [lI0, lI1, lI2, lI3, lI4, lI5, lI7, lI8, lI9, lI10, lI11, lI12, lI15, lI16, lI17, lI20, lI24, lI32, lI33, lI40, lI63, lI64, lI80, lI82, lI101, lI110, lI115, lI251, lI255, lI256, lI384, lI16384, lI20000, lI32768, lI49152, lI65535, nI_add, pk_mul, pk_sub, pk_div, nI_leI, nI_ltI, nI_eq] <;> omega) (Ok.rd (pS 8 i k) (by unfold pS; (first | (simp (disch := omega) only [lI0, lI1, lI2, lI3, lI4, lI5, lI7, lI8, lI9, lI10, lI11, lI12, lI15, lI16, lI17, lI20, lI24, lI32, lI33, lI40, lI63, lI64, lI80, lI82, lI101, lI110, lI115, lI251, lI255, lI256, lI384, lI16384, lI20000, lI32768, lI49152, lI65535, nI_add, pk_mul, pk_sub, pk_div] <;> (apply congrArg nI; omega)) | rfl)) (by unfold pS; omega) (by decide) ?_)
        refine Ok.bindE _ (dv_nI hs0 (by omega)) ?_
        have hlv : o16 (pS 8 i k) / nI st = bLev K L U T (nI st) i k := by
          rw [show o16 (pS 8 i k) = _ from h16 i k hc hc2]
          rfl
        rw [hlv]
        refine Ok.wr (p16 x y i k) (by unfold p16; (first | (simp (disch := omega) only [lI0, lI1, lI2, lI3, lI4, lI5, lI7, lI8, lI9, lI10, lI11, lI12, lI15, lI16, lI17, lI20, lI24, lI32, lI33, lI40, lI63, lI64, lI80, lI82, lI101, lI110, lI115, lI251, lI255, lI256, lI384, lI16384, lI20000, lI32768, lI49152, lI65535, nI_add, pk_mul, pk_sub, pk_div] <;> (apply congrArg nI; omega)) | rfl)) (by unfold p16; omega) (by decide) ?_
        refine Ok.jnR (fun s => s = mag (bLev K L U T (nI st) i k)) (fun kk hkk => ?_) (fun s hs => ?_)
        · unfold mag at hkk
          by_cases h0 : 0 ≤ bLev K L U T (nI st) i k
          · exact Ok.pos h0 (hkk _ (by rw [if_pos h0]))
          · exact Ok.neg h0 (hkk _ (by rw [if_neg h0]))
        · subst hs
          refine Ok.bindE _ (eq_X8_digitsOf _) (Ok.bnd (Ok.bnd (K2 _ hc2 ⟨(by first | (simp (disch := omega) only [lI0, lI1, lI2, lI3, lI4, lI5, lI7, lI8, lI9, lI10, lI11, lI12, lI15, lI16, lI17, lI20, lI24, lI32, lI33, lI40, lI63, lI64, lI80, lI82, lI101, lI110, lI115, lI251, lI255, lI256, lI384, lI16384, lI20000, lI32768, lI49152, lI65535, nI_add, pk_mul, pk_sub, pk_div] <;> (apply congrArg nI; omega)) | rfl), ?_, dbl_step (p16_inj hx) hc hc2 h8⟩)))
          dsimp only
          rw [← sumD_step, ← Int32.add_assoc]
          rfl
      · have hk2 : k = 2 ^ K := by omega
        subst hk2
        exact Ok.pos (by simp (disch := omega) only [lI0, lI1, lI2, lI3, lI4, lI5, lI7, lI8, lI9, lI10, lI11, lI12, lI15, lI16, lI17, lI20, lI24, lI32, lI33, lI40, lI63, lI64, lI80, lI82, lI101, lI110, lI115, lI251, lI255, lI256, lI384, lI16384, lI20000, lI32768, lI49152, lI65535, nI_add, pk_mul, pk_sub, pk_div, nI_leI, nI_ltI, nI_eq] <;> omega) (Ok.some ⟨rfl, h8⟩)
    · have hi2 : i = 2 ^ K := by omega
      subst hi2
      exact Ok.pos (by simp (disch := omega) only [lI0, lI1, lI2, lI3, lI4, lI5, lI7, lI8, lI9, lI10, lI11, lI12, lI15, lI16, lI17, lI20, lI24, lI32, lI33, lI40, lI63, lI64, lI80, lI82, lI101, lI110, lI115, lI251, lI255, lI256, lI384, lI16384, lI20000, lI32768, lI49152, lI65535, nI_add, pk_mul, pk_sub, pk_div, nI_leI, nI_ltI, nI_eq] <;> omega) (Ok.some ⟨by rw [sumD_end]; rfl, dbl_end h8⟩)
  rintro ⟨cst, lv⟩ ⟨h6, h7⟩
  dsimp only at h6 h7 ⊢
  subst h6
  have hcl := cellN_lt (n := 2 ^ K) (x := x) (y := y) (by omega) (by omega)
  refine Ok.bindE _ (eq_X4_firstCell rfl rfl (by omega) (by omega)) ?_
  rw [hsz]
  refine Ok.wr _ rfl hcl (by decide) ?_
  refine Ok.bindE _ (eq_X4_firstCell rfl rfl (by omega) (by omega)) ?_
  rw [hsz]
  exact Ok.wr _ rfl hcl (by decide) (Ok.some ⟨rfl, rfl, h7, rfl⟩)
set_option maxHeartbeats 1000000 in
theorem ok_X4_restoreBlock {av sz : Int32} {levels modes ab lf res sizes line pl L U : Nat → Int32} {lev : Nat → Nat → Int32} {step p0 p1 p2 : Int32} {x y K m : Nat} (e0 : p0 = nI x) (e1 : p1 = nI y) (e2 : p2 = nI (2 ^ K)) (hK : K ≤ 3) (hn : 2 ^ K = 4 ∨ 2 ^ K = 8) (hx : x + 2 ^ K ≤ 16) (hy : y + 2 ^ K ≤ 24) (hsz : szN sizes x y = 2 ^ K)
    (hm : m < 4) (hmo : modes (cellN (2 ^ K) x y) = nI m)
    (hL : ∀ i, i < 2 ^ K → nbL res x y i = L i) (hU : ∀ i, i < 2 ^ K → nbU res x y i = U i) (hlev : ∀ r c, r < 2 ^ K → c < 2 ^ K → levels (p16 x y r c) = lev r c) :
    Ok (lf_X4_restoreBlock av sz step levels modes ab lf res sizes line pl p0 p1 p2) (fun o => setP (2 ^ K) (p16 x y) (bRes K L U step m lev) res o.2.2.2.2.1) := by
  subst e0 e1 e2
  unfold lf_X4_restoreBlock
  have hcl := cellN_lt (n := 2 ^ K) (x := x) (y := y) (by omega) (by omega)
  refine Ok.bindE _ (eq_X4_firstCell rfl rfl (by omega) (by omega)) ?_
  rw [hsz]
  refine Ok.rd _ rfl hcl (by decide) ?_
  rw [hmo]
  refine Ok.bind _ (ok_X6_look (n := 2 ^ K) rfl rfl rfl hn hx hy) ?_
  rintro ⟨a1, s1, ab1, lf1⟩ ⟨h1, h2, h3, h4⟩
  dsimp only at h1 h2 h3 h4 ⊢
  have ha : a1 = bMean K L U := h1.trans (mnS_congr hL hU)
  have h3 : ∀ i, i < 2 ^ K → ab1 i = U i := fun i hi => (h3 i hi).trans (hU i hi)
  have h4 : ∀ i, i < 2 ^ K → lf1 i = L i := fun i hi => (h4 i hi).trans (hL i hi)
  subst ha h2
  refine Ok.bind (fun g => setP (2 ^ K) (pS 8) (fun r c => lev r c * step) pl g) (Ok.fix (fun i z => z.1 = nI i ∧ dblP (2 ^ K) (pS 8) (fun r c => lev r c * step) i 0 pl z.2) (2 ^ K) (by omega) ⟨rfl, dbl_0⟩ ?_) ?_
  · rintro i ⟨x3, g4⟩ self hi ⟨h5, h6⟩ KK
    dsimp only at h5 h6 ⊢
    subst h5
    by_cases hc : i < 2 ^ K
    · refine Ok.neg (by simp (disch := omega) only [lI0, lI1, lI2, lI3, lI4, lI5, lI7, lI8, lI9, lI10, lI11, lI12, lI15, lI16, lI17, lI20, lI24, lI32, lI33, lI40, lI63, lI64, lI80, lI82, lI101, lI110, lI115, lI251, lI255, lI256, lI384, lI16384, lI20000, lI32768, lI49152, lI65535, nI_add, pk_mul, pk_sub, pk_div, nI_leI, nI_ltI, nI_eq] <;> omega) (Ok.bind (fun g => dblP (2 ^ K) (pS 8) (fun r c => lev r c * step) i (2 ^ K) pl g) (Ok.fix (fun k z => z.1 = nI k ∧ dblP (2 ^ K) (pS 8) (fun r c => lev r c * step) i k pl z.2) (2 ^ K) (by omega) ⟨rfl, h6⟩ ?_) (fun o ho => Ok.bnd (KK _ hc ⟨(by first | (simp (disch := omega) only [lI0, lI1, lI2, lI3, lI4, lI5, lI7, lI8, lI9, lI10, lI11, lI12, lI15, lI16, lI17, lI20, lI24, lI32, lI33, lI40, lI63, lI64, lI80, lI82, lI101, lI110, lI115, lI251, lI255, lI256, lI384, lI16384, lI20000, lI32768, lI49152, lI65535, nI_add, pk_mul, pk_sub, pk_div] <;> (apply congrArg nI; omega)) | rfl), dbl_row ho⟩)))
      rintro k ⟨x7, g8⟩ self2 hk ⟨h5, h6⟩ K2
      dsimp only at h5 h6 ⊢
      subst h5
      by_cases hc2 : k < 2 ^ K
      · refine Ok.neg (by simp (disch := omega) only [lI0, lI1, lI2, lI3, lI4, lI5, lI7, lI8, lI9, lI10, lI11, lI12, lI15, lI16, lI17, lI20, lI24, lI32, lI33, lI40, lI63, lI64, lI80, lI82, lI101, lI110, lI115, lI251, lI255, lI256, lI384, lI16384, lI20000, lI32768, lI49152, lI65535, nI_add, pk_mul, pk_sub, pk_div, nI_leI, nI_ltI, nI_eq] <;> omega) (Ok.rd (p16 x y i k) (by unfold p16; (first | (simp (disch := omega) only [lI0, lI1, lI2, lI3, lI4, lI5, lI7, lI8, lI9, lI10, lI11, lI12, lI15, lI16, lI17, lI20, lI24, lI32, lI33, lI40, lI63, lI64, lI80, lI82, lI101, lI110, lI115, lI251, lI255, lI256, lI384, lI16384, lI20000, lI32768, lI49152, lI65535, nI_add, pk_mul, pk_sub, pk_div] <;> (apply congrArg nI; omega)) | rfl)) (by unfold p16; omega) (by decide) ?_)
        rw [hlev i k hc hc2]
        exact Ok.wr (pS 8 i k) (by unfold pS; (first | (simp (disch := omega) only [lI0, lI1, lI2, lI3, lI4, lI5, lI7, lI8, lI9, lI10, lI11, lI12, lI15, lI16, lI17, lI20, lI24, lI32, lI33, lI40, lI63, lI64, lI80, lI82, lI101, lI110, lI115, lI251, lI255, lI256, lI384, lI16384, lI20000, lI32768, lI49152, lI65535, nI_add, pk_mul, pk_sub, pk_div] <;> (apply congrArg nI; omega)) | rfl)) (by unfold pS; omega) (by decide) (Ok.bnd (K2 _ hc2 ⟨(by first | (simp (disch := omega) only [lI0, lI1, lI2, lI3, lI4, lI5, lI7, lI8, lI9, lI10, lI11, lI12, lI15, lI16, lI17, lI20, lI24, lI32, lI33, lI40, lI63, lI64, lI80, lI82, lI101, lI110, lI115, lI251, lI255, lI256, lI384, lI16384, lI20000, lI32768, lI49152, lI65535, nI_add, pk_mul, pk_sub, pk_div] <;> (apply congrArg nI; omega)) | rfl), dbl_step (w := fun r c => lev r c * step) (pS_inj (by omega)) hc hc2 h6⟩))
      · have hk2 : k = 2 ^ K := by omega
        subst hk2
        exact Ok.pos (by simp (disch := omega) only [lI0, lI1, lI2, lI3, lI4, lI5, lI7, lI8, lI9, lI10, lI11, lI12, lI15, lI16, lI17, lI20, lI24, lI32, lI33, lI40, lI63, lI64, lI80, lI82, lI101, lI110, lI115, lI251, lI255, lI256, lI384, lI16384, lI20000, lI32768, lI49152, lI65535, nI_add, pk_mul, pk_sub, pk_div, nI_leI, nI_ltI, nI_eq] <;> omega) (Ok.some h6)
    · have hi2 : i = 2 ^ K := by omega
      subst hi2
      exact Ok.pos (by simp (disch := omega) only [lI0, lI1, lI2, lI3, lI4, lI5, lI7, lI8, lI9, lI10, lI11, lI12, lI15, lI16, lI17, lI20, lI24, lI32, lI33, lI40, lI63, lI64, lI80, lI82, lI101, lI110, lI115, lI251, lI255, lI256, lI384, lI16384, lI20000, lI32768, lI49152, lI65535, nI_add, pk_mul, pk_sub, pk_div, nI_leI, nI_ltI, nI_eq] <;> omega) (Ok.some (dbl_end h6))
  intro o5 h5
  refine Ok.bind _ (ok_X7_join (K := K) (M := fun r c => lev r c * step) rfl hK (setP_agr h5)) ?_
  rintro ⟨ln, o16⟩ h16
  dsimp only at h16 ⊢
  refine Ok.bind (fun g => setP (2 ^ K) (p16 x y) (bRes K L U step m lev) res g) (Ok.fix (fun i z => z.1 = nI i ∧ dblP (2 ^ K) (p16 x y) (bRes K L U step m lev) i 0 res z.2) (2 ^ K) (by omega) ⟨rfl, dbl_0⟩ ?_) (fun o ho => Ok.some ho)
  rintro i ⟨x3, g4⟩ self hi ⟨h6, h7⟩ KK
  dsimp only at h6 h7 ⊢
  subst h6
  by_cases hc : i < 2 ^ K
  · refine Ok.neg (by simp (disch := omega) only [lI0, lI1, lI2, lI3, lI4, lI5, lI7, lI8, lI9, lI10, lI11, lI12, lI15, lI16, lI17, lI20, lI24, lI32, lI33, lI40, lI63, lI64, lI80, lI82, lI101, lI110, lI115, lI251, lI255, lI256, lI384, lI16384, lI20000, lI32768, lI49152, lI65535, nI_add, pk_mul, pk_sub, pk_div, nI_leI, nI_ltI, nI_eq] <;> omega) (Ok.bind (fun g => dblP (2 ^ K) (p16 x y) (bRes K L U step m lev) i (2 ^ K) res g) (Ok.fix (fun k z => z.1 = nI k ∧ dblP (2 ^ K) (p16 x y) (bRes K L U step m lev) i k res z.2) (2 ^ K) (by omega) ⟨rfl, h7⟩ ?_) (fun o ho => Ok.bnd (KK _ hc ⟨(by first | (simp (disch := omega) only [lI0, lI1, lI2, lI3, lI4, lI5, lI7, lI8, lI9, lI10, lI11, lI12, lI15, lI16, lI17, lI20, lI24, lI32, lI33, lI40, lI63, lI64, lI80, lI82, lI101, lI110, lI115, lI251, lI255, lI256, lI384, lI16384, lI20000, lI32768, lI49152, lI65535, nI_add, pk_mul, pk_sub, pk_div] <;> (apply congrArg nI; omega)) | rfl), dbl_row ho⟩)))
    rintro k ⟨x7, g8⟩ self2 hk ⟨h6, h7⟩ K2
    dsimp only at h6 h7 ⊢
    subst h6
    by_cases hc2 : k < 2 ^ K
    · refine Ok.neg (by simp (disch := omega) only [lI0, lI1, lI2, lI3, lI4, lI5, lI7, lI8, lI9, lI10, lI11, lI12, lI15, lI16, lI17, lI20, lI24, lI32, lI33, lI40, lI63, lI64, lI80, lI82, lI101, lI110, lI115, lI251, lI255, lI256, lI384, lI16384, lI20000, lI32768, lI49152, lI65535, nI_add, pk_mul, pk_sub, pk_div, nI_leI, nI_ltI, nI_eq] <;> omega) (Ok.rd (pS 8 i k) (by unfold pS; (first | (simp (disch := omega) only [lI0, lI1, lI2, lI3, lI4, lI5, lI7, lI8, lI9, lI10, lI11, lI12, lI15, lI16, lI17, lI20, lI24, lI32, lI33, lI40, lI63, lI64, lI80, lI82, lI101, lI110, lI115, lI251, lI255, lI256, lI384, lI16384, lI20000, lI32768, lI49152, lI65535, nI_add, pk_mul, pk_sub, pk_div] <;> (apply congrArg nI; omega)) | rfl)) (by unfold pS; omega) (by decide) ?_)
      refine Ok.bindE _ (eq_X6_of hm (by omega) (by omega) (h4 i hc) (h3 k hc2)) ?_
      rw [show o16 (pS 8 i k) = _ from h16 i k hc hc2]
      exact Ok.wr (p16 x y i k) (by unfold p16; (first | (simp (disch := omega) only [lI0, lI1, lI2, lI3, lI4, lI5, lI7, lI8, lI9, lI10, lI11, lI12, lI15, lI16, lI17, lI20, lI24, lI32, lI33, lI40, lI63, lI64, lI80, lI82, lI101, lI110, lI115, lI251, lI255, lI256, lI384, lI16384, lI20000, lI32768, lI49152, lI65535, nI_add, pk_mul, pk_sub, pk_div] <;> (apply congrArg nI; omega)) | rfl)) (by unfold p16; omega) (by decide) (Ok.bnd (K2 _ hc2 ⟨(by first | (simp (disch := omega) only [lI0, lI1, lI2, lI3, lI4, lI5, lI7, lI8, lI9, lI10, lI11, lI12, lI15, lI16, lI17, lI20, lI24, lI32, lI33, lI40, lI63, lI64, lI80, lI82, lI101, lI110, lI115, lI251, lI255, lI256, lI384, lI16384, lI20000, lI32768, lI49152, lI65535, nI_add, pk_mul, pk_sub, pk_div] <;> (apply congrArg nI; omega)) | rfl), dbl_step (w := bRes K L U step m lev) (p16_inj hx) hc hc2 h7⟩))
    · have hk2 : k = 2 ^ K := by omega
      subst hk2
      exact Ok.pos (by simp (disch := omega) only [lI0, lI1, lI2, lI3, lI4, lI5, lI7, lI8, lI9, lI10, lI11, lI12, lI15, lI16, lI17, lI20, lI24, lI32, lI33, lI40, lI63, lI64, lI80, lI82, lI101, lI110, lI115, lI251, lI255, lI256, lI384, lI16384, lI20000, lI32768, lI49152, lI65535, nI_add, pk_mul, pk_sub, pk_div, nI_leI, nI_ltI, nI_eq] <;> omega) (Ok.some h7)
  · have hi2 : i = 2 ^ K := by omega
    subst hi2
    exact Ok.pos (by simp (disch := omega) only [lI0, lI1, lI2, lI3, lI4, lI5, lI7, lI8, lI9, lI10, lI11, lI12, lI15, lI16, lI17, lI20, lI24, lI32, lI33, lI40, lI63, lI64, lI80, lI82, lI101, lI110, lI115, lI251, lI255, lI256, lI384, lI16384, lI20000, lI32768, lI49152, lI65535, nI_add, pk_mul, pk_sub, pk_div, nI_leI, nI_ltI, nI_eq] <;> omega) (Ok.some (dbl_end h7))
