/-! ===== a block of a part, for any coder ===== -/
abbrev gI : Type := Nat → Int32
def gBlk {K KL K2 : Type} (C Lv : K → Int32 → Int32 → Option (Int32 × K)) (pk : K → gI → KL) (uk : KL → K) (ul : KL → gI) (pk2 : K → gI → gI → K2) (k : K) (lv mo sz : gI) (p2 p3 p4 : Int32) : Option K2 :=
(lf_X4_firstCell sz p2 p3).bind fun o1 => (rdA 24 mo o1).bind fun x2 => (C k (x2 / (2 : Int32)) (1 : Int32)).bind fun o3 => (rdA 24 mo o1).bind fun x4 => (C o3.2 (x4 - x4 / (2 : Int32) * (2 : Int32)) ((2 : Int32) + o3.1)).bind fun o5 => (wrA 24 mo o1 ((o3.1 * (2 : Int32)) + o5.1)).bind fun g6 => (fixN FUEL (fun (self16 : (Int32 × KL) → Option KL) (z16 : Int32 × KL) => (if p4 ≤ z16.1 then some z16.2 else (fixN FUEL (fun (self27 : (Int32 × KL) → Option KL) (z27 : Int32 × KL) => (if p4 ≤ z27.1 then some z27.2 else bnd ((((p3 + z16.1) * (16 : Int32)) + p2) + z27.1) fun x29 => (lf_X8_levelContext 384 (ul z27.2) x29 z16.1 z27.1).bind fun o30 => (rdA 384 (ul z27.2) x29).bind fun x31 => (Lv (uk z27.2) x31 o30).bind fun o32 => (wrA 384 (ul z27.2) x29 o32.1).bind fun g33 => bnd (z27.1 + (1 : Int32)) fun x34 => self27 (x34, pk o32.2 g33))) ((0 : Int32), z16.2)).bind fun o27 => bnd (z16.1 + (1 : Int32)) fun x35 => self16 (x35, o27))) ((0 : Int32), pk o5.2 lv)).bind fun o16 => some (pk2 (uk o16) (ul o16) g6)
abbrev tW : Type := Int32 × Int32 × Int32 × Int32 × gI × gI × gI
abbrev tW1 : Type := Int32 × Int32 × Int32 × Int32 × gI × gI × gI × gI
abbrev tW2 : Type := Int32 × Int32 × Int32 × Int32 × gI × gI × gI × gI × gI
abbrev tR : Type := Int32 × Int32 × Int32 × Int32 × gI × gI
abbrev tR1 : Type := Int32 × Int32 × Int32 × Int32 × gI × gI × gI
abbrev tR2 : Type := Int32 × Int32 × Int32 × Int32 × gI × gI × gI × gI
def pkW (k : tW) (g : gI) : tW1 := (k.1, k.2.1, k.2.2.1, k.2.2.2.1, k.2.2.2.2.1, k.2.2.2.2.2.1, k.2.2.2.2.2.2, g)
def ukW (z : tW1) : tW := (z.1, z.2.1, z.2.2.1, z.2.2.2.1, z.2.2.2.2.1, z.2.2.2.2.2.1, z.2.2.2.2.2.2.1)
def ulW (z : tW1) : gI := z.2.2.2.2.2.2.2
def pk2W (k : tW) (g m : gI) : tW2 := (k.1, k.2.1, k.2.2.1, k.2.2.2.1, k.2.2.2.2.1, k.2.2.2.2.2.1, k.2.2.2.2.2.2, g, m)
def pkR (k : tR) (g : gI) : tR1 := (k.1, k.2.1, k.2.2.1, k.2.2.2.1, k.2.2.2.2.1, k.2.2.2.2.2, g)
def ukR (z : tR1) : tR := (z.1, z.2.1, z.2.2.1, z.2.2.2.1, z.2.2.2.2.1, z.2.2.2.2.2.1)
def ulR (z : tR1) : gI := z.2.2.2.2.2.2
def pk2R (k : tR) (g m : gI) : tR2 := (k.1, k.2.1, k.2.2.1, k.2.2.2.1, k.2.2.2.2.1, k.2.2.2.2.2, g, m)
def lW (k : tW) (x y : Int32) : Option (Int32 × tW) := lf_X8_codeLevel_X2 k.1 k.2.1 k.2.2.1 k.2.2.2.1 k.2.2.2.2.1 k.2.2.2.2.2.1 k.2.2.2.2.2.2 x y
def lR (en : Int32) (n : Nat) (cy : gI) (k : tR) (x y : Int32) : Option (Int32 × tR) := lf_X8_codeLevel_X1 k.1 en k.2.1 k.2.2.1 k.2.2.2.1 n cy k.2.2.2.2.1 k.2.2.2.2.2 x y
theorem blk_X2 {a b c d : Int32} {e f g lv mo sz : gI} {p2 p3 p4 : Int32} : lf_X8_codeBlock_X2 a b c d e f g lv mo sz p2 p3 p4 = gBlk kW lW pkW ukW ulW pk2W (a, b, c, d, e, f, g) lv mo sz p2 p3 p4 := rfl
theorem blk_X1 {a b c d en : Int32} {n : Nat} {cy f g lv mo sz : gI} {p2 p3 p4 : Int32} : lf_X8_codeBlock_X1 a en b c d n cy f g lv mo sz p2 p3 p4 = gBlk (kR en n cy) (lR en n cy) pkR ukR ulR pk2R (a, b, c, d, f, g) lv mo sz p2 p3 p4 := rfl
theorem ctxS_congr {A B : Nat → Nat → Int32} {r c : Nat} (h1 : 0 < c → A r (c - 1) = B r (c - 1)) (h2 : 0 < r → A (r - 1) c = B (r - 1) c) : ctxS A r c = ctxS B r c := by
  unfold ctxS
  by_cases h0 : r = 0 ∧ c = 0
  · rw [if_pos h0, if_pos h0]
  · rw [if_neg h0, if_neg h0]
    have e1 : (if 0 < c ∧ A r (c - 1) ≠ 0 then 1 else 0) = if 0 < c ∧ B r (c - 1) ≠ 0 then 1 else 0 := by
      by_cases h3 : 0 < c
      · rw [h1 h3]
      · rw [if_neg (fun h => h3 h.1), if_neg (fun h => h3 h.1)]
    have e2 : (if 0 < r ∧ A (r - 1) c ≠ 0 then 1 else 0) = if 0 < r ∧ B (r - 1) c ≠ 0 then 1 else 0 := by
      by_cases h3 : 0 < r
      · rw [h2 h3]
      · rw [if_neg (fun h => h3 h.1), if_neg (fun h => h3 h.1)]
    rw [e1, e2]
/-- what a level's coding owes -/
def hLev {σ K : Type} (cd : Nat → Nat → σ → σ × Nat) (Lv : K → Int32 → Int32 → Option (Int32 × K)) (Rl : Nat → σ → K → Prop) (rdr : Prop) (cl Lim : Nat) : Prop :=
  ∀ B s k x cx, Rl B s k → B + cl + 60 < Lim → cx < 20 → (rdr ∨ -2047 ≤ x.toInt ∧ x.toInt ≤ 2047) → Ok (Lv k x (nI cx)) (fun o => o.1 = (pLev cd x cx s).2 ∧ Rl (B + cl) (pLev cd x cx s).1 o.2)
/-- the levels written so far: the first j of the block -/
def lvSo (n x y j : Nat) (A : Nat → Nat → Int32) (f g : gI) : Prop := (∀ r c, r < n → c < n → n * r + c < j → g (p16 x y r c) = A r c) ∧ (∀ q, (∀ r c, r < n → c < n → n * r + c < j → q ≠ p16 x y r c) → g q = f q)
theorem rc_dm {n r c : Nat} (hc : c < n) : (n * r + c) / n = r ∧ (n * r + c) % n = c := by
  constructor
  · rw [Nat.mul_add_div (by omega), Nat.div_eq_of_lt hc, Nat.add_zero]
  · rw [Nat.mul_add_mod, Nat.mod_eq_of_lt hc]
theorem rc_lt2 {n r c i k : Nat} (hc : c < n) (hk : k < n) (h : n * r + c = n * i + k) : r = i ∧ c = k := by
  have h1 := rc_dm (r := r) hc
  have h2 := rc_dm (r := i) hk
  rw [h] at h1
  exact ⟨h1.1.symm.trans h2.1, h1.2.symm.trans h2.2⟩
theorem lvSo_step {n x y i k : Nat} {A : Nat → Nat → Int32} {f g : gI} {w : Int32} (hx : x + n ≤ 16) (hi : i < n) (hk : k < n) (h : lvSo n x y (n * i + k) A f g) : lvSo n x y (n * i + k + 1) (fun r c => if r = i ∧ c = k then w else A r c) f (upd g (p16 x y i k) w) := by
  constructor
  · intro r c hr hc hj
    by_cases h1 : r = i ∧ c = k
    · rw [if_pos h1, h1.1, h1.2, upd_eq]
    · rw [if_neg h1, upd_ne (fun e => h1 (p16_inj hx r c i k hr hc hi hk e))]
      refine h.1 r c hr hc ?_
      rcases Nat.lt_or_ge (n * r + c) (n * i + k) with h2 | h2
      · exact h2
      · exact absurd (rc_lt2 hc hk (by omega)) h1
  · intro q hq
    rw [upd_ne (hq i k hi hk (by omega))]
    exact h.2 q fun r c hr hc hj => hq r c hr hc (by omega)
set_option maxHeartbeats 4000000 in
theorem ok_gBlk {σ K KL K2 : Type} {cd : Nat → Nat → σ → σ × Nat} {C Lv : K → Int32 → Int32 → Option (Int32 × K)} {Rl : Nat → σ → K → Prop} {rdr : Prop} {c1 c2 cl Lim B : Nat} {pk : K → gI → KL} {uk : KL → K} {ul : KL → gI} {pk2 : K → gI → gI → K2} {s : σ} {k : K} {g0 mo sz : gI} {p2 p3 p4 : Int32} {x y n m : Nat} {lv : Nat → Nat → Int32}
    (hc : hCode cd C Rl rdr c1 c2 Lim) (hl : hLev cd Lv Rl rdr cl Lim) (hu : ∀ k g, uk (pk k g) = k) (hv : ∀ k g, ul (pk k g) = g) (e2 : p2 = nI x) (e3 : p3 = nI y) (e4 : p4 = nI n) (hn : n = 4 ∨ n = 8) (hx : x + n ≤ 16) (hy : y + n ≤ 24) (hsz : szN sz x y = n) (h : Rl B s k) (hB : B + 2 * c1 + cl * (n * n) + 120 < Lim)
    (hin : rdr ∨ (mo (cellN n x y) = nI m ∧ m < 4) ∧ ∀ r c, r < n → c < n → g0 (p16 x y r c) = lv r c ∧ -2047 ≤ (lv r c).toInt ∧ (lv r c).toInt ≤ 2047) :
    Ok (gBlk C Lv pk uk ul pk2 k g0 mo sz p2 p3 p4) (fun o => ∃ k' g', o = pk2 k' g' (upd mo (cellN n x y) (nI (pBlk cd n m lv s).2.1)) ∧ (pBlk cd n m lv s).2.1 < 4 ∧ Rl (B + 2 * c1 + cl * (n * n)) (pBlk cd n m lv s).1 k' ∧ setP n (p16 x y) (pBlk cd n m lv s).2.2 g0 g') := by
  subst e2 e3 e4
  obtain ⟨hcd, hmono, hirr⟩ := hc
  have hnn : n ≤ 8 := by omega
  have hn0 : 0 < n := by omega
  have hcl := cellN_lt (n := n) (x := x) (y := y) (by omega) (by omega)
  unfold gBlk pBlk
  refine Ok.bindE _ (eq_X4_firstCell rfl rfl (by omega) (by omega)) ?_
  rw [hsz]
  refine Ok.rd _ rfl hcl (by decide) ?_
  have hb1 : rdr ∨ mo (cellN n x y) / (2 : Int32) = nI (m / 2) ∧ m / 2 < 2 := hin.elim Or.inl fun hin => Or.inr ⟨by rw [hin.1.1]; (first | (simp (disch := omega) only [lI0, lI1, lI2, lI3, lI4, lI5, lI7, lI8, lI9, lI10, lI11, lI12, lI15, lI16, lI17, lI20, lI24, lI32, lI33, lI40, lI63, lI64, lI80, lI82, lI101, lI110, lI115, lI251, lI255, lI256, lI384, lI16384, lI20000, lI32768, lI49152, lI65535, nI_add, pk_mul, pk_sub, pk_div] <;> (apply congrArg nI; omega)) | rfl), by have := hin.1.2; omega⟩
  have hb2 : rdr ∨ mo (cellN n x y) - mo (cellN n x y) / (2 : Int32) * (2 : Int32) = nI (m % 2) ∧ m % 2 < 2 := hin.elim Or.inl fun hin => Or.inr ⟨by rw [hin.1.1]; have := hin.1.2; (first | (simp (disch := omega) only [lI0, lI1, lI2, lI3, lI4, lI5, lI7, lI8, lI9, lI10, lI11, lI12, lI15, lI16, lI17, lI20, lI24, lI32, lI33, lI40, lI63, lI64, lI80, lI82, lI101, lI110, lI115, lI251, lI255, lI256, lI384, lI16384, lI20000, lI32768, lI49152, lI65535, nI_add, pk_mul, pk_sub, pk_div] <;> (apply congrArg nI; omega)) | rfl), by omega⟩
  refine Ok.bind _ (hcd B s k (m / 2) 1 _ 1 h (by omega) (Or.inl ⟨by decide, rfl⟩) hb1) ?_
  rintro ⟨o1, k1⟩ ⟨e1, b1, r1⟩
  dsimp only at e1 r1 ⊢
  subst e1
  rw [if_pos (by decide)] at r1
  generalize hf1 : cd (m / 2) 1 s = f1 at b1 r1 ⊢
  obtain ⟨s1, hi⟩ := f1
  dsimp only at b1 r1 ⊢
  rw [sB_eq hf1]
  refine Ok.rd _ rfl hcl (by decide) ?_
  refine Ok.bind _ (hcd _ s1 k1 (m % 2) (2 + hi) _ _ r1 (by omega) (Or.inl ⟨by omega, nI_add 2 hi⟩) hb2) ?_
  rintro ⟨o2, k2⟩ ⟨e2, b2, r2⟩
  dsimp only at e2 r2 ⊢
  subst e2
  rw [if_pos (by omega)] at r2
  generalize hf2 : cd (m % 2) (2 + hi) s1 = f2 at b2 r2 ⊢
  obtain ⟨s2, lo⟩ := f2
  dsimp only at b2 r2 ⊢
  rw [sB_eq hf2]
  refine Ok.wr _ rfl hcl (by decide) ?_
  rw [show nI hi * (2 : Int32) + nI lo = nI (2 * hi + lo) from by
    rw [show (2 : Int32) = nI 2 from rfl, pk_mul, nI_add, Nat.mul_comm hi 2]]
  have hblk : ∀ s', sB (pLvs cd n lv (n * n)) (fun A => sP (2 * hi + lo, A)) s' = ((pLvs cd n lv (n * n) s').1, 2 * hi + lo, (pLvs cd n lv (n * n) s').2) := fun _ => rfl
  rw [hblk]
  dsimp only
  refine Ok.bind (fun o => Rl (B + 2 * c1 + cl * (n * n)) (pLvs cd n lv (n * n) s2).1 (uk o) ∧ lvSo n x y (n * n) (pLvs cd n lv (n * n) s2).2 g0 (ul o)) (Ok.fix (fun i z => z.1 = nI i ∧ Rl (B + 2 * c1 + cl * (n * i)) (pLvs cd n lv (n * i) s2).1 (uk z.2) ∧ lvSo n x y (n * i) (pLvs cd n lv (n * i) s2).2 g0 (ul z.2)) n (by omega) ⟨rfl, ?_, ?_⟩ ?_) ?_
  · dsimp only
    rw [hu, Nat.mul_zero]
    exact hmono _ _ _ _ r2 (by omega)
  · dsimp only
    rw [hv, Nat.mul_zero]
    exact ⟨fun r c _ _ hj => absurd hj (by omega), fun q _ => rfl⟩
  · rintro i ⟨x7, z8⟩ self hi2 ⟨h1, h2, h3⟩ KK
    dsimp only at h1 h2 h3 ⊢
    subst h1
    by_cases hcn : i < n
    · have hni : n * i + n ≤ n * n := by
        rw [← Nat.mul_succ]
        exact Nat.mul_le_mul_left _ hcn
      refine Ok.neg (by simp (disch := omega) only [lI0, lI1, lI2, lI3, lI4, lI5, lI7, lI8, lI9, lI10, lI11, lI12, lI15, lI16, lI17, lI20, lI24, lI32, lI33, lI40, lI63, lI64, lI80, lI82, lI101, lI110, lI115, lI251, lI255, lI256, lI384, lI16384, lI20000, lI32768, lI49152, lI65535, nI_add, pk_mul, pk_sub, pk_div, nI_leI, nI_ltI, nI_eq] <;> omega) (Ok.bind (fun o => Rl (B + 2 * c1 + cl * (n * (i + 1))) (pLvs cd n lv (n * (i + 1)) s2).1 (uk o) ∧ lvSo n x y (n * (i + 1)) (pLvs cd n lv (n * (i + 1)) s2).2 g0 (ul o)) (Ok.fix (fun j z => z.1 = nI j ∧ Rl (B + 2 * c1 + cl * (n * i + j)) (pLvs cd n lv (n * i + j) s2).1 (uk z.2) ∧ lvSo n x y (n * i + j) (pLvs cd n lv (n * i + j) s2).2 g0 (ul z.2)) n (by omega) ⟨rfl, h2, h3⟩ ?_) (fun o ho => Ok.bnd (KK _ hcn ⟨(by first | (simp (disch := omega) only [lI0, lI1, lI2, lI3, lI4, lI5, lI7, lI8, lI9, lI10, lI11, lI12, lI15, lI16, lI17, lI20, lI24, lI32, lI33, lI40, lI63, lI64, lI80, lI82, lI101, lI110, lI115, lI251, lI255, lI256, lI384, lI16384, lI20000, lI32768, lI49152, lI65535, nI_add, pk_mul, pk_sub, pk_div] <;> (apply congrArg nI; omega)) | rfl), ho.1, ho.2⟩)))
      rintro j ⟨x18, z19⟩ self2 hj ⟨h4, h5, h6⟩ K2
      dsimp only at h4 h5 h6 ⊢
      subst h4
      by_cases hc2 : j < n
      · refine Ok.neg (by simp (disch := omega) only [lI0, lI1, lI2, lI3, lI4, lI5, lI7, lI8, lI9, lI10, lI11, lI12, lI15, lI16, lI17, lI20, lI24, lI32, lI33, lI40, lI63, lI64, lI80, lI82, lI101, lI110, lI115, lI251, lI255, lI256, lI384, lI16384, lI20000, lI32768, lI49152, lI65535, nI_add, pk_mul, pk_sub, pk_div, nI_leI, nI_ltI, nI_eq] <;> omega) (Ok.bnd ?_)
        have hp : p16 x y i j = 16 * (y + i) + (x + j) := by
          unfold p16
          omega
        rw [show (nI y + nI i) * (16 : Int32) + nI x + nI j = nI (16 * (y + i) + (x + j)) from (by first | (simp (disch := omega) only [lI0, lI1, lI2, lI3, lI4, lI5, lI7, lI8, lI9, lI10, lI11, lI12, lI15, lI16, lI17, lI20, lI24, lI32, lI33, lI40, lI63, lI64, lI80, lI82, lI101, lI110, lI115, lI251, lI255, lI256, lI384, lI16384, lI20000, lI32768, lI49152, lI65535, nI_add, pk_mul, pk_sub, pk_div] <;> (apply congrArg nI; omega)) | rfl)]
        obtain ⟨d1, d2⟩ := rc_dm (n := n) (r := i) hc2
        have hpl : pLvs cd n lv (n * i + (j + 1)) s2 = ((pLev cd (lv i j) (ctxS (pLvs cd n lv (n * i + j) s2).2 i j) (pLvs cd n lv (n * i + j) s2).1).1, fun r c => if r = i ∧ c = j then (pLev cd (lv i j) (ctxS (pLvs cd n lv (n * i + j) s2).2 i j) (pLvs cd n lv (n * i + j) s2).1).2 else (pLvs cd n lv (n * i + j) s2).2 r c) := by
          show pLvs cd n lv (n * i + j + 1) s2 = _
          conv => lhs; unfold pLvs sB sP
          dsimp only
          rw [d1, d2]
        generalize pLvs cd n lv (n * i + j) s2 = P at h5 h6 hpl
        obtain ⟨s', A⟩ := P
        dsimp only at h5 h6 hpl
        have hctx : ctxS (fun r c => ul z19 (16 * (y + r) + (x + c))) i j = ctxS A i j := by
          refine ctxS_congr (fun h0 => ?_) fun h0 => ?_
          · have := h6.1 i (j - 1) hcn (by omega) (by omega)
            unfold p16 at this
            rw [Nat.add_assoc] at this
            exact this
          · have hlt : n * (i - 1) + j < n * i + j := by
              have := Nat.mul_lt_mul_of_pos_left (show i - 1 < i by omega) hn0
              omega
            have := h6.1 (i - 1) j (by omega) hc2 hlt
            unfold p16 at this
            rw [Nat.add_assoc] at this
            exact this
        refine Ok.bindE _ (eq_levelContext (lv := fun r c => ul z19 (16 * (y + r) + (x + c))) hx hy hcn hc2 (fun r c _ _ => rfl)) ?_
        rw [hctx]
        refine Ok.rd _ rfl (by omega) (by decide) ?_
        have hold : ul z19 (16 * (y + i) + (x + j)) = g0 (p16 x y i j) := by
          rw [← hp]
          refine h6.2 _ fun r c hr hc hj2 e => ?_
          obtain ⟨e1, e2⟩ := p16_inj hx i j r c hcn hc2 hr hc e
          subst e1 e2
          omega
        have hlx : rdr ∨ -2047 ≤ (ul z19 (16 * (y + i) + (x + j))).toInt ∧ (ul z19 (16 * (y + i) + (x + j))).toInt ≤ 2047 := hin.elim Or.inl fun hin => Or.inr (by
          rw [hold, (hin.2 i j hcn hc2).1]
          exact (hin.2 i j hcn hc2).2)
        have hcln : cl * (n * i + j) + cl ≤ cl * (n * n) := by
          rw [← Nat.mul_succ]
          exact Nat.mul_le_mul_left _ (by omega)
        have hpe : pLev cd (ul z19 (16 * (y + i) + (x + j))) (ctxS A i j) = pLev cd (lv i j) (ctxS A i j) := hin.elim (fun hr => irr_lev (hirr hr) _ _ _) fun hin => by rw [hold, (hin.2 i j hcn hc2).1]
        have hlv := hl _ s' (uk z19) _ (ctxS A i j) h5 (by omega) ctxS_lt hlx
        rw [hpe] at hlv
        refine Ok.bind _ hlv ?_
        rintro ⟨o3, k3⟩ ⟨e3, r3⟩
        dsimp only at e3 r3 ⊢
        subst e3
        refine Ok.wr _ rfl (by omega) (by decide) (Ok.bnd (K2 _ hc2 ⟨(by first | (simp (disch := omega) only [lI0, lI1, lI2, lI3, lI4, lI5, lI7, lI8, lI9, lI10, lI11, lI12, lI15, lI16, lI17, lI20, lI24, lI32, lI33, lI40, lI63, lI64, lI80, lI82, lI101, lI110, lI115, lI251, lI255, lI256, lI384, lI16384, lI20000, lI32768, lI49152, lI65535, nI_add, pk_mul, pk_sub, pk_div] <;> (apply congrArg nI; omega)) | rfl), ?_, ?_⟩))
        · dsimp only
          rw [hpl, hu, ← Nat.add_assoc (n * i) j 1, Nat.mul_succ cl, ← Nat.add_assoc]
          exact r3
        · dsimp only
          rw [hpl, hv, ← hp, ← Nat.add_assoc (n * i) j 1]
          exact lvSo_step hx hcn hc2 h6
      · have hk2 : j = n := by omega
        subst hk2
        rw [Nat.mul_succ]
        exact Ok.pos (by simp (disch := omega) only [lI0, lI1, lI2, lI3, lI4, lI5, lI7, lI8, lI9, lI10, lI11, lI12, lI15, lI16, lI17, lI20, lI24, lI32, lI33, lI40, lI63, lI64, lI80, lI82, lI101, lI110, lI115, lI251, lI255, lI256, lI384, lI16384, lI20000, lI32768, lI49152, lI65535, nI_add, pk_mul, pk_sub, pk_div, nI_leI, nI_ltI, nI_eq] <;> omega) (Ok.some ⟨h5, h6⟩)
    · have hk2 : i = n := by omega
      subst hk2
      exact Ok.pos (by simp (disch := omega) only [lI0, lI1, lI2, lI3, lI4, lI5, lI7, lI8, lI9, lI10, lI11, lI12, lI15, lI16, lI17, lI20, lI24, lI32, lI33, lI40, lI63, lI64, lI80, lI82, lI101, lI110, lI115, lI251, lI255, lI256, lI384, lI16384, lI20000, lI32768, lI49152, lI65535, nI_add, pk_mul, pk_sub, pk_div, nI_leI, nI_ltI, nI_eq] <;> omega) (Ok.some ⟨h2, h3⟩)
  · rintro o ⟨h1, h2⟩
    refine Ok.some ⟨uk o, ul o, rfl, by omega, h1, ?_, ?_⟩
    · intro r c hr hc
      refine h2.1 r c hr hc ?_
      have h4 : n * (r + 1) ≤ n * n := Nat.mul_le_mul_left n hr
      rw [Nat.mul_succ] at h4
      omega
    · intro j hj
      exact h2.2 j fun r c hr hc _ => hj r c hr hc
