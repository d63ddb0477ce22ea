/-! ===== a part, for any coder ===== -/
/-- the blocks of a tile -/
def gBls {K2 : Type} (Bk : K2 → gI → Int32 → Int32 → Int32 → Option K2) (sz : gI) (x15 x1 n : Int32) (z0 : K2) : Option K2 :=
(fixN FUEL (fun (self35 : (Int32 × K2) → Option K2) (z35 : Int32 × K2) => (if (8 : Int32) ≤ z35.1 then some z35.2 else (fixN FUEL (fun (self47 : (Int32 × K2) → Option K2) (z47 : Int32 × K2) => (if (8 : Int32) ≤ z47.1 then some z47.2 else (Bk z47.2 sz (x15 + z47.1) (x1 + z35.1) n).bind fun o49 => bnd (z47.1 + n) fun x50 => self47 (x50, o49))) ((0 : Int32), z35.2)).bind fun o47 => bnd (z35.1 + n) fun x51 => self35 (x51, o47))) ((0 : Int32), z0))
def gPrt {K K2 K3 : Type} (C : K → Int32 → Int32 → Option (Int32 × K)) (Bk : K2 → gI → Int32 → Int32 → Int32 → Option K2) (pk2 : K → gI → gI → K2) (pk3 : K2 → gI → K3) (u3k : K3 → K) (u3l u3m u3s : K3 → gI) (z0 : K3) (p2 p3 : Int32) : Option K3 :=
bnd (p2 * (8 : Int32)) fun x1 => (fixN FUEL (fun (self13 : (Int32 × K3) → Option K3) (z13 : Int32 × K3) => (if p3 ≤ z13.1 then some z13.2 else bnd (z13.1 * (8 : Int32)) fun x15 => (lf_X4_sizeAt (u3s z13.2) x15 x1).bind fun o16 => jn (fun (z19 : Int32) => (C (u3k z13.2) z19 (0 : Int32)).bind fun o20 => jn (fun (z23 : Int32) => (lf_X4_setSizeAt (u3s z13.2) x15 x1 z23).bind fun o24 => (gBls Bk o24 x15 x1 z23 (pk2 o20.2 (u3l z13.2) (u3m z13.2))).bind fun o35 => bnd (z13.1 + (1 : Int32)) fun x52 => self13 (x52, pk3 o35 o24)) (fun k23 => (if o20.1 = (1 : Int32) then k23 (4 : Int32) else k23 (8 : Int32)))) (fun k19 => (if o16 = (4 : Int32) then k19 (1 : Int32) else k19 (0 : Int32))))) ((0 : Int32), z0)).bind fun o13 => some o13
abbrev tW3 : Type := Int32 × Int32 × Int32 × Int32 × gI × gI × gI × gI × gI × gI
abbrev tR3 : Type := Int32 × Int32 × Int32 × Int32 × gI × gI × gI × gI × gI
def bW (z : tW2) (sz : gI) (p2 p3 p4 : Int32) : Option tW2 := lf_X8_codeBlock_X2 z.1 z.2.1 z.2.2.1 z.2.2.2.1 z.2.2.2.2.1 z.2.2.2.2.2.1 z.2.2.2.2.2.2.1 z.2.2.2.2.2.2.2.1 z.2.2.2.2.2.2.2.2 sz p2 p3 p4
def bR (en : Int32) (n : Nat) (cy : gI) (z : tR2) (sz : gI) (p2 p3 p4 : Int32) : Option tR2 := lf_X8_codeBlock_X1 z.1 en z.2.1 z.2.2.1 z.2.2.2.1 n cy z.2.2.2.2.1 z.2.2.2.2.2.1 z.2.2.2.2.2.2.1 z.2.2.2.2.2.2.2 sz p2 p3 p4
def pk3W (z : tW2) (g : gI) : tW3 := (z.1, z.2.1, z.2.2.1, z.2.2.2.1, z.2.2.2.2.1, z.2.2.2.2.2.1, z.2.2.2.2.2.2.1, z.2.2.2.2.2.2.2.1, z.2.2.2.2.2.2.2.2, g)
def u3kW (z : tW3) : tW := (z.1, z.2.1, z.2.2.1, z.2.2.2.1, z.2.2.2.2.1, z.2.2.2.2.2.1, z.2.2.2.2.2.2.1)
def u3lW (z : tW3) : gI := z.2.2.2.2.2.2.2.1
def u3mW (z : tW3) : gI := z.2.2.2.2.2.2.2.2.1
def u3sW (z : tW3) : gI := z.2.2.2.2.2.2.2.2.2
def pk3R (z : tR2) (g : gI) : tR3 := (z.1, z.2.1, z.2.2.1, z.2.2.2.1, z.2.2.2.2.1, z.2.2.2.2.2.1, z.2.2.2.2.2.2.1, z.2.2.2.2.2.2.2, g)
def u3kR (z : tR3) : tR := (z.1, z.2.1, z.2.2.1, z.2.2.2.1, z.2.2.2.2.1, z.2.2.2.2.2.1)
def u3lR (z : tR3) : gI := z.2.2.2.2.2.2.1
def u3mR (z : tR3) : gI := z.2.2.2.2.2.2.2.1
def u3sR (z : tR3) : gI := z.2.2.2.2.2.2.2.2
theorem prt_X2 {a b c d : Int32} {e f g lv mo sz : gI} {p2 p3 : Int32} : lf_X8_codePart_X2 a b c d e f g lv mo sz p2 p3 = gPrt kW bW pk2W pk3W u3kW u3lW u3mW u3sW (a, b, c, d, e, f, g, lv, mo, sz) p2 p3 := rfl
theorem prt_X1 {a b c d en : Int32} {n : Nat} {cy f g lv mo sz : gI} {p2 p3 : Int32} : lf_X8_codePart_X1 a en b c d n cy f g lv mo sz p2 p3 = gPrt (kR en n cy) (bR en n cy) pk2R pk3R u3kR u3lR u3mR u3sR (a, b, c, d, f, g, lv, mo, sz) p2 p3 := rfl
/-- what a block's coding owes -/
def hBlk {σ K K2 : Type} (cd : Nat → Nat → σ → σ × Nat) (Bk : K2 → gI → Int32 → Int32 → Int32 → Option K2) (pk2 : K → gI → gI → K2) (Rl : Nat → σ → K → Prop) (rdr : Prop) (cb : Nat → Nat) (Lim : Nat) : Prop :=
  ∀ B s k g0 mo sz x y n m lv, (n = 4 ∨ n = 8) → x + n ≤ 16 → y + n ≤ 24 → szN sz x y = n → Rl B s k → B + cb n + 120 < Lim → (rdr ∨ (mo (cellN n x y) = nI m ∧ m < 4) ∧ ∀ r c, r < n → c < n → g0 (p16 x y r c) = lv r c ∧ -2047 ≤ (lv r c).toInt ∧ (lv r c).toInt ≤ 2047) →
    Ok (Bk (pk2 k g0 mo) sz (nI x) (nI y) (nI n)) (fun o => ∃ k' g', o = pk2 k' g' (upd mo (cellN n x y) (nI (pBlk cd n m lv s).2.1)) ∧ (pBlk cd n m lv s).2.1 < 4 ∧ Rl (B + cb n) (pBlk cd n m lv s).1 k' ∧ setP n (p16 x y) (pBlk cd n m lv s).2.2 g0 g')
/-- the first j blocks of a tile have been written into the rows -/
def blSo (K b x y j : Nat) (A : (Nat → Nat) × (Nat → Nat → Nat → Int32)) (L0 M0 L M : gI) : Prop :=
  (∀ q, q < j → A.1 q < 4 ∧ M (cellN (2 ^ K) (bX K b x q) (bY K b y q)) = nI (A.1 q) ∧ ∀ r c, r < 2 ^ K → c < 2 ^ K → L (p16 (bX K b x q) (bY K b y q) r c) = A.2 q r c) ∧
  (∀ p, (∀ q r c, q < j → r < 2 ^ K → c < 2 ^ K → p ≠ p16 (bX K b x q) (bY K b y q) r c) → L p = L0 p) ∧
  ∀ p, (∀ q, q < j → p ≠ cellN (2 ^ K) (bX K b x q) (bY K b y q)) → M p = M0 p
theorem bl_dis {K b x y q q' r c r' c' : Nat} (hKb : K = 2 ∧ b = 2 ∨ K = 3 ∧ b = 1) (hx : x + 8 ≤ 16) (hq : q < b * b) (hq' : q' < b * b) (hr : r < 2 ^ K) (hc : c < 2 ^ K) (hr' : r' < 2 ^ K) (hc' : c' < 2 ^ K) (h : p16 (bX K b x q) (bY K b y q) r c = p16 (bX K b x q') (bY K b y q') r' c') : q = q' := by
  rcases hKb with ⟨rfl, rfl⟩ | ⟨rfl, rfl⟩
  · unfold p16 bX bY at h
    omega
  · omega
theorem bl_cel {K b x y q q' : Nat} (hKb : K = 2 ∧ b = 2 ∨ K = 3 ∧ b = 1) (hx : x + 8 ≤ 16) (hx8 : x % 8 = 0) (hy8 : y % 8 = 0) (hq : q < b * b) (hq' : q' < b * b) (h : cellN (2 ^ K) (bX K b x q) (bY K b y q) = cellN (2 ^ K) (bX K b x q') (bY K b y q')) : q = q' := by
  rcases hKb with ⟨rfl, rfl⟩ | ⟨rfl, rfl⟩
  · unfold cellN bX bY at h
    rw [if_pos (by decide), if_pos (by decide)] at h
    omega
  · omega
theorem blSo_step {K b x y j : Nat} {A : (Nat → Nat) × (Nat → Nat → Nat → Int32)} {L0 M0 L M L' : gI} {m : Nat} {w : Nat → Nat → Int32} (hKb : K = 2 ∧ b = 2 ∨ K = 3 ∧ b = 1) (hx : x + 8 ≤ 16) (hx8 : x % 8 = 0) (hy8 : y % 8 = 0) (hj : j < b * b) (h : blSo K b x y j A L0 M0 L M) (hm : m < 4) (hw : setP (2 ^ K) (p16 (bX K b x j) (bY K b y j)) w L L') : blSo K b x y (j + 1) (fun i => if i = j then m else A.1 i, fun i => if i = j then w else A.2 i) L0 M0 L' (upd M (cellN (2 ^ K) (bX K b x j) (bY K b y j)) (nI m)) := by
  obtain ⟨h1, h2, h3⟩ := h
  refine ⟨fun q hq => ?_, fun p hp => ?_, fun p hp => ?_⟩
  · dsimp only
    by_cases hqj : q = j
    · subst hqj
      rw [if_pos rfl, if_pos rfl, upd_eq]
      exact ⟨hm, rfl, fun r c hr hc => hw.1 r c hr hc⟩
    · rw [if_neg hqj, if_neg hqj, upd_ne (fun e => hqj (bl_cel hKb hx hx8 hy8 (by omega) hj e))]
      obtain ⟨a1, a2, a3⟩ := h1 q (by omega)
      refine ⟨a1, a2, fun r c hr hc => ?_⟩
      rw [hw.2 _ fun r' c' hr' hc' e => hqj (bl_dis hKb hx (by omega) hj hr hc hr' hc' e)]
      exact a3 r c hr hc
  · rw [hw.2 p fun r c hr hc => hp j r c (by omega) hr hc]
    exact h2 p fun q r c hq hr hc => hp q r c (by omega) hr hc
  · rw [upd_ne (hp j (by omega))]
    exact h3 p fun q hq => hp q (by omega)
set_option maxHeartbeats 4000000 in
theorem ok_gBls {σ K0 K2 : Type} {cd : Nat → Nat → σ → σ × Nat} {Bk : K2 → gI → Int32 → Int32 → Int32 → Option K2} {pk2 : K0 → gI → gI → K2} {Rl : Nat → σ → K0 → Prop} {rdr : Prop} {cb : Nat → Nat} {Lim B : Nat} {s : σ} {k : K0} {L0 M0 sz : gI} {x15 x1 n : Int32} {x y K b : Nat} {md : Nat → Nat} {lv : Nat → Nat → Nat → Int32}
    (hbk : hBlk cd Bk pk2 Rl rdr cb Lim) (e1 : x15 = nI x) (e2 : x1 = nI y) (e3 : n = nI (2 ^ K)) (hKb : K = 2 ∧ b = 2 ∨ K = 3 ∧ b = 1) (hx : x + 8 ≤ 16) (hy : y + 8 ≤ 24) (hx8 : x % 8 = 0) (hy8 : y % 8 = 0) (hsz : ∀ r c, r < 8 → c < 8 → szN sz (x + c) (y + r) = 2 ^ K) (h : Rl B s k) (hB : B + cb (2 ^ K) * (b * b) + 120 < Lim)
    (hin : rdr ∨ ∀ q, q < b * b → (M0 (cellN (2 ^ K) (bX K b x q) (bY K b y q)) = nI (md q) ∧ md q < 4) ∧ ∀ r c, r < 2 ^ K → c < 2 ^ K → L0 (p16 (bX K b x q) (bY K b y q) r c) = lv q r c ∧ -2047 ≤ (lv q r c).toInt ∧ (lv q r c).toInt ≤ 2047) :
    Ok (gBls Bk sz x15 x1 n (pk2 k L0 M0)) (fun o => ∃ k' L' M', o = pk2 k' L' M' ∧ Rl (B + cb (2 ^ K) * (b * b)) (pBls cd (2 ^ K) md lv (b * b) s).1 k' ∧ blSo K b x y (b * b) (pBls cd (2 ^ K) md lv (b * b) s).2 L0 M0 L' M') := by
  subst e1 e2 e3
  have hn : 2 ^ K = 4 ∨ 2 ^ K = 8 := by
    rcases hKb with ⟨rfl, -⟩ | ⟨rfl, -⟩
    · exact Or.inl rfl
    · exact Or.inr rfl
  have hb8 : 2 ^ K * b = 8 := by
    rcases hKb with ⟨rfl, rfl⟩ | ⟨rfl, rfl⟩ <;> rfl
  have hb3 : b ≤ 2 := by omega
  unfold gBls
  refine Ok.fix (fun i z => z.1 = nI (2 ^ K * i) ∧ ∃ k' L' M', z.2 = pk2 k' L' M' ∧ Rl (B + cb (2 ^ K) * (b * i)) (pBls cd (2 ^ K) md lv (b * i) s).1 k' ∧ blSo K b x y (b * i) (pBls cd (2 ^ K) md lv (b * i) s).2 L0 M0 L' M') b (by omega) ⟨rfl, k, L0, M0, rfl, h, fun q hq => absurd hq (by omega), fun p _ => rfl, fun p _ => rfl⟩ ?_
  rintro i ⟨x35, z35⟩ self hi ⟨h1, k1, L1, M1, h2, h3, h4⟩ KK
  dsimp only at h1 h2 ⊢
  subst h1 h2
  by_cases hc : i < b
  · have hi2 : 2 ^ K * (i + 1) ≤ 8 := by
      rw [← hb8]
      exact Nat.mul_le_mul_left _ hc
    rw [Nat.mul_succ] at hi2
    refine Ok.neg (by simp (disch := omega) only [lI0, lI1, lI2, lI3, lI4, lI5, lI7, lI8, lI9, lI10, lI11, lI12, lI15, lI16, lI17, lI20, lI24, lI32, lI33, lI40, lI63, lI64, lI80, lI82, lI101, lI110, lI115, lI251, lI255, lI256, lI384, lI16384, lI20000, lI32768, lI49152, lI65535, nI_add, pk_mul, pk_sub, pk_div, nI_leI, nI_ltI, nI_eq] <;> omega) (Ok.bind (fun o => ∃ k' L' M', o = pk2 k' L' M' ∧ Rl (B + cb (2 ^ K) * (b * (i + 1))) (pBls cd (2 ^ K) md lv (b * (i + 1)) s).1 k' ∧ blSo K b x y (b * (i + 1)) (pBls cd (2 ^ K) md lv (b * (i + 1)) s).2 L0 M0 L' M') (Ok.fix (fun j z => z.1 = nI (2 ^ K * j) ∧ ∃ k' L' M', z.2 = pk2 k' L' M' ∧ Rl (B + cb (2 ^ K) * (b * i + j)) (pBls cd (2 ^ K) md lv (b * i + j) s).1 k' ∧ blSo K b x y (b * i + j) (pBls cd (2 ^ K) md lv (b * i + j) s).2 L0 M0 L' M') b (by omega) ⟨rfl, k1, L1, M1, rfl, h3, h4⟩ ?_) (fun o ho => Ok.bnd (KK _ hc ⟨by dsimp only; rw [nI_add, Nat.mul_succ], ho⟩)))
    rintro j ⟨x47, z47⟩ self2 hj ⟨h5, k2, L2, M2, h6, h7, h8⟩ K2
    dsimp only at h5 h6 ⊢
    subst h5 h6
    by_cases hc2 : j < b
    · have hj2 : 2 ^ K * (j + 1) ≤ 8 := by
        rw [← hb8]
        exact Nat.mul_le_mul_left _ hc2
      rw [Nat.mul_succ] at hj2
      have hqx : bX K b x (b * i + j) = x + 2 ^ K * j := by
        unfold bX
        rw [Nat.mul_add_mod, Nat.mod_eq_of_lt hc2]
      have hqy : bY K b y (b * i + j) = y + 2 ^ K * i := by
        unfold bY
        rw [Nat.mul_add_div (by omega), Nat.div_eq_of_lt hc2, Nat.add_zero]
      have hq : b * i + j < b * b := by
        have h9 : b * (i + 1) ≤ b * b := Nat.mul_le_mul_left b hc
        rw [Nat.mul_succ] at h9
        omega
      have hcost : cb (2 ^ K) * (b * i + j) + cb (2 ^ K) ≤ cb (2 ^ K) * (b * b) := by
        rw [← Nat.mul_succ]
        exact Nat.mul_le_mul_left _ (by omega)
      refine Ok.neg (by simp (disch := omega) only [lI0, lI1, lI2, lI3, lI4, lI5, lI7, lI8, lI9, lI10, lI11, lI12, lI15, lI16, lI17, lI20, lI24, lI32, lI33, lI40, lI63, lI64, lI80, lI82, lI101, lI110, lI115, lI251, lI255, lI256, lI384, lI16384, lI20000, lI32768, lI49152, lI65535, nI_add, pk_mul, pk_sub, pk_div, nI_leI, nI_ltI, nI_eq] <;> omega) ?_
      rw [nI_add, nI_add]
      have hpb : pBls cd (2 ^ K) md lv (b * i + (j + 1)) s = ((pBlk cd (2 ^ K) (md (b * i + j)) (lv (b * i + j)) (pBls cd (2 ^ K) md lv (b * i + j) s).1).1, (fun l => if l = b * i + j then (pBlk cd (2 ^ K) (md (b * i + j)) (lv (b * i + j)) (pBls cd (2 ^ K) md lv (b * i + j) s).1).2.1 else (pBls cd (2 ^ K) md lv (b * i + j) s).2.1 l, fun l => if l = b * i + j then (pBlk cd (2 ^ K) (md (b * i + j)) (lv (b * i + j)) (pBls cd (2 ^ K) md lv (b * i + j) s).1).2.2 else (pBls cd (2 ^ K) md lv (b * i + j) s).2.2 l)) := rfl
      have hii : rdr ∨ (M2 (cellN (2 ^ K) (x + 2 ^ K * j) (y + 2 ^ K * i)) = nI (md (b * i + j)) ∧ md (b * i + j) < 4) ∧ ∀ r c, r < 2 ^ K → c < 2 ^ K → L2 (p16 (x + 2 ^ K * j) (y + 2 ^ K * i) r c) = lv (b * i + j) r c ∧ -2047 ≤ (lv (b * i + j) r c).toInt ∧ (lv (b * i + j) r c).toInt ≤ 2047 := by
        refine hin.elim Or.inl fun hin => Or.inr ?_
        obtain ⟨⟨g1, g2⟩, g3⟩ := hin _ hq
        rw [hqx, hqy] at g1 g3
        refine ⟨⟨?_, g2⟩, fun r c hr hc => ⟨?_, (g3 r c hr hc).2⟩⟩
        · rw [h8.2.2 _ fun q hq2 e => ?_]
          · exact g1
          · rw [← hqx, ← hqy] at e
            have := bl_cel hKb hx hx8 hy8 hq (by omega) e
            omega
        · rw [h8.2.1 _ fun q r' c' hq2 hr' hc' e => ?_]
          · exact (g3 r c hr hc).1
          · rw [← hqx, ← hqy] at e
            have := bl_dis hKb hx hq (by omega) hr hc hr' hc' e
            omega
      refine Ok.bind _ (hbk _ _ k2 L2 M2 sz (x + 2 ^ K * j) (y + 2 ^ K * i) (2 ^ K) (md (b * i + j)) (lv (b * i + j)) hn (by omega) (by omega) (hsz _ _ (by omega) (by omega)) h7 (by omega) hii) ?_
      rintro o ⟨k3, L3, rfl, hm, hr, hset⟩
      refine Ok.bnd (K2 _ hc2 ⟨by dsimp only; rw [nI_add, Nat.mul_succ], k3, L3, _, rfl, ?_, ?_⟩)
      · rw [hpb, ← Nat.add_assoc (b * i) j 1, Nat.mul_succ, ← Nat.add_assoc]
        exact hr
      · rw [hpb, ← Nat.add_assoc (b * i) j 1, ← hqx, ← hqy]
        rw [← hqx, ← hqy] at hset
        exact blSo_step hKb hx hx8 hy8 hq h8 hm hset
    · have hk2 : j = b := by omega
      subst hk2
      rw [Nat.mul_succ]
      exact Ok.pos (by simp (disch := omega) only [lI0, lI1, lI2, lI3, lI4, lI5, lI7, lI8, lI9, lI10, lI11, lI12, lI15, lI16, lI17, lI20, lI24, lI32, lI33, lI40, lI63, lI64, lI80, lI82, lI101, lI110, lI115, lI251, lI255, lI256, lI384, lI16384, lI20000, lI32768, lI49152, lI65535, nI_add, pk_mul, pk_sub, pk_div, nI_leI, nI_ltI, nI_eq] <;> omega) (Ok.some ⟨k2, L2, M2, rfl, h7, h8⟩)
  · have hk2 : i = b := by omega
    subst hk2
    exact Ok.pos (by simp (disch := omega) only [lI0, lI1, lI2, lI3, lI4, lI5, lI7, lI8, lI9, lI10, lI11, lI12, lI15, lI16, lI17, lI20, lI24, lI32, lI33, lI40, lI63, lI64, lI80, lI82, lI101, lI110, lI115, lI251, lI255, lI256, lI384, lI16384, lI20000, lI32768, lI49152, lI65535, nI_add, pk_mul, pk_sub, pk_div, nI_leI, nI_ltI, nI_eq] <;> omega) (Ok.some ⟨k1, L1, M1, rfl, h3, h4⟩)
theorem bl_in {K b x y q r c : Nat} (hKb : K = 2 ∧ b = 2 ∨ K = 3 ∧ b = 1) (hq : q < b * b) (hr : r < 2 ^ K) (hc : c < 2 ^ K) : x ≤ bX K b x q + c ∧ bX K b x q + c < x + 8 ∧ y ≤ bY K b y q + r ∧ bY K b y q + r < y + 8 := by
  rcases hKb with ⟨rfl, rfl⟩ | ⟨rfl, rfl⟩
  · unfold bX bY
    omega
  · unfold bX bY
    omega
theorem ce_in {K b x y q : Nat} (hKb : K = 2 ∧ b = 2 ∨ K = 3 ∧ b = 1) (hx : x + 8 ≤ 16) (hx8 : x % 8 = 0) (hy8 : y % 8 = 0) (hq : q < b * b) : cellN (2 ^ K) (bX K b x q) (bY K b y q) / 8 = y / 8 ∧ cellN (2 ^ K) (bX K b x q) (bY K b y q) % 4 / 2 = x / 8 := by
  rcases hKb with ⟨rfl, rfl⟩ | ⟨rfl, rfl⟩
  · unfold cellN bX bY
    rw [if_pos (by decide)]
    omega
  · have h0 : q = 0 := by omega
    subst h0
    unfold cellN bX bY
    rw [if_neg (by decide)]
    omega
/-- the rows behind a tile -/
theorem til_td {K b x y : Nat} {A : (Nat → Nat) × (Nat → Nat → Nat → Int32)} {L0 M0 L M S : gI} (hKb : K = 2 ∧ b = 2 ∨ K = 3 ∧ b = 1) (hx : x + 8 ≤ 16) (hx8 : x % 8 = 0) (hy8 : y % 8 = 0) (h : blSo K b x y (b * b) A L0 M0 L M) :
    tdP x y (K, A) L M (upd S (2 * (y / 8) + x / 8) (nI (2 ^ K))) ∧ (∀ px py, px < 16 → ¬ (y ≤ py ∧ py < y + 8 ∧ x ≤ px ∧ px < x + 8) → L (16 * py + px) = L0 (16 * py + px)) ∧ ∀ j, ¬ (j / 8 = y / 8 ∧ j % 4 / 2 = x / 8) → M j = M0 j := by
  obtain ⟨h1, h2, h3⟩ := h
  refine ⟨⟨b, hKb, szN_upd (by rcases hKb with ⟨rfl, -⟩ | ⟨rfl, -⟩; exact Or.inl rfl; exact Or.inr rfl) rfl, fun q hq => ?_⟩, fun px py hp hn => ?_, fun j hj => ?_⟩
  · obtain ⟨a1, a2, a3⟩ := h1 q hq
    refine ⟨a1, a2, fun r c hr hc => ?_⟩
    have := a3 r c hr hc
    unfold p16 at this
    rw [Nat.add_assoc] at this
    exact this
  · refine h2 _ fun q r c hq hr hc e => hn ?_
    have := bl_in (x := x) (y := y) hKb hq hr hc
    unfold p16 at e
    omega
  · refine h3 j fun q hq e => hj ?_
    rw [e]
    exact ce_in hKb hx hx8 hy8 hq
/-- the first T tiles of a slice have been written into the rows -/
def tlSo (y T : Nat) (D : Nat → TD) (L0 M0 S0 L M S : gI) : Prop :=
  (∀ t, t < T → tdP (8 * t) y (D t) L M S) ∧ (∀ px py, px < 16 → ¬ (y ≤ py ∧ py < y + 8 ∧ px < 8 * T) → L (16 * py + px) = L0 (16 * py + px)) ∧ (∀ j, ¬ (j / 8 = y / 8 ∧ j % 4 / 2 < T) → M j = M0 j) ∧ ∀ j, (∀ t, t < T → j ≠ 2 * (y / 8) + t) → S j = S0 j
theorem tlSo_step {K b y T : Nat} {A : (Nat → Nat) × (Nat → Nat → Nat → Int32)} {D : Nat → TD} {L0 M0 S0 L M S L' M' : gI} (hKb : K = 2 ∧ b = 2 ∨ K = 3 ∧ b = 1) (hT : 8 * T + 8 ≤ 16) (hy8 : y % 8 = 0) (h : tlSo y T D L0 M0 S0 L M S) (hb : blSo K b (8 * T) y (b * b) A L M L' M') : tlSo y (T + 1) (fun j => if j = T then (K, A) else D j) L0 M0 S0 L' M' (upd S (2 * (y / 8) + 8 * T / 8) (nI (2 ^ K))) := by
  obtain ⟨h1, h2, h3, h4⟩ := h
  obtain ⟨b1, b2, b3⟩ := til_td (S := S) hKb hT (by omega) hy8 hb
  refine ⟨fun t ht => ?_, fun px py hp hn => ?_, fun j hj => ?_, fun j hj => ?_⟩
  · dsimp only
    by_cases htT : t = T
    · subst htT
      rw [if_pos rfl]
      exact b1
    · rw [if_neg htT]
      exact tdP_keep (X := 8 * T) (Y := y) (by omega) (by omega) hy8 hT (by omega) hy8 (by omega) (h1 t (by omega)) b2 b3 fun j hj => upd_ne hj
  · rw [b2 px py hp (by omega)]
    exact h2 px py hp (by omega)
  · rw [b3 j (by omega)]
    exact h3 j (by omega)
  · rw [upd_ne (by have := hj T (by omega); omega)]
    exact h4 j fun t ht => hj t (by omega)
set_option maxHeartbeats 4000000 in
theorem ok_gPrt {σ K0 K2 K3 : Type} {cd : Nat → Nat → σ → σ × Nat} {C : K0 → Int32 → Int32 → Option (Int32 × K0)} {Bk : K2 → gI → Int32 → Int32 → Int32 → Option K2} {pk2 : K0 → gI → gI → K2} {pk3 : K2 → gI → K3} {u3k : K3 → K0} {u3l u3m u3s : K3 → gI} {Rl : Nat → σ → K0 → Prop} {rdr : Prop} {cb : Nat → Nat} {c1 c2 cm Lim B : Nat} {s : σ} {k : K0} {L0 M0 S0 : gI} {p2 p3 : Int32} {slice y T : Nat} {td : Nat → TD}
    (hc : hCode cd C Rl rdr c1 c2 Lim) (hbk : hBlk cd Bk pk2 Rl rdr cb Lim) (huk : ∀ k l m s, u3k (pk3 (pk2 k l m) s) = k) (hul : ∀ k l m s, u3l (pk3 (pk2 k l m) s) = l) (hum : ∀ k l m s, u3m (pk3 (pk2 k l m) s) = m) (hus : ∀ k l m s, u3s (pk3 (pk2 k l m) s) = s)
    (e2 : p2 = nI slice) (e3 : p3 = nI T) (ey : y = 8 * slice) (hT : T ≤ 2) (hsl : slice < 3) (h : Rl B s k) (h4 : cb 4 * 4 ≤ cm) (h8 : cb 8 ≤ cm) (hB : B + (c1 + cm) * T + 200 < Lim)
    (hwr : rdr ∨ ∀ b c s, (cd b c s).2 = bN b) (hin : rdr ∨ ∀ t, t < T → tdP (8 * t) y (td t) L0 M0 S0 ∧ tOk (td t)) :
    Ok (gPrt C Bk pk2 pk3 u3k u3l u3m u3s (pk3 (pk2 k L0 M0) S0) p2 p3) (fun o => ∃ k' L' M' S', o = pk3 (pk2 k' L' M') S' ∧ Rl (B + (c1 + cm) * T) (pPrt cd td T s).1 k' ∧ tlSo y T (pPrt cd td T s).2 L0 M0 S0 L' M' S') := by
  subst e2 e3
  obtain ⟨hcd, hmono, hirr⟩ := hc
  unfold gPrt
  refine Ok.bnd ?_
  rw [show nI slice * (8 : Int32) = nI y from by rw [ey]; (first | (simp (disch := omega) only [lI0, lI1, lI2, lI3, lI4, lI5, lI7, lI8, lI9, lI10, lI11, lI12, lI15, lI16, lI17, lI20, lI24, lI32, lI33, lI40, lI63, lI64, lI80, lI82, lI101, lI110, lI115, lI251, lI255, lI256, lI384, lI16384, lI20000, lI32768, lI49152, lI65535, nI_add, pk_mul, pk_sub, pk_div] <;> (apply congrArg nI; omega)) | rfl)]
  refine Ok.bind (fun o => ∃ k' L' M' S', o = pk3 (pk2 k' L' M') S' ∧ Rl (B + (c1 + cm) * T) (pPrt cd td T s).1 k' ∧ tlSo y T (pPrt cd td T s).2 L0 M0 S0 L' M' S') (Ok.fix (fun i z => z.1 = nI i ∧ ∃ k' L' M' S', z.2 = pk3 (pk2 k' L' M') S' ∧ Rl (B + (c1 + cm) * i) (pPrt cd td i s).1 k' ∧ tlSo y i (pPrt cd td i s).2 L0 M0 S0 L' M' S') T (by omega) ⟨rfl, k, L0, M0, S0, rfl, h, fun t ht => absurd ht (by omega), fun px py _ _ => rfl, fun j _ => rfl, fun j _ => rfl⟩ ?_) (fun o ho => Ok.some ho)
  rintro i ⟨x13, z13⟩ self hi ⟨h1, k1, L1, M1, S1, h2, h3, h5⟩ KK
  dsimp only at h1 h2 ⊢
  subst h1 h2
  by_cases hcT : i < T
  · refine Ok.neg (by simp (disch := omega) only [lI0, lI1, lI2, lI3, lI4, lI5, lI7, lI8, lI9, lI10, lI11, lI12, lI15, lI16, lI17, lI20, lI24, lI32, lI33, lI40, lI63, lI64, lI80, lI82, lI101, lI110, lI115, lI251, lI255, lI256, lI384, lI16384, lI20000, lI32768, lI49152, lI65535, nI_add, pk_mul, pk_sub, pk_div, nI_leI, nI_ltI, nI_eq] <;> omega) (Ok.bnd ?_)
    rw [show nI i * (8 : Int32) = nI (8 * i) from (by first | (simp (disch := omega) only [lI0, lI1, lI2, lI3, lI4, lI5, lI7, lI8, lI9, lI10, lI11, lI12, lI15, lI16, lI17, lI20, lI24, lI32, lI33, lI40, lI63, lI64, lI80, lI82, lI101, lI110, lI115, lI251, lI255, lI256, lI384, lI16384, lI20000, lI32768, lI49152, lI65535, nI_add, pk_mul, pk_sub, pk_div] <;> (apply congrArg nI; omega)) | rfl), hus, hul, hum, huk]
    refine Ok.bindE _ (eq_X4_sizeAt rfl rfl (by omega) (by omega)) ?_
    have hcm : (c1 + cm) * i + (c1 + cm) ≤ (c1 + cm) * T := by
      rw [← Nat.mul_succ]
      exact Nat.mul_le_mul_left _ hcT
    have hpp : pPrt cd td (i + 1) s = ((pTil cd (td i) (pPrt cd td i s).1).1, fun j => if j = i then (pTil cd (td i) (pPrt cd td i s).1).2 else (pPrt cd td i s).2 j) := rfl
    have hy8 : y % 8 = 0 := by omega
    -- the tile's data stand in the rows yet
    have hin2 : rdr ∨ tdP (8 * i) y (td i) L1 M1 S1 ∧ tOk (td i) := by
      refine hin.elim Or.inl fun hin => Or.inr ⟨?_, (hin i hcT).2⟩
      obtain ⟨⟨b, hb, hs, hq⟩, -⟩ := hin i hcT
      refine ⟨b, hb, ?_, fun q hqb => ?_⟩
      · unfold szN at hs ⊢
        rw [h5.2.2.2 _ fun t ht => by omega]
        exact hs
      · obtain ⟨a1, a2, a3⟩ := hq q hqb
        have hce := ce_in (y := y) hb (by omega : 8 * i + 8 ≤ 16) (by omega) hy8 hqb
        refine ⟨a1, ?_, fun r c hr hc => ?_⟩
        · rw [h5.2.2.1 _ (by omega)]
          exact a2
        · have := bl_in (x := 8 * i) (y := y) hb hqb hr hc
          rw [h5.2.1 _ _ (by omega) (by omega)]
          exact a3 r c hr hc
    refine Ok.jnR (fun z => z = nI (if szN S1 (8 * i) y = 4 then 1 else 0)) (fun kk hkk => ?_) ?_
    · by_cases h0 : szN S1 (8 * i) y = 4
      · exact Ok.pos (by rw [h0]; rfl) (hkk _ (by rw [if_pos h0]; rfl))
      · have h9 := szN_or S1 (8 * i) y
        refine Ok.neg ?_ (hkk _ (by rw [if_neg h0]; rfl))
        rw [h9.resolve_left h0]
        decide
    rintro _ rfl
    have hbit : rdr ∨ nI (if szN S1 (8 * i) y = 4 then 1 else 0) = nI (if (td i).1 = 2 then 1 else 0) ∧ (if (td i).1 = 2 then 1 else 0) < 2 := by
      refine hin2.elim Or.inl fun hin2 => Or.inr ⟨?_, by split <;> decide⟩
      obtain ⟨⟨b, hb, hs, -⟩, -⟩ := hin2
      rw [hs]
      rcases hb with ⟨h9, -⟩ | ⟨h9, -⟩ <;> rw [h9] <;> rfl
    refine Ok.bind _ (hcd _ _ k1 (if (td i).1 = 2 then 1 else 0) 0 _ 0 h3 (by omega) (Or.inl ⟨by decide, rfl⟩) hbit) ?_
    rintro ⟨o1, k2⟩ ⟨e1, b1, r1⟩
    dsimp only at e1 r1 ⊢
    subst e1
    rw [if_pos (by decide)] at r1
    generalize hP : pPrt cd td i s = P at h3 h5 hpp b1 r1 ⊢
    obtain ⟨s1, D⟩ := P
    dsimp only at h3 h5 hpp b1 r1 ⊢
    generalize hf1 : cd (if (td i).1 = 2 then 1 else 0) 0 s1 = f1 at b1 r1 ⊢
    obtain ⟨s2, a1⟩ := f1
    dsimp only at b1 r1 ⊢
    have hcdW : rdr ∨ a1 = if (td i).1 = 2 then 1 else 0 := hwr.elim Or.inl fun hw => Or.inr (by
      have := hw (if (td i).1 = 2 then 1 else 0) 0 s1
      rw [hf1] at this
      rw [this]
      split <;> rfl)
    have hsz : ∀ v, ∀ K, v = 2 ^ K → (2 ^ K = 4 ∨ 2 ^ K = 8) → ∀ r c, r < 8 → c < 8 → szN (upd S1 (2 * (y / 8) + 8 * i / 8) (nI v)) (8 * i + c) (y + r) = 2 ^ K := by
      intro v K hv hn r c hr hc
      subst hv
      exact szN_upd hn (by omega)
    by_cases ha : a1 = 1
    · have hpt : pTil cd (td i) s1 = ((pBls cd 4 (td i).2.1 (td i).2.2 4 s2).1, 2, (pBls cd 4 (td i).2.1 (td i).2.2 4 s2).2) := by
        unfold pTil
        rw [sB_eq hf1, if_pos ha]
        rfl
      refine Ok.jnR (fun z => z = nI 4) (fun kk hkk => Ok.pos (by rw [ha]; rfl) (hkk _ rfl)) ?_
      rintro _ rfl
      refine Ok.bindE _ (eq_X4_setSizeAt rfl rfl (by omega) (by omega)) ?_
      have hii : rdr ∨ ∀ q, q < 2 * 2 → (M1 (cellN (2 ^ 2) (bX 2 2 (8 * i) q) (bY 2 2 y q)) = nI ((td i).2.1 q) ∧ (td i).2.1 q < 4) ∧ ∀ r c, r < 2 ^ 2 → c < 2 ^ 2 → L1 (p16 (bX 2 2 (8 * i) q) (bY 2 2 y q) r c) = (td i).2.2 q r c ∧ -2047 ≤ ((td i).2.2 q r c).toInt ∧ ((td i).2.2 q r c).toInt ≤ 2047 := by
        refine hin2.elim Or.inl fun hin2 => ?_
        rcases hcdW with hr | hcdW
        · exact Or.inl hr
        obtain ⟨⟨b, hb, -, hq⟩, hok⟩ := hin2
        rw [ha] at hcdW
        rcases hok with ⟨hk1, hk2⟩ | ⟨hk1, hk2⟩
        · rcases hb with ⟨hb1, rfl⟩ | ⟨hb1, -⟩
          · refine Or.inr fun q hqb => ?_
            obtain ⟨a1, a2, a3⟩ := hq q hqb
            rw [hk1] at a2 a3
            exact ⟨⟨a2, a1⟩, fun r c hr hc => ⟨(by unfold p16; rw [Nat.add_assoc]; exact a3 r c hr hc), (hk2 q hqb).2 r c hr hc⟩⟩
          · omega
        · rw [if_neg (by omega)] at hcdW
          exact absurd hcdW (by decide)
      refine Ok.bind _ (ok_gBls (K := 2) (b := 2) hbk rfl rfl rfl (Or.inl ⟨rfl, rfl⟩) (by omega) (by omega) (by omega) hy8 (hsz 4 2 rfl (Or.inl rfl)) r1 (by show _ + cb 4 * 4 + 120 < Lim; omega) hii) ?_
      rintro o ⟨k3, L3, M3, rfl, hr, hbs⟩
      refine Ok.bnd (KK _ hcT ⟨(by first | (simp (disch := omega) only [lI0, lI1, lI2, lI3, lI4, lI5, lI7, lI8, lI9, lI10, lI11, lI12, lI15, lI16, lI17, lI20, lI24, lI32, lI33, lI40, lI63, lI64, lI80, lI82, lI101, lI110, lI115, lI251, lI255, lI256, lI384, lI16384, lI20000, lI32768, lI49152, lI65535, nI_add, pk_mul, pk_sub, pk_div] <;> (apply congrArg nI; omega)) | rfl), k3, L3, M3, _, rfl, ?_, ?_⟩)
      · rw [hpp, hpt, Nat.mul_succ]
        exact hmono _ _ _ _ hr (by show _ + cb 4 * 4 ≤ _; omega)
      · rw [hpp, hpt]
        exact tlSo_step (Or.inl ⟨rfl, rfl⟩) (by omega) hy8 h5 hbs
    · have hpt : pTil cd (td i) s1 = ((pBls cd 8 (td i).2.1 (td i).2.2 1 s2).1, 3, (pBls cd 8 (td i).2.1 (td i).2.2 1 s2).2) := by
        unfold pTil
        rw [sB_eq hf1, if_neg ha]
        rfl
      refine Ok.jnR (fun z => z = nI 8) (fun kk hkk => Ok.neg (by simp (disch := omega) only [lI0, lI1, lI2, lI3, lI4, lI5, lI7, lI8, lI9, lI10, lI11, lI12, lI15, lI16, lI17, lI20, lI24, lI32, lI33, lI40, lI63, lI64, lI80, lI82, lI101, lI110, lI115, lI251, lI255, lI256, lI384, lI16384, lI20000, lI32768, lI49152, lI65535, nI_add, pk_mul, pk_sub, pk_div, nI_leI, nI_ltI, nI_eq] <;> omega) (hkk _ rfl)) ?_
      rintro _ rfl
      refine Ok.bindE _ (eq_X4_setSizeAt rfl rfl (by omega) (by omega)) ?_
      have hii : rdr ∨ ∀ q, q < 1 * 1 → (M1 (cellN (2 ^ 3) (bX 3 1 (8 * i) q) (bY 3 1 y q)) = nI ((td i).2.1 q) ∧ (td i).2.1 q < 4) ∧ ∀ r c, r < 2 ^ 3 → c < 2 ^ 3 → L1 (p16 (bX 3 1 (8 * i) q) (bY 3 1 y q) r c) = (td i).2.2 q r c ∧ -2047 ≤ ((td i).2.2 q r c).toInt ∧ ((td i).2.2 q r c).toInt ≤ 2047 := by
        refine hin2.elim Or.inl fun hin2 => ?_
        rcases hcdW with hr | hcdW
        · exact Or.inl hr
        obtain ⟨⟨b, hb, -, hq⟩, hok⟩ := hin2
        rcases hok with ⟨hk1, hk2⟩ | ⟨hk1, hk2⟩
        · rw [if_pos hk1] at hcdW
          exact absurd hcdW ha
        · rcases hb with ⟨hb1, -⟩ | ⟨hb1, rfl⟩
          · omega
          · refine Or.inr fun q hqb => ?_
            obtain ⟨a1, a2, a3⟩ := hq q hqb
            rw [hk1] at a2 a3
            exact ⟨⟨a2, a1⟩, fun r c hr hc => ⟨(by unfold p16; rw [Nat.add_assoc]; exact a3 r c hr hc), (hk2 q hqb).2 r c hr hc⟩⟩
      refine Ok.bind _ (ok_gBls (K := 3) (b := 1) hbk rfl rfl rfl (Or.inr ⟨rfl, rfl⟩) (by omega) (by omega) (by omega) hy8 (hsz 8 3 rfl (Or.inr rfl)) r1 (by show _ + cb 8 * 1 + 120 < Lim; omega) hii) ?_
      rintro o ⟨k3, L3, M3, rfl, hr, hbs⟩
      refine Ok.bnd (KK _ hcT ⟨(by first | (simp (disch := omega) only [lI0, lI1, lI2, lI3, lI4, lI5, lI7, lI8, lI9, lI10, lI11, lI12, lI15, lI16, lI17, lI20, lI24, lI32, lI33, lI40, lI63, lI64, lI80, lI82, lI101, lI110, lI115, lI251, lI255, lI256, lI384, lI16384, lI20000, lI32768, lI49152, lI65535, nI_add, pk_mul, pk_sub, pk_div] <;> (apply congrArg nI; omega)) | rfl), k3, L3, M3, _, rfl, ?_, ?_⟩)
      · rw [hpp, hpt, Nat.mul_succ]
        exact hmono _ _ _ _ hr (by show _ + cb 8 * 1 ≤ _; omega)
      · rw [hpp, hpt]
        exact tlSo_step (Or.inr ⟨rfl, rfl⟩) (by omega) hy8 h5 hbs
  · have hk2 : i = T := by omega
    subst hk2
    exact Ok.pos (by simp (disch := omega) only [lI0, lI1, lI2, lI3, lI4, lI5, lI7, lI8, lI9, lI10, lI11, lI12, lI15, lI16, lI17, lI20, lI24, lI32, lI33, lI40, lI63, lI64, lI80, lI82, lI101, lI110, lI115, lI251, lI255, lI256, lI384, lI16384, lI20000, lI32768, lI49152, lI65535, nI_add, pk_mul, pk_sub, pk_div, nI_leI, nI_ltI, nI_eq] <;> omega) (Ok.some ⟨k1, L1, M1, S1, rfl, h3, h5⟩)
