/-! ===== how large a block's numbers are ===== -/
theorem sum_ti {f : Nat → Int32} {lo hi : Int} (h1 : -10000 ≤ lo) (h2 : hi ≤ 10000) : ∀ n, n ≤ 8 → (∀ k, k < n → lo ≤ (f k).toInt ∧ (f k).toInt ≤ hi) → (n : Int) * lo ≤ (sumN n f).toInt ∧ (sumN n f).toInt ≤ (n : Int) * hi ∧ -(10000 * (n : Int)) ≤ (sumN n f).toInt ∧ (sumN n f).toInt ≤ 10000 * (n : Int)
  | 0, _, _ => by
    have : (sumN 0 f).toInt = 0 := rfl
    rw [this]
    omega
  | n + 1, hn, h => by
    obtain ⟨a1, a2, a3, a4⟩ := sum_ti h1 h2 n (by omega) (fun k hk => h k (by omega))
    have b := h n (by omega)
    have e : (sumN (n + 1) f).toInt = (sumN n f).toInt + (f n).toInt := ti_add (by omega) (by omega)
    rw [e, Int.natCast_succ, Int.add_mul, Int.add_mul, Int.one_mul, Int.one_mul]
    generalize (n : Int) * lo = P at a1 ⊢
    generalize (n : Int) * hi = Q at a2 ⊢
    omega
theorem pr_bd {K : Nat} {L U : Nat → Int32} {m r c : Nat} {lo hi : Int} (hn : 2 ^ K = 4 ∨ 2 ^ K = 8) (h1 : -1000 ≤ lo) (h2 : hi ≤ 1000) (hL : ∀ k, k < 2 ^ K → lo ≤ (L k).toInt ∧ (L k).toInt ≤ hi) (hU : ∀ k, k < 2 ^ K → lo ≤ (U k).toInt ∧ (U k).toInt ≤ hi) (hr : r < 2 ^ K) (hc : c < 2 ^ K) :
    lo ≤ (prS (bMean K L U) L U m r c).toInt ∧ (prS (bMean K L U) L U m r c).toInt ≤ hi := by
  unfold prS
  have a := hL r hr
  have b := hU c hc
  by_cases h3 : m = 0
  · rw [if_pos h3]
    have hs := sum_ti (f := fun k => L k + U k) (lo := 2 * lo) (hi := 2 * hi) (by omega) (by omega) (2 ^ K) (by omega) (fun k hk => by
      have a := hL k hk
      have b := hU k hk
      rw [ti_add (by omega) (by omega)]
      omega)
    unfold bMean mnS
    rw [fd_toInt _ (by omega)]
    rcases hn with h | h <;> rw [h] at hs ⊢ <;> omega
  · rw [if_neg h3]
    by_cases h4 : m = 1
    · rw [if_pos h4]
      exact a
    · rw [if_neg h4]
      by_cases h5 : m = 2
      · rw [if_pos h5]
        exact b
      · rw [if_neg h5, hf_toInt, ti_add (by omega) (by omega)]
        omega
theorem q_ti {x : Int32} {st : Nat} (h0 : 0 < st) (h1 : st ≤ 32) (h2 : -2000 ≤ x.toInt) (h3 : x.toInt ≤ 2000) : (x / nI st).toInt = x.toInt.tdiv st ∧ -x.toInt.natAbs ≤ x.toInt.tdiv st ∧ x.toInt.tdiv st ≤ x.toInt.natAbs ∧ (x / nI st * nI st).toInt = x.toInt.tdiv st * st ∧ -31 ≤ x.toInt.tdiv st * st - x.toInt ∧ x.toInt.tdiv st * st - x.toInt ≤ 31 := by
  have hy : (nI st).toInt = st := nI_toInt (by omega)
  have hd : (x / nI st).toInt = x.toInt.tdiv st := by
    rw [Int32.toInt_div_of_ne_right _ _ (fun h => by
      have h4 := congrArg Int32.toInt h
      rw [hy, show (-1 : Int32).toInt = -1 from by decide] at h4
      omega), hy]
  have e1 := Int.tmod_add_tdiv_mul x.toInt st
  have e2 := Int.tmod_lt_of_pos x.toInt (b := st) (by omega)
  have e3 := Int.lt_tmod_of_pos x.toInt (b := st) (by omega)
  have e4 := Int.natAbs_tdiv_le_natAbs x.toInt st
  generalize x.toInt.tdiv st * st = q at e1 ⊢
  have e5 : (x / nI st * nI st).toInt = x.toInt.tdiv st * st := by
    have e6 : x.toInt.tdiv st * st = x.toInt - x.toInt.tmod st := by
      have := Int.tmod_add_tdiv_mul x.toInt st
      omega
    rw [Int32.toInt_mul, hd, hy, e6]
    exact Int.bmod_eq_of_le (by omega) (by omega)
  refine ⟨hd, by omega, by omega, ?_, by omega, by omega⟩
  rw [e5]
  have := Int.tmod_add_tdiv_mul x.toInt st
  omega
set_option maxHeartbeats 1000000 in
theorem blk_bd {K st : Nat} {L U : Nat → Int32} {T : Nat → Nat → Int32} {a b : Int} (hK : K ≤ 3) (hn : 2 ^ K = 4 ∨ 2 ^ K = 8) (h0 : 0 < st) (h1 : st ≤ 32) (ha : -302 ≤ a) (hb : b ≤ 302) (hab : b - a ≤ 302) (ha0 : a ≤ 0) (hb0 : 0 ≤ b)
    (hL : ∀ k, k < 2 ^ K → a - 151 ≤ (L k).toInt ∧ (L k).toInt ≤ b + 151) (hU : ∀ k, k < 2 ^ K → a - 151 ≤ (U k).toInt ∧ (U k).toInt ≤ b + 151) (hT : ∀ r c, r < 2 ^ K → c < 2 ^ K → a ≤ (T r c).toInt ∧ (T r c).toInt ≤ b) {r c : Nat} (hr : r < 2 ^ K) (hc : c < 2 ^ K) :
    (-1812 ≤ (bLev K L U T (nI st) r c).toInt ∧ (bLev K L U T (nI st) r c).toInt ≤ 1812) ∧ -151 ≤ (bRes K L U (nI st) (bMode K L U T) (bLev K L U T (nI st)) r c).toInt - (T r c).toInt ∧ (bRes K L U (nI st) (bMode K L U T) (bLev K L U T (nI st)) r c).toInt - (T r c).toInt ≤ 151 := by
  have hpr := fun r c hr hc => pr_bd (K := K) (L := L) (U := U) (m := bMode K L U T) (r := r) (c := c) (lo := a - 151) (hi := b + 151) hn (by omega) (by omega) hL hU hr hc
  have hD : ∀ r c, r < 2 ^ K → c < 2 ^ K → (bDif K L U T r c).toInt = (T r c).toInt - (prS (bMean K L U) L U (bMode K L U T) r c).toInt := by
    intro r c hr hc
    have a := hT r c hr hc
    have b := hpr r c hr hc
    exact ti_sub (by omega) (by omega)
  have hDb : ∀ r c, r < 2 ^ K → c < 2 ^ K → -453 ≤ (bDif K L U T r c).toInt ∧ (bDif K L U T r c).toInt ≤ 453 := by
    intro r c hr hc
    have a := hT r c hr hc
    have b := hpr r c hr hc
    rw [hD r c hr hc]
    omega
  have z1 : zr (2 ^ K) (bDif K L U T) (fun r c => (bDif K L U T r c).toInt) 453 := fun r c hr hc => ⟨rfl, hDb r c hr hc⟩
  have z2 := zr_spK hK (by decide) (by decide) z1 K (Nat.le_refl _)
  have z3 := spKZ_bd hK (Z := fun r c => (bDif K L U T r c).toInt) (B := 453) (by decide) hDb K (Nat.le_refl _)
  have hC : ∀ r c, r < 2 ^ K → c < 2 ^ K → (spK K K (bDif K L U T) r c).toInt = spKZ K K (fun r c => (bDif K L U T r c).toInt) r c ∧ -1812 ≤ spKZ K K (fun r c => (bDif K L U T r c).toInt) r c ∧ spKZ K K (fun r c => (bDif K L U T r c).toInt) r c ≤ 1812 := by
    intro r c hr hc
    have a := (z3 r c hr hc).2
    exact ⟨(z2 r c hr hc).1, by omega, by omega⟩
  have hq : ∀ r c, r < 2 ^ K → c < 2 ^ K → _ := fun r c hr hc => q_ti (x := spK K K (bDif K L U T) r c) h0 h1 (by have := hC r c hr hc; omega) (by have := hC r c hr hc; omega)
  have z4 : zr (2 ^ K) (fun r c => bLev K L U T (nI st) r c * nI st) (fun r c => (bLev K L U T (nI st) r c * nI st).toInt) 2000 := by
    intro r c hr hc
    obtain ⟨q1, q2, q3, q4, q5, q6⟩ := hq r c hr hc
    obtain ⟨c1, c2, c3⟩ := hC r c hr hc
    have e : (bLev K L U T (nI st) r c * nI st).toInt = _ := q4
    refine ⟨rfl, ?_⟩
    dsimp only
    rw [e]
    omega
  have z5 := zr_jnK hK (by decide) (by decide) z4 K (Nat.le_refl _)
  have z6 := (jnKZ_err hK (Y := fun r c => (bLev K L U T (nI st) r c * nI st).toInt) (Z := spKZ K K (fun r c => (bDif K L U T r c).toInt)) (fun r c hr hc => by
    obtain ⟨q1, q2, q3, q4, q5, q6⟩ := hq r c hr hc
    obtain ⟨c1, c2, c3⟩ := hC r c hr hc
    have e : (bLev K L U T (nI st) r c * nI st).toInt = _ := q4
    rw [e]
    omega) K (Nat.le_refl _) r c hr hc).1
  have z7 := jnKZ_spKZ hK (Z := fun r c => (bDif K L U T r c).toInt) K (Nat.le_refl _) r c hr hc
  rw [Nat.sub_self] at z7
  have z8 : spKZ K 0 (fun r c => (bDif K L U T r c).toInt) r c = (bDif K L U T r c).toInt := rfl
  rw [z7, z8] at z6
  have z9 := (z5 r c hr hc).1
  have hK3 : (K : Int) ≤ 3 := by omega
  have hd := hD r c hr hc
  have hdb := hDb r c hr hc
  have hp := hpr r c hr hc
  have ht := hT r c hr hc
  refine ⟨?_, ?_⟩
  · obtain ⟨q1, q2, q3, q4, q5, q6⟩ := hq r c hr hc
    obtain ⟨c1, c2, c3⟩ := hC r c hr hc
    have e : (bLev K L U T (nI st) r c).toInt = _ := q1
    rw [e]
    omega
  · unfold bRes
    rw [ti_add (by rw [z9]; omega) (by rw [z9]; omega), z9]
    omega
/-- a plane's numbers left of the tile and in its first quarters -/
def bdT (a b : Int) (x y q : Nat) (A : Nat → Int32) : Prop := ∀ r c, r < 8 → c < 16 → (c < x ∨ c < x + 8 ∧ 2 * (r / 4) + (c - x) / 4 < q) → a - 151 ≤ (A (16 * (y + r) + c)).toInt ∧ (A (16 * (y + r) + c)).toInt ≤ b + 151
def bdG (a b : Int) (x y : Nat) (T : Nat → Int32) : Prop := ∀ r c, r < 8 → c < 8 → a ≤ (T (16 * (y + r) + (x + c))).toInt ∧ (T (16 * (y + r) + (x + c))).toInt ≤ b
def erT (x y q : Nat) (T A : Nat → Int32) : Prop := ∀ r c, r < 8 → c < 8 → 2 * (r / 4) + c / 4 < q → -151 ≤ (A (16 * (y + r) + (x + c))).toInt - (T (16 * (y + r) + (x + c))).toInt ∧ (A (16 * (y + r) + (x + c))).toInt - (T (16 * (y + r) + (x + c))).toInt ≤ 151
theorem z32 : (0 : Int32).toInt = 0 := rfl
theorem bd4_n {a b : Int} {x y q : Nat} {A : Nat → Int32} (ha0 : a ≤ 0) (hb0 : 0 ≤ b) (hx : x + 8 ≤ 16) (hx8 : x % 8 = 0) (hy8 : y % 8 = 0) (hq : q < 4) (h : bdT a b x y q A) : (∀ k, k < 2 ^ 2 → a - 151 ≤ (nL (2 ^ 2) A (bX 2 2 x q) (bY 2 2 y q) k).toInt ∧ (nL (2 ^ 2) A (bX 2 2 x q) (bY 2 2 y q) k).toInt ≤ b + 151) ∧ ∀ k, k < 2 ^ 2 → a - 151 ≤ (nU (2 ^ 2) A (bX 2 2 x q) (bY 2 2 y q) k).toInt ∧ (nU (2 ^ 2) A (bX 2 2 x q) (bY 2 2 y q) k).toInt ≤ b + 151 := by
  rw [bX2, bY2]
  constructor
  · intro k hk
    unfold nL nbL
    rw [if_pos hk]
    by_cases h0 : x + 4 * (q % 2) = 0
    · rw [if_pos h0, z32]
      omega
    · rw [if_neg h0]
      have h1 := h (4 * (q / 2) + k) (x + 4 * (q % 2) - 1) (by omega) (by omega) (by omega)
      rw [show 16 * (y + (4 * (q / 2) + k)) + (x + 4 * (q % 2) - 1) = 16 * (y + 4 * (q / 2) + k) + (x + 4 * (q % 2)) - 1 from by omega] at h1
      exact h1
  · intro k hk
    unfold nU nbU
    rw [if_pos hk]
    by_cases h0 : (y + 4 * (q / 2)) % 8 = 0
    · rw [if_pos h0, z32]
      omega
    · rw [if_neg h0]
      have h1 := h (4 * (q / 2) - 1) (x + 4 * (q % 2) + k) (by omega) (by omega) (by omega)
      rw [show 16 * (y + (4 * (q / 2) - 1)) + (x + 4 * (q % 2) + k) = 16 * (y + 4 * (q / 2) - 1) + (x + 4 * (q % 2)) + k from by omega] at h1
      exact h1
theorem bd8_n {a b : Int} {x y : Nat} {A : Nat → Int32} (ha0 : a ≤ 0) (hb0 : 0 ≤ b) (hx : x + 8 ≤ 16) (hy8 : y % 8 = 0) (h : bdT a b x y 0 A) : (∀ k, k < 2 ^ 3 → a - 151 ≤ (nL (2 ^ 3) A x y k).toInt ∧ (nL (2 ^ 3) A x y k).toInt ≤ b + 151) ∧ ∀ k, k < 2 ^ 3 → a - 151 ≤ (nU (2 ^ 3) A x y k).toInt ∧ (nU (2 ^ 3) A x y k).toInt ≤ b + 151 := by
  constructor
  · intro k hk
    unfold nL nbL
    rw [if_pos hk]
    by_cases h0 : x = 0
    · rw [if_pos h0, z32]
      omega
    · rw [if_neg h0]
      have h1 := h k (x - 1) (by omega) (by omega) (by omega)
      rw [show 16 * (y + k) + (x - 1) = 16 * (y + k) + x - 1 from by omega] at h1
      exact h1
  · intro k hk
    unfold nU nbU
    rw [if_pos hk, if_pos hy8, z32]
    omega
theorem bd4_T {a b : Int} {x y q : Nat} {T : Nat → Int32} (hq : q < 4) (h : bdG a b x y T) : ∀ r c, r < 2 ^ 2 → c < 2 ^ 2 → a ≤ (nT (2 ^ 2) T (bX 2 2 x q) (bY 2 2 y q) r c).toInt ∧ (nT (2 ^ 2) T (bX 2 2 x q) (bY 2 2 y q) r c).toInt ≤ b := by
  rw [bX2, bY2]
  intro r c hr hc
  unfold nT
  rw [if_pos ⟨hr, hc⟩]
  have h1 := h (4 * (q / 2) + r) (4 * (q % 2) + c) (by omega) (by omega)
  rw [show 16 * (y + (4 * (q / 2) + r)) + (x + (4 * (q % 2) + c)) = 16 * (y + 4 * (q / 2) + r) + (x + 4 * (q % 2) + c) from by omega] at h1
  exact h1
theorem bd8_T {a b : Int} {x y : Nat} {T : Nat → Int32} (h : bdG a b x y T) : ∀ r c, r < 2 ^ 3 → c < 2 ^ 3 → a ≤ (nT (2 ^ 3) T x y r c).toInt ∧ (nT (2 ^ 3) T x y r c).toInt ≤ b := by
  intro r c hr hc
  unfold nT
  rw [if_pos ⟨hr, hc⟩]
  exact h r c hr hc
theorem bd4 {a b : Int} {x y q st : Nat} {T A : Nat → Int32} (h0 : 0 < st) (h1 : st ≤ 32) (ha : -302 ≤ a) (hb : b ≤ 302) (hab : b - a ≤ 302) (ha0 : a ≤ 0) (hb0 : 0 ≤ b) (hx : x + 8 ≤ 16) (hx8 : x % 8 = 0) (hy8 : y % 8 = 0) (hq : q < 4) (hT : bdG a b x y T) (h : bdT a b x y q A) (he : erT x y q T A) :
    (∀ r c, r < 4 → c < 4 → -1812 ≤ (eL 2 (bX 2 2 x q) (bY 2 2 y q) st T A r c).toInt ∧ (eL 2 (bX 2 2 x q) (bY 2 2 y q) st T A r c).toInt ≤ 1812) ∧ bdT a b x y (q + 1) (eR 2 (bX 2 2 x q) (bY 2 2 y q) st T A) ∧ erT x y (q + 1) T (eR 2 (bX 2 2 x q) (bY 2 2 y q) st T A) := by
  obtain ⟨n1, n2⟩ := bd4_n ha0 hb0 hx hx8 hy8 hq h
  have n3 := bd4_T hq hT
  have hk := fun r c hr hc => blk_bd (K := 2) (st := st) (by decide) (Or.inl rfl) h0 h1 ha hb hab ha0 hb0 n1 n2 n3 (r := r) (c := c) hr hc
  have her : erT x y (q + 1) T (eR 2 (bX 2 2 x q) (bY 2 2 y q) st T A) := by
    intro r c hr hc h2
    by_cases h3 : 2 * (r / 4) + c / 4 = q
    · have h4 := (hk (r % 4) (c % 4) (Nat.mod_lt _ (by decide)) (Nat.mod_lt _ (by decide))).2
      have e : 16 * (y + r) + (x + c) = 16 * (bY 2 2 y q + r % 4) + (bX 2 2 x q + c % 4) := by
        rw [bX2, bY2]
        omega
      have e2 : eR 2 (bX 2 2 x q) (bY 2 2 y q) st T A (16 * (y + r) + (x + c)) = bRes 2 (nL (2 ^ 2) A (bX 2 2 x q) (bY 2 2 y q)) (nU (2 ^ 2) A (bX 2 2 x q) (bY 2 2 y q)) (nI st) (eM 2 (bX 2 2 x q) (bY 2 2 y q) T A) (eL 2 (bX 2 2 x q) (bY 2 2 y q) st T A) (r % 4) (c % 4) := by
        rw [e]
        exact put_at (by rw [bX2]; omega) (Nat.mod_lt _ (by decide)) (Nat.mod_lt _ (by decide))
      have e3 : nT (2 ^ 2) T (bX 2 2 x q) (bY 2 2 y q) (r % 4) (c % 4) = T (16 * (y + r) + (x + c)) := by
        unfold nT
        rw [if_pos ⟨Nat.mod_lt _ (by decide), Nat.mod_lt _ (by decide)⟩, e]
      rw [e3] at h4
      rw [e2]
      exact h4
    · have e2 : eR 2 (bX 2 2 x q) (bY 2 2 y q) st T A (16 * (y + r) + (x + c)) = A (16 * (y + r) + (x + c)) := put_off (by omega) (by rw [bX2, bY2]; omega)
      rw [e2]
      exact he r c hr hc (by omega)
  refine ⟨fun r c hr hc => (hk r c hr hc).1, ?_, her⟩
  intro r c hr hc h2
  by_cases h3 : c < x
  · have e2 : eR 2 (bX 2 2 x q) (bY 2 2 y q) st T A (16 * (y + r) + c) = A (16 * (y + r) + c) := put_off (by omega) (by rw [bX2, bY2]; omega)
    rw [e2]
    exact h r c hr hc (Or.inl h3)
  · have h4 := her r (c - x) hr (by omega) (by omega)
    have h5 := hT r (c - x) hr (by omega)
    rw [show x + (c - x) = c from by omega] at h4 h5
    omega
theorem bd8 {a b : Int} {x y st : Nat} {T A : Nat → Int32} (h0 : 0 < st) (h1 : st ≤ 32) (ha : -302 ≤ a) (hb : b ≤ 302) (hab : b - a ≤ 302) (ha0 : a ≤ 0) (hb0 : 0 ≤ b) (hx : x + 8 ≤ 16) (hy8 : y % 8 = 0) (hT : bdG a b x y T) (h : bdT a b x y 0 A) :
    (∀ r c, r < 8 → c < 8 → -1812 ≤ (eL 3 x y st T A r c).toInt ∧ (eL 3 x y st T A r c).toInt ≤ 1812) ∧ bdT a b x y 4 (eR 3 x y st T A) ∧ erT x y 4 T (eR 3 x y st T A) := by
  obtain ⟨n1, n2⟩ := bd8_n ha0 hb0 hx hy8 h
  have n3 := bd8_T hT
  have hk := fun r c hr hc => blk_bd (K := 3) (st := st) (by decide) (Or.inr rfl) h0 h1 ha hb hab ha0 hb0 n1 n2 n3 (r := r) (c := c) hr hc
  have her : erT x y 4 T (eR 3 x y st T A) := by
    intro r c hr hc h2
    have h4 := (hk r c hr hc).2
    have e2 : eR 3 x y st T A (16 * (y + r) + (x + c)) = bRes 3 (nL (2 ^ 3) A x y) (nU (2 ^ 3) A x y) (nI st) (eM 3 x y T A) (eL 3 x y st T A) r c := put_at hx hr hc
    have e3 : nT (2 ^ 3) T x y r c = T (16 * (y + r) + (x + c)) := by
      unfold nT
      rw [if_pos ⟨hr, hc⟩]
    rw [e3] at h4
    rw [e2]
    exact h4
  refine ⟨fun r c hr hc => (hk r c hr hc).1, ?_, her⟩
  intro r c hr hc h2
  by_cases h3 : c < x
  · have e2 : eR 3 x y st T A (16 * (y + r) + c) = A (16 * (y + r) + c) := put_off (by omega) (by omega)
    rw [e2]
    exact h r c hr hc (Or.inl h3)
  · have h4 := her r (c - x) hr (by omega) (by omega)
    have h5 := hT r (c - x) hr (by omega)
    rw [show x + (c - x) = c from by omega] at h4 h5
    omega
theorem bd4q {a b : Int} {x y st : Nat} {T A : Nat → Int32} (h0 : 0 < st) (h1 : st ≤ 32) (ha : -302 ≤ a) (hb : b ≤ 302) (hab : b - a ≤ 302) (ha0 : a ≤ 0) (hb0 : 0 ≤ b) (hx : x + 8 ≤ 16) (hx8 : x % 8 = 0) (hy8 : y % 8 = 0) (hT : bdG a b x y T) (h : bdT a b x y 0 A) :
    ∀ q, q ≤ 4 → bdT a b x y q (eRq 2 2 x y st T A q) ∧ erT x y q T (eRq 2 2 x y st T A q)
  | 0, _ => ⟨h, fun r c _ _ h2 => absurd h2 (by omega)⟩
  | q + 1, hq => by
    obtain ⟨k1, k2⟩ := bd4q h0 h1 ha hb hab ha0 hb0 hx hx8 hy8 hT h q (by omega)
    exact (bd4 h0 h1 ha hb hab ha0 hb0 hx hx8 hy8 (by omega : q < 4) hT k1 k2).2
