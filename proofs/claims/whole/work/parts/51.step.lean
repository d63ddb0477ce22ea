/-! ===== a tile more of a layer ===== -/
/-- a layer, as far as it is made: whole slices before s, the first t tiles of s -/
def lyR (l W s t : Nat) (tC lC mC cC sC rC lM mM cM sM rM : Nat → Int32) : Prop :=
  ∀ px py, px < W → (py < 8 * s ∨ py < 8 * s + 8 ∧ px < 8 * t) → pxG l px py lC mC cC sC lM mM cM sM ∧ rC (16 * py + px) = rM (16 * py + px) ∧ (-151 ≤ (rC (16 * py + px)).toInt - (tC (16 * py + px)).toInt ∧ (rC (16 * py + px)).toInt - (tC (16 * py + px)).toInt ≤ 151) ∧ sC (2 * (py / 8) + px / 8) = nI (szN sC px py)
theorem tileC_sz {bc : Int32} {x y st : Nat} {tC rC lC mC cC sC : Nat → Int32} {oc : Int32 × Int32 × Int32 × (Nat → Int32) × (Nat → Int32) × (Nat → Int32) × (Nat → Int32) × (Nat → Int32) × (Nat → Int32) × (Nat → Int32) × (Nat → Int32) × (Nat → Int32)}
    (hc : cTile bc x y st tC rC cC lC mC sC oc) : oc.2.2.2.2.2.2.2.2.2.1 (2 * (y / 8) + x / 8) = nI 4 ∨ oc.2.2.2.2.2.2.2.2.2.1 (2 * (y / 8) + x / 8) = nI 8 := by
  unfold cTile at hc
  by_cases hle : eC 3 x y st tC (eRq 2 2 x y st tC rC 4) ≤ eSq 2 2 x y st tC rC 4
  · rw [if_pos hle] at hc
    obtain ⟨a1, a2, a3, a4, a5, a6⟩ := hc
    rw [a6, upd_eq]
    exact Or.inr rfl
  · rw [if_neg hle] at hc
    obtain ⟨co, lv, mo, a1, a2, a3, a4, a5, a6, -, -, -⟩ := hc
    rw [a6, upd_eq]
    exact Or.inl rfl
theorem szN_of {sC : Nat → Int32} {px py : Nat} (h : sC (2 * (py / 8) + px / 8) = nI 4 ∨ sC (2 * (py / 8) + px / 8) = nI 8) : sC (2 * (py / 8) + px / 8) = nI (szN sC px py) := by
  unfold szN
  rcases h with h | h
  · rw [h]
    exact (congrArg nI (if_pos rfl)).symm
  · rw [h]
    exact (congrArg nI (if_neg (by decide))).symm
theorem cell_out {n px py x y : Nat} (hpx : px < 16) (h : ¬ (py / 8 = y / 8 ∧ px / 8 = x / 8)) : ¬ (cellN n px py / 8 = y / 8 ∧ cellN n px py % 4 / 2 = x / 8) := by
  unfold cellN
  split <;> omega
set_option maxHeartbeats 2000000 in
theorem tile_step {bc : Int32} {l x y st s t W : Nat} {a b : Int} {tC tM rC rM lC mC cC sC lM mM cM sM blocks : Nat → Int32} {oc : Int32 × Int32 × Int32 × (Nat → Int32) × (Nat → Int32) × (Nat → Int32) × (Nat → Int32) × (Nat → Int32) × (Nat → Int32) × (Nat → Int32) × (Nat → Int32) × (Nat → Int32)} {om : Int32 × Int32 × (Nat → Int32) × (Nat → Int32) × (Nat → Int32) × (Nat → Int32) × (Nat → Int32) × (Nat → Int32) × (Nat → Int32) × (Nat → Int32) × (Nat → Int32) × (Nat → Int32)}
    (ex : x = 8 * t) (ey : y = 8 * s) (hW : W ≤ 16) (hW8 : W % 8 = 0) (ht : 8 * t < W) (hs3 : s < 3) (hl : l < 3) (h0 : 0 < st) (h1 : st ≤ 32) (ha : -302 ≤ a) (hb : b ≤ 302) (hab : b - a ≤ 302) (ha0 : a ≤ 0) (hb0 : 0 ≤ b)
    (hT : ∀ px py, px < W → py < 8 * s + 8 → tC (16 * py + px) = tM (16 * py + px) ∧ a ≤ (tC (16 * py + px)).toInt ∧ (tC (16 * py + px)).toInt ≤ b)
    (hR : lyR l W s t tC lC mC cC sC rC lM mM cM sM rM) (hc : cTile bc x y st tC rC cC lC mC sC oc) (hm : mTile l x y st tM rM blocks cM lM mM sM om) :
    lyR l W s (t + 1) tC oc.2.2.2.2.1 oc.2.2.2.2.2.1 oc.2.2.2.1 oc.2.2.2.2.2.2.2.2.2.1 oc.2.2.2.2.2.2.2.2.1 om.2.2.2.2.1 om.2.2.2.2.2.2.1 om.2.2.2.1 om.2.2.2.2.2.2.2.2.2.2.1 om.2.2.2.2.2.2.2.2.2.1 := by
  have hx : x + 8 ≤ 16 := by omega
  have hx8 : x % 8 = 0 := by omega
  have hy8 : y % 8 = 0 := by omega
  have hG : agG x y tC tM := fun r c hr hc => (hT (x + c) (y + r) (by omega) (by omega)).1
  have hA : agT x y 0 rC rM := fun r c hr hc h => (hR c (y + r) (by omega) (by omega)).2.1
  have hTb : bdG a b x y tC := fun r c hr hc => (hT (x + c) (y + r) (by omega) (by omega)).2
  have hRb : bdT a b x y 0 rC := fun r c hr hc h => by
    have h2 := (hR c (y + r) (by omega) (by omega)).2.2.1
    have h3 := (hT c (y + r) (by omega) (by omega)).2
    omega
  obtain ⟨t1, t2, -⟩ := tile_px hx hx8 hy8 hl hG hA hc hm
  obtain ⟨c1, c2, c3⟩ := tileC_bd h0 h1 ha hb hab ha0 hb0 hx hx8 hy8 hTb hRb hc
  obtain ⟨o1, o2, o3⟩ := tileC_off hx hx8 hy8 hc
  obtain ⟨p1, p2⟩ := tileM_off hm
  have hsz := tileC_sz hc
  intro px py hpx hreg
  by_cases hin : y ≤ py ∧ py < y + 8 ∧ x ≤ px ∧ px < x + 8
  · obtain ⟨r, hr, rfl⟩ : ∃ r, r < 8 ∧ py = y + r := ⟨py - y, by omega, by omega⟩
    obtain ⟨c, hcc, rfl⟩ : ∃ c, c < 8 ∧ px = x + c := ⟨px - x, by omega, by omega⟩
    obtain ⟨d1, d2⟩ := c1 r c hr hcc
    refine ⟨⟨t1 r c hr hcc, ⟨by omega, by omega⟩, d2⟩, t2 r (x + c) hr (by omega) (by omega), c3 r c hr hcc (by omega), szN_of ?_⟩
    rw [show 2 * ((y + r) / 8) + (x + c) / 8 = 2 * (y / 8) + x / 8 from by omega]
    exact hsz
  · obtain ⟨⟨q1, q2, m, q3, q4⟩, q5, q6, q7⟩ := hR px py hpx (by omega)
    obtain ⟨u1, u2, u3, u4⟩ := q1
    have htile : ¬ (py / 8 = y / 8 ∧ px / 8 = x / 8) := by omega
    have esz : oc.2.2.2.2.2.2.2.2.2.1 (2 * (py / 8) + px / 8) = sC (2 * (py / 8) + px / 8) := o3 _ (by omega)
    have eszN : szN oc.2.2.2.2.2.2.2.2.2.1 px py = szN sC px py := by
      unfold szN
      rw [esz]
    obtain ⟨f1, f2⟩ := o1 px py (by omega) hin
    obtain ⟨g1, g2⟩ := o2 (cellN (szN sC px py) px py) (cell_out (by omega) htile)
    obtain ⟨k1, k2, k3, k4, k5⟩ := p1 px py (by omega) hin
    refine ⟨⟨⟨?_, ?_, ?_, ?_⟩, ?_, m, q3, ?_⟩, ?_, ?_, ?_⟩
    · rw [k1, f1, u1]
    · rw [k4, u2, eszN]
    · rw [k2, eszN, g1, u3]
    · rw [k3, eszN, g2, u4]
    · rw [f1]
      exact q2
    · rw [eszN, g1, q4]
    · rw [f2, k5, q5]
    · rw [f2]
      exact q6
    · rw [esz, q7, eszN]
