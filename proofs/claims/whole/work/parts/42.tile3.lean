/-! ===== a tile: what is outside it, and how large it is ===== -/
theorem cell_in {j x y : Nat} (hx : x + 8 ≤ 16) (hx8 : x % 8 = 0) (hy8 : y % 8 = 0) (h : ¬ (j / 8 = y / 8 ∧ j % 4 / 2 = x / 8)) : j ≠ cellN 8 x y := by
  intro h2
  have h3 : j = 8 * (y / 8) + 2 * (x / 8) := h2.trans (if_neg (by decide))
  omega
theorem tileC_off {bc : Int32} {x y st : Nat} {tC rC lC mC cC sC : Nat → Int32} {oc : Int32 × Int32 × Int32 × (Nat → Int32) × (Nat → Int32) × (Nat → Int32) × (Nat → Int32) × (Nat → Int32) × (Nat → Int32) × (Nat → Int32) × (Nat → Int32) × (Nat → Int32)}
    (hx : x + 8 ≤ 16) (hx8 : x % 8 = 0) (hy8 : y % 8 = 0) (hc : cTile bc x y st tC rC cC lC mC sC oc) :
    (∀ px py, px < 16 → ¬ (y ≤ py ∧ py < y + 8 ∧ x ≤ px ∧ px < x + 8) → oc.2.2.2.2.1 (16 * py + px) = lC (16 * py + px) ∧ oc.2.2.2.2.2.2.2.2.1 (16 * py + px) = rC (16 * py + px)) ∧ (∀ j, ¬ (j / 8 = y / 8 ∧ j % 4 / 2 = x / 8) → oc.2.2.2.2.2.1 j = mC j ∧ oc.2.2.2.1 j = cC j) ∧ ∀ j, j ≠ 2 * (y / 8) + x / 8 → oc.2.2.2.2.2.2.2.2.2.1 j = sC j := by
  have fL : ∀ (A l0 : Nat → Int32) px py, px < 16 → ¬ (y ≤ py ∧ py < y + 8 ∧ x ≤ px ∧ px < x + 8) → eLq 2 2 x y st tC A l0 4 (16 * py + px) = l0 (16 * py + px) := fun A l0 px py hp h => seq_off (f := eLq 2 2 x y st tC A l0) (fun q => eLq_s q) hp h 4 (by omega)
  have fR : ∀ (A : Nat → Int32) px py, px < 16 → ¬ (y ≤ py ∧ py < y + 8 ∧ x ≤ px ∧ px < x + 8) → eRq 2 2 x y st tC A 4 (16 * py + px) = A (16 * py + px) := fun A px py hp h => seq_off (f := eRq 2 2 x y st tC A) (w := fun q => bRes 2 (nL (2 ^ 2) (eRq 2 2 x y st tC A q) (bX 2 2 x q) (bY 2 2 y q)) (nU (2 ^ 2) (eRq 2 2 x y st tC A q) (bX 2 2 x q) (bY 2 2 y q)) (nI st) (eM 2 (bX 2 2 x q) (bY 2 2 y q) tC (eRq 2 2 x y st tC A q)) (eL 2 (bX 2 2 x q) (bY 2 2 y q) st tC (eRq 2 2 x y st tC A q))) (fun q => rfl) hp h 4 (by omega)
  have f8 : ∀ (A : Nat → Int32) px py, px < 16 → ¬ (y ≤ py ∧ py < y + 8 ∧ x ≤ px ∧ px < x + 8) → eR 3 x y st tC A (16 * py + px) = A (16 * py + px) := fun A px py hp h => put_off (n := 2 ^ 3) hp h
  have fM : ∀ (A m0 : Nat → Int32) j, ¬ (j / 8 = y / 8 ∧ j % 4 / 2 = x / 8) → eMq 2 2 x y st tC A m0 4 j = m0 j := fun A m0 j h => sq_off (f := eMq 2 2 x y st tC A m0) hx hx8 hy8 (fun q => eMq_s q) h 4 (by omega)
  have fC : ∀ (A m0 : Nat → Int32) j, ¬ (j / 8 = y / 8 ∧ j % 4 / 2 = x / 8) → eCq 2 2 x y st tC A m0 4 j = m0 j := fun A m0 j h => sq_off (f := eCq 2 2 x y st tC A m0) hx hx8 hy8 (fun q => eCq_s q) h 4 (by omega)
  unfold cTile at hc
  by_cases hle : eC 3 x y st tC (eRq 2 2 x y st tC rC 4) ≤ eSq 2 2 x y st tC rC 4
  · rw [if_pos hle] at hc
    obtain ⟨a1, a2, a3, a4, a5, a6⟩ := hc
    rw [a2, a3, a4, a5, a6]
    refine ⟨fun px py hp h => ⟨?_, ?_⟩, fun j h => ⟨?_, ?_⟩, fun j h => ?_⟩
    · rw [put_off hp h, fL _ _ _ _ hp h]
    · rw [f8 _ _ _ hp h, fR _ _ _ hp h]
    · rw [upd_ne (cell_in hx hx8 hy8 h), fM _ _ _ h]
    · rw [upd_ne (cell_in hx hx8 hy8 h), fC _ _ _ h]
    · rw [upd_ne h, upd_ne h]
  · rw [if_neg hle] at hc
    obtain ⟨co, lv, mo, a1, a2, a3, a4, a5, a6, a7, a8, a9⟩ := hc
    rw [a2, a3, a4, a5, a6]
    refine ⟨fun px py hp h => ⟨?_, ?_⟩, fun j h => ⟨?_, ?_⟩, fun j h => ?_⟩
    · rw [fL _ _ _ _ hp h, a8, put_off hp h, fL _ _ _ _ hp h]
    · rw [fR _ _ _ hp h, f8 _ _ _ hp h, fR _ _ _ hp h]
    · rw [fM _ _ _ h, a9, upd_ne (cell_in hx hx8 hy8 h), fM _ _ _ h]
    · rw [fC _ _ _ h, a7, upd_ne (cell_in hx hx8 hy8 h), fC _ _ _ h]
    · rw [upd_ne h, upd_ne h, upd_ne h]
theorem tileM_off {l x y st : Nat} {tM rM lM mM cM sM blocks : Nat → Int32} {om : Int32 × Int32 × (Nat → Int32) × (Nat → Int32) × (Nat → Int32) × (Nat → Int32) × (Nat → Int32) × (Nat → Int32) × (Nat → Int32) × (Nat → Int32) × (Nat → Int32) × (Nat → Int32)}
    (hm : mTile l x y st tM rM blocks cM lM mM sM om) :
    (∀ px py, px < 16 → ¬ (y ≤ py ∧ py < y + 8 ∧ x ≤ px ∧ px < x + 8) → om.2.2.2.2.1 (384 * l + (16 * py + px)) = lM (384 * l + (16 * py + px)) ∧ om.2.2.2.2.2.2.1 (384 * l + (16 * py + px)) = mM (384 * l + (16 * py + px)) ∧ om.2.2.2.1 (384 * l + (16 * py + px)) = cM (384 * l + (16 * py + px)) ∧ om.2.2.2.2.2.2.2.2.2.2.1 (384 * l + (16 * py + px)) = sM (384 * l + (16 * py + px)) ∧ om.2.2.2.2.2.2.2.2.2.1 (16 * py + px) = rM (16 * py + px)) ∧
    ∀ j, (j < 384 * l ∨ 384 * l + 384 ≤ j) → om.2.2.2.2.1 j = lM j ∧ om.2.2.2.2.2.2.1 j = mM j ∧ om.2.2.2.1 j = cM j ∧ om.2.2.2.2.2.2.2.2.2.2.1 j = sM j := by
  have fL : ∀ (A l0 : Nat → Int32) px py, px < 16 → ¬ (y ≤ py ∧ py < y + 8 ∧ x ≤ px ∧ px < x + 8) → eLq 2 2 x y st tM A l0 4 (16 * py + px) = l0 (16 * py + px) := fun A l0 px py hp h => seq_off (f := eLq 2 2 x y st tM A l0) (fun q => eLq_s q) hp h 4 (by omega)
  have fM : ∀ (A l0 : Nat → Int32) px py, px < 16 → ¬ (y ≤ py ∧ py < y + 8 ∧ x ≤ px ∧ px < x + 8) → pMq 2 2 x y st tM A l0 4 (16 * py + px) = l0 (16 * py + px) := fun A l0 px py hp h => seq_off (f := pMq 2 2 x y st tM A l0) (fun q => pMq_s q) hp h 4 (by omega)
  have fC : ∀ (A l0 : Nat → Int32) px py, px < 16 → ¬ (y ≤ py ∧ py < y + 8 ∧ x ≤ px ∧ px < x + 8) → pCq 2 2 x y st tM A l0 4 (16 * py + px) = l0 (16 * py + px) := fun A l0 px py hp h => seq_off (f := pCq 2 2 x y st tM A l0) (fun q => pCq_s q) hp h 4 (by omega)
  have fS : ∀ (l0 : Nat → Int32) px py, px < 16 → ¬ (y ≤ py ∧ py < y + 8 ∧ x ≤ px ∧ px < x + 8) → pSq 2 2 x y l0 4 (16 * py + px) = l0 (16 * py + px) := fun l0 px py hp h => seq_off (f := pSq 2 2 x y l0) (fun q => pSq_s q) hp h 4 (by omega)
  have fR : ∀ (A : Nat → Int32) px py, px < 16 → ¬ (y ≤ py ∧ py < y + 8 ∧ x ≤ px ∧ px < x + 8) → eRq 2 2 x y st tM A 4 (16 * py + px) = A (16 * py + px) := fun A px py hp h => seq_off (f := eRq 2 2 x y st tM A) (w := fun q => bRes 2 (nL (2 ^ 2) (eRq 2 2 x y st tM A q) (bX 2 2 x q) (bY 2 2 y q)) (nU (2 ^ 2) (eRq 2 2 x y st tM A q) (bX 2 2 x q) (bY 2 2 y q)) (nI st) (eM 2 (bX 2 2 x q) (bY 2 2 y q) tM (eRq 2 2 x y st tM A q)) (eL 2 (bX 2 2 x q) (bY 2 2 y q) st tM (eRq 2 2 x y st tM A q))) (fun q => rfl) hp h 4 (by omega)
  have f8 : ∀ (A : Nat → Int32) px py, px < 16 → ¬ (y ≤ py ∧ py < y + 8 ∧ x ≤ px ∧ px < x + 8) → eR 3 x y st tM A (16 * py + px) = A (16 * py + px) := fun A px py hp h => put_off (n := 2 ^ 3) hp h
  unfold mTile at hm
  by_cases hle : eC 3 x y st tM (eRq 2 2 x y st tM rM 4) ≤ eSq 2 2 x y st tM rM 4
  · rw [if_pos hle] at hm
    obtain ⟨b1, b2, b3, b4, b5, b6⟩ := hm
    refine ⟨fun px py hp h => ⟨?_, ?_, ?_, ?_, ?_⟩, fun j h => ⟨b3.2 j h, b4.2 j h, b2.2 j h, b6.2 j h⟩⟩
    · exact (congrFun b3.1 (16 * py + px)).trans ((put_off hp h).trans (fL _ _ _ _ hp h))
    · exact (congrFun b4.1 (16 * py + px)).trans ((put_off hp h).trans (fM _ _ _ _ hp h))
    · exact (congrFun b2.1 (16 * py + px)).trans ((put_off hp h).trans (fC _ _ _ _ hp h))
    · exact (congrFun b6.1 (16 * py + px)).trans ((put_off hp h).trans (fS _ _ _ hp h))
    · rw [b5, f8 _ _ _ hp h, fR _ _ _ hp h]
  · rw [if_neg hle] at hm
    obtain ⟨b1, b2, b3, b4, b5, b6⟩ := hm
    refine ⟨fun px py hp h => ⟨?_, ?_, ?_, ?_, ?_⟩, fun j h => ⟨b3.2 j h, b4.2 j h, b2.2 j h, b6.2 j h⟩⟩
    · exact (congrFun b3.1 (16 * py + px)).trans (fL _ _ _ _ hp h)
    · exact (congrFun b4.1 (16 * py + px)).trans (fM _ _ _ _ hp h)
    · exact (congrFun b2.1 (16 * py + px)).trans (fC _ _ _ _ hp h)
    · exact (congrFun b6.1 (16 * py + px)).trans (fS _ _ _ hp h)
    · rw [b5, fR _ _ _ hp h]
/-- in the tile the class's levels are small, its modes are modes, its results are near the target -/
theorem tileC_bd {bc : Int32} {x y st : Nat} {tC rC lC mC cC sC : Nat → Int32} {a b : Int} {oc : Int32 × Int32 × Int32 × (Nat → Int32) × (Nat → Int32) × (Nat → Int32) × (Nat → Int32) × (Nat → Int32) × (Nat → Int32) × (Nat → Int32) × (Nat → Int32) × (Nat → Int32)}
    (h0 : 0 < st) (h1 : st ≤ 32) (ha : -302 ≤ a) (hb : b ≤ 302) (hab : b - a ≤ 302) (ha0 : a ≤ 0) (hb0 : 0 ≤ b) (hx : x + 8 ≤ 16) (hx8 : x % 8 = 0) (hy8 : y % 8 = 0) (hT : bdG a b x y tC) (hR : bdT a b x y 0 rC) (hc : cTile bc x y st tC rC cC lC mC sC oc) :
    (∀ r c, r < 8 → c < 8 → (-1812 ≤ (oc.2.2.2.2.1 (16 * (y + r) + (x + c))).toInt ∧ (oc.2.2.2.2.1 (16 * (y + r) + (x + c))).toInt ≤ 1812) ∧ ∃ m, m < 4 ∧ oc.2.2.2.2.2.1 (cellN (szN oc.2.2.2.2.2.2.2.2.2.1 (x + c) (y + r)) (x + c) (y + r)) = nI m) ∧ bdT a b x y 4 oc.2.2.2.2.2.2.2.2.1 ∧ erT x y 4 tC oc.2.2.2.2.2.2.2.2.1 := by
  have k4 := fun (A : Nat → Int32) (hA : bdT a b x y 0 A) q hq => bd4q h0 h1 ha hb hab ha0 hb0 hx hx8 hy8 hT hA q hq
  unfold cTile at hc
  by_cases hle : eC 3 x y st tC (eRq 2 2 x y st tC rC 4) ≤ eSq 2 2 x y st tC rC 4
  · rw [if_pos hle] at hc
    obtain ⟨a1, a2, a3, a4, a5, a6⟩ := hc
    have g0 : bdT a b x y 0 (eRq 2 2 x y st tC rC 4) := fun r c hr hc h => (k4 rC hR 4 (Nat.le_refl _)).1 r c hr hc (by omega)
    obtain ⟨l8, r8, e8⟩ := bd8 (st := st) h0 h1 ha hb hab ha0 hb0 hx hy8 hT g0
    rw [a3, a4, a5, a6]
    refine ⟨fun r c hr hc => ⟨?_, ?_⟩, r8, e8⟩
    · rw [put_at hx hr hc]
      exact l8 r c hr hc
    · rw [szN_at hx8 hy8 hr hc (Or.inr rfl), cell8 hx8 hy8 hr hc, upd_eq]
      exact ⟨_, bMode_lt, rfl⟩
  · rw [if_neg hle] at hc
    obtain ⟨co, lv, mo, a1, a2, a3, a4, a5, a6, -, -, -⟩ := hc
    have g0 : bdT a b x y 0 (eR 3 x y st tC (eRq 2 2 x y st tC rC 4)) := by
      intro r c hr hc h
      have h2 := agT_trans agT_eR8 (agT_eRq (st := st)) r c hr hc h (A := eR 3 x y st tC (eRq 2 2 x y st tC rC 4)) (C := rC)
      rw [h2]
      exact hR r c hr hc h
    rw [a3, a4, a5, a6]
    refine ⟨fun r c hr hc => ⟨?_, ?_⟩, (k4 _ g0 4 (Nat.le_refl _)).1, (k4 _ g0 4 (Nat.le_refl _)).2⟩
    · rw [seq_at hx (fun q => eLq_s q) hr hc 4 (by omega) (by omega)]
      have g := k4 _ g0 (2 * (r / 4) + c / 4) (by omega)
      exact (bd4 h0 h1 ha hb hab ha0 hb0 hx hx8 hy8 (by omega : 2 * (r / 4) + c / 4 < 4) hT g.1 g.2).1 _ _ (Nat.mod_lt _ (by decide)) (Nat.mod_lt _ (by decide))
    · rw [szN_at hx8 hy8 hr hc (Or.inl rfl), sq_at hx hx8 hy8 (fun q => eMq_s q) hr hc 4 (by omega) (by omega)]
      exact ⟨_, bMode_lt, rfl⟩
