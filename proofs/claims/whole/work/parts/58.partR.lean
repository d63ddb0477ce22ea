/-! ===== a part read, on both sides ===== -/
/-- the four blocks of a tile, read one after the other -/
theorem ok_four {start len nn B x y : Nat} {stm cy : Nat → Int32} {step : Int32} {sC : Nat → Int32} {M0 : Int32 × Int32 × Int32 × Int32 × Int32 × (Nat → Int32) × (Nat → Int32) × (Nat → Int32) × (Nat → Int32) × (Nat → Int32)} {C0 : Int32 × Int32 × Int32 × Int32 × (Nat → Int32) × (Nat → Int32) × (Nat → Int32) × (Nat → Int32)} (hx : x + 8 ≤ 16) (hx8 : x % 8 = 0) (hy : y + 8 ≤ 24) (hy8 : y % 8 = 0) (hsz : ∀ r c, r < 8 → c < 8 → szN sC (x + c) (y + r) = 4)
    (hs : start + len ≤ 20000) (hs2 : start + len ≤ nn) (hnn : nn ≤ 32768) (hcy : ∀ i, i < start + len → cy i = stm i) (h : RR start len (B) M0.1 M0.2.1 M0.2.2.1 M0.2.2.2.1 M0.2.2.2.2.2.1 C0.1 C0.2.1 C0.2.2.1 C0.2.2.2.1 C0.2.2.2.2.1 C0.2.2.2.2.2.1) (hB : B + 4 * 3216 + 600 < 2 ^ 20) :
    ∃ f : Nat → (Int32 × Int32 × Int32 × Int32 × Int32 × (Nat → Int32) × (Nat → Int32) × (Nat → Int32) × (Nat → Int32) × (Nat → Int32)) × (Int32 × Int32 × Int32 × Int32 × (Nat → Int32) × (Nat → Int32) × (Nat → Int32) × (Nat → Int32)) × Nat × (Nat → Nat → Int32), (f 0).1 = M0 ∧ (f 0).2.1 = C0 ∧ (∀ q, q < 4 → lf_X9_takeBlock (f q).1.1 (f q).1.2.1 (nI (start + len)) (f q).1.2.2.1 (f q).1.2.2.2.1 (f q).1.2.2.2.2.1 (nI start) (f q).1.2.2.2.2.2.1 (f q).1.2.2.2.2.2.2.1 (f q).1.2.2.2.2.2.2.2.1 (f q).1.2.2.2.2.2.2.2.2.1 stm (f q).1.2.2.2.2.2.2.2.2.2 (nI (bX 2 2 x q)) (nI (bY 2 2 y q)) (nI 4) (nI y) step = some (f (q + 1)).1 ∧
      lf_X8_codeBlock_X1 (f q).2.1.1 (nI (8 * (start + len))) (f q).2.1.2.1 (f q).2.1.2.2.1 (f q).2.1.2.2.2.1 nn cy (f q).2.1.2.2.2.2.1 (f q).2.1.2.2.2.2.2.1 (f q).2.1.2.2.2.2.2.2.1 (f q).2.1.2.2.2.2.2.2.2 sC (nI (bX 2 2 x q)) (nI (bY 2 2 y q)) (nI 4) = some (f (q + 1)).2.1 ∧
      (f (q + 1)).2.2.1 < 4 ∧ (f (q + 1)).2.1.2.2.2.2.2.2.2 = upd (f q).2.1.2.2.2.2.2.2.2 (cellN (2 ^ 2) (bX 2 2 x q) (bY 2 2 y q)) (nI (f (q + 1)).2.2.1) ∧ (f (q + 1)).2.1.2.2.2.2.2.2.1 = put (2 ^ 2) (bX 2 2 x q) (bY 2 2 y q) (f (q + 1)).2.2.2 (f q).2.1.2.2.2.2.2.2.1 ∧ (f (q + 1)).1.2.2.2.2.2.2.2.2.1 = eB 2 (bX 2 2 x q) (bY 2 2 y q) step (f (q + 1)).2.2.1 (f (q + 1)).2.2.2 (f q).1.2.2.2.2.2.2.2.2.1) ∧ RR start len (B + 3216 * 4) (f 4).1.1 (f 4).1.2.1 (f 4).1.2.2.1 (f 4).1.2.2.2.1 (f 4).1.2.2.2.2.2.1 (f 4).2.1.1 (f 4).2.1.2.1 (f 4).2.1.2.2.1 (f 4).2.1.2.2.2.1 (f 4).2.1.2.2.2.2.1 (f 4).2.1.2.2.2.2.2.1 := by
  obtain ⟨f, h1, h2, h3⟩ := seq_ex (α := (Int32 × Int32 × Int32 × Int32 × Int32 × (Nat → Int32) × (Nat → Int32) × (Nat → Int32) × (Nat → Int32) × (Nat → Int32)) × (Int32 × Int32 × Int32 × Int32 × (Nat → Int32) × (Nat → Int32) × (Nat → Int32) × (Nat → Int32)) × Nat × (Nat → Nat → Int32)) (x0 := (M0, C0, 0, fun _ _ => 0)) (I := fun q z => RR start len (B + 3216 * q) z.1.1 z.1.2.1 z.1.2.2.1 z.1.2.2.2.1 z.1.2.2.2.2.2.1 z.2.1.1 z.2.1.2.1 z.2.1.2.2.1 z.2.1.2.2.2.1 z.2.1.2.2.2.2.1 z.2.1.2.2.2.2.2.1)
    (R := fun q z z2 => lf_X9_takeBlock z.1.1 z.1.2.1 (nI (start + len)) z.1.2.2.1 z.1.2.2.2.1 z.1.2.2.2.2.1 (nI start) z.1.2.2.2.2.2.1 z.1.2.2.2.2.2.2.1 z.1.2.2.2.2.2.2.2.1 z.1.2.2.2.2.2.2.2.2.1 stm z.1.2.2.2.2.2.2.2.2.2 (nI (bX 2 2 x q)) (nI (bY 2 2 y q)) (nI 4) (nI y) step = some z2.1 ∧
      lf_X8_codeBlock_X1 z.2.1.1 (nI (8 * (start + len))) z.2.1.2.1 z.2.1.2.2.1 z.2.1.2.2.2.1 nn cy z.2.1.2.2.2.2.1 z.2.1.2.2.2.2.2.1 z.2.1.2.2.2.2.2.2.1 z.2.1.2.2.2.2.2.2.2 sC (nI (bX 2 2 x q)) (nI (bY 2 2 y q)) (nI 4) = some z2.2.1 ∧
      z2.2.2.1 < 4 ∧ z2.2.1.2.2.2.2.2.2.2 = upd z.2.1.2.2.2.2.2.2.2 (cellN (2 ^ 2) (bX 2 2 x q) (bY 2 2 y q)) (nI z2.2.2.1) ∧ z2.2.1.2.2.2.2.2.2.1 = put (2 ^ 2) (bX 2 2 x q) (bY 2 2 y q) z2.2.2.2 z.2.1.2.2.2.2.2.2.1 ∧ z2.1.2.2.2.2.2.2.2.2.1 = eB 2 (bX 2 2 x q) (bY 2 2 y q) step z2.2.2.1 z2.2.2.2 z.1.2.2.2.2.2.2.2.2.1) h 4 (fun q z hq hI => by
    have hqx : bX 2 2 x q = x + 4 * (q % 2) := rfl
    have hqy : bY 2 2 y q = y + 4 * (q / 2) := rfl
    have hsq := hsz (4 * (q / 2)) (4 * (q % 2)) (by omega) (by omega)
    obtain ⟨om, oc, em, ec, hR, m, lv, g1, g2, g3, g4⟩ := ok_blockR (K := 2) (n := 4) (mean := z.1.2.2.2.2.1) (line := z.1.2.2.2.2.2.2.1) (one := z.1.2.2.2.2.2.2.2.1) (rM := z.1.2.2.2.2.2.2.2.2.1) (work := z.1.2.2.2.2.2.2.2.2.2) (lC := z.2.1.2.2.2.2.2.2.1) (mC := z.2.1.2.2.2.2.2.2.2) (sC := sC) (step := step) (top := y) (x := bX 2 2 x q) (y := bY 2 2 y q) rfl rfl rfl rfl rfl (by decide) (Or.inl rfl) (by omega) (by omega) (by omega) (by omega) hsq hs hs2 hnn hcy hI (by omega)
    exact ⟨(om, oc, m, lv), ⟨em, ec, g1, g2, g3, g4⟩, RR_mono hR (by omega)⟩)
  exact ⟨f, congrArg (fun z => z.1) h1, congrArg (fun z => z.2.1) h1, h2, h3 4 (Nat.le_refl _)⟩
set_option maxHeartbeats 8000000 in
theorem ok_codePartR {start len nn B w slice y tiles : Nat} {stm cy : Nat → Int32} {mb mc mh ml mean : Int32} {ct on ze line one rM work lC mC sC : Nat → Int32} {cc ch cl cp step p2 p3 : Int32} (e2 : p2 = nI slice) (e3 : p3 = nI tiles) (ey : y = 8 * slice) (et : tiles = (w + 7) / 8) (hw1 : 1 ≤ w) (hw2 : w ≤ 16) (hsl : slice < 3)
    (hs : start + len ≤ 20000) (hs2 : start + len ≤ nn) (hnn : nn ≤ 32768) (hcy : ∀ i, i < start + len → cy i = stm i) (h : RR start len B mb mc mh ml ct cc ch cl cp on ze) (hB : B + 2 * 13000 + 600 < 2 ^ 20) :
    Ok2 (fixN FUEL (fun (self19 : (Int32 × Int32 × Int32 × Int32 × Int32 × Int32 × (Nat → Int32) × (Nat → Int32) × (Nat → Int32) × (Nat → Int32) × (Nat → Int32)) → Option (Int32 × Int32 × Int32 × Int32 × Int32 × (Nat → Int32) × (Nat → Int32) × (Nat → Int32) × (Nat → Int32) × (Nat → Int32))) (z19 : Int32 × Int32 × Int32 × Int32 × Int32 × Int32 × (Nat → Int32) × (Nat → Int32) × (Nat → Int32) × (Nat → Int32) × (Nat → Int32)) => (fun (x8 : Int32) (v9 : Int32) (v10 : Int32) (v11 : Int32) (v12 : Int32) (v13 : Int32) (g14 : (Nat → Int32)) (g15 : (Nat → Int32)) (g16 : (Nat → Int32)) (g17 : (Nat → Int32)) (g18 : (Nat → Int32)) => (if (nI w) ≤ x8 then some (v9, v10, v11, v12, v13, g14, g15, g16, g17, g18) else (lf_X9_take v9 v10 (nI (start + len)) v11 v12 (nI start) g14 stm (0 : Int32)).bind fun o21 => jn (fun (z33 : Int32 × Int32 × Int32 × Int32 × Int32 × (Nat → Int32) × (Nat → Int32) × (Nat → Int32) × (Nat → Int32) × (Nat → Int32)) => (fun (v23 : Int32) (v24 : Int32) (v25 : Int32) (v26 : Int32) (v27 : Int32) (g28 : (Nat → Int32)) (g29 : (Nat → Int32)) (g30 : (Nat → Int32)) (g31 : (Nat → Int32)) (g32 : (Nat → Int32)) => bnd (x8 + (8 : Int32)) fun x34 => self19 (x34, v23, v24, v25, v26, v27, g28, g29, g30, g31, g32)) z33.1 z33.2.1 z33.2.2.1 z33.2.2.2.1 z33.2.2.2.2.1 z33.2.2.2.2.2.1 z33.2.2.2.2.2.2.1 z33.2.2.2.2.2.2.2.1 z33.2.2.2.2.2.2.2.2.1 z33.2.2.2.2.2.2.2.2.2) (fun k33 => (if o21.1 = (0 : Int32) then (lf_X9_takeBlock o21.2.1 o21.2.2.1 (nI (start + len)) o21.2.2.2.1 o21.2.2.2.2.1 v13 (nI start) o21.2.2.2.2.2 g15 g16 g17 stm g18 x8 (nI y) (8 : Int32) (nI y) step).bind fun o50 => k33 (o50.1, o50.2.1, o50.2.2.1, o50.2.2.2.1, o50.2.2.2.2.1, o50.2.2.2.2.2.1, o50.2.2.2.2.2.2.1, o50.2.2.2.2.2.2.2.1, o50.2.2.2.2.2.2.2.2.1, o50.2.2.2.2.2.2.2.2.2) else (fixN FUEL (fun (self46 : (Int32 × Int32 × Int32 × Int32 × Int32 × Int32 × (Nat → Int32) × (Nat → Int32) × (Nat → Int32) × (Nat → Int32) × (Nat → Int32)) → Option (Int32 × Int32 × Int32 × Int32 × Int32 × (Nat → Int32) × (Nat → Int32) × (Nat → Int32) × (Nat → Int32) × (Nat → Int32))) (z46 : Int32 × Int32 × Int32 × Int32 × Int32 × Int32 × (Nat → Int32) × (Nat → Int32) × (Nat → Int32) × (Nat → Int32) × (Nat → Int32)) => (fun (x35 : Int32) (v36 : Int32) (v37 : Int32) (v38 : Int32) (v39 : Int32) (v40 : Int32) (g41 : (Nat → Int32)) (g42 : (Nat → Int32)) (g43 : (Nat → Int32)) (g44 : (Nat → Int32)) (g45 : (Nat → Int32)) => (if (4 : Int32) ≤ x35 then some (v36, v37, v38, v39, v40, g41, g42, g43, g44, g45) else (lf_X9_takeBlock v36 v37 (nI (start + len)) v38 v39 v40 (nI start) g41 g42 g43 g44 stm g45 (x8 + ((x35 - x35 / (2 : Int32) * (2 : Int32)) * (4 : Int32))) ((nI y) + ((x35 / (2 : Int32)) * (4 : Int32))) (4 : Int32) (nI y) step).bind fun o48 => bnd (x35 + (1 : Int32)) fun x49 => self46 (x49, o48.1, o48.2.1, o48.2.2.1, o48.2.2.2.1, o48.2.2.2.2.1, o48.2.2.2.2.2.1, o48.2.2.2.2.2.2.1, o48.2.2.2.2.2.2.2.1, o48.2.2.2.2.2.2.2.2.1, o48.2.2.2.2.2.2.2.2.2))) z46.1 z46.2.1 z46.2.2.1 z46.2.2.2.1 z46.2.2.2.2.1 z46.2.2.2.2.2.1 z46.2.2.2.2.2.2.1 z46.2.2.2.2.2.2.2.1 z46.2.2.2.2.2.2.2.2.1 z46.2.2.2.2.2.2.2.2.2.1 z46.2.2.2.2.2.2.2.2.2.2) ((0 : Int32), o21.2.1, o21.2.2.1, o21.2.2.2.1, o21.2.2.2.2.1, v13, o21.2.2.2.2.2, g15, g16, g17, g18)).bind fun o46 => k33 (o46.1, o46.2.1, o46.2.2.1, o46.2.2.2.1, o46.2.2.2.2.1, o46.2.2.2.2.2.1, o46.2.2.2.2.2.2.1, o46.2.2.2.2.2.2.2.1, o46.2.2.2.2.2.2.2.2.1, o46.2.2.2.2.2.2.2.2.2))))) z19.1 z19.2.1 z19.2.2.1 z19.2.2.2.1 z19.2.2.2.2.1 z19.2.2.2.2.2.1 z19.2.2.2.2.2.2.1 z19.2.2.2.2.2.2.2.1 z19.2.2.2.2.2.2.2.2.1 z19.2.2.2.2.2.2.2.2.2.1 z19.2.2.2.2.2.2.2.2.2.2) ((0 : Int32), mb, mc, mh, ml, mean, ct, line, one, rM, work)) (lf_X8_codePart_X1 cc (nI (8 * (start + len))) ch cl cp nn cy on ze lC mC sC p2 p3) (fun o k => ∃ td : Nat → TD, (∀ t, t < tiles → tdP (8 * t) y (td t) k.2.2.2.2.2.2.1 k.2.2.2.2.2.2.2.1 k.2.2.2.2.2.2.2.2) ∧ o.2.2.2.2.2.2.2.2.1 = dS y step td rM tiles) := by
  subst e2 e3
  unfold lf_X8_codePart_X1
  refine Ok2.rbnd ?_
  rw [show nI slice * (8 : Int32) = nI y from by rw [ey]; (first | (simp (disch := omega) only [lI0, lI1, lI2, lI3, lI4, lI5, lI7, lI8, lI9, lI10, lI11, lI12, lI15, lI16, lI17, lI20, lI24, lI32, lI33, lI40, lI63, lI64, lI80, lI82, lI101, lI110, lI115, lI251, lI255, lI256, lI384, lI16384, lI20000, lI32768, lI49152, lI65535, nI_add, pk_mul, pk_sub, pk_div] <;> (apply congrArg nI; omega)) | rfl)]
  refine Ok2.rbs ?_ (fun _ => rfl)
  refine Ok2.fix (fun k x z => x.1 = nI (8 * k) ∧ z.1 = nI k ∧ RR start len (B + 13000 * k) x.2.1 x.2.2.1 x.2.2.2.1 x.2.2.2.2.1 x.2.2.2.2.2.2.1 z.2.1 z.2.2.1 z.2.2.2.1 z.2.2.2.2.1 z.2.2.2.2.2.1 z.2.2.2.2.2.2.1 ∧ ∃ td : Nat → TD, (∀ t, t < k → tdP (8 * t) y (td t) z.2.2.2.2.2.2.2.1 z.2.2.2.2.2.2.2.2.1 z.2.2.2.2.2.2.2.2.2) ∧ x.2.2.2.2.2.2.2.2.2.1 = dS y step td rM k) tiles (by omega) ⟨rfl, rfl, h, fun _ => (0, fun _ => 0, fun _ _ _ => 0), fun t ht => absurd ht (by omega), rfl⟩ ?_
  rintro k ⟨x8, v9, v10, v11, v12, v13, g14, g15, g16, g17, g18⟩ ⟨z2, z3, z4, z5, z6, z7, z8, z9, z10, z11⟩ s1 s2 hk ⟨h1, h2, hR, td, htd, hres⟩ K
  dsimp only at h1 h2 hR htd hres ⊢
  subst h1 h2
  by_cases hc : k < tiles
  · refine Ok2.lneg (by simp (disch := omega) only [lI0, lI1, lI2, lI3, lI4, lI5, lI7, lI8, lI9, lI10, lI11, lI12, lI15, lI16, lI17, lI20, lI24, lI32, lI33, lI40, lI63, lI64, lI80, lI82, lI101, lI110, lI115, lI251, lI255, lI256, lI384, lI16384, lI20000, lI32768, lI49152, lI65535, nI_add, pk_mul, pk_sub, pk_div, nI_leI, nI_ltI, nI_eq] <;> omega) (Ok2.rneg (by simp (disch := omega) only [lI0, lI1, lI2, lI3, lI4, lI5, lI7, lI8, lI9, lI10, lI11, lI12, lI15, lI16, lI17, lI20, lI24, lI32, lI33, lI40, lI63, lI64, lI80, lI82, lI101, lI110, lI115, lI251, lI255, lI256, lI384, lI16384, lI20000, lI32768, lI49152, lI65535, nI_add, pk_mul, pk_sub, pk_div, nI_leI, nI_ltI, nI_eq] <;> omega) (Ok2.rbnd ?_))
    rw [show nI k * (8 : Int32) = nI (8 * k) from (by first | (simp (disch := omega) only [lI0, lI1, lI2, lI3, lI4, lI5, lI7, lI8, lI9, lI10, lI11, lI12, lI15, lI16, lI17, lI20, lI24, lI32, lI33, lI40, lI63, lI64, lI80, lI82, lI101, lI110, lI115, lI251, lI255, lI256, lI384, lI16384, lI20000, lI32768, lI49152, lI65535, nI_add, pk_mul, pk_sub, pk_div] <;> (apply congrArg nI; omega)) | rfl)]
    refine Ok2.rE _ (eq_X4_sizeAt rfl rfl (by omega) (by omega)) ?_
    refine Ok2.rjn (fun _ => True) (fun kk hkk => ?_) ?_
    · rcases szN_or z11 (8 * k) y with e | e
      · rw [e]
        exact Ok2.rpos rfl (hkk _ trivial)
      · rw [e]
        exact Ok2.rneg (by decide) (hkk _ trivial)
    intro sb _
    have hR1 : RR start len (B + 13000 * k) v9 v10 v11 v12 g14 z3 z4 z5 z6 z7 z8 := hR
    refine Ok2.bind _ (ok_take (x := 0) (bit := sb) hs hs2 hnn hcy hR1 (by omega) (Or.inl ⟨0, by decide, rfl⟩)) ?_
    rintro ⟨m0, m1, m2, m3, m4, m5⟩ ⟨k0, k1, k2, k3, k4, k5, k6⟩ ⟨v, hv, e1, e2, hR2⟩
    dsimp only at e1 e2 hR2 ⊢
    subst e1 e2
    refine Ok2.rjn (fun s => s = nI (if v = 1 then 4 else 8)) (fun kk hkk => ?_) ?_
    · by_cases h3 : v = 1
      · subst h3
        exact Ok2.rpos rfl (hkk _ rfl)
      · have h4 : v = 0 := by omega
        subst h4
        exact Ok2.rneg (by decide) (hkk _ rfl)
    rintro s rfl
    refine Ok2.rE _ (eq_X4_setSizeAt rfl rfl (by omega) (by omega)) ?_
    refine Ok2.ljnI ?_
    dsimp only
    -- what is to be shown of the tile
    have fin : ∀ (o : Int32 × Int32 × Int32 × Int32 × Int32 × (Nat → Int32) × (Nat → Int32) × (Nat → Int32) × (Nat → Int32) × (Nat → Int32)) (c : Int32 × Int32 × Int32 × Int32 × (Nat → Int32) × (Nat → Int32) × (Nat → Int32) × (Nat → Int32)) (sN : Nat → Int32) (tn : TD), RR start len (B + 13000 * k + 12900) o.1 o.2.1 o.2.2.1 o.2.2.2.1 o.2.2.2.2.2.1 c.1 c.2.1 c.2.2.1 c.2.2.2.1 c.2.2.2.2.1 c.2.2.2.2.2.1 → tdP (8 * k) y tn c.2.2.2.2.2.2.1 c.2.2.2.2.2.2.2 sN → o.2.2.2.2.2.2.2.2.1 = dT (8 * k) y step tn g17 → (∀ px py, px < 16 → ¬ (y ≤ py ∧ py < y + 8 ∧ 8 * k ≤ px ∧ px < 8 * k + 8) → c.2.2.2.2.2.2.1 (16 * py + px) = z9 (16 * py + px)) → (∀ j, ¬ (j / 8 = y / 8 ∧ j % 4 / 2 = 8 * k / 8) → c.2.2.2.2.2.2.2 j = z10 j) → (∀ j, j ≠ 2 * (y / 8) + 8 * k / 8 → sN j = z11 j) →
        Ok2 (s1 (nI (8 * k) + (8 : Int32), o.1, o.2.1, o.2.2.1, o.2.2.2.1, o.2.2.2.2.1, o.2.2.2.2.2.1, o.2.2.2.2.2.2.1, o.2.2.2.2.2.2.2.1, o.2.2.2.2.2.2.2.2.1, o.2.2.2.2.2.2.2.2.2)) (s2 (nI k + (1 : Int32), c.1, c.2.1, c.2.2.1, c.2.2.2.1, c.2.2.2.2.1, c.2.2.2.2.2.1, c.2.2.2.2.2.2.1, c.2.2.2.2.2.2.2, sN)) (fun o k => ∃ td : Nat → TD, (∀ t, t < tiles → tdP (8 * t) y (td t) k.2.2.2.2.2.2.1 k.2.2.2.2.2.2.2.1 k.2.2.2.2.2.2.2.2) ∧ o.2.2.2.2.2.2.2.2.1 = dS y step td rM tiles) := by
      intro o c sN tn a1 a2 a3 a4 a5 a6
      refine K _ _ hc ⟨(by first | (simp (disch := omega) only [lI0, lI1, lI2, lI3, lI4, lI5, lI7, lI8, lI9, lI10, lI11, lI12, lI15, lI16, lI17, lI20, lI24, lI32, lI33, lI40, lI63, lI64, lI80, lI82, lI101, lI110, lI115, lI251, lI255, lI256, lI384, lI16384, lI20000, lI32768, lI49152, lI65535, nI_add, pk_mul, pk_sub, pk_div] <;> (apply congrArg nI; omega)) | rfl), (by first | (simp (disch := omega) only [lI0, lI1, lI2, lI3, lI4, lI5, lI7, lI8, lI9, lI10, lI11, lI12, lI15, lI16, lI17, lI20, lI24, lI32, lI33, lI40, lI63, lI64, lI80, lI82, lI101, lI110, lI115, lI251, lI255, lI256, lI384, lI16384, lI20000, lI32768, lI49152, lI65535, nI_add, pk_mul, pk_sub, pk_div] <;> (apply congrArg nI; omega)) | rfl), RR_mono a1 (by omega), fun t => if t = k then tn else td t, fun t ht => ?_, ?_⟩
      · dsimp only
        by_cases h5 : t = k
        · subst h5
          rw [if_pos rfl]
          exact a2
        · rw [if_neg h5]
          exact tdP_keep (X := 8 * k) (Y := y) (by omega) (by omega) (by omega) (by omega) (by omega) (by omega) (by omega) (htd t (by omega)) a4 a5 a6
      · show o.2.2.2.2.2.2.2.2.1 = dT (8 * k) y step (if k = k then tn else td k) (dS y step (fun t => if t = k then tn else td t) rM k)
        rw [if_pos rfl, a3, hres, dS_congr k (fun i hi => (if_neg (by omega) : (if i = k then tn else td i) = td i))]
    have hszt : ∀ (n : Nat), (n = 4 ∨ n = 8) → ∀ r c, r < 8 → c < 8 → szN (upd z11 (2 * (y / 8) + 8 * k / 8) (nI n)) (8 * k + c) (y + r) = n := fun n hn r c hr hc => szN_at (x := 8 * k) (by omega) (by omega) hr hc hn
    by_cases h3 : v = 1
    · subst h3
      refine Ok2.lneg (by decide) ?_
      obtain ⟨f, f0, f1, f2, f3⟩ := ok_four (M0 := (m1, m2, m3, m4, v13, m5, g15, g16, g17, g18)) (C0 := (k1, k2, k3, k4, k5, k6, z9, z10)) (x := 8 * k) (y := y) (step := step) (sC := upd z11 (2 * (y / 8) + 8 * k / 8) (nI 4)) (by omega) (by omega) (by omega) (by omega) (hszt 4 (Or.inl rfl)) hs hs2 hnn hcy hR2 (by omega)
      refine Ok2.l (fun o => o = (f 4).1) (Ok.fix (fun i z => z = (nI i, (f i).1)) 4 (by omega) (by rw [f0]; rfl) ?_) ?_
      · rintro i z self hi rfl K2
        by_cases hci : i < 4
        · refine Ok.neg (show ¬ (4 : Int32) ≤ nI i from (by simp (disch := omega) only [lI0, lI1, lI2, lI3, lI4, lI5, lI7, lI8, lI9, lI10, lI11, lI12, lI15, lI16, lI17, lI20, lI24, lI32, lI33, lI40, lI63, lI64, lI80, lI82, lI101, lI110, lI115, lI251, lI255, lI256, lI384, lI16384, lI20000, lI32768, lI49152, lI65535, nI_add, pk_mul, pk_sub, pk_div, nI_leI, nI_ltI, nI_eq] <;> omega)) ?_
          dsimp only
          rw [show nI (8 * k) + (nI i - nI i / (2 : Int32) * (2 : Int32)) * (4 : Int32) = nI (bX 2 2 (8 * k) i) from by rw [bX2]; (first | (simp (disch := omega) only [lI0, lI1, lI2, lI3, lI4, lI5, lI7, lI8, lI9, lI10, lI11, lI12, lI15, lI16, lI17, lI20, lI24, lI32, lI33, lI40, lI63, lI64, lI80, lI82, lI101, lI110, lI115, lI251, lI255, lI256, lI384, lI16384, lI20000, lI32768, lI49152, lI65535, nI_add, pk_mul, pk_sub, pk_div] <;> (apply congrArg nI; omega)) | rfl), show nI y + nI i / (2 : Int32) * (4 : Int32) = nI (bY 2 2 y i) from by rw [bY2]; (first | (simp (disch := omega) only [lI0, lI1, lI2, lI3, lI4, lI5, lI7, lI8, lI9, lI10, lI11, lI12, lI15, lI16, lI17, lI20, lI24, lI32, lI33, lI40, lI63, lI64, lI80, lI82, lI101, lI110, lI115, lI251, lI255, lI256, lI384, lI16384, lI20000, lI32768, lI49152, lI65535, nI_add, pk_mul, pk_sub, pk_div] <;> (apply congrArg nI; omega)) | rfl)]
          refine Ok.bindE _ (f2 i hci).1 (Ok.bnd ?_)
          rw [nI_1]
          exact K2 _ hci rfl
        · have hi2 : i = 4 := by omega
          subst hi2
          exact Ok.pos (show (4 : Int32) ≤ nI 4 by decide) (Ok.some rfl)
      rintro o rfl
      refine Ok2.lbnd ?_
      refine Ok2.r (fun c => c = (f 4).2.1) (Ok.fix (fun i z => z = (nI (4 * i), (f (2 * i)).2.1)) 2 (by omega) (by rw [Nat.mul_zero, f1]; rfl) ?_) ?_
      · rintro i z self hi rfl K2
        by_cases hci : i < 2
        · refine Ok.neg (show ¬ (8 : Int32) ≤ nI (4 * i) from (by simp (disch := omega) only [lI0, lI1, lI2, lI3, lI4, lI5, lI7, lI8, lI9, lI10, lI11, lI12, lI15, lI16, lI17, lI20, lI24, lI32, lI33, lI40, lI63, lI64, lI80, lI82, lI101, lI110, lI115, lI251, lI255, lI256, lI384, lI16384, lI20000, lI32768, lI49152, lI65535, nI_add, pk_mul, pk_sub, pk_div, nI_leI, nI_ltI, nI_eq] <;> omega)) (Ok.bind (fun c => c = (f (2 * (i + 1))).2.1) (Ok.fix (fun q z => z = (nI (4 * q), (f (2 * i + q)).2.1)) 2 (by omega) rfl ?_) ?_)
          · rintro q z self hq rfl K3
            by_cases hcq : q < 2
            · refine Ok.neg (show ¬ (8 : Int32) ≤ nI (4 * q) from (by simp (disch := omega) only [lI0, lI1, lI2, lI3, lI4, lI5, lI7, lI8, lI9, lI10, lI11, lI12, lI15, lI16, lI17, lI20, lI24, lI32, lI33, lI40, lI63, lI64, lI80, lI82, lI101, lI110, lI115, lI251, lI255, lI256, lI384, lI16384, lI20000, lI32768, lI49152, lI65535, nI_add, pk_mul, pk_sub, pk_div, nI_leI, nI_ltI, nI_eq] <;> omega)) ?_
              dsimp only
              rw [show nI (8 * k) + nI (4 * q) = nI (bX 2 2 (8 * k) (2 * i + q)) from by rw [bX2]; (first | (simp (disch := omega) only [lI0, lI1, lI2, lI3, lI4, lI5, lI7, lI8, lI9, lI10, lI11, lI12, lI15, lI16, lI17, lI20, lI24, lI32, lI33, lI40, lI63, lI64, lI80, lI82, lI101, lI110, lI115, lI251, lI255, lI256, lI384, lI16384, lI20000, lI32768, lI49152, lI65535, nI_add, pk_mul, pk_sub, pk_div] <;> (apply congrArg nI; omega)) | rfl), show nI y + nI (4 * i) = nI (bY 2 2 y (2 * i + q)) from by rw [bY2]; (first | (simp (disch := omega) only [lI0, lI1, lI2, lI3, lI4, lI5, lI7, lI8, lI9, lI10, lI11, lI12, lI15, lI16, lI17, lI20, lI24, lI32, lI33, lI40, lI63, lI64, lI80, lI82, lI101, lI110, lI115, lI251, lI255, lI256, lI384, lI16384, lI20000, lI32768, lI49152, lI65535, nI_add, pk_mul, pk_sub, pk_div] <;> (apply congrArg nI; omega)) | rfl)]
              refine Ok.bindE _ (f2 (2 * i + q) (by omega)).2.1 (Ok.bnd ?_)
              rw [show nI (4 * q) + nI (if 1 = 1 then 4 else 8) = nI (4 * (q + 1)) from nI_add _ _]
              exact K3 _ hcq rfl
            · have hq2 : q = 2 := by omega
              subst hq2
              exact Ok.pos (show (8 : Int32) ≤ nI (4 * 2) by decide) (Ok.some rfl)
          · rintro c rfl
            refine Ok.bnd ?_
            rw [show nI (4 * i) + nI (if 1 = 1 then 4 else 8) = nI (4 * (i + 1)) from nI_add _ _]
            exact K2 _ hci rfl
        · have hi2 : i = 2 := by omega
          subst hi2
          exact Ok.pos (show (8 : Int32) ≤ nI (4 * 2) by decide) (Ok.some rfl)
      rintro c rfl
      refine Ok2.rbnd (fin _ _ _ (2, fun q => (f (q + 1)).2.2.1, fun q => (f (q + 1)).2.2.2) (RR_mono f3 (by omega)) ?_ ?_ ?_ ?_ (fun j hj => upd_ne hj))
      · refine ⟨2, Or.inl ⟨rfl, rfl⟩, hszt 4 (Or.inl rfl) 0 0 (by omega) (by omega), fun q hq => ⟨(f2 q hq).2.2.1, ?_, fun r c hr hc => ?_⟩⟩
        · have h6 := sq_atB (x := 8 * k) (y := y) (f := fun q => (f q).2.1.2.2.2.2.2.2.2) (v := fun q => nI (f (q + 1)).2.2.1) (by omega) (by omega) (by omega) (fun q hq => (f2 q hq).2.2.2.1) (r := 4 * (q / 2)) (c := 4 * (q % 2)) (by omega) (by omega) 4 (by omega) (by omega)
          rw [show 2 * (4 * (q / 2) / 4) + 4 * (q % 2) / 4 = q from by omega] at h6
          exact h6
        · have hr4 : r < 4 := hr
          have hc4 : c < 4 := hc
          have h6 := seq_atB (x := 8 * k) (y := y) (f := fun q => (f q).2.1.2.2.2.2.2.2.1) (w := fun q => (f (q + 1)).2.2.2) (by omega) (fun q hq => (f2 q hq).2.2.2.2.1) (r := 4 * (q / 2) + r) (c := 4 * (q % 2) + c) (by omega) (by omega) 4 (by omega) (by omega)
          rw [show 2 * ((4 * (q / 2) + r) / 4) + (4 * (q % 2) + c) / 4 = q from by omega, show (4 * (q / 2) + r) % 4 = r from by omega, show (4 * (q % 2) + c) % 4 = c from by omega] at h6
          show (f 4).2.1.2.2.2.2.2.2.1 (16 * (bY 2 2 y q + r) + (bX 2 2 (8 * k) q + c)) = (f (q + 1)).2.2.2 r c
          rw [bX2, bY2, ← h6]
          exact congrArg _ (by omega)
      · have h6 : ∀ q, q ≤ 4 → (f q).1.2.2.2.2.2.2.2.2.1 = dTq 2 2 (8 * k) y step (fun q => (f (q + 1)).2.2.1) (fun q => (f (q + 1)).2.2.2) g17 q := by
          intro q
          induction q with
          | zero =>
            intro _
            rw [f0]
            rfl
          | succ q ih =>
            intro hq
            rw [(f2 q (by omega)).2.2.2.2.2, ih (by omega)]
            rfl
        exact h6 4 (Nat.le_refl _)
      · intro px py hp hn
        have h6 := seq_offB (x := 8 * k) (y := y) (f := fun q => (f q).2.1.2.2.2.2.2.2.1) (w := fun q => (f (q + 1)).2.2.2) (fun q hq => (f2 q hq).2.2.2.2.1) hp hn 4 (by omega)
        rw [h6, f1]
      · intro j hj
        have h6 := sq_offB (x := 8 * k) (y := y) (f := fun q => (f q).2.1.2.2.2.2.2.2.2) (v := fun q => nI (f (q + 1)).2.2.1) (by omega) (by omega) (by omega) (fun q hq => (f2 q hq).2.2.2.1) hj 4 (by omega)
        rw [h6, f1]
    · have h4 : v = 0 := by omega
      subst h4
      refine Ok2.lpos (by decide) ?_
      obtain ⟨om, oc, em, ec, hR3, m, lv, g1, g2, g3, g4⟩ := ok_blockR (K := 3) (n := 8) (mean := v13) (line := g15) (one := g16) (rM := g17) (work := g18) (lC := z9) (mC := z10) (sC := upd z11 (2 * (y / 8) + 8 * k / 8) (nI 8)) (step := step) (top := y) (x := 8 * k) (y := y) (rfl : nI (8 * k) = _) (rfl : nI y = _) (rfl : nI 8 = _) (rfl : nI y = _) rfl (by decide) (Or.inr rfl) (by omega) (by omega) (by omega) (by omega) (hszt 8 (Or.inr rfl) 0 0 (by omega) (by omega)) hs hs2 hnn hcy hR2 (by omega)
      refine Ok2.lE _ em (Ok2.lbnd ?_)
      refine Ok2.r (fun c => c = oc) (Ok.fix (fun i z => (i = 0 ∧ z = ((0 : Int32), k1, k2, k3, k4, k5, k6, z9, z10)) ∨ (i = 1 ∧ z = (nI 8, oc))) 1 (by omega) (Or.inl ⟨rfl, rfl⟩) ?_) ?_
      · rintro i z self hi hz KK
        rcases hz with ⟨rfl, rfl⟩ | ⟨rfl, rfl⟩
        · refine Ok.neg (show ¬ (8 : Int32) ≤ 0 by decide) (Ok.bind (fun c => c = oc) (Ok.fix (fun i z => (i = 0 ∧ z = ((0 : Int32), k1, k2, k3, k4, k5, k6, z9, z10)) ∨ (i = 1 ∧ z = (nI 8, oc))) 1 (by omega) (Or.inl ⟨rfl, rfl⟩) ?_) ?_)
          · rintro i z self hi hz K3
            rcases hz with ⟨rfl, rfl⟩ | ⟨rfl, rfl⟩
            · refine Ok.neg (show ¬ (8 : Int32) ≤ 0 by decide) ?_
              dsimp only
              rw [Int32.add_zero, Int32.add_zero]
              exact Ok.bindE _ ec (Ok.bnd (K3 _ (by decide) (Or.inr ⟨rfl, rfl⟩)))
            · exact Ok.pos (show (8 : Int32) ≤ nI 8 by decide) (Ok.some rfl)
          · rintro c rfl
            exact Ok.bnd (KK _ (by decide) (Or.inr ⟨rfl, rfl⟩))
        · exact Ok.pos (show (8 : Int32) ≤ nI 8 by decide) (Ok.some rfl)
      rintro c rfl
      refine Ok2.rbnd (fin om c _ (3, fun _ => m, fun _ => lv) (RR_mono hR3 (by omega)) ⟨1, Or.inr ⟨rfl, rfl⟩, hszt 8 (Or.inr rfl) 0 0 (by omega) (by omega), fun q hq => ?_⟩ ?_ ?_ ?_ (fun j hj => upd_ne hj))
      · have hq0 : q = 0 := by omega
        subst hq0
        refine ⟨g1, ?_, fun r c hr hc => ?_⟩
        · rw [g2]
          exact upd_eq
        · rw [g3]
          exact put_at (x := 8 * k) (by omega) hr hc
      · exact g4
      · intro px py hp hn
        rw [g3, put_off hp hn]
      · intro j hj
        rw [g2, upd_ne (cell_in (by omega) (by omega) (by omega) hj)]
  · have hk2 : k = tiles := by omega
    subst hk2
    exact Ok2.lpos (by simp (disch := omega) only [lI0, lI1, lI2, lI3, lI4, lI5, lI7, lI8, lI9, lI10, lI11, lI12, lI15, lI16, lI17, lI20, lI24, lI32, lI33, lI40, lI63, lI64, lI80, lI82, lI101, lI110, lI115, lI251, lI255, lI256, lI384, lI16384, lI20000, lI32768, lI49152, lI65535, nI_add, pk_mul, pk_sub, pk_div, nI_leI, nI_ltI, nI_eq] <;> omega) (Ok2.rpos (by simp (disch := omega) only [lI0, lI1, lI2, lI3, lI4, lI5, lI7, lI8, lI9, lI10, lI11, lI12, lI15, lI16, lI17, lI20, lI24, lI32, lI33, lI40, lI63, lI64, lI80, lI82, lI101, lI110, lI115, lI251, lI255, lI256, lI384, lI16384, lI20000, lI32768, lI49152, lI65535, nI_add, pk_mul, pk_sub, pk_div, nI_leI, nI_ltI, nI_eq] <;> omega) (Ok2.some ⟨td, htd, hres⟩))
