/-! ===== a part, on both sides ===== -/
theorem Ok2.rbs {α β : Type} {a : Option α} {b : Option β} {k : β → Option β} {R : α → β → Prop} (h : Ok2 a b R) (hk : ∀ x, k x = Option.some x) : Ok2 a (b.bind k) R := by
  obtain ⟨x, y, rfl, rfl, h⟩ := h
  exact ⟨x, y, rfl, hk y, h⟩
theorem Ok2.ljnI {φ β γ : Type} {K : φ → Option β} {B : (φ → Option β) → Option β} {d : Option γ} {R : β → γ → Prop} (h : Ok2 (B K) d R) : Ok2 (jn K B) d R := h
/-- a pixel of a slice: alike, small, with a mode -/
def pxG (l px py : Nat) (lC mC cC sC lM mM cM sM : Nat → Int32) : Prop :=
  pxR l px py lC mC cC sC lM mM cM sM ∧ (-2047 ≤ (lC (16 * py + px)).toInt ∧ (lC (16 * py + px)).toInt ≤ 2047) ∧ ∃ m, m < 4 ∧ mC (cellN (szN sC px py) px py) = nI m
theorem WR_start {start : Nat} {s0 ct by1 on ze : Nat → Int32} (hc : ∀ k, k < 40 → ct k = 1) (ho : ∀ k, k < 20 → on k = 1) (hz : ∀ k, k < 20 → ze k = 1) : WR start 0 s0 0 65535 0 0 ct s0 0 65535 0 0 by1 on ze :=
  ⟨0, 65535, 0, 0, rfl, rfl, rfl, rfl, rfl, rfl, rfl, rfl, by unfold cI; omega, fun c hc2 => ⟨1, 1, hc _ (by omega), hc _ (by omega), hz c hc2, ho c hc2, by decide, by decide, by decide⟩, fun j hj => absurd hj (by omega), fun j _ => rfl, by decide⟩
theorem szN_tile {sC : Nat → Int32} {px py qx qy : Nat} (h : 2 * (py / 8) + px / 8 = 2 * (qy / 8) + qx / 8) : szN sC px py = szN sC qx qy := by
  unfold szN
  rw [h]
set_option maxHeartbeats 4000000 in
theorem ok_codePart {start B w l slice y tiles : Nat} {s0 : Nat → Int32} {mb mh ml mp siz : Int32} {ct st by1 on ze : Nat → Int32} {cb ch cl cp : Int32} {lM mM cM sM one lC mC cC sC : Nat → Int32} {p2 p3 : Int32} (e2 : p2 = nI slice) (e3 : p3 = nI tiles) (ey : y = 8 * slice) (et : tiles = (w + 7) / 8) (hw1 : 1 ≤ w) (hw2 : w ≤ 16) (hl : l < 3) (hsl : slice < 3) (est : siz + (3 : Int32) = nI start)
    (hs : start + 2048 ≤ 20000) (h : WR start B s0 mb mh ml mp ct st cb ch cl cp by1 on ze) (hB : B + 7167 * tiles + 130 < 16384) (hpx : ∀ px r, px < 8 * tiles → r < 8 → pxG l px (y + r) lC mC cC sC lM mM cM sM) (hsC : ∀ t, t < tiles → sC (2 * (y / 8) + t) = nI (szN sC (8 * t) y)) :
    Ok2 (fixN FUEL (fun (self11 : (Int32 × Int32 × Int32 × Int32 × Int32 × (Nat → Int32) × (Nat → Int32) × (Nat → Int32)) → Option (Int32 × Int32 × Int32 × Int32 × (Nat → Int32) × (Nat → Int32) × (Nat → Int32))) (z11 : Int32 × Int32 × Int32 × Int32 × Int32 × (Nat → Int32) × (Nat → Int32) × (Nat → Int32)) => (fun (x3 : Int32) (v4 : Int32) (v5 : Int32) (v6 : Int32) (v7 : Int32) (g8 : (Nat → Int32)) (g9 : (Nat → Int32)) (g10 : (Nat → Int32)) => (if (nI w) ≤ x3 then some (v4, v5, v6, v7, g8, g9, g10) else (rdA 1152 sM ((((384 : Int32) * (nI l)) + ((16 : Int32) * (nI y))) + x3)).bind fun x13 => jn (fun (z16 : Int32) => (fun (s15 : Int32) => (lf_X9_put v4 v5 v6 v7 (siz + (3 : Int32)) g8 g10 (0 : Int32) s15).bind fun o17 => jn (fun (z26 : Int32 × Int32 × Int32 × Int32 × (Nat → Int32) × (Nat → Int32) × (Nat → Int32)) => (fun (v19 : Int32) (v20 : Int32) (v21 : Int32) (v22 : Int32) (g23 : (Nat → Int32)) (g24 : (Nat → Int32)) (g25 : (Nat → Int32)) => bnd (x3 + (8 : Int32)) fun x27 => self11 (x27, v19, v20, v21, v22, g23, g24, g25)) z26.1 z26.2.1 z26.2.2.1 z26.2.2.2.1 z26.2.2.2.2.1 z26.2.2.2.2.2.1 z26.2.2.2.2.2.2) (fun k26 => (if x13 = (8 : Int32) then (lf_X9_putBlock o17.1 o17.2.1 o17.2.2.1 o17.2.2.2.1 (siz + (3 : Int32)) o17.2.2.2.2.1 lM mM g9 o17.2.2.2.2.2 (nI l) x3 (nI y) (8 : Int32)).bind fun o40 => k26 (o40.1, o40.2.1, o40.2.2.1, o40.2.2.2.1, o40.2.2.2.2.1, o40.2.2.2.2.2.1, o40.2.2.2.2.2.2) else (fixN FUEL (fun (self36 : (Int32 × Int32 × Int32 × Int32 × Int32 × (Nat → Int32) × (Nat → Int32) × (Nat → Int32)) → Option (Int32 × Int32 × Int32 × Int32 × (Nat → Int32) × (Nat → Int32) × (Nat → Int32))) (z36 : Int32 × Int32 × Int32 × Int32 × Int32 × (Nat → Int32) × (Nat → Int32) × (Nat → Int32)) => (fun (x28 : Int32) (v29 : Int32) (v30 : Int32) (v31 : Int32) (v32 : Int32) (g33 : (Nat → Int32)) (g34 : (Nat → Int32)) (g35 : (Nat → Int32)) => (if (4 : Int32) ≤ x28 then some (v29, v30, v31, v32, g33, g34, g35) else (lf_X9_putBlock v29 v30 v31 v32 (siz + (3 : Int32)) g33 lM mM g34 g35 (nI l) (x3 + ((x28 - x28 / (2 : Int32) * (2 : Int32)) * (4 : Int32))) ((nI y) + ((x28 / (2 : Int32)) * (4 : Int32))) (4 : Int32)).bind fun o38 => bnd (x28 + (1 : Int32)) fun x39 => self36 (x39, o38.1, o38.2.1, o38.2.2.1, o38.2.2.2.1, o38.2.2.2.2.1, o38.2.2.2.2.2.1, o38.2.2.2.2.2.2))) z36.1 z36.2.1 z36.2.2.1 z36.2.2.2.1 z36.2.2.2.2.1 z36.2.2.2.2.2.1 z36.2.2.2.2.2.2.1 z36.2.2.2.2.2.2.2) ((0 : Int32), o17.1, o17.2.1, o17.2.2.1, o17.2.2.2.1, o17.2.2.2.2.1, g9, o17.2.2.2.2.2)).bind fun o36 => k26 (o36.1, o36.2.1, o36.2.2.1, o36.2.2.2.1, o36.2.2.2.2.1, o36.2.2.2.2.2.1, o36.2.2.2.2.2.2)))) z16) (fun k16 => (if x13 = (4 : Int32) then k16 (1 : Int32) else k16 (0 : Int32))))) z11.1 z11.2.1 z11.2.2.1 z11.2.2.2.1 z11.2.2.2.2.1 z11.2.2.2.2.2.1 z11.2.2.2.2.2.2.1 z11.2.2.2.2.2.2.2) ((0 : Int32), mb, mh, ml, mp, ct, one, st)) (lf_X8_codePart_X2 cb ch cl cp by1 on ze lC mC sC p2 p3) (fun o k => WR start (B + 7167 * tiles) s0 o.1 o.2.1 o.2.2.1 o.2.2.2.1 o.2.2.2.2.1 o.2.2.2.2.2.2 k.1 k.2.1 k.2.2.1 k.2.2.2.1 k.2.2.2.2.1 k.2.2.2.2.2.1 k.2.2.2.2.2.2.1 ∧ k.2.2.2.2.2.2.2.1 = lC ∧ k.2.2.2.2.2.2.2.2.1 = mC ∧ k.2.2.2.2.2.2.2.2.2 = sC) := by
  subst e2 e3
  rw [est]
  unfold lf_X8_codePart_X2
  refine Ok2.rbnd ?_
  rw [show nI slice * (8 : Int32) = nI y from by rw [ey]; (first | (simp (disch := omega) only [lI0, lI1, lI2, lI3, lI4, lI5, lI7, lI8, lI9, lI10, lI11, lI12, lI15, lI16, lI17, lI20, lI24, lI32, lI33, lI40, lI63, lI64, lI80, lI82, lI101, lI110, lI115, lI251, lI255, lI256, lI384, lI16384, lI20000, lI32768, lI49152, lI65535, nI_add, pk_mul, pk_sub, pk_div] <;> (apply congrArg nI; omega)) | rfl)]
  refine Ok2.rbs ?_ (fun _ => rfl)
  refine Ok2.fix (fun k x z => x.1 = nI (8 * k) ∧ z.1 = nI k ∧ WR start (B + 7167 * k) s0 x.2.1 x.2.2.1 x.2.2.2.1 x.2.2.2.2.1 x.2.2.2.2.2.1 x.2.2.2.2.2.2.2 z.2.1 z.2.2.1 z.2.2.2.1 z.2.2.2.2.1 z.2.2.2.2.2.1 z.2.2.2.2.2.2.1 z.2.2.2.2.2.2.2.1 ∧ z.2.2.2.2.2.2.2.2.1 = lC ∧ z.2.2.2.2.2.2.2.2.2.1 = mC ∧ z.2.2.2.2.2.2.2.2.2.2 = sC) tiles (by omega) ⟨rfl, rfl, h, rfl, rfl, rfl⟩ ?_
  rintro k ⟨x3, v4, v5, v6, v7, g8, g9, g10⟩ ⟨z2, z3, z4, z5, z6, z7, z8, z9, z10, z11, z12⟩ s1 s2 hk ⟨h1, h2, hw3, h3, h4, h5⟩ K
  dsimp only at h1 h2 h3 h4 h5 hw3 ⊢
  subst h1 h2 h3 h4 h5
  by_cases hc : k < tiles
  · refine Ok2.lneg (by simp (disch := omega) only [lI0, lI1, lI2, lI3, lI4, lI5, lI7, lI8, lI9, lI10, lI11, lI12, lI15, lI16, lI17, lI20, lI24, lI32, lI33, lI40, lI63, lI64, lI80, lI82, lI101, lI110, lI115, lI251, lI255, lI256, lI384, lI16384, lI20000, lI32768, lI49152, lI65535, nI_add, pk_mul, pk_sub, pk_div, nI_leI, nI_ltI, nI_eq] <;> omega) (Ok2.rneg (by simp (disch := omega) only [lI0, lI1, lI2, lI3, lI4, lI5, lI7, lI8, lI9, lI10, lI11, lI12, lI15, lI16, lI17, lI20, lI24, lI32, lI33, lI40, lI63, lI64, lI80, lI82, lI101, lI110, lI115, lI251, lI255, lI256, lI384, lI16384, lI20000, lI32768, lI49152, lI65535, nI_add, pk_mul, pk_sub, pk_div, nI_leI, nI_ltI, nI_eq] <;> omega) (Ok2.rbnd ?_))
    rw [show nI k * (8 : Int32) = nI (8 * k) from (by first | (simp (disch := omega) only [lI0, lI1, lI2, lI3, lI4, lI5, lI7, lI8, lI9, lI10, lI11, lI12, lI15, lI16, lI17, lI20, lI24, lI32, lI33, lI40, lI63, lI64, lI80, lI82, lI101, lI110, lI115, lI251, lI255, lI256, lI384, lI16384, lI20000, lI32768, lI49152, lI65535, nI_add, pk_mul, pk_sub, pk_div] <;> (apply congrArg nI; omega)) | rfl)]
    obtain ⟨⟨p1, p2, p3, p4⟩, p5, mm, p6, p7⟩ := hpx (8 * k) 0 (by omega) (by omega)
    rw [Nat.add_zero] at p1 p2 p3 p4 p5 p7
    have hsz := szN_or z12 (8 * k) y
    have hszp : ∀ px r, px / 8 = k → r < 8 → szN z12 px (y + r) = szN z12 (8 * k) y := fun px r h1 h2 => szN_tile (by omega)
    have hsC2 := hsC k hc
    refine Ok2.lrd (384 * l + (16 * y + 8 * k)) (by first | (simp (disch := omega) only [lI0, lI1, lI2, lI3, lI4, lI5, lI7, lI8, lI9, lI10, lI11, lI12, lI15, lI16, lI17, lI20, lI24, lI32, lI33, lI40, lI63, lI64, lI80, lI82, lI101, lI110, lI115, lI251, lI255, lI256, lI384, lI16384, lI20000, lI32768, lI49152, lI65535, nI_add, pk_mul, pk_sub, pk_div] <;> (apply congrArg nI; omega)) | rfl) (by omega) (by decide) ?_
    rw [p2]
    refine Ok2.rE _ (eq_X4_sizeAt rfl rfl (by omega) (by omega)) ?_
    generalize hszg : szN z12 (8 * k) y = sz at hsz hszp hsC2 p2 p3 p4 p7
    refine Ok2.ljn (fun s => s = nI (if sz = 4 then 1 else 0)) (fun kk hkk => ?_) ?_
    · rcases hsz with e | e
      · subst e
        exact Ok2.lpos rfl (hkk _ rfl)
      · subst e
        exact Ok2.lneg (by decide) (hkk _ rfl)
    rintro s rfl
    refine Ok2.rjn (fun s => s = nI (if sz = 4 then 1 else 0)) (fun kk hkk => ?_) ?_
    · rcases hsz with e | e
      · subst e
        exact Ok2.rpos rfl (hkk _ rfl)
      · subst e
        exact Ok2.rneg (by decide) (hkk _ rfl)
    rintro s rfl
    refine Ok2.bind _ (ok_put (v := if sz = 4 then 1 else 0) (x := 0) hs hw3 (by omega) (by split <;> decide) (Or.inl ⟨0, by decide, rfl, rfl⟩)) ?_
    rintro ⟨m1, m2, m3, m4, m5, m6⟩ ⟨k0, k1, k2, k3, k4, k5, k6, k7⟩ ⟨hk0, hw4⟩
    dsimp only at hk0 hw4 ⊢
    subst hk0
    refine Ok2.rjn (fun s => s = nI sz) (fun kk hkk => ?_) ?_
    · rcases hsz with e | e
      · subst e
        exact Ok2.rpos rfl (hkk _ rfl)
      · subst e
        exact Ok2.rneg (by decide) (hkk _ rfl)
    rintro s rfl
    refine Ok2.rE _ (eq_X4_setSizeAt rfl rfl (by omega) (by omega)) ?_
    rw [upd_same (by rw [show 8 * k / 8 = k from by omega]; exact hsC2)]
    -- the blocks
    refine Ok2.ljnI ?_
    dsimp only
    rcases hsz with e | e
    · subst e
      refine Ok2.lneg (by decide) ?_
      refine Ok2.bind (fun o c => WR start (B + 7167 * (k + 1)) s0 o.1 o.2.1 o.2.2.1 o.2.2.2.1 o.2.2.2.2.1 o.2.2.2.2.2.2 c.1 c.2.1 c.2.2.1 c.2.2.2.1 c.2.2.2.2.1 c.2.2.2.2.2.1 c.2.2.2.2.2.2.1 ∧ c.2.2.2.2.2.2.2.1 = z10 ∧ c.2.2.2.2.2.2.2.2 = z11) (Ok2.runs 4 (by decide) (fun y c => y.1 = nI 4 ∧ WR start (B + 7167 * (k + 1)) s0 y.2.1 y.2.2.1 y.2.2.2.1 y.2.2.2.2.1 y.2.2.2.2.2.1 y.2.2.2.2.2.2.2 c.1 c.2.1 c.2.2.1 c.2.2.2.1 c.2.2.2.2.1 c.2.2.2.2.2.1 c.2.2.2.2.2.2.1 ∧ c.2.2.2.2.2.2.2.1 = z10 ∧ c.2.2.2.2.2.2.2.2 = z11) (fun G X hG hX => ?_) ?_) ?_
      · refine Ok.fix (fun i z => z.1 = nI (4 * i) ∧ z.2.2.2.2.2.2.2.2.1 = z10 ∧ z.2.2.2.2.2.2.2.2.2 = z11 ∧ ∃ w, Runs G X w (2 * i) ∧ w.1 = nI (2 * i) ∧ WR start (B + 7167 * k + 7 + 1790 * (2 * i)) s0 w.2.1 w.2.2.1 w.2.2.2.1 w.2.2.2.2.1 w.2.2.2.2.2.1 w.2.2.2.2.2.2.2 z.2.1 z.2.2.1 z.2.2.2.1 z.2.2.2.2.1 z.2.2.2.2.2.1 z.2.2.2.2.2.2.1 z.2.2.2.2.2.2.2.1) 2 (by omega) ⟨rfl, rfl, rfl, X, Runs.rf, by rw [hX]; rfl, by rw [hX]; exact hw4⟩ ?_
        rintro i ⟨y2, y3, y4, y5, y6, y7, y8, y9, y10, y11⟩ self hi ⟨j1, j2, j3, w, hr, j4, hw5⟩ KK
        dsimp only at j1 j2 j3 hw5 ⊢
        subst j1 j2 j3
        by_cases hci : i < 2
        · refine Ok.neg (by simp (disch := omega) only [lI0, lI1, lI2, lI3, lI4, lI5, lI7, lI8, lI9, lI10, lI11, lI12, lI15, lI16, lI17, lI20, lI24, lI32, lI33, lI40, lI63, lI64, lI80, lI82, lI101, lI110, lI115, lI251, lI255, lI256, lI384, lI16384, lI20000, lI32768, lI49152, lI65535, nI_add, pk_mul, pk_sub, pk_div, nI_leI, nI_ltI, nI_eq] <;> omega) (Ok.bind (fun c => c.2.2.2.2.2.2.2.1 = y10 ∧ c.2.2.2.2.2.2.2.2 = y11 ∧ ∃ w, Runs G X w (2 * (i + 1)) ∧ w.1 = nI (2 * (i + 1)) ∧ WR start (B + 7167 * k + 7 + 1790 * (2 * (i + 1))) s0 w.2.1 w.2.2.1 w.2.2.2.1 w.2.2.2.2.1 w.2.2.2.2.2.1 w.2.2.2.2.2.2.2 c.1 c.2.1 c.2.2.1 c.2.2.2.1 c.2.2.2.2.1 c.2.2.2.2.2.1 c.2.2.2.2.2.2.1) (Ok.fix (fun q z => z.1 = nI (4 * q) ∧ z.2.2.2.2.2.2.2.2.1 = y10 ∧ z.2.2.2.2.2.2.2.2.2 = y11 ∧ ∃ w, Runs G X w (2 * i + q) ∧ w.1 = nI (2 * i + q) ∧ WR start (B + 7167 * k + 7 + 1790 * (2 * i + q)) s0 w.2.1 w.2.2.1 w.2.2.2.1 w.2.2.2.2.1 w.2.2.2.2.2.1 w.2.2.2.2.2.2.2 z.2.1 z.2.2.1 z.2.2.2.1 z.2.2.2.2.1 z.2.2.2.2.2.1 z.2.2.2.2.2.2.1 z.2.2.2.2.2.2.2.1) 2 (by omega) ⟨rfl, rfl, rfl, w, hr, j4, hw5⟩ ?_) (fun c hc2 => Ok.bnd (KK _ hci ⟨(by first | (simp (disch := omega) only [lI0, lI1, lI2, lI3, lI4, lI5, lI7, lI8, lI9, lI10, lI11, lI12, lI15, lI16, lI17, lI20, lI24, lI32, lI33, lI40, lI63, lI64, lI80, lI82, lI101, lI110, lI115, lI251, lI255, lI256, lI384, lI16384, lI20000, lI32768, lI49152, lI65535, nI_add, pk_mul, pk_sub, pk_div] <;> (apply congrArg nI; omega)) | rfl), hc2.1, hc2.2⟩)))
          rintro q ⟨a2, a3, a4, a5, a6, a7, a8, a9, a10, a11⟩ self2 hq ⟨j1, j2, j3, ⟨w1, w2, w3, w4, w5, w6, w7, w8⟩, hr2, j5, hw6⟩ K2
          dsimp only at j1 j2 j3 j5 hw6 ⊢
          subst j1 j2 j3 j5
          by_cases hcq : q < 2
          · obtain ⟨⟨b1, b2, b3, b4⟩, b5, mm2, b6, b7⟩ := hpx (8 * k + 4 * q) (4 * i) (by omega) (by omega)
            have e4 := hszp (8 * k + 4 * q) (4 * i) (by omega) (by omega)
            rw [e4] at b3 b7
            obtain ⟨om, oc, em, ec, hw7, hl7, hm7⟩ := ok_block (n := 4) (m := mm2) (one := w7) (e0 := (rfl : nI l = nI l)) (e1 := (rfl : nI (8 * k + 4 * q) = _)) (e2 := (rfl : nI (y + 4 * i) = _)) (e3 := (rfl : nI 4 = nI 4)) hl (Or.inl rfl) (by omega) (by omega) hs hw6 (by omega) e4 b6 b7 (b3.trans b7) (fun r c hr hc => by
              obtain ⟨⟨c1, -⟩, c2, -⟩ := hpx (8 * k + 4 * q + c) (4 * i + r) (by omega) (by omega)
              rw [← Nat.add_assoc y] at c1 c2
              exact ⟨c1, c2⟩)
            refine Ok.neg (by simp (disch := omega) only [lI0, lI1, lI2, lI3, lI4, lI5, lI7, lI8, lI9, lI10, lI11, lI12, lI15, lI16, lI17, lI20, lI24, lI32, lI33, lI40, lI63, lI64, lI80, lI82, lI101, lI110, lI115, lI251, lI255, lI256, lI384, lI16384, lI20000, lI32768, lI49152, lI65535, nI_add, pk_mul, pk_sub, pk_div, nI_leI, nI_ltI, nI_eq] <;> omega) ?_
            rw [show nI (8 * k) + nI (4 * q) = nI (8 * k + 4 * q) from nI_add _ _, show nI y + nI (4 * i) = nI (y + 4 * i) from nI_add _ _]
            refine Ok.bindE _ ec (Ok.bnd (K2 _ hcq ⟨(by first | (simp (disch := omega) only [lI0, lI1, lI2, lI3, lI4, lI5, lI7, lI8, lI9, lI10, lI11, lI12, lI15, lI16, lI17, lI20, lI24, lI32, lI33, lI40, lI63, lI64, lI80, lI82, lI101, lI110, lI115, lI251, lI255, lI256, lI384, lI16384, lI20000, lI32768, lI49152, lI65535, nI_add, pk_mul, pk_sub, pk_div] <;> (apply congrArg nI; omega)) | rfl), hl7, hm7, (nI (2 * i + (q + 1)), om), Runs.snoc hr2 (fun self3 => ?_), rfl, ?_⟩))
            · rw [hG]
              dsimp only
              rw [if_neg (by (simp (disch := omega) only [lI0, lI1, lI2, lI3, lI4, lI5, lI7, lI8, lI9, lI10, lI11, lI12, lI15, lI16, lI17, lI20, lI24, lI32, lI33, lI40, lI63, lI64, lI80, lI82, lI101, lI110, lI115, lI251, lI255, lI256, lI384, lI16384, lI20000, lI32768, lI49152, lI65535, nI_add, pk_mul, pk_sub, pk_div, nI_leI, nI_ltI, nI_eq] <;> omega)), show nI (8 * k) + (nI (2 * i + q) - nI (2 * i + q) / (2 : Int32) * (2 : Int32)) * (4 : Int32) = nI (8 * k + 4 * q) from (by first | (simp (disch := omega) only [lI0, lI1, lI2, lI3, lI4, lI5, lI7, lI8, lI9, lI10, lI11, lI12, lI15, lI16, lI17, lI20, lI24, lI32, lI33, lI40, lI63, lI64, lI80, lI82, lI101, lI110, lI115, lI251, lI255, lI256, lI384, lI16384, lI20000, lI32768, lI49152, lI65535, nI_add, pk_mul, pk_sub, pk_div] <;> (apply congrArg nI; omega)) | rfl), show nI y + nI (2 * i + q) / (2 : Int32) * (4 : Int32) = nI (y + 4 * i) from (by first | (simp (disch := omega) only [lI0, lI1, lI2, lI3, lI4, lI5, lI7, lI8, lI9, lI10, lI11, lI12, lI15, lI16, lI17, lI20, lI24, lI32, lI33, lI40, lI63, lI64, lI80, lI82, lI101, lI110, lI115, lI251, lI255, lI256, lI384, lI16384, lI20000, lI32768, lI49152, lI65535, nI_add, pk_mul, pk_sub, pk_div] <;> (apply congrArg nI; omega)) | rfl), show (4 : Int32) = nI 4 from rfl, em]
              dsimp only [Option.bind, bnd]
              rw [nI_1]
              rfl
            · exact WR_mono hw7 (by omega)
          · have hq2 : q = 2 := by omega
            subst hq2
            exact Ok.pos (by simp (disch := omega) only [lI0, lI1, lI2, lI3, lI4, lI5, lI7, lI8, lI9, lI10, lI11, lI12, lI15, lI16, lI17, lI20, lI24, lI32, lI33, lI40, lI63, lI64, lI80, lI82, lI101, lI110, lI115, lI251, lI255, lI256, lI384, lI16384, lI20000, lI32768, lI49152, lI65535, nI_add, pk_mul, pk_sub, pk_div, nI_leI, nI_ltI, nI_eq] <;> omega) (Ok.some ⟨rfl, rfl, _, hr2, rfl, hw6⟩)
        · have hi2 : i = 2 := by omega
          subst hi2
          exact Ok.pos (by simp (disch := omega) only [lI0, lI1, lI2, lI3, lI4, lI5, lI7, lI8, lI9, lI10, lI11, lI12, lI15, lI16, lI17, lI20, lI24, lI32, lI33, lI40, lI63, lI64, lI80, lI82, lI101, lI110, lI115, lI251, lI255, lI256, lI384, lI16384, lI20000, lI32768, lI49152, lI65535, nI_add, pk_mul, pk_sub, pk_div, nI_leI, nI_ltI, nI_eq] <;> omega) (Ok.some ⟨w, 4, by decide, hr, j4, WR_mono hw5 (by omega), rfl, rfl⟩)
      · rintro ⟨y1, y2, y3, y4, y5, y6, y7, y8⟩ c ⟨q1, q2, q3, q4⟩
        dsimp only at q1 q2
        subst q1
        exact ⟨(y2, y3, y4, y5, y6, y7, y8), fun self => if_pos (show (4 : Int32) ≤ nI 4 by decide), q2, q3, q4⟩
      · rintro ⟨m1, m2, m3, m4, m5, m6, m7⟩ ⟨k1, k2, k3, k4, k5, k6, k7, k8, k9⟩ ⟨q1, q2, q3⟩
        dsimp only at q1 q2 q3 ⊢
        subst q2 q3
        exact Ok2.lbnd (Ok2.rbnd (K _ _ hc ⟨(by first | (simp (disch := omega) only [lI0, lI1, lI2, lI3, lI4, lI5, lI7, lI8, lI9, lI10, lI11, lI12, lI15, lI16, lI17, lI20, lI24, lI32, lI33, lI40, lI63, lI64, lI80, lI82, lI101, lI110, lI115, lI251, lI255, lI256, lI384, lI16384, lI20000, lI32768, lI49152, lI65535, nI_add, pk_mul, pk_sub, pk_div] <;> (apply congrArg nI; omega)) | rfl), (by first | (simp (disch := omega) only [lI0, lI1, lI2, lI3, lI4, lI5, lI7, lI8, lI9, lI10, lI11, lI12, lI15, lI16, lI17, lI20, lI24, lI32, lI33, lI40, lI63, lI64, lI80, lI82, lI101, lI110, lI115, lI251, lI255, lI256, lI384, lI16384, lI20000, lI32768, lI49152, lI65535, nI_add, pk_mul, pk_sub, pk_div] <;> (apply congrArg nI; omega)) | rfl), q1, rfl, rfl, rfl⟩))
    · subst e
      refine Ok2.lpos rfl ?_
      obtain ⟨om, oc, em, ec, hw7, hl7, hm7⟩ := ok_block (n := 8) (m := mm) (one := g9) (e0 := (rfl : nI l = nI l)) (e1 := (rfl : nI (8 * k) = _)) (e2 := (rfl : nI y = _)) (e3 := (rfl : nI 8 = nI 8)) hl (Or.inr rfl) (by omega) (by omega) hs hw4 (by omega) hszg p6 p7 (p3.trans p7) (fun r c hr hc => by
        obtain ⟨⟨c1, -⟩, c2, -⟩ := hpx (8 * k + c) r (by omega) hr
        exact ⟨c1, c2⟩)
      refine Ok2.lE _ em ?_
      refine Ok2.r (fun c => c = oc) (Ok.fix (fun i z => (i = 0 ∧ z = ((0 : Int32), k1, k2, k3, k4, k5, k6, k7, z10, z11)) ∨ (i = 1 ∧ z = (nI 8, oc))) 1 (by omega) (Or.inl ⟨rfl, rfl⟩) ?_) ?_
      · rintro i z self hi hz KK
        rcases hz with ⟨rfl, rfl⟩ | ⟨rfl, rfl⟩
        · refine Ok.neg (show ¬ (8 : Int32) ≤ 0 by decide) (Ok.bind (fun c => c = oc) (Ok.fix (fun i z => (i = 0 ∧ z = ((0 : Int32), k1, k2, k3, k4, k5, k6, k7, z10, z11)) ∨ (i = 1 ∧ z = (nI 8, oc))) 1 (by omega) (Or.inl ⟨rfl, rfl⟩) ?_) ?_)
          · rintro i z self hi hz K3
            rcases hz with ⟨rfl, rfl⟩ | ⟨rfl, rfl⟩
            · refine Ok.neg (show ¬ (8 : Int32) ≤ 0 by decide) ?_
              dsimp only
              rw [Int32.add_zero, Int32.add_zero]
              exact Ok.bindE _ ec (Ok.bnd (K3 _ (by decide) (Or.inr ⟨rfl, rfl⟩)))
            · exact Ok.pos (show (8 : Int32) ≤ nI 8 by decide) (Ok.some rfl)
          · rintro c rfl
            exact Ok.bnd (KK _ (by decide) (Or.inr ⟨rfl, rfl⟩))
        · exact Ok.pos (show (8 : Int32) ≤ nI 8 by decide) (Ok.some rfl)
      · rintro c rfl
        exact Ok2.lbnd (Ok2.rbnd (K _ _ hc ⟨(by first | (simp (disch := omega) only [lI0, lI1, lI2, lI3, lI4, lI5, lI7, lI8, lI9, lI10, lI11, lI12, lI15, lI16, lI17, lI20, lI24, lI32, lI33, lI40, lI63, lI64, lI80, lI82, lI101, lI110, lI115, lI251, lI255, lI256, lI384, lI16384, lI20000, lI32768, lI49152, lI65535, nI_add, pk_mul, pk_sub, pk_div] <;> (apply congrArg nI; omega)) | rfl), (by first | (simp (disch := omega) only [lI0, lI1, lI2, lI3, lI4, lI5, lI7, lI8, lI9, lI10, lI11, lI12, lI15, lI16, lI17, lI20, lI24, lI32, lI33, lI40, lI63, lI64, lI80, lI82, lI101, lI110, lI115, lI251, lI255, lI256, lI384, lI16384, lI20000, lI32768, lI49152, lI65535, nI_add, pk_mul, pk_sub, pk_div] <;> (apply congrArg nI; omega)) | rfl), WR_mono hw7 (by omega), hl7, hm7, rfl⟩))
  · have hk2 : k = tiles := by omega
    subst hk2
    exact Ok2.lpos (by simp (disch := omega) only [lI0, lI1, lI2, lI3, lI4, lI5, lI7, lI8, lI9, lI10, lI11, lI12, lI15, lI16, lI17, lI20, lI24, lI32, lI33, lI40, lI63, lI64, lI80, lI82, lI101, lI110, lI115, lI251, lI255, lI256, lI384, lI16384, lI20000, lI32768, lI49152, lI65535, nI_add, pk_mul, pk_sub, pk_div, nI_leI, nI_ltI, nI_eq] <;> omega) (Ok2.rpos (by simp (disch := omega) only [lI0, lI1, lI2, lI3, lI4, lI5, lI7, lI8, lI9, lI10, lI11, lI12, lI15, lI16, lI17, lI20, lI24, lI32, lI33, lI40, lI63, lI64, lI80, lI82, lI101, lI110, lI115, lI251, lI255, lI256, lI384, lI16384, lI20000, lI32768, lI49152, lI65535, nI_add, pk_mul, pk_sub, pk_div, nI_leI, nI_ltI, nI_eq] <;> omega) (Ok2.some ⟨hw3, rfl, rfl, rfl⟩))
