/-! ===== a slice restored; a part taken ===== -/
set_option maxHeartbeats 4000000 in
theorem ok_restoreSlice {av ps step : Int32} {lC mC ab lf rC sC ln pl : Nat → Int32} {slice y tiles : Nat} {td : Nat → TD} {p0 p1 : Int32} (e0 : p0 = nI slice) (e1 : p1 = nI tiles) (ey : y = 8 * slice) (ht : tiles ≤ 2) (hsl : slice < 3) (htd : ∀ t, t < tiles → tdP (8 * t) y (td t) lC mC sC) :
    Ok (lf_X4_restoreSlice av ps step lC mC ab lf rC sC ln pl p0 p1) (fun o => o.2.2.2.2.1 = dS y step td rC tiles) := by
  subst e0 e1
  unfold lf_X4_restoreSlice
  refine Ok.bnd ?_
  rw [show nI slice * (8 : Int32) = nI y from by rw [ey]; (first | (simp (disch := omega) only [lI0, lI1, lI2, lI3, lI4, lI5, lI7, lI8, lI9, lI10, lI11, lI12, lI15, lI16, lI17, lI20, lI24, lI32, lI33, lI40, lI63, lI64, lI80, lI82, lI101, lI110, lI115, lI251, lI255, lI256, lI384, lI16384, lI20000, lI32768, lI49152, lI65535, nI_add, pk_mul, pk_sub, pk_div] <;> (apply congrArg nI; omega)) | rfl)]
  refine Ok.bind (fun o => o.2.2.2.2.1 = dS y step td rC tiles) (Ok.fix (fun t z => z.1 = nI t ∧ z.2.2.2.2.2.1 = dS y step td rC t) tiles (by omega) ⟨rfl, rfl⟩ ?_) (fun o ho => Ok.some ho)
  rintro t ⟨x2, v3, v4, g5, g6, g7, g8, g9⟩ self htt ⟨h1, h2⟩ K
  dsimp only at h1 h2 ⊢
  subst h1 h2
  by_cases hc : t < tiles
  · obtain ⟨b, hb, hsz, hq⟩ := htd t hc
    have hn : 2 ^ (td t).1 = 4 ∨ 2 ^ (td t).1 = 8 := by
      rcases hb with ⟨e, -⟩ | ⟨e, -⟩
      · rw [e]
        exact Or.inl rfl
      · rw [e]
        exact Or.inr rfl
    have hK : (td t).1 ≤ 3 := by omega
    have hb8 : 2 ^ (td t).1 * b = 8 := by
      rcases hb with ⟨e, rfl⟩ | ⟨e, rfl⟩
      · rw [e]
      · rw [e]
    have hb2 : b ≤ 2 := by omega
    have hdT : dT (8 * t) y step (td t) (dS y step td rC t) = dTq (td t).1 b (8 * t) y step (td t).2.1 (td t).2.2 (dS y step td rC t) (b * b) := by
      unfold dT
      rcases hb with ⟨e, rfl⟩ | ⟨e, rfl⟩
      · rw [if_pos e, e]
      · rw [if_neg (by omega), e]
    refine Ok.neg (by simp (disch := omega) only [lI0, lI1, lI2, lI3, lI4, lI5, lI7, lI8, lI9, lI10, lI11, lI12, lI15, lI16, lI17, lI20, lI24, lI32, lI33, lI40, lI63, lI64, lI80, lI82, lI101, lI110, lI115, lI251, lI255, lI256, lI384, lI16384, lI20000, lI32768, lI49152, lI65535, nI_add, pk_mul, pk_sub, pk_div, nI_leI, nI_ltI, nI_eq] <;> omega) (Ok.bnd ?_)
    rw [show nI t * (8 : Int32) = nI (8 * t) from (by first | (simp (disch := omega) only [lI0, lI1, lI2, lI3, lI4, lI5, lI7, lI8, lI9, lI10, lI11, lI12, lI15, lI16, lI17, lI20, lI24, lI32, lI33, lI40, lI63, lI64, lI80, lI82, lI101, lI110, lI115, lI251, lI255, lI256, lI384, lI16384, lI20000, lI32768, lI49152, lI65535, nI_add, pk_mul, pk_sub, pk_div] <;> (apply congrArg nI; omega)) | rfl)]
    refine Ok.bindE _ (eq_X4_sizeAt rfl rfl (by omega) (by omega)) ?_
    rw [hsz]
    generalize hR : dS y step td rC t = R at hdT ⊢
    generalize hKg : (td t).1 = KK at hb hsz hq hn hK hb8 hdT
    refine Ok.bind (fun o => o.2.2.2.2.1 = dTq KK b (8 * t) y step (td t).2.1 (td t).2.2 R (b * b)) (Ok.fix (fun i z => z.1 = nI (2 ^ KK * i) ∧ z.2.2.2.2.2.1 = dTq KK b (8 * t) y step (td t).2.1 (td t).2.2 R (b * i)) b (by omega) ⟨rfl, rfl⟩ ?_) ?_
    · rintro i ⟨x14, v15, v16, g17, g18, g19, g20, g21⟩ self2 hi ⟨h3, h4⟩ K2
      dsimp only at h3 h4 ⊢
      subst h3 h4
      by_cases hci : i < b
      · have hi2 : 2 ^ KK * (i + 1) ≤ 8 := by
          rw [← hb8]
          exact Nat.mul_le_mul_left _ hci
        rw [Nat.mul_succ] at hi2
        refine Ok.neg (by simp (disch := omega) only [lI0, lI1, lI2, lI3, lI4, lI5, lI7, lI8, lI9, lI10, lI11, lI12, lI15, lI16, lI17, lI20, lI24, lI32, lI33, lI40, lI63, lI64, lI80, lI82, lI101, lI110, lI115, lI251, lI255, lI256, lI384, lI16384, lI20000, lI32768, lI49152, lI65535, nI_add, pk_mul, pk_sub, pk_div, nI_leI, nI_ltI, nI_eq] <;> omega) (Ok.bind (fun o => o.2.2.2.2.1 = dTq KK b (8 * t) y step (td t).2.1 (td t).2.2 R (b * (i + 1))) (Ok.fix (fun k z => z.1 = nI (2 ^ KK * k) ∧ z.2.2.2.2.2.1 = dTq KK b (8 * t) y step (td t).2.1 (td t).2.2 R (b * i + k)) b (by omega) ⟨rfl, rfl⟩ ?_) ?_)
        · rintro k ⟨x24, v25, v26, g27, g28, g29, g30, g31⟩ self3 hk ⟨h5, h6⟩ K3
          dsimp only at h5 h6 ⊢
          subst h5 h6
          by_cases hck : k < b
          · have hk2 : 2 ^ KK * (k + 1) ≤ 8 := by
              rw [← hb8]
              exact Nat.mul_le_mul_left _ hck
            rw [Nat.mul_succ] at hk2
            have hqb : b * i + k < b * b := by
              have : b * (i + 1) ≤ b * b := Nat.mul_le_mul_left _ hci
              rw [Nat.mul_succ] at this
              omega
            obtain ⟨q1, q2, q3⟩ := hq (b * i + k) hqb
            have hqx : bX KK b (8 * t) (b * i + k) = 8 * t + 2 ^ KK * k := by
              unfold bX
              rw [Nat.mul_add_mod, Nat.mod_eq_of_lt hck]
            have hqy : bY KK b y (b * i + k) = y + 2 ^ KK * i := by
              unfold bY
              rw [Nat.mul_add_div (by omega), Nat.div_eq_of_lt hck, Nat.add_zero]
            rw [hqx, hqy] at q2 q3
            have hsz2 : szN sC (8 * t + 2 ^ KK * k) (y + 2 ^ KK * i) = 2 ^ KK := (szN_tile (by omega)).trans hsz
            refine Ok.neg (by simp (disch := omega) only [lI0, lI1, lI2, lI3, lI4, lI5, lI7, lI8, lI9, lI10, lI11, lI12, lI15, lI16, lI17, lI20, lI24, lI32, lI33, lI40, lI63, lI64, lI80, lI82, lI101, lI110, lI115, lI251, lI255, lI256, lI384, lI16384, lI20000, lI32768, lI49152, lI65535, nI_add, pk_mul, pk_sub, pk_div, nI_leI, nI_ltI, nI_eq] <;> omega) (Ok.bind _ (ok_X4_restoreBlock (K := KK) (m := (td t).2.1 (b * i + k)) (lev := (td t).2.2 (b * i + k)) (nI_add _ _) (nI_add _ _) rfl hK hn (by omega) (by omega) hsz2 q1 q2 nL_at nU_at (fun r c hr hc => by
              rw [show p16 (8 * t + 2 ^ KK * k) (y + 2 ^ KK * i) r c = 16 * (y + 2 ^ KK * i + r) + (8 * t + 2 ^ KK * k + c) from by unfold p16; omega]
              exact q3 r c hr hc)) ?_)
            rintro ⟨a1, a2, a3, a4, a5, a6, a7⟩ ha
            dsimp only at ha ⊢
            have ha2 := setP_put (by omega) ha
            subst ha2
            refine Ok.bnd (K3 _ hck ⟨?_, ?_⟩)
            · dsimp only
              rw [nI_add, Nat.mul_succ]
            · show _ = eB KK (bX KK b (8 * t) (b * i + k)) (bY KK b y (b * i + k)) step ((td t).2.1 (b * i + k)) ((td t).2.2 (b * i + k)) (dTq KK b (8 * t) y step (td t).2.1 (td t).2.2 R (b * i + k))
              rw [hqx, hqy]
              rfl
          · have hk2 : k = b := by omega
            subst hk2
            exact Ok.pos (by simp (disch := omega) only [lI0, lI1, lI2, lI3, lI4, lI5, lI7, lI8, lI9, lI10, lI11, lI12, lI15, lI16, lI17, lI20, lI24, lI32, lI33, lI40, lI63, lI64, lI80, lI82, lI101, lI110, lI115, lI251, lI255, lI256, lI384, lI16384, lI20000, lI32768, lI49152, lI65535, nI_add, pk_mul, pk_sub, pk_div, nI_leI, nI_ltI, nI_eq] <;> omega) (Ok.some rfl)
        · rintro ⟨v15, v16, g17, g18, g19, g20, g21⟩ h7
          dsimp only at h7 ⊢
          refine Ok.bnd (K2 _ hci ⟨?_, h7⟩)
          dsimp only
          rw [nI_add, Nat.mul_succ]
      · have hi2 : i = b := by omega
        subst hi2
        exact Ok.pos (by simp (disch := omega) only [lI0, lI1, lI2, lI3, lI4, lI5, lI7, lI8, lI9, lI10, lI11, lI12, lI15, lI16, lI17, lI20, lI24, lI32, lI33, lI40, lI63, lI64, lI80, lI82, lI101, lI110, lI115, lI251, lI255, lI256, lI384, lI16384, lI20000, lI32768, lI49152, lI65535, nI_add, pk_mul, pk_sub, pk_div, nI_leI, nI_ltI, nI_eq] <;> omega) (Ok.some rfl)
    · rintro ⟨v15, v16, g17, g18, g19, g20, g21⟩ h7
      dsimp only at h7 ⊢
      refine Ok.bnd (K _ hc ⟨(by first | (simp (disch := omega) only [lI0, lI1, lI2, lI3, lI4, lI5, lI7, lI8, lI9, lI10, lI11, lI12, lI15, lI16, lI17, lI20, lI24, lI32, lI33, lI40, lI63, lI64, lI80, lI82, lI101, lI110, lI115, lI251, lI255, lI256, lI384, lI16384, lI20000, lI32768, lI49152, lI65535, nI_add, pk_mul, pk_sub, pk_div] <;> (apply congrArg nI; omega)) | rfl), ?_⟩)
      show g19 = dT (8 * t) y step (td t) (dS y step td rC t)
      rw [hR, hdT, h7]
  · have ht2 : t = tiles := by omega
    subst ht2
    exact Ok.pos (by simp (disch := omega) only [lI0, lI1, lI2, lI3, lI4, lI5, lI7, lI8, lI9, lI10, lI11, lI12, lI15, lI16, lI17, lI20, lI24, lI32, lI33, lI40, lI63, lI64, lI80, lI82, lI101, lI110, lI115, lI251, lI255, lI256, lI384, lI16384, lI20000, lI32768, lI49152, lI65535, nI_add, pk_mul, pk_sub, pk_div, nI_leI, nI_ltI, nI_eq] <;> omega) (Ok.some rfl)
theorem ok_X1_start {a b c d e : Int32} {on ze cy stm : Nat → Int32} {start len n : Nat} {p1 p2 : Int32} (e1 : p1 = nI start) (e2 : p2 = nI len) (hs2 : start + len ≤ n) (hn : n ≤ 32768) (hcy : ∀ i, i < start + len → cy i = stm i) :
    Ok (lf_X1_start a b c d e on ze n cy p1 p2) (fun o => ∃ code, o.1 = code ∧ o.2.1 = nI (8 * (start + len)) ∧ o.2.2.1 = 65535 ∧ o.2.2.2.1 = 0 ∧ o.2.2.2.2.1 = nI (psN start len 16) ∧ (∀ k, k < 20 → o.2.2.2.2.2.1 k = 1) ∧ (∀ k, k < 20 → o.2.2.2.2.2.2 k = 1) ∧ ∃ f : Nat → Int32, f 0 = 0 ∧ (∀ k, k < 16 → f (k + 1) = f k * (2 : Int32) + btS start len stm k) ∧ code = f 16) := by
  subst e1 e2
  unfold lf_X1_start lf_X0_reset_X1
  obtain ⟨o1, g1, h1, -⟩ := ok_fill (n := 20) (t := ze) (x := (1 : Int32)) (by decide)
  obtain ⟨o2, g2, h2, -⟩ := ok_fill (n := 20) (t := on) (x := (1 : Int32)) (by decide)
  rw [g1]
  dsimp only [Option.bind]
  rw [g2]
  have ee : jmin (nI start + nI len) (Int32.ofNat n) * (8 : Int32) = nI (8 * (start + len)) := by
    rw [show Int32.ofNat n = nI n from rfl, nI_add]
    unfold jmin
    rw [if_neg (nI_nlt hs2 (by omega))]
    (first | (simp (disch := omega) only [lI0, lI1, lI2, lI3, lI4, lI5, lI7, lI8, lI9, lI10, lI11, lI12, lI15, lI16, lI17, lI20, lI24, lI32, lI33, lI40, lI63, lI64, lI80, lI82, lI101, lI110, lI115, lI251, lI255, lI256, lI384, lI16384, lI20000, lI32768, lI49152, lI65535, nI_add, pk_mul, pk_sub, pk_div] <;> (apply congrArg nI; omega)) | rfl)
  rw [ee]
  refine Ok.bind (fun z => z.2 = nI (psN start len 16) ∧ ∃ f : Nat → Int32, f 0 = 0 ∧ (∀ k, k < 16 → f (k + 1) = f k * (2 : Int32) + btS start len stm k) ∧ z.1 = f 16) (Ok.fix (fun k z => z.1 = nI k ∧ z.2.2 = nI (psN start len k) ∧ ∃ f : Nat → Int32, f 0 = 0 ∧ (∀ j, j < k → f (j + 1) = f j * (2 : Int32) + btS start len stm j) ∧ z.2.1 = f k) 16 (by omega) ⟨rfl, ?_, fun _ => 0, rfl, fun j hj => absurd hj (by omega), rfl⟩ ?_) (fun z hz => Ok.some ⟨_, rfl, rfl, rfl, rfl, hz.1, h2, h1, hz.2⟩)
  · show nI start * (8 : Int32) = nI (psN start len 0)
    unfold psN
    split <;> (first | (simp (disch := omega) only [lI0, lI1, lI2, lI3, lI4, lI5, lI7, lI8, lI9, lI10, lI11, lI12, lI15, lI16, lI17, lI20, lI24, lI32, lI33, lI40, lI63, lI64, lI80, lI82, lI101, lI110, lI115, lI251, lI255, lI256, lI384, lI16384, lI20000, lI32768, lI49152, lI65535, nI_add, pk_mul, pk_sub, pk_div] <;> (apply congrArg nI; omega)) | rfl)
  · rintro k ⟨x2, v3, v4⟩ self hk ⟨e3, e4, f, f0, f1, e5⟩ K
    dsimp only at e3 e4 e5 ⊢
    subst e3 e4 e5
    by_cases hc : k < 16
    · refine Ok.neg (by simp (disch := omega) only [lI0, lI1, lI2, lI3, lI4, lI5, lI7, lI8, lI9, lI10, lI11, lI12, lI15, lI16, lI17, lI20, lI24, lI32, lI33, lI40, lI63, lI64, lI80, lI82, lI101, lI110, lI115, lI251, lI255, lI256, lI384, lI16384, lI20000, lI32768, lI49152, lI65535, nI_add, pk_mul, pk_sub, pk_div, nI_leI, nI_ltI, nI_eq] <;> omega) (Ok.bindE _ (eq_X1_take hs2 hn (by omega) hcy) (Ok.bnd (K _ hc ⟨(by first | (simp (disch := omega) only [lI0, lI1, lI2, lI3, lI4, lI5, lI7, lI8, lI9, lI10, lI11, lI12, lI15, lI16, lI17, lI20, lI24, lI32, lI33, lI40, lI63, lI64, lI80, lI82, lI101, lI110, lI115, lI251, lI255, lI256, lI384, lI16384, lI20000, lI32768, lI49152, lI65535, nI_add, pk_mul, pk_sub, pk_div] <;> (apply congrArg nI; omega)) | rfl), rfl, fun j => if j = k + 1 then (f k - 0) * (2 : Int32) + btS start len stm k else f j, ?_, fun j hj => ?_, ?_⟩)))
      · dsimp only
        rw [if_neg (by omega), f0]
      · dsimp only
        by_cases h5 : j = k
        · subst h5
          rw [if_pos rfl, if_neg (by omega), Int32.sub_zero]
        · rw [if_neg (by omega), if_neg (by omega)]
          exact f1 j (by omega)
      · dsimp only
        rw [if_pos rfl]
    · have hk2 : k = 16 := by omega
      subst hk2
      exact Ok.pos (by simp (disch := omega) only [lI0, lI1, lI2, lI3, lI4, lI5, lI7, lI8, lI9, lI10, lI11, lI12, lI15, lI16, lI17, lI20, lI24, lI32, lI33, lI40, lI63, lI64, lI80, lI82, lI101, lI110, lI115, lI251, lI255, lI256, lI384, lI16384, lI20000, lI32768, lI49152, lI65535, nI_add, pk_mul, pk_sub, pk_div, nI_leI, nI_ltI, nI_eq] <;> omega) (Ok.some ⟨rfl, f, f0, f1, rfl⟩)
set_option maxHeartbeats 4000000 in
theorem ok_takePart {start len n w slice y tiles : Nat} {stm cy : Nat → Int32} {mb mc mh ml mean mp step p0 p1 p2 p3 en sta : Int32} {ct line one rM work : Nat → Int32} {rc re rh rl rp av ps : Int32} {on ze lC mC ab lf rC sC ln pl : Nat → Int32} (e0 : p0 = nI y) (e1 : p1 = nI w) (es : sta = nI start) (ee : en = nI (start + len)) (e2 : p2 = nI start) (e3 : p3 = nI len) (ey : y = 8 * slice) (et : tiles = (w + 7) / 8) (hw1 : 1 ≤ w) (hw2 : w ≤ 16) (hsl : slice < 3)
    (hs : start + len ≤ 20000) (hs2 : start + len ≤ n) (hn : n ≤ 32768) (hcy : ∀ i, i < start + len → cy i = stm i) :
    ∃ om o1 o2 o3, lf_X9_takePart mb mc en mh ml mean mp sta ct line one rM stm work p0 p1 step = some om ∧ lf_X1_start rc re rh rl rp on ze n cy p2 p3 = some o1 ∧ lf_X8_codePart_X1 o1.1 o1.2.1 o1.2.2.1 o1.2.2.2.1 o1.2.2.2.2.1 n cy o1.2.2.2.2.2.1 o1.2.2.2.2.2.2 lC mC sC (nI slice) (nI tiles) = some o2 ∧ lf_X4_restoreSlice av ps step o2.2.2.2.2.2.2.1 o2.2.2.2.2.2.2.2.1 ab lf rC o2.2.2.2.2.2.2.2.2 ln pl (nI slice) (nI tiles) = some o3 ∧
      ∀ r c, r < 8 → c < 8 * tiles → om.2.2.2.2.2.2.2.2.2.1 (16 * (y + r) + c) = o3.2.2.2.2.1 (16 * (y + r) + c) := by
  subst e0 e1 es ee
  obtain ⟨⟨a1, a2, a3, a4, a5, a6, a7⟩, g1, code, b1, b2, b3, b4, b5, b6, b7, f, f0, f1, f2⟩ := ok_X1_start (a := rc) (b := re) (c := rh) (d := rl) (e := rp) (on := on) (ze := ze) e2 e3 hs2 hn hcy
  obtain ⟨⟨n1, n2, n3, n4, n5⟩, eb, c1, c2, c3, c4, c5⟩ := ok_X9_begin (a := mb) (b := mh) (c := ml) (d := mp) (ct := ct)
  dsimp only at b1 b2 b3 b4 b5 b6 b7 c1 c2 c3 c4 c5
  subst b1 b2 b3 b4 b5 c1 c2 c3 c4
  have hRR : RR start len 16 16 a1 65535 0 n5 a1 65535 0 (nI (psN start len 16)) a6 a7 := ⟨16, 65535, 0, rfl, rfl, rfl, rfl, rfl, rfl, rfl, by unfold cI; omega, fun c hc => ⟨1, 1, c5 _ (by omega), c5 _ (by omega), b7 c hc, b6 c hc, by decide, by decide, by decide⟩, Nat.le_refl _⟩
  obtain ⟨o19, o2, em, ec, td, htd, hres⟩ := ok_codePartR (mean := mean) (line := line) (one := one) (rM := rM) (work := work) (lC := lC) (mC := mC) (sC := sC) (step := step) (w := w) (rfl : nI slice = _) (rfl : nI tiles = _) ey et hw1 hw2 hsl hs hs2 hn hcy hRR (by omega)
  obtain ⟨o3, er, hr3⟩ := ok_restoreSlice (av := av) (ps := ps) (step := step) (ab := ab) (lf := lf) (rC := rC) (ln := ln) (pl := pl) (rfl : nI slice = _) (rfl : nI tiles = _) ey (by omega) hsl htd
  refine ⟨(o19.1, o19.2.1, o19.2.2.1, o19.2.2.2.1, o19.2.2.2.2.1, 0, o19.2.2.2.2.2.1, o19.2.2.2.2.2.2.1, o19.2.2.2.2.2.2.2.1, o19.2.2.2.2.2.2.2.2.1, o19.2.2.2.2.2.2.2.2.2), _, o2, o3, ?_, g1, ec, er, fun r c hr hc => ?_⟩
  · suffices hok : Ok (lf_X9_takePart mb mc (nI (start + len)) mh ml mean mp (nI start) ct line one rM stm work (nI y) (nI w) step) (fun o => o = (o19.1, o19.2.1, o19.2.2.1, o19.2.2.2.1, o19.2.2.2.2.1, 0, o19.2.2.2.2.2.1, o19.2.2.2.2.2.2.1, o19.2.2.2.2.2.2.2.1, o19.2.2.2.2.2.2.2.2.1, o19.2.2.2.2.2.2.2.2.2)) by
      obtain ⟨o, h1, h2⟩ := hok
      rw [h1, h2]
    unfold lf_X9_takePart
    refine Ok.bindE _ eb (Ok.bind (fun o => o = a1) (Ok.fix (fun k z => z.1 = nI k ∧ z.2 = f k) 16 (by omega) ⟨rfl, f0.symm⟩ ?_) ?_)
    · rintro k ⟨x2, v3⟩ self hk ⟨e4, e5⟩ K
      dsimp only at e4 e5 ⊢
      subst e4 e5
      by_cases hc : k < 16
      · refine Ok.neg (by simp (disch := omega) only [lI0, lI1, lI2, lI3, lI4, lI5, lI7, lI8, lI9, lI10, lI11, lI12, lI15, lI16, lI17, lI20, lI24, lI32, lI33, lI40, lI63, lI64, lI80, lI82, lI101, lI110, lI115, lI251, lI255, lI256, lI384, lI16384, lI20000, lI32768, lI49152, lI65535, nI_add, pk_mul, pk_sub, pk_div, nI_leI, nI_ltI, nI_eq] <;> omega) (Ok.bindE _ (eq_bitAt hs (by omega)) (Ok.bnd (K _ hc ⟨(by first | (simp (disch := omega) only [lI0, lI1, lI2, lI3, lI4, lI5, lI7, lI8, lI9, lI10, lI11, lI12, lI15, lI16, lI17, lI20, lI24, lI32, lI33, lI40, lI63, lI64, lI80, lI82, lI101, lI110, lI115, lI251, lI255, lI256, lI384, lI16384, lI20000, lI32768, lI49152, lI65535, nI_add, pk_mul, pk_sub, pk_div] <;> (apply congrArg nI; omega)) | rfl), ?_⟩)))
        dsimp only
        rw [f1 k hc, Int32.mul_comm]
      · have hk2 : k = 16 := by omega
        subst hk2
        exact Ok.pos (by simp (disch := omega) only [lI0, lI1, lI2, lI3, lI4, lI5, lI7, lI8, lI9, lI10, lI11, lI12, lI15, lI16, lI17, lI20, lI24, lI32, lI33, lI40, lI63, lI64, lI80, lI82, lI101, lI110, lI115, lI251, lI255, lI256, lI384, lI16384, lI20000, lI32768, lI49152, lI65535, nI_add, pk_mul, pk_sub, pk_div, nI_leI, nI_ltI, nI_eq] <;> omega) (Ok.some f2.symm)
    · rintro o rfl
      exact Ok.bindE _ em (Ok.some rfl)
  · dsimp only
    rw [hres, hr3]
    exact dS_ag (by omega) (by omega : tiles ≤ 2) tiles (Nat.le_refl _) r c hr hc
