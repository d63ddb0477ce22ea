/-! ===== the reference: what is kept of a block; its tile ===== -/
def vwL (l : Nat) (f : Nat → Int32) : Nat → Int32 := fun i => f (384 * l + i)
def pL (l x y r c : Nat) : Nat := 384 * l + p16 x y r c
theorem pL_inj {l x y n : Nat} (hx : x + n ≤ 16) : posInj n (pL l x y) := fun r c i k hr hc hi hk h => by
  unfold pL p16 at h
  omega
/-- the pictures of a layer become so, those before stay -/
def kpP (l : Nat) (g : Nat → Int32) (f h : Nat → Int32) : Prop := vwL l h = g ∧ ∀ j, (j < 384 * l ∨ 384 * l + 384 ≤ j) → h j = f j
theorem setP_kp {l n x y : Nat} {w : Nat → Nat → Int32} {f g : Nat → Int32} (hx : x + n ≤ 16) (hy : y + n ≤ 24) (h : setP n (pL l x y) w f g) : kpP l (put n x y w (vwL l f)) f g := by
  refine ⟨?_, fun j hj => h.2 j (fun r c hr hc h2 => ?_)⟩
  · refine setP_put hx ⟨fun r c hr hc => h.1 r c hr hc, fun j hj => h.2 _ (fun r c hr hc h2 => hj r c hr hc ?_)⟩
    unfold pL at h2
    omega
  · unfold pL p16 at h2
    omega
set_option maxHeartbeats 2000000 in
theorem ok_X9_keep {costs levels modes one sizes : Nat → Int32} {w : Nat → Nat → Int32} {p0 p1 p2 p3 p4 p5 : Int32} {l x y n : Nat} (e0 : p0 = nI l) (e1 : p1 = nI x) (e2 : p2 = nI y) (e3 : p3 = nI n) (hl : l < 3) (hn : n ≤ 8) (hx : x + n ≤ 16) (hy : y + n ≤ 24) (hw : agr n n one w) :
    Ok (lf_X9_keep costs levels modes one sizes p0 p1 p2 p3 p4 p5) (fun o => kpP l (put n x y (fun _ _ => p5) (vwL l costs)) costs o.1 ∧ kpP l (put n x y w (vwL l levels)) levels o.2.1 ∧ kpP l (put n x y (fun _ _ => p4) (vwL l modes)) modes o.2.2.1 ∧ kpP l (put n x y (fun _ _ => p3) (vwL l sizes)) sizes o.2.2.2) := by
  subst e0 e1 e2 e3
  have hp := pL_inj (l := l) (y := y) hx
  unfold lf_X9_keep
  refine Ok.bind (fun o => setP n (pL l x y) (fun _ _ => p5) costs o.1 ∧ setP n (pL l x y) w levels o.2.1 ∧ setP n (pL l x y) (fun _ _ => p4) modes o.2.2.1 ∧ setP n (pL l x y) (fun _ _ => nI n) sizes o.2.2.2)
    (Ok.fix (fun i z => z.1 = nI i ∧ dblP n (pL l x y) (fun _ _ => p5) i 0 costs z.2.1 ∧ dblP n (pL l x y) w i 0 levels z.2.2.1 ∧ dblP n (pL l x y) (fun _ _ => p4) i 0 modes z.2.2.2.1 ∧ dblP n (pL l x y) (fun _ _ => nI n) i 0 sizes z.2.2.2.2) n (by omega) ⟨rfl, dbl_0, dbl_0, dbl_0, dbl_0⟩ ?_) ?_
  · rintro i ⟨x1, g2, g3, g4, g5⟩ self hi ⟨h1, h2, h3, h4, h5⟩ KK
    dsimp only at h1 h2 h3 h4 h5 ⊢
    subst h1
    by_cases hc : i < n
    · refine Ok.neg (by simp (disch := omega) only [lI0, lI1, lI2, lI3, lI4, lI5, lI7, lI8, lI9, lI10, lI11, lI12, lI15, lI16, lI17, lI20, lI24, lI32, lI33, lI40, lI63, lI64, lI80, lI82, lI101, lI110, lI115, lI251, lI255, lI256, lI384, lI16384, lI20000, lI32768, lI49152, lI65535, nI_add, pk_mul, pk_sub, pk_div, nI_leI, nI_ltI, nI_eq] <;> omega) ?_
      refine Ok.bind (fun o => dblP n (pL l x y) (fun _ _ => p5) i n costs o.1 ∧ dblP n (pL l x y) w i n levels o.2.1 ∧ dblP n (pL l x y) (fun _ _ => p4) i n modes o.2.2.1 ∧ dblP n (pL l x y) (fun _ _ => nI n) i n sizes o.2.2.2)
        (Ok.fix (fun k z => z.1 = nI k ∧ dblP n (pL l x y) (fun _ _ => p5) i k costs z.2.1 ∧ dblP n (pL l x y) w i k levels z.2.2.1 ∧ dblP n (pL l x y) (fun _ _ => p4) i k modes z.2.2.2.1 ∧ dblP n (pL l x y) (fun _ _ => nI n) i k sizes z.2.2.2.2) n (by omega) ⟨rfl, h2, h3, h4, h5⟩ ?_) (fun o ho => Ok.bnd (KK _ hc ⟨(by first | rfl | (simp (disch := omega) only [lI0, lI1, lI2, lI3, lI4, lI5, lI7, lI8, lI9, lI10, lI11, lI12, lI15, lI16, lI17, lI20, lI24, lI32, lI33, lI40, lI63, lI64, lI80, lI82, lI101, lI110, lI115, lI251, lI255, lI256, lI384, lI16384, lI20000, lI32768, lI49152, lI65535, nI_add, pk_mul, pk_sub, pk_div] <;> (apply congrArg nI; omega))), dbl_row ho.1, dbl_row ho.2.1, dbl_row ho.2.2.1, dbl_row ho.2.2.2⟩))
      rintro k ⟨x8, g9, g10, g11, g12⟩ self2 hk ⟨h1, h2, h3, h4, h5⟩ K2
      dsimp only at h1 h2 h3 h4 h5 ⊢
      subst h1
      by_cases hc2 : k < n
      · refine Ok.neg (by simp (disch := omega) only [lI0, lI1, lI2, lI3, lI4, lI5, lI7, lI8, lI9, lI10, lI11, lI12, lI15, lI16, lI17, lI20, lI24, lI32, lI33, lI40, lI63, lI64, lI80, lI82, lI101, lI110, lI115, lI251, lI255, lI256, lI384, lI16384, lI20000, lI32768, lI49152, lI65535, nI_add, pk_mul, pk_sub, pk_div, nI_leI, nI_ltI, nI_eq] <;> omega) (Ok.bnd ?_)
        have hlt := rc_lt (S := n) (n := n) (r := i) (c := k) (Nat.le_refl _) hn hc hc2
        have hat : (384 : Int32) * nI l + (16 : Int32) * (nI y + nI i) + nI x + nI k = nI (pL l x y i k) := by
          unfold pL p16
          (first | rfl | (simp (disch := omega) only [lI0, lI1, lI2, lI3, lI4, lI5, lI7, lI8, lI9, lI10, lI11, lI12, lI15, lI16, lI17, lI20, lI24, lI32, lI33, lI40, lI63, lI64, lI80, lI82, lI101, lI110, lI115, lI251, lI255, lI256, lI384, lI16384, lI20000, lI32768, lI49152, lI65535, nI_add, pk_mul, pk_sub, pk_div] <;> (apply congrArg nI; omega)))
        have hb : pL l x y i k < 1152 := by
          unfold pL p16
          omega
        refine Ok.rd (n * i + k) (by first | rfl | (simp (disch := omega) only [lI0, lI1, lI2, lI3, lI4, lI5, lI7, lI8, lI9, lI10, lI11, lI12, lI15, lI16, lI17, lI20, lI24, lI32, lI33, lI40, lI63, lI64, lI80, lI82, lI101, lI110, lI115, lI251, lI255, lI256, lI384, lI16384, lI20000, lI32768, lI49152, lI65535, nI_add, pk_mul, pk_sub, pk_div] <;> (apply congrArg nI; omega))) hlt (by decide) ?_
        rw [show one (n * i + k) = w i k from hw i k hc hc2]
        refine Ok.wr _ hat hb (by decide) (Ok.wr _ hat hb (by decide) (Ok.wr _ hat hb (by decide) (Ok.wr _ hat hb (by decide) (Ok.bnd (K2 _ hc2 ⟨(by first | rfl | (simp (disch := omega) only [lI0, lI1, lI2, lI3, lI4, lI5, lI7, lI8, lI9, lI10, lI11, lI12, lI15, lI16, lI17, lI20, lI24, lI32, lI33, lI40, lI63, lI64, lI80, lI82, lI101, lI110, lI115, lI251, lI255, lI256, lI384, lI16384, lI20000, lI32768, lI49152, lI65535, nI_add, pk_mul, pk_sub, pk_div] <;> (apply congrArg nI; omega))), ?_, dbl_step hp hc hc2 h3, ?_, ?_⟩)))))
        · exact dbl_step (w := fun _ _ => p5) hp hc hc2 h2
        · exact dbl_step (w := fun _ _ => p4) hp hc hc2 h4
        · exact dbl_step (w := fun _ _ => nI n) hp hc hc2 h5
      · have hk2 : k = n := by omega
        subst hk2
        exact Ok.pos (by simp (disch := omega) only [lI0, lI1, lI2, lI3, lI4, lI5, lI7, lI8, lI9, lI10, lI11, lI12, lI15, lI16, lI17, lI20, lI24, lI32, lI33, lI40, lI63, lI64, lI80, lI82, lI101, lI110, lI115, lI251, lI255, lI256, lI384, lI16384, lI20000, lI32768, lI49152, lI65535, nI_add, pk_mul, pk_sub, pk_div, nI_leI, nI_ltI, nI_eq] <;> omega) (Ok.some ⟨h2, h3, h4, h5⟩)
    · have hi2 : i = n := by omega
      subst hi2
      exact Ok.pos (by simp (disch := omega) only [lI0, lI1, lI2, lI3, lI4, lI5, lI7, lI8, lI9, lI10, lI11, lI12, lI15, lI16, lI17, lI20, lI24, lI32, lI33, lI40, lI63, lI64, lI80, lI82, lI101, lI110, lI115, lI251, lI255, lI256, lI384, lI16384, lI20000, lI32768, lI49152, lI65535, nI_add, pk_mul, pk_sub, pk_div, nI_leI, nI_ltI, nI_eq] <;> omega) (Ok.some ⟨dbl_end h2, dbl_end h3, dbl_end h4, dbl_end h5⟩)
  · rintro ⟨g2, g3, g4, g5⟩ ⟨h2, h3, h4, h5⟩
    exact Ok.some ⟨setP_kp hx hy h2, setP_kp hx hy h3, setP_kp hx hy h4, setP_kp hx hy h5⟩
theorem kp_0 {l : Nat} {f : Nat → Int32} : kpP l (vwL l f) f f := ⟨rfl, fun _ _ => rfl⟩
theorem kp_put {l n x y : Nat} {w : Nat → Nat → Int32} {a f g h : Nat → Int32} (h1 : kpP l a f g) (h2 : kpP l (put n x y w (vwL l g)) g h) : kpP l (put n x y w a) f h :=
  ⟨by rw [h2.1, h1.1], fun j hj => (h2.2 j hj).trans (h1.2 j hj)⟩
theorem pMq_s {K b x y st : Nat} {tg res mo : Nat → Int32} (q : Nat) : pMq K b x y st tg res mo (q + 1) = put (2 ^ K) (bX K b x q) (bY K b y q) (fun _ _ => nI (eM K (bX K b x q) (bY K b y q) tg (eRq K b x y st tg res q))) (pMq K b x y st tg res mo q) := rfl
theorem pCq_s {K b x y st : Nat} {tg res co : Nat → Int32} (q : Nat) : pCq K b x y st tg res co (q + 1) = put (2 ^ K) (bX K b x q) (bY K b y q) (fun _ _ => eC K (bX K b x q) (bY K b y q) st tg (eRq K b x y st tg res q)) (pCq K b x y st tg res co q) := rfl
theorem pSq_s {K b x y : Nat} {sz : Nat → Int32} (q : Nat) : pSq K b x y sz (q + 1) = put (2 ^ K) (bX K b x q) (bY K b y q) (fun _ _ => nI (2 ^ K)) (pSq K b x y sz q) := rfl
/-- a tile's plane, laid back -/
theorem put_back {x y : Nat} {w : Nat → Nat → Int32} {A : Nat → Int32} : put 8 x y (fun r c => A (16 * (y + r) + (x + c))) (put 8 x y w A) = A := by
  funext j
  unfold put
  by_cases h : y ≤ j / 16 ∧ j / 16 < y + 8 ∧ x ≤ j % 16 ∧ j % 16 < x + 8
  · rw [if_pos h]
    refine congrArg A ?_
    omega
  · rw [if_neg h, if_neg h]
/-- what the reference's tile leaves: with four blocks, or with one -/
def mTile (l x y st : Nat) (tg res : Nat → Int32) (blocks costs levels modes sizes : Nat → Int32) (o : Int32 × Int32 × (Nat → Int32) × (Nat → Int32) × (Nat → Int32) × (Nat → Int32) × (Nat → Int32) × (Nat → Int32) × (Nat → Int32) × (Nat → Int32) × (Nat → Int32) × (Nat → Int32)) : Prop :=
  if eC 3 x y st tg (eRq 2 2 x y st tg res 4) ≤ eSq 2 2 x y st tg res 4 then
    o.2.2.1 = upd blocks l (blocks l + 1) ∧ kpP l (put 8 x y (fun _ _ => eC 3 x y st tg (eRq 2 2 x y st tg res 4)) (pCq 2 2 x y st tg res (vwL l costs) 4)) costs o.2.2.2.1 ∧ kpP l (put 8 x y (eL 3 x y st tg (eRq 2 2 x y st tg res 4)) (eLq 2 2 x y st tg res (vwL l levels) 4)) levels o.2.2.2.2.1
      ∧ kpP l (put 8 x y (fun _ _ => nI (eM 3 x y tg (eRq 2 2 x y st tg res 4))) (pMq 2 2 x y st tg res (vwL l modes) 4)) modes o.2.2.2.2.2.2.1 ∧ o.2.2.2.2.2.2.2.2.2.1 = eR 3 x y st tg (eRq 2 2 x y st tg res 4) ∧ kpP l (put 8 x y (fun _ _ => 8) (pSq 2 2 x y (vwL l sizes) 4)) sizes o.2.2.2.2.2.2.2.2.2.2.1
  else
    o.2.2.1 = upd blocks l (blocks l + 4) ∧ kpP l (pCq 2 2 x y st tg res (vwL l costs) 4) costs o.2.2.2.1 ∧ kpP l (eLq 2 2 x y st tg res (vwL l levels) 4) levels o.2.2.2.2.1
      ∧ kpP l (pMq 2 2 x y st tg res (vwL l modes) 4) modes o.2.2.2.2.2.2.1 ∧ o.2.2.2.2.2.2.2.2.2.1 = eRq 2 2 x y st tg res 4 ∧ kpP l (pSq 2 2 x y (vwL l sizes) 4) sizes o.2.2.2.2.2.2.2.2.2.2.1
set_option maxHeartbeats 4000000 in
theorem ok_X9_tile {bm mn : Int32} {blocks costs levels line modes one oneR res sizes tg work : Nat → Int32} {p0 p1 p2 p3 : Int32} {l x y st : Nat} (e0 : p0 = nI l) (e1 : p1 = nI x) (e2 : p2 = nI y) (e3 : p3 = nI st) (hl : l < 3) (hx : x + 8 ≤ 16) (hy : y + 8 ≤ 24) (hx8 : x % 8 = 0) (hy8 : y % 8 = 0) (hs0 : 0 < st) (hs1 : st ≤ 32) :
    Ok (lf_X9_tile bm mn blocks costs levels line modes one oneR res sizes tg work p0 p1 p2 p3) (mTile l x y st tg res blocks costs levels modes sizes) := by
  subst e0 e1 e2 e3
  unfold lf_X9_tile
  refine Ok.bind (fun o => o.1 = eSq 2 2 x y st tg res 4 ∧ kpP l (pCq 2 2 x y st tg res (vwL l costs) 4) costs o.2.2.2.1 ∧ kpP l (eLq 2 2 x y st tg res (vwL l levels) 4) levels o.2.2.2.2.1 ∧ kpP l (pMq 2 2 x y st tg res (vwL l modes) 4) modes o.2.2.2.2.2.2.1 ∧ o.2.2.2.2.2.2.2.2.1 = eRq 2 2 x y st tg res 4 ∧ kpP l (pSq 2 2 x y (vwL l sizes) 4) sizes o.2.2.2.2.2.2.2.2.2.1)
    (Ok.fix (fun k z => z.2.1 = nI k ∧ z.1 = eSq 2 2 x y st tg res k ∧ kpP l (pCq 2 2 x y st tg res (vwL l costs) k) costs z.2.2.2.2.1 ∧ kpP l (eLq 2 2 x y st tg res (vwL l levels) k) levels z.2.2.2.2.2.1 ∧ kpP l (pMq 2 2 x y st tg res (vwL l modes) k) modes z.2.2.2.2.2.2.2.1 ∧ z.2.2.2.2.2.2.2.2.2.1 = eRq 2 2 x y st tg res k ∧ kpP l (pSq 2 2 x y (vwL l sizes) k) sizes z.2.2.2.2.2.2.2.2.2.2.1) 4 (by omega) ⟨rfl, rfl, kp_0, kp_0, kp_0, rfl, kp_0⟩ ?_) ?_
  · rintro k ⟨x1, x2, v3, v4, g5, g6, g7, g8, g9, g10, g11, g12⟩ self hk ⟨h1, h2, h3, h4, h5, h6, h7⟩ KK
    dsimp only at h1 h2 h3 h4 h5 h6 h7 ⊢
    subst h1 h2 h6
    by_cases hc : k < 4
    · have hqx : bX 2 2 x k = x + 4 * (k % 2) := rfl
      have hqy : bY 2 2 y k = y + 4 * (k / 2) := rfl
      have ex : nI x + (nI k - nI k / (2 : Int32) * (2 : Int32)) * (4 : Int32) = nI (bX 2 2 x k) := by
        rw [hqx]
        (first | rfl | (simp (disch := omega) only [lI0, lI1, lI2, lI3, lI4, lI5, lI7, lI8, lI9, lI10, lI11, lI12, lI15, lI16, lI17, lI20, lI24, lI32, lI33, lI40, lI63, lI64, lI80, lI82, lI101, lI110, lI115, lI251, lI255, lI256, lI384, lI16384, lI20000, lI32768, lI49152, lI65535, nI_add, pk_mul, pk_sub, pk_div] <;> (apply congrArg nI; omega)))
      have ey : nI y + nI k / (2 : Int32) * (4 : Int32) = nI (bY 2 2 y k) := by
        rw [hqy]
        (first | rfl | (simp (disch := omega) only [lI0, lI1, lI2, lI3, lI4, lI5, lI7, lI8, lI9, lI10, lI11, lI12, lI15, lI16, lI17, lI20, lI24, lI32, lI33, lI40, lI63, lI64, lI80, lI82, lI101, lI110, lI115, lI251, lI255, lI256, lI384, lI16384, lI20000, lI32768, lI49152, lI65535, nI_add, pk_mul, pk_sub, pk_div] <;> (apply congrArg nI; omega)))
      refine Ok.neg (by simp (disch := omega) only [lI0, lI1, lI2, lI3, lI4, lI5, lI7, lI8, lI9, lI10, lI11, lI12, lI15, lI16, lI17, lI20, lI24, lI32, lI33, lI40, lI63, lI64, lI80, lI82, lI101, lI110, lI115, lI251, lI255, lI256, lI384, lI16384, lI20000, lI32768, lI49152, lI65535, nI_add, pk_mul, pk_sub, pk_div, nI_leI, nI_ltI, nI_eq] <;> omega) ?_
      rw [ex, ey]
      have hbx : bX 2 2 x k + 2 ^ 2 ≤ 16 := by rw [hqx]; omega
      have hby : bY 2 2 y k + 2 ^ 2 ≤ 24 := by rw [hqy]; omega
      refine Ok.bind _ (ok_X9_make (K := 2) (st := st) (top := y) rfl rfl rfl rfl rfl (by decide) (Or.inl rfl) hbx hby hs0 hs1 (by rw [hqy]; omega) (by omega) nL_at nU_at nT_at) ?_
      rintro ⟨c1, bm1, mn1, ln1, on1, rs1, wk1⟩ ⟨f1, f2, f3, f4⟩
      dsimp only at f1 f2 f3 f4 ⊢
      subst f1 f2
      have f5 := setP_put hbx f4
      subst f5
      refine Ok.bind _ (ok_X9_keep (n := 2 ^ 2) rfl rfl rfl rfl hl (by decide) hbx hby f3) ?_
      rintro ⟨co1, lv1, mo1, sz1⟩ ⟨j1, j2, j3, j4⟩
      dsimp only at j1 j2 j3 j4 ⊢
      refine Ok.bnd (Ok.bnd (KK _ hc ⟨(by first | rfl | (simp (disch := omega) only [lI0, lI1, lI2, lI3, lI4, lI5, lI7, lI8, lI9, lI10, lI11, lI12, lI15, lI16, lI17, lI20, lI24, lI32, lI33, lI40, lI63, lI64, lI80, lI82, lI101, lI110, lI115, lI251, lI255, lI256, lI384, lI16384, lI20000, lI32768, lI49152, lI65535, nI_add, pk_mul, pk_sub, pk_div] <;> (apply congrArg nI; omega))), rfl, ?_, ?_, ?_, rfl, ?_⟩))
      · rw [pCq_s]
        exact kp_put h3 j1
      · rw [eLq_s]
        exact kp_put h4 j2
      · rw [pMq_s]
        exact kp_put h5 j3
      · rw [pSq_s]
        exact kp_put h7 j4
    · have hk2 : k = 4 := by omega
      subst hk2
      exact Ok.pos (by simp (disch := omega) only [lI0, lI1, lI2, lI3, lI4, lI5, lI7, lI8, lI9, lI10, lI11, lI12, lI15, lI16, lI17, lI20, lI24, lI32, lI33, lI40, lI63, lI64, lI80, lI82, lI101, lI110, lI115, lI251, lI255, lI256, lI384, lI16384, lI20000, lI32768, lI49152, lI65535, nI_add, pk_mul, pk_sub, pk_div, nI_leI, nI_ltI, nI_eq] <;> omega) (Ok.some ⟨rfl, h3, h4, h5, rfl, h7⟩)
  rintro ⟨x1, v3, v4, g5, g6, g7, g8, g9, g10, g11, g12⟩ ⟨h2, h3, h4, h5, h6, h7⟩
  dsimp only at h2 h3 h4 h5 h6 h7 ⊢
  subst h2 h6
  refine Ok.bind (fun g => ∀ k, k < 64 → g k = eRq 2 2 x y st tg res 4 (16 * (y + k / 8) + (x + k % 8))) (Ok.fix (fun k z => z.1 = nI k ∧ ∀ j, j < k → z.2 j = eRq 2 2 x y st tg res 4 (16 * (y + j / 8) + (x + j % 8))) 64 (by omega) ⟨rfl, fun j hj => absurd hj (by omega)⟩ ?_) ?_
  · rintro k ⟨x19, g20⟩ self hk ⟨h1, h2⟩ KK
    dsimp only at h1 h2 ⊢
    subst h1
    by_cases hc : k < 64
    · refine Ok.neg (by simp (disch := omega) only [lI0, lI1, lI2, lI3, lI4, lI5, lI7, lI8, lI9, lI10, lI11, lI12, lI15, lI16, lI17, lI20, lI24, lI32, lI33, lI40, lI63, lI64, lI80, lI82, lI101, lI110, lI115, lI251, lI255, lI256, lI384, lI16384, lI20000, lI32768, lI49152, lI65535, nI_add, pk_mul, pk_sub, pk_div, nI_leI, nI_ltI, nI_eq] <;> omega) (Ok.rd (16 * (y + k / 8) + (x + k % 8)) (by first | rfl | (simp (disch := omega) only [lI0, lI1, lI2, lI3, lI4, lI5, lI7, lI8, lI9, lI10, lI11, lI12, lI15, lI16, lI17, lI20, lI24, lI32, lI33, lI40, lI63, lI64, lI80, lI82, lI101, lI110, lI115, lI251, lI255, lI256, lI384, lI16384, lI20000, lI32768, lI49152, lI65535, nI_add, pk_mul, pk_sub, pk_div] <;> (apply congrArg nI; omega))) (by omega) (by decide) (Ok.wr k rfl hc (by decide) (Ok.bnd (KK _ hc ⟨(by first | rfl | (simp (disch := omega) only [lI0, lI1, lI2, lI3, lI4, lI5, lI7, lI8, lI9, lI10, lI11, lI12, lI15, lI16, lI17, lI20, lI24, lI32, lI33, lI40, lI63, lI64, lI80, lI82, lI101, lI110, lI115, lI251, lI255, lI256, lI384, lI16384, lI20000, lI32768, lI49152, lI65535, nI_add, pk_mul, pk_sub, pk_div] <;> (apply congrArg nI; omega))), fun j hj => ?_⟩))))
      dsimp only
      by_cases h8 : j = k
      · rw [h8, upd_eq]
      · rw [upd_ne h8]
        exact h2 j (by omega)
    · have hk2 : k = 64 := by omega
      subst hk2
      exact Ok.pos (by simp (disch := omega) only [lI0, lI1, lI2, lI3, lI4, lI5, lI7, lI8, lI9, lI10, lI11, lI12, lI15, lI16, lI17, lI20, lI24, lI32, lI33, lI40, lI63, lI64, lI80, lI82, lI101, lI110, lI115, lI251, lI255, lI256, lI384, lI16384, lI20000, lI32768, lI49152, lI65535, nI_add, pk_mul, pk_sub, pk_div, nI_leI, nI_ltI, nI_eq] <;> omega) (Ok.some h2)
  intro o21 h21
  refine Ok.bind _ (ok_X9_make (K := 3) (st := st) (top := y) rfl rfl rfl rfl rfl (by decide) (Or.inr rfl) hx hy hs0 hs1 (by omega) (by omega) nL_at nU_at nT_at) ?_
  rintro ⟨c1, bm1, mn1, ln1, on1, rs1, wk1⟩ ⟨f1, f2, f3, f4⟩
  dsimp only at f1 f2 f3 f4 ⊢
  subst f1 f2
  have f5 := setP_put hx f4
  subst f5
  unfold mTile
  by_cases hle : eC 3 x y st tg (eRq 2 2 x y st tg res 4) ≤ eSq 2 2 x y st tg res 4
  · refine Ok.pos hle ?_
    refine Ok.bind _ (ok_X9_keep (n := 2 ^ 3) rfl rfl rfl rfl hl (by decide) hx hy f3) ?_
    rintro ⟨co1, lv1, mo1, sz1⟩ ⟨j1, j2, j3, j4⟩
    dsimp only at j1 j2 j3 j4 ⊢
    refine Ok.rd l rfl hl (by decide) (Ok.wr l rfl hl (by decide) (Ok.some ?_))
    rw [if_pos hle]
    exact ⟨rfl, kp_put h3 j1, kp_put h4 j2, kp_put h5 j3, rfl, kp_put h7 j4⟩
  · refine Ok.neg hle ?_
    refine Ok.bind (fun g => g = eRq 2 2 x y st tg res 4) (Ok.fix (fun k z => z.1 = nI k ∧ (∀ j, j < k → z.2 (16 * (y + j / 8) + (x + j % 8)) = eRq 2 2 x y st tg res 4 (16 * (y + j / 8) + (x + j % 8))) ∧ ∀ j, (∀ i, i < k → j ≠ 16 * (y + i / 8) + (x + i % 8)) → z.2 j = eR 3 x y st tg (eRq 2 2 x y st tg res 4) j) 64 (by omega) ⟨rfl, fun j hj => absurd hj (by omega), fun j _ => rfl⟩ ?_) ?_
    · rintro k ⟨x31, g32⟩ self hk ⟨h1, h2, h8⟩ KK
      dsimp only at h1 h2 h8 ⊢
      subst h1
      by_cases hc : k < 64
      · refine Ok.neg (by simp (disch := omega) only [lI0, lI1, lI2, lI3, lI4, lI5, lI7, lI8, lI9, lI10, lI11, lI12, lI15, lI16, lI17, lI20, lI24, lI32, lI33, lI40, lI63, lI64, lI80, lI82, lI101, lI110, lI115, lI251, lI255, lI256, lI384, lI16384, lI20000, lI32768, lI49152, lI65535, nI_add, pk_mul, pk_sub, pk_div, nI_leI, nI_ltI, nI_eq] <;> omega) (Ok.rd k rfl hc (by decide) (Ok.wr (16 * (y + k / 8) + (x + k % 8)) (by first | rfl | (simp (disch := omega) only [lI0, lI1, lI2, lI3, lI4, lI5, lI7, lI8, lI9, lI10, lI11, lI12, lI15, lI16, lI17, lI20, lI24, lI32, lI33, lI40, lI63, lI64, lI80, lI82, lI101, lI110, lI115, lI251, lI255, lI256, lI384, lI16384, lI20000, lI32768, lI49152, lI65535, nI_add, pk_mul, pk_sub, pk_div] <;> (apply congrArg nI; omega))) (by omega) (by decide) (Ok.bnd (KK _ hc ⟨(by first | rfl | (simp (disch := omega) only [lI0, lI1, lI2, lI3, lI4, lI5, lI7, lI8, lI9, lI10, lI11, lI12, lI15, lI16, lI17, lI20, lI24, lI32, lI33, lI40, lI63, lI64, lI80, lI82, lI101, lI110, lI115, lI251, lI255, lI256, lI384, lI16384, lI20000, lI32768, lI49152, lI65535, nI_add, pk_mul, pk_sub, pk_div] <;> (apply congrArg nI; omega))), fun j hj => ?_, fun j hj => ?_⟩))))
        · dsimp only
          by_cases h9 : j = k
          · rw [h9, upd_eq, h21 k hc]
          · rw [upd_ne (by omega)]
            exact h2 j (by omega)
        · dsimp only
          rw [upd_ne (hj k (by omega))]
          exact h8 j (fun i hi => hj i (by omega))
      · have hk2 : k = 64 := by omega
        subst hk2
        refine Ok.pos (by simp (disch := omega) only [lI0, lI1, lI2, lI3, lI4, lI5, lI7, lI8, lI9, lI10, lI11, lI12, lI15, lI16, lI17, lI20, lI24, lI32, lI33, lI40, lI63, lI64, lI80, lI82, lI101, lI110, lI115, lI251, lI255, lI256, lI384, lI16384, lI20000, lI32768, lI49152, lI65535, nI_add, pk_mul, pk_sub, pk_div, nI_leI, nI_ltI, nI_eq] <;> omega) (Ok.some ?_)
        funext j
        by_cases h9 : y ≤ j / 16 ∧ j / 16 < y + 8 ∧ x ≤ j % 16 ∧ j % 16 < x + 8
        · have h10 := h2 (8 * (j / 16 - y) + (j % 16 - x)) (by omega)
          rw [show 16 * (y + (8 * (j / 16 - y) + (j % 16 - x)) / 8) + (x + (8 * (j / 16 - y) + (j % 16 - x)) % 8) = j from by omega] at h10
          exact h10
        · rw [h8 j (fun i hi h10 => h9 (by omega))]
          show put 8 x y _ _ j = _
          unfold put
          rw [if_neg h9]
    · rintro o rfl
      refine Ok.rd l rfl hl (by decide) (Ok.wr l rfl hl (by decide) (Ok.some ?_))
      rw [if_neg hle]
      exact ⟨rfl, h3, h4, h5, rfl, h7⟩
