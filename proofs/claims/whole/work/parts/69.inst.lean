/-! ===== the class's writer and reader of a part, by numbers ===== -/
theorem hC_W : hCode wCode kW WCt False 7 2 16384 := by
  refine ⟨fun B s k b c p x h hB hx hb => ?_, fun B B' s k h hB => h.mono hB, fun h => absurd h (fun h => h)⟩
  obtain ⟨rfl, hb2⟩ := hb.resolve_left fun h => h
  have hlt : ∀ b, bN b < 2 := fun b => by
    unfold bN
    split <;> decide
  rcases hx with ⟨hc, rfl⟩ | ⟨rfl, rfl⟩
  · rw [if_pos hc]
    exact (ok_codeW h (by omega) hb2 (Or.inl ⟨hc, rfl, rfl⟩)).mono fun o ho => ⟨ho.1, hlt b, ho.2⟩
  · rw [if_neg (by decide)]
    exact (ok_codeW h (by omega) hb2 (Or.inr ⟨rfl, rfl, rfl⟩)).mono fun o ho => ⟨ho.1, hlt b, ho.2⟩
theorem rCode_lt (F : Nat → Nat) (b c : Nat) (r : RS) : (rCode F b c r).2 < 2 := by
  unfold rCode
  split
  · exact Nat.zero_lt_two
  · exact Nat.one_lt_two
theorem hC_R {start len n : Nat} {v : Nat → Nat} {cy : gI} (hs2 : start + len ≤ n) (hn : n ≤ 32768) (hv : byP start len v cy) : hCode (rCode (btN v len)) (kR (nI (8 * (start + len))) n cy) (RCt start len) True 8 8 (2 ^ 20) := by
  refine ⟨fun B s k b c p x h hB hx hb => ?_, fun B B' s k h hB => h.mono hB, fun _ b b' c => rfl⟩
  have e : (if c < 20 then 8 else 8) = 8 := by split <;> rfl
  rw [e]
  exact (ok_codeR (b2 := b) hs2 hn hv h hB hx).mono fun o ho => ⟨ho.1, rCode_lt _ _ _ _, ho.2⟩
theorem lW_eq (k : tW) (x y : Int32) : lW k x y = gLev kW k x y := rfl
theorem lR_eq (en : Int32) (n : Nat) (cy : gI) (k : tR) (x y : Int32) : lR en n cy k x y = gLev (kR en n cy) k x y := rfl
theorem hL_W : hLev wCode lW WCt False 113 16384 := fun B s k x cx h hB hcx hx => by
  rw [lW_eq]
  exact ok_gLev hC_W h (by omega) hcx hx
theorem hL_R {start len n : Nat} {v : Nat → Nat} {cy : gI} (hs2 : start + len ≤ n) (hn : n ≤ 32768) (hv : byP start len v cy) : hLev (rCode (btN v len)) (lR (nI (8 * (start + len))) n cy) (RCt start len) True 192 (2 ^ 20) := fun B s k x cx h hB hcx hx => by
  rw [lR_eq]
  exact ok_gLev (hC_R hs2 hn hv) h (by omega) hcx hx
theorem bW_eq (k : tW) (g mo sz : gI) (p2 p3 p4 : Int32) : bW (pk2W k g mo) sz p2 p3 p4 = gBlk kW lW pkW ukW ulW pk2W k g mo sz p2 p3 p4 := rfl
theorem bR_eq (en : Int32) (n : Nat) (cy : gI) (k : tR) (g mo sz : gI) (p2 p3 p4 : Int32) : bR en n cy (pk2R k g mo) sz p2 p3 p4 = gBlk (kR en n cy) (lR en n cy) pkR ukR ulR pk2R k g mo sz p2 p3 p4 := rfl
theorem hB_W : hBlk wCode bW pk2W WCt False (fun n => 14 + 113 * (n * n)) 16384 := fun B s k g0 mo sz x y n m lv hn hx hy hsz h hB hin => by
  rw [bW_eq]
  dsimp only at hB
  refine (ok_gBlk hC_W hL_W (fun _ _ => rfl) (fun _ _ => rfl) rfl rfl rfl hn hx hy hsz h (by omega) hin).mono ?_
  rintro o ⟨k', g', h1, h2, h3, h4⟩
  exact ⟨k', g', h1, h2, h3.mono (by dsimp only; omega), h4⟩
theorem hB_R {start len n : Nat} {v : Nat → Nat} {cy : gI} (hs2 : start + len ≤ n) (hn : n ≤ 32768) (hv : byP start len v cy) : hBlk (rCode (btN v len)) (bR (nI (8 * (start + len))) n cy) pk2R (RCt start len) True (fun n => 16 + 192 * (n * n)) (2 ^ 20) := fun B s k g0 mo sz x y n m lv hn2 hx hy hsz h hB hin => by
  rw [bR_eq]
  dsimp only at hB
  refine (ok_gBlk (hC_R hs2 hn hv) (hL_R hs2 hn hv) (fun _ _ => rfl) (fun _ _ => rfl) rfl rfl rfl hn2 hx hy hsz h (by omega) hin).mono ?_
  rintro o ⟨k', g', h1, h2, h3, h4⟩
  exact ⟨k', g', h1, h2, h3.mono (by dsimp only; omega), h4⟩
/-- the class writes a part: the writer by numbers, and the rows hold what it answers -/
theorem ok_partW {a b c d : Int32} {e f g L0 M0 S0 : gI} {p2 p3 : Int32} {slice y T : Nat} {td : Nat → TD} (e2 : p2 = nI slice) (e3 : p3 = nI T) (ey : y = 8 * slice) (hT : T ≤ 2) (hsl : slice < 3) (h : WCt 0 W0 (a, b, c, d, e, f, g)) (hin : ∀ t, t < T → tdP (8 * t) y (td t) L0 M0 S0 ∧ tOk (td t)) :
    Ok (lf_X8_codePart_X2 a b c d e f g L0 M0 S0 p2 p3) (fun o => ∃ k' L' M' S', o = pk3W (pk2W k' L' M') S' ∧ WCt 14590 (pPrt wCode td T W0).1 k' ∧ tlSo y T (pPrt wCode td T W0).2 L0 M0 S0 L' M' S') := by
  rw [prt_X2]
  refine (ok_gPrt (k := (a, b, c, d, e, f, g)) (cm := 7288) hC_W hB_W (fun _ _ _ _ => rfl) (fun _ _ _ _ => rfl) (fun _ _ _ _ => rfl) (fun _ _ _ _ => rfl) e2 e3 ey hT hsl h (by decide) (by decide) (by omega) (Or.inr fun b c s => rfl) (Or.inr hin)).mono ?_
  rintro o ⟨k', L', M', S', h1, h2, h3⟩
  exact ⟨k', L', M', S', h1, h2.mono (by omega), h3⟩
theorem irr_lvs {σ : Type} {cd : Nat → Nat → σ → σ × Nat} (hi : ∀ b b' c, cd b c = cd b' c) (n : Nat) (lv lv2 : Nat → Nat → Int32) : ∀ j, pLvs cd n lv j = pLvs cd n lv2 j := by
  intro j
  induction j with
  | zero => rfl
  | succ j ih =>
    unfold pLvs
    rw [ih]
    exact congrArg _ (funext fun A => by rw [irr_lev hi (lv (j / n) (j % n)) (lv2 (j / n) (j % n))])
theorem irr_blk {σ : Type} {cd : Nat → Nat → σ → σ × Nat} (hi : ∀ b b' c, cd b c = cd b' c) (n m m2 : Nat) (lv lv2 : Nat → Nat → Int32) : pBlk cd n m lv = pBlk cd n m2 lv2 := by
  unfold pBlk
  rw [hi (m / 2) (m2 / 2), hi (m % 2) (m2 % 2), irr_lvs hi n lv lv2]
/-- the class reads a part: the reader by numbers, whatever stood in the rows -/
theorem ok_partR {a b c d : Int32} {start len n : Nat} {v : Nat → Nat} {cy f g L0 M0 S0 : gI} {p2 p3 : Int32} {slice y T : Nat} {td : Nat → TD} (e2 : p2 = nI slice) (e3 : p3 = nI T) (ey : y = 8 * slice) (hT : T ≤ 2) (hsl : slice < 3) (hs2 : start + len ≤ n) (hn : n ≤ 32768) (hv : byP start len v cy) (h : RCt start len 0 (R0 (btN v len)) (a, b, c, d, f, g)) :
    Ok (lf_X8_codePart_X1 a (nI (8 * (start + len))) b c d n cy f g L0 M0 S0 p2 p3) (fun o => ∃ k' L' M' S', o = pk3R (pk2R k' L' M') S' ∧ tlSo y T (pPrt (rCode (btN v len)) td T (R0 (btN v len))).2 L0 M0 S0 L' M' S') := by
  rw [prt_X1]
  refine (ok_gPrt (k := (a, b, c, d, f, g)) (cm := 12352) (hC_R hs2 hn hv) (hB_R hs2 hn hv) (fun _ _ _ _ => rfl) (fun _ _ _ _ => rfl) (fun _ _ _ _ => rfl) (fun _ _ _ _ => rfl) e2 e3 ey hT hsl h (by decide) (by decide) (by omega) (Or.inl trivial) (Or.inl trivial)).mono ?_
  rintro o ⟨k', L', M', S', h1, h2, h3⟩
  exact ⟨k', L', M', S', h1, h3⟩
