/-! ===== prediction ===== -/
def sumN : Nat → (Nat → Int32) → Int32
  | 0, _ => 0
  | n + 1, f => sumN n f + f n
theorem sumN_congr {n : Nat} {f g : Nat → Int32} (h : ∀ k, k < n → f k = g k) : sumN n f = sumN n g := by
  induction n with
  | zero => rfl
  | succ n ih =>
    show sumN n f + f n = sumN n g + g n
    rw [ih fun k hk => h k (by omega), h n (by omega)]
def fd (x y : Int32) : Int32 := if 0 ≤ (x ^^^ y) then x / y else if x / y * y = x then x / y else x / y - 1
theorem fd_eq {x y : Int32} (h : ¬ y = 0) : lf_J9_floorDiv_7cf53 x y = some (fd x y) := by
  unfold lf_J9_floorDiv_7cf53 fd dvO
  rw [if_neg h]
  dsimp only [Option.bind]
  by_cases h1 : 0 ≤ (x ^^^ y)
  · rw [if_pos h1, if_pos h1]
  · rw [if_neg h1, if_neg h1]
    by_cases h2 : x / y * y = x
    · rw [if_pos h2, if_pos h2]
    · rw [if_neg h2, if_neg h2]
def mag (x : Int32) : Int32 := if 0 ≤ x then x else -x
theorem jabs_mag (x : Int32) : jabs x = mag x := by
  unfold jabs mag
  by_cases h : 0 ≤ x
  · rw [if_pos h, if_pos h]
  · rw [if_neg h, if_neg h, Int32.zero_sub]
/-- the neighbours of a block at x, y in a plane of results -/
def nbL (res : Nat → Int32) (x y k : Nat) : Int32 := if x = 0 then 0 else res (16 * (y + k) + x - 1)
def nbU (res : Nat → Int32) (x y k : Nat) : Int32 := if y % 8 = 0 then 0 else res (16 * (y - 1) + x + k)
def mnS (n : Nat) (L U : Nat → Int32) : Int32 := fd (sumN n fun k => L k + U k) (nI (2 * n))
def prS (mean : Int32) (L U : Nat → Int32) (m r c : Nat) : Int32 := if m = 0 then mean else if m = 1 then L r else if m = 2 then U c else hf (L r + U c)
def dsS (n : Nat) (mean : Int32) (L U : Nat → Int32) (T : Nat → Nat → Int32) (m : Nat) : Int32 := sumN n fun r => sumN n fun c => mag (T r c - prS mean L U m r c)
def bmS (d : Nat → Int32) : Nat → Nat
  | 0 => 0
  | k + 1 => if d (k + 1) < d (bmS d k) then k + 1 else bmS d k
theorem bmS_le (d : Nat → Int32) : ∀ k, bmS d k ≤ k
  | 0 => Nat.le_refl _
  | k + 1 => by
    unfold bmS
    split
    · omega
    · have := bmS_le d k
      omega
theorem hf_toInt (x : Int32) : (hf x).toInt = x.toInt / 2 := by
  have h1 : (hf x).toBitVec = x.toBitVec.sshiftRight 1 := by
    unfold hf
    rw [Int32.toBitVec_shiftRight, show ((1 : Int32) &&& 31).toBitVec.smod 32 = 1#32 from by decide]
    rfl
  show (hf x).toBitVec.toInt = _
  rw [h1, BitVec.toInt_sshiftRight, Int.shiftRight_eq_div_pow]
  rfl
theorem xor_pos {x y : Int32} (hy : 0 ≤ y.toInt) : 0 ≤ (x ^^^ y) ↔ 0 ≤ x.toInt := by
  have h1 : (x ^^^ y).toBitVec.msb = (x.toBitVec.msb ^^ y.toBitVec.msb) := by
    rw [Int32.toBitVec_xor, BitVec.msb_xor]
  rw [BitVec.msb_eq_toInt, BitVec.msb_eq_toInt, BitVec.msb_eq_toInt] at h1
  have h2 : decide (y.toBitVec.toInt < 0) = false := decide_eq_false (by
    show ¬ y.toInt < 0
    omega)
  rw [h2, Bool.xor_false] at h1
  have h3 := decide_eq_decide.mp h1
  rw [Int32.le_iff_toInt_le]
  show 0 ≤ (x ^^^ y).toBitVec.toInt ↔ 0 ≤ x.toBitVec.toInt
  omega
/-- floorDiv by 2, 8 or 16 -/
theorem fd_toInt (x : Int32) {n : Nat} (hn : n = 2 ∨ n = 8 ∨ n = 16) : (fd x (nI n)).toInt = x.toInt / n := by
  have hl := x.le_toInt
  have hu := x.toInt_lt
  have hy : (nI n).toInt = n := nI_toInt (by omega)
  have hd : (x / nI n).toInt = x.toInt.tdiv n := by
    rw [Int32.toInt_div_of_ne_right _ _ (by rcases hn with rfl | rfl | rfl <;> decide), hy]
  unfold fd
  by_cases h1 : 0 ≤ (x ^^^ nI n)
  · rw [if_pos h1, hd]
    have h2 := (xor_pos (by omega)).mp h1
    exact Int.tdiv_eq_ediv_of_nonneg h2
  · rw [if_neg h1]
    have h2 : ¬ 0 ≤ x.toInt := fun h => h1 ((xor_pos (by omega)).mpr h)
    have ht : x.toInt.tdiv n = -((-x.toInt) / n) := by
      have h3 := Int.neg_tdiv (-x.toInt) n
      rw [Int.neg_neg] at h3
      rw [h3, Int.tdiv_eq_ediv_of_nonneg (by omega)]
    rw [ht] at hd
    have h4 : (x / nI n * nI n).toInt = -((-x.toInt) / n) * n := by
      rw [Int32.toInt_mul, hd, hy]
      rcases hn with rfl | rfl | rfl
      · exact Int.bmod_eq_of_le (by omega) (by omega)
      · exact Int.bmod_eq_of_le (by omega) (by omega)
      · exact Int.bmod_eq_of_le (by omega) (by omega)
    by_cases h3 : x / nI n * nI n = x
    · rw [if_pos h3, hd]
      rw [h3] at h4
      rcases hn with rfl | rfl | rfl <;> omega
    · rw [if_neg h3]
      have h5 : ¬ x.toInt = -((-x.toInt) / n) * n := fun h => h3 (Int32.toInt_inj.mp (h4.trans h.symm))
      have e1 : (1 : Int32).toInt = 1 := rfl
      rw [Int32.toInt_sub, hd, e1]
      rcases hn with rfl | rfl | rfl
      · exact (Int.bmod_eq_of_le (by omega) (by omega)).trans (by omega)
      · exact (Int.bmod_eq_of_le (by omega) (by omega)).trans (by omega)
      · exact (Int.bmod_eq_of_le (by omega) (by omega)).trans (by omega)
theorem fd_hf (x : Int32) : fd x 2 = hf x := by
  refine Int32.toInt_inj.mp ?_
  rw [hf_toInt]
  exact fd_toInt x (Or.inl rfl)
theorem ok_X6_look {av sz : Int32} {ab lf res : Nat → Int32} {p1 p2 p3 : Int32} {x y n : Nat} (e1 : p1 = nI x) (e2 : p2 = nI y) (e3 : p3 = nI n) (hn : n = 4 ∨ n = 8) (hx : x + n ≤ 16) (hy : y + n ≤ 24) :
    Ok (lf_X6_look av sz ab lf 384 res p1 p2 p3) (fun o => o.1 = mnS n (nbL res x y) (nbU res x y) ∧ o.2.1 = nI n ∧ (∀ i, i < n → o.2.2.1 i = nbU res x y i) ∧ ∀ i, i < n → o.2.2.2 i = nbL res x y i) := by
  subst e1 e2 e3
  unfold lf_X6_look
  refine Ok.bind (fun o => o.1 = (sumN n fun k => nbL res x y k + nbU res x y k) ∧ (∀ i, i < n → o.2.1 i = nbU res x y i) ∧ ∀ i, i < n → o.2.2 i = nbL res x y i) (Ok.fix (fun k z => z.2.1 = nI k ∧ z.1 = (sumN k fun k => nbL res x y k + nbU res x y k) ∧ (∀ i, i < k → z.2.2.1 i = nbU res x y i) ∧ ∀ i, i < k → z.2.2.2 i = nbL res x y i) n (by omega) ⟨rfl, rfl, fun i hi => absurd hi (by omega), fun i hi => absurd hi (by omega)⟩ ?_) ?_
  · rintro k ⟨x1, x2, g3, g4⟩ self hk ⟨h1, h2, h3, h4⟩ K
    dsimp only at h1 h2 h3 h4 ⊢
    subst h1 h2
    by_cases hc : k < n
    · refine Ok.neg (by simp (disch := omega) only [lI0, lI1, lI2, lI3, lI4, lI5, lI7, lI8, lI9, lI10, lI11, lI12, lI15, lI16, lI17, lI20, lI24, lI32, lI33, lI40, lI63, lI64, lI80, lI82, lI101, lI110, lI115, lI251, lI255, lI256, lI384, lI16384, lI20000, lI32768, lI49152, lI65535, nI_add, pk_mul, pk_sub, pk_div, nI_leI, nI_ltI, nI_eq] <;> omega) ?_
      refine Ok.jnR (fun s => s = nbL res x y k) (fun kk hkk => ?_) (fun s hs => ?_)
      · unfold nbL at hkk
        by_cases h0 : x = 0
        · exact Ok.pos (by simp (disch := omega) only [lI0, lI1, lI2, lI3, lI4, lI5, lI7, lI8, lI9, lI10, lI11, lI12, lI15, lI16, lI17, lI20, lI24, lI32, lI33, lI40, lI63, lI64, lI80, lI82, lI101, lI110, lI115, lI251, lI255, lI256, lI384, lI16384, lI20000, lI32768, lI49152, lI65535, nI_add, pk_mul, pk_sub, pk_div, nI_leI, nI_ltI, nI_eq] <;> omega) (hkk _ (by rw [if_pos h0]))
        · exact Ok.neg (by simp (disch := omega) only [lI0, lI1, lI2, lI3, lI4, lI5, lI7, lI8, lI9, lI10, lI11, lI12, lI15, lI16, lI17, lI20, lI24, lI32, lI33, lI40, lI63, lI64, lI80, lI82, lI101, lI110, lI115, lI251, lI255, lI256, lI384, lI16384, lI20000, lI32768, lI49152, lI65535, nI_add, pk_mul, pk_sub, pk_div, nI_leI, nI_ltI, nI_eq] <;> omega) (Ok.rd (16 * (y + k) + x - 1) (by first | (simp (disch := omega) only [lI0, lI1, lI2, lI3, lI4, lI5, lI7, lI8, lI9, lI10, lI11, lI12, lI15, lI16, lI17, lI20, lI24, lI32, lI33, lI40, lI63, lI64, lI80, lI82, lI101, lI110, lI115, lI251, lI255, lI256, lI384, lI16384, lI20000, lI32768, lI49152, lI65535, nI_add, pk_mul, pk_sub, pk_div] <;> (apply congrArg nI; omega)) | rfl) (by omega) (by decide) (hkk _ (by rw [if_neg h0])))
      · subst hs
        refine Ok.wr k rfl (by omega) (by decide) ?_
        refine Ok.jnR (fun s => s = nbU res x y k) (fun kk hkk => ?_) (fun s hs => ?_)
        · unfold nbU at hkk
          by_cases h0 : y % 8 = 0
          · exact Ok.pos (by simp (disch := omega) only [lI0, lI1, lI2, lI3, lI4, lI5, lI7, lI8, lI9, lI10, lI11, lI12, lI15, lI16, lI17, lI20, lI24, lI32, lI33, lI40, lI63, lI64, lI80, lI82, lI101, lI110, lI115, lI251, lI255, lI256, lI384, lI16384, lI20000, lI32768, lI49152, lI65535, nI_add, pk_mul, pk_sub, pk_div, nI_leI, nI_ltI, nI_eq] <;> omega) (hkk _ (by rw [if_pos h0]))
          · exact Ok.neg (by simp (disch := omega) only [lI0, lI1, lI2, lI3, lI4, lI5, lI7, lI8, lI9, lI10, lI11, lI12, lI15, lI16, lI17, lI20, lI24, lI32, lI33, lI40, lI63, lI64, lI80, lI82, lI101, lI110, lI115, lI251, lI255, lI256, lI384, lI16384, lI20000, lI32768, lI49152, lI65535, nI_add, pk_mul, pk_sub, pk_div, nI_leI, nI_ltI, nI_eq] <;> omega) (Ok.rd (16 * (y - 1) + x + k) (by first | (simp (disch := omega) only [lI0, lI1, lI2, lI3, lI4, lI5, lI7, lI8, lI9, lI10, lI11, lI12, lI15, lI16, lI17, lI20, lI24, lI32, lI33, lI40, lI63, lI64, lI80, lI82, lI101, lI110, lI115, lI251, lI255, lI256, lI384, lI16384, lI20000, lI32768, lI49152, lI65535, nI_add, pk_mul, pk_sub, pk_div] <;> (apply congrArg nI; omega)) | rfl) (by omega) (by decide) (hkk _ (by rw [if_neg h0])))
        · subst hs
          refine Ok.wr k rfl (by omega) (by decide) ?_
          refine Ok.rd k rfl (by omega) (by decide) (Ok.rd k rfl (by omega) (by decide) (Ok.bnd (Ok.bnd (K _ hc ⟨(by first | (simp (disch := omega) only [lI0, lI1, lI2, lI3, lI4, lI5, lI7, lI8, lI9, lI10, lI11, lI12, lI15, lI16, lI17, lI20, lI24, lI32, lI33, lI40, lI63, lI64, lI80, lI82, lI101, lI110, lI115, lI251, lI255, lI256, lI384, lI16384, lI20000, lI32768, lI49152, lI65535, nI_add, pk_mul, pk_sub, pk_div] <;> (apply congrArg nI; omega)) | rfl), ?_, ?_, ?_⟩))))
          · dsimp only
            rw [upd_eq, upd_eq]
            rfl
          · intro i hi
            dsimp only
            by_cases h5 : i = k
            · rw [h5, upd_eq]
            · rw [upd_ne h5]
              exact h3 i (by omega)
          · intro i hi
            dsimp only
            by_cases h5 : i = k
            · rw [h5, upd_eq]
            · rw [upd_ne h5]
              exact h4 i (by omega)
    · have hk2 : k = n := by omega
      subst hk2
      exact Ok.pos (by simp (disch := omega) only [lI0, lI1, lI2, lI3, lI4, lI5, lI7, lI8, lI9, lI10, lI11, lI12, lI15, lI16, lI17, lI20, lI24, lI32, lI33, lI40, lI63, lI64, lI80, lI82, lI101, lI110, lI115, lI251, lI255, lI256, lI384, lI16384, lI20000, lI32768, lI49152, lI65535, nI_add, pk_mul, pk_sub, pk_div, nI_leI, nI_ltI, nI_eq] <;> omega) (Ok.some ⟨rfl, h3, h4⟩)
  · rintro ⟨o1, o2, o3⟩ ⟨h1, h2, h3⟩
    dsimp only at h1 h2 h3 ⊢
    subst h1
    refine Ok.jnR (fun s => s = nI (2 * n)) (fun kk hkk => ?_) (fun s hs => ?_)
    · rcases hn with rfl | rfl
      · exact Ok.pos rfl (hkk _ rfl)
      · exact Ok.neg (by decide) (hkk _ rfl)
    · subst hs
      exact Ok.bindE _ (fd_eq (by rcases hn with rfl | rfl <;> decide)) (Ok.some ⟨rfl, rfl, h2, h3⟩)
theorem eq_X6_of {av : Int32} {ab lf L U : Nat → Int32} {m r c : Nat} (hm : m < 4) (hr : r < 8) (hc : c < 8) (hL : lf r = L r) (hU : ab c = U c) : lf_X6_of av ab lf (nI m) (nI r) (nI c) = some (prS av L U m r c) := by
  unfold lf_X6_of prS
  rw [rd_nI hr (by decide), rd_nI hc (by decide), hL, hU]
  dsimp only [Option.bind]
  rw [fd_eq (by decide)]
  dsimp only [Option.bind]
  have hm2 : m = 0 ∨ m = 1 ∨ m = 2 ∨ m = 3 := by omega
  rcases hm2 with rfl | rfl | rfl | rfl
  · rw [if_pos (by decide), if_pos rfl]
  · rw [if_neg (by decide), if_pos (by decide), if_neg (by decide), if_pos rfl]
  · rw [if_neg (by decide), if_neg (by decide), if_pos (by decide), if_neg (by decide), if_neg (by decide), if_pos rfl]
  · rw [if_neg (by decide), if_neg (by decide), if_neg (by decide), if_neg (by decide), if_neg (by decide), if_neg (by decide), fd_hf]
/-- a double sum, so far -/
def sumD (n : Nat) (w : Nat → Nat → Int32) (i k : Nat) : Int32 := (sumN i fun r => sumN n (w r)) + sumN k (w i)
theorem sumD_step {n : Nat} {w : Nat → Nat → Int32} {i k : Nat} : sumD n w i k + w i k = sumD n w i (k + 1) := by
  unfold sumD
  show _ = _ + (sumN k (w i) + w i k)
  rw [Int32.add_assoc]
theorem sumD_row {n : Nat} {w : Nat → Nat → Int32} {i : Nat} : sumD n w i n = sumD n w (i + 1) 0 := by
  unfold sumD
  show _ = (_ + _) + (0 : Int32)
  rw [Int32.add_zero]
theorem sumD_end {n : Nat} {w : Nat → Nat → Int32} : sumD n w n 0 = sumN n fun r => sumN n (w r) := by
  unfold sumD
  show _ + (0 : Int32) = _
  rw [Int32.add_zero]
theorem ok_X6_bestMode {av sz : Int32} {ab lf tg L U : Nat → Int32} {T : Nat → Nat → Int32} {p1 p2 : Int32} {x y n : Nat} (ez : sz = nI n) (e1 : p1 = nI x) (e2 : p2 = nI y) (hn : n ≤ 8) (hx : x + n ≤ 16) (hy : y + n ≤ 24)
    (hL : ∀ i, i < n → lf i = L i) (hU : ∀ i, i < n → ab i = U i) (hT : ∀ r c, r < n → c < n → tg (16 * (y + r) + x + c) = T r c) : lf_X6_bestMode av sz ab lf 384 tg p1 p2 = some (nI (bmS (dsS n av L U T) 3)) := by
  subst ez e1 e2
  suffices h : Ok (lf_X6_bestMode av (nI n) ab lf 384 tg (nI x) (nI y)) (fun o => o = nI (bmS (dsS n av L U T) 3)) by
    obtain ⟨o, h1, h2⟩ := h
    rw [h1, h2]
  unfold lf_X6_bestMode
  generalize hd : dsS n av L U T = d
  refine Ok.bind (fun o => o = nI (bmS d 3)) (Ok.fix (fun k z => z.2.2 = nI k ∧ (k = 0 ∨ z.1 = nI (bmS d (k - 1)) ∧ z.2.1 = d (bmS d (k - 1)))) 4 (by omega) ⟨rfl, Or.inl rfl⟩ ?_) (fun o ho => Ok.some ho)
  rintro k ⟨x1, x2, x3⟩ self hk ⟨h1, h2⟩ KK
  dsimp only at h1 h2 ⊢
  subst h1
  by_cases hc : k < 4
  · generalize hw : (fun r c => mag (T r c - prS av L U k r c)) = w
    have hdk : d k = sumN n fun r => sumN n (w r) := by rw [← hw, ← hd]; rfl
    refine Ok.neg (by simp (disch := omega) only [lI0, lI1, lI2, lI3, lI4, lI5, lI7, lI8, lI9, lI10, lI11, lI12, lI15, lI16, lI17, lI20, lI24, lI32, lI33, lI40, lI63, lI64, lI80, lI82, lI101, lI110, lI115, lI251, lI255, lI256, lI384, lI16384, lI20000, lI32768, lI49152, lI65535, nI_add, pk_mul, pk_sub, pk_div, nI_leI, nI_ltI, nI_eq] <;> omega) (Ok.bind (fun o => o = d k) (Ok.fix (fun i z => z.2 = nI i ∧ z.1 = sumD n w i 0) n (by omega) ⟨rfl, by unfold sumD; rfl⟩ ?_) ?_)
    · rintro i ⟨x7, x8⟩ self2 hi ⟨h3, h4⟩ K2
      dsimp only at h3 h4 ⊢
      subst h3 h4
      by_cases hc2 : i < n
      · refine Ok.neg (by simp (disch := omega) only [lI0, lI1, lI2, lI3, lI4, lI5, lI7, lI8, lI9, lI10, lI11, lI12, lI15, lI16, lI17, lI20, lI24, lI32, lI33, lI40, lI63, lI64, lI80, lI82, lI101, lI110, lI115, lI251, lI255, lI256, lI384, lI16384, lI20000, lI32768, lI49152, lI65535, nI_add, pk_mul, pk_sub, pk_div, nI_leI, nI_ltI, nI_eq] <;> omega) (Ok.bind (fun o => o = sumD n w i n) (Ok.fix (fun j z => z.2 = nI j ∧ z.1 = sumD n w i j) n (by omega) ⟨rfl, rfl⟩ ?_) (fun o ho => Ok.bnd (K2 _ hc2 ⟨(by first | (simp (disch := omega) only [lI0, lI1, lI2, lI3, lI4, lI5, lI7, lI8, lI9, lI10, lI11, lI12, lI15, lI16, lI17, lI20, lI24, lI32, lI33, lI40, lI63, lI64, lI80, lI82, lI101, lI110, lI115, lI251, lI255, lI256, lI384, lI16384, lI20000, lI32768, lI49152, lI65535, nI_add, pk_mul, pk_sub, pk_div] <;> (apply congrArg nI; omega)) | rfl), by rw [← sumD_row]; exact ho⟩)))
        rintro j ⟨x11, x12⟩ self3 hj ⟨h3, h4⟩ K3
        dsimp only at h3 h4 ⊢
        subst h3 h4
        by_cases hc3 : j < n
        · refine Ok.neg (by simp (disch := omega) only [lI0, lI1, lI2, lI3, lI4, lI5, lI7, lI8, lI9, lI10, lI11, lI12, lI15, lI16, lI17, lI20, lI24, lI32, lI33, lI40, lI63, lI64, lI80, lI82, lI101, lI110, lI115, lI251, lI255, lI256, lI384, lI16384, lI20000, lI32768, lI49152, lI65535, nI_add, pk_mul, pk_sub, pk_div, nI_leI, nI_ltI, nI_eq] <;> omega) (Ok.rd (16 * (y + i) + x + j) (by first | (simp (disch := omega) only [lI0, lI1, lI2, lI3, lI4, lI5, lI7, lI8, lI9, lI10, lI11, lI12, lI15, lI16, lI17, lI20, lI24, lI32, lI33, lI40, lI63, lI64, lI80, lI82, lI101, lI110, lI115, lI251, lI255, lI256, lI384, lI16384, lI20000, lI32768, lI49152, lI65535, nI_add, pk_mul, pk_sub, pk_div] <;> (apply congrArg nI; omega)) | rfl) (by omega) (by decide) (Ok.bindE _ (eq_X6_of hc (by omega) (by omega) (hL i hc2) (hU j hc3)) (Ok.bnd (Ok.bnd (K3 _ hc3 ⟨(by first | (simp (disch := omega) only [lI0, lI1, lI2, lI3, lI4, lI5, lI7, lI8, lI9, lI10, lI11, lI12, lI15, lI16, lI17, lI20, lI24, lI32, lI33, lI40, lI63, lI64, lI80, lI82, lI101, lI110, lI115, lI251, lI255, lI256, lI384, lI16384, lI20000, lI32768, lI49152, lI65535, nI_add, pk_mul, pk_sub, pk_div] <;> (apply congrArg nI; omega)) | rfl), ?_⟩)))))
          dsimp only
          rw [hT i j hc2 hc3, jabs_mag, ← sumD_step, ← hw]
        · have hj2 : j = n := by omega
          subst hj2
          exact Ok.pos (by simp (disch := omega) only [lI0, lI1, lI2, lI3, lI4, lI5, lI7, lI8, lI9, lI10, lI11, lI12, lI15, lI16, lI17, lI20, lI24, lI32, lI33, lI40, lI63, lI64, lI80, lI82, lI101, lI110, lI115, lI251, lI255, lI256, lI384, lI16384, lI20000, lI32768, lI49152, lI65535, nI_add, pk_mul, pk_sub, pk_div, nI_leI, nI_ltI, nI_eq] <;> omega) (Ok.some rfl)
      · have hi2 : i = n := by omega
        subst hi2
        exact Ok.pos (by simp (disch := omega) only [lI0, lI1, lI2, lI3, lI4, lI5, lI7, lI8, lI9, lI10, lI11, lI12, lI15, lI16, lI17, lI20, lI24, lI32, lI33, lI40, lI63, lI64, lI80, lI82, lI101, lI110, lI115, lI251, lI255, lI256, lI384, lI16384, lI20000, lI32768, lI49152, lI65535, nI_add, pk_mul, pk_sub, pk_div, nI_leI, nI_ltI, nI_eq] <;> omega) (Ok.some (by rw [hdk]; exact sumD_end))
    · rintro o rfl
      refine Ok.jnR (fun z => z.1 = nI (bmS d k) ∧ z.2 = d (bmS d k)) (fun kk hkk => ?_) (fun z hz => Ok.bnd (KK _ hc ⟨(by first | (simp (disch := omega) only [lI0, lI1, lI2, lI3, lI4, lI5, lI7, lI8, lI9, lI10, lI11, lI12, lI15, lI16, lI17, lI20, lI24, lI32, lI33, lI40, lI63, lI64, lI80, lI82, lI101, lI110, lI115, lI251, lI255, lI256, lI384, lI16384, lI20000, lI32768, lI49152, lI65535, nI_add, pk_mul, pk_sub, pk_div] <;> (apply congrArg nI; omega)) | rfl), Or.inr hz⟩))
      refine Ok.jnR (fun _ => k = 0 ∨ d k < d (bmS d (k - 1))) (fun k2 hk2 => ?_) (fun _ h5 => ?_)
      · by_cases h0 : k = 0
        · exact Ok.pos (by simp (disch := omega) only [lI0, lI1, lI2, lI3, lI4, lI5, lI7, lI8, lI9, lI10, lI11, lI12, lI15, lI16, lI17, lI20, lI24, lI32, lI33, lI40, lI63, lI64, lI80, lI82, lI101, lI110, lI115, lI251, lI255, lI256, lI384, lI16384, lI20000, lI32768, lI49152, lI65535, nI_add, pk_mul, pk_sub, pk_div, nI_leI, nI_ltI, nI_eq] <;> omega) (hk2 () (Or.inl h0))
        · rcases h2 with h2 | ⟨h2, h3⟩
          · exact absurd h2 h0
          subst h2 h3
          refine Ok.neg (by simp (disch := omega) only [lI0, lI1, lI2, lI3, lI4, lI5, lI7, lI8, lI9, lI10, lI11, lI12, lI15, lI16, lI17, lI20, lI24, lI32, lI33, lI40, lI63, lI64, lI80, lI82, lI101, lI110, lI115, lI251, lI255, lI256, lI384, lI16384, lI20000, lI32768, lI49152, lI65535, nI_add, pk_mul, pk_sub, pk_div, nI_leI, nI_ltI, nI_eq] <;> omega) ?_
          have hb : bmS d ((k - 1) + 1) = if d ((k - 1) + 1) < d (bmS d (k - 1)) then (k - 1) + 1 else bmS d (k - 1) := rfl
          rw [show k - 1 + 1 = k from by omega] at hb
          by_cases h5 : d k < d (bmS d (k - 1))
          · exact Ok.neg (Int32.not_le.mpr h5) (hk2 () (Or.inr h5))
          · rw [if_neg h5] at hb
            exact Ok.pos (Int32.not_lt.mp h5) (hkk _ ⟨by rw [hb], by rw [hb]⟩)
      · have hb : bmS d k = k := by
          rcases Nat.eq_zero_or_pos k with h0 | h0
          · subst h0
            rfl
          · have hb : bmS d ((k - 1) + 1) = if d ((k - 1) + 1) < d (bmS d (k - 1)) then (k - 1) + 1 else bmS d (k - 1) := rfl
            rw [show k - 1 + 1 = k from by omega] at hb
            rw [hb, if_pos (by
              rcases h5 with h5 | h5
              · omega
              · exact h5)]
        exact hkk _ ⟨by rw [hb], by rw [hb]⟩
  · have hk2 : k = 4 := by omega
    subst hk2
    rcases h2 with h2 | ⟨h2, h3⟩
    · exact absurd h2 (by decide)
    · exact Ok.pos (by simp (disch := omega) only [lI0, lI1, lI2, lI3, lI4, lI5, lI7, lI8, lI9, lI10, lI11, lI12, lI15, lI16, lI17, lI20, lI24, lI32, lI33, lI40, lI63, lI64, lI80, lI82, lI101, lI110, lI115, lI251, lI255, lI256, lI384, lI16384, lI20000, lI32768, lI49152, lI65535, nI_add, pk_mul, pk_sub, pk_div, nI_leI, nI_ltI, nI_eq] <;> omega) (Ok.some h2)
/-! the reference's -/
theorem eq_X9_left {res : Nat → Int32} {x y : Nat} (hx : x ≤ 16) (hy : y < 24) : lf_X9_left res (nI x) (nI y) = some (if x = 0 then 0 else res (16 * y + x - 1)) := by
  unfold lf_X9_left
  by_cases h : x = 0
  · subst h
    rw [if_pos (by decide), if_pos rfl]
  · rw [if_neg (by (simp (disch := omega) only [lI0, lI1, lI2, lI3, lI4, lI5, lI7, lI8, lI9, lI10, lI11, lI12, lI15, lI16, lI17, lI20, lI24, lI32, lI33, lI40, lI63, lI64, lI80, lI82, lI101, lI110, lI115, lI251, lI255, lI256, lI384, lI16384, lI20000, lI32768, lI49152, lI65535, nI_add, pk_mul, pk_sub, pk_div, nI_leI, nI_ltI, nI_eq] <;> omega)), if_neg h, show (16 : Int32) * nI y + nI x - (1 : Int32) = nI (16 * y + x - 1) from (by first | (simp (disch := omega) only [lI0, lI1, lI2, lI3, lI4, lI5, lI7, lI8, lI9, lI10, lI11, lI12, lI15, lI16, lI17, lI20, lI24, lI32, lI33, lI40, lI63, lI64, lI80, lI82, lI101, lI110, lI115, lI251, lI255, lI256, lI384, lI16384, lI20000, lI32768, lI49152, lI65535, nI_add, pk_mul, pk_sub, pk_div] <;> (apply congrArg nI; omega)) | rfl), rd_nI (by omega) (by decide)]
    rfl
theorem eq_X9_above {res : Nat → Int32} {x y top : Nat} (ht : y = top ↔ y % 8 = 0) (hx : x < 16) (hy : y < 24) (htop : top < 24) : lf_X9_above res (nI x) (nI y) (nI top) = some (if y % 8 = 0 then 0 else res (16 * (y - 1) + x)) := by
  unfold lf_X9_above
  by_cases h : y % 8 = 0
  · have h2 := ht.mpr h
    subst h2
    rw [if_pos rfl, if_pos h]
  · have h2 : ¬ y = top := fun h3 => h (ht.mp h3)
    rw [if_neg (by (simp (disch := omega) only [lI0, lI1, lI2, lI3, lI4, lI5, lI7, lI8, lI9, lI10, lI11, lI12, lI15, lI16, lI17, lI20, lI24, lI32, lI33, lI40, lI63, lI64, lI80, lI82, lI101, lI110, lI115, lI251, lI255, lI256, lI384, lI16384, lI20000, lI32768, lI49152, lI65535, nI_add, pk_mul, pk_sub, pk_div, nI_leI, nI_ltI, nI_eq] <;> omega)), if_neg h, show (16 : Int32) * (nI y - (1 : Int32)) + nI x = nI (16 * (y - 1) + x) from (by first | (simp (disch := omega) only [lI0, lI1, lI2, lI3, lI4, lI5, lI7, lI8, lI9, lI10, lI11, lI12, lI15, lI16, lI17, lI20, lI24, lI32, lI33, lI40, lI63, lI64, lI80, lI82, lI101, lI110, lI115, lI251, lI255, lI256, lI384, lI16384, lI20000, lI32768, lI49152, lI65535, nI_add, pk_mul, pk_sub, pk_div] <;> (apply congrArg nI; omega)) | rfl), rd_nI (by omega) (by decide)]
    rfl
theorem eq_X9_predicted {mean : Int32} {res : Nat → Int32} {m x y top r c n : Nat} (hm : m < 4) (ht : y = top ↔ y % 8 = 0) (htop : top < 24) (hr : r < n) (hc : c < n) (hx : x + n ≤ 16) (hy : y + n ≤ 24) :
    lf_X9_predicted mean res (nI m) (nI x) (nI y) (nI top) (nI c) (nI r) = some (prS mean (nbL res x y) (nbU res x y) m r c) := by
  unfold lf_X9_predicted prS
  rw [show nI y + nI r = nI (y + r) from nI_add _ _, show nI x + nI c = nI (x + c) from nI_add _ _, eq_X9_left (by omega) (by omega), eq_X9_above ht (by omega) (by omega) htop]
  dsimp only [Option.bind]
  have e1 : (if x = 0 then (0 : Int32) else res (16 * (y + r) + x - 1)) = nbL res x y r := rfl
  have e2 : (if y % 8 = 0 then (0 : Int32) else res (16 * (y - 1) + (x + c))) = nbU res x y c := by
    unfold nbU
    rw [Nat.add_assoc]
  rw [e1, e2]
  have hm2 : m = 0 ∨ m = 1 ∨ m = 2 ∨ m = 3 := by omega
  rcases hm2 with rfl | rfl | rfl | rfl
  · rw [if_pos (by decide), if_pos rfl]
  · rw [if_neg (by decide), if_pos (by decide), if_neg (by decide), if_pos rfl]
  · rw [if_neg (by decide), if_neg (by decide), if_pos (by decide), if_neg (by decide), if_neg (by decide), if_pos rfl]
  · rw [if_neg (by decide), if_neg (by decide), if_neg (by decide), if_neg (by decide), if_neg (by decide), if_neg (by decide)]
    rfl
theorem eq_X9_average {mn : Int32} {res : Nat → Int32} {x y n top : Nat} (ht : y = top ↔ y % 8 = 0) (htop : top < 24) (hn0 : 0 < n) (hn : n ≤ 8) (hx : x + n ≤ 16) (hy : y + n ≤ 24) :
    lf_X9_average mn res (nI x) (nI y) (nI n) (nI top) = some (mnS n (nbL res x y) (nbU res x y)) := by
  suffices h : Ok (lf_X9_average mn res (nI x) (nI y) (nI n) (nI top)) (fun o => o = mnS n (nbL res x y) (nbU res x y)) by
    obtain ⟨o, h1, h2⟩ := h
    rw [h1, h2]
  unfold lf_X9_average
  refine Ok.bind (fun o => o = sumN n fun k => nbL res x y k + nbU res x y k) (Ok.fix (fun k z => z.2 = nI k ∧ z.1 = sumN k fun k => nbL res x y k + nbU res x y k) n (by omega) ⟨rfl, rfl⟩ ?_) ?_
  · rintro k ⟨x1, x2⟩ self hk ⟨h1, h2⟩ K
    dsimp only at h1 h2 ⊢
    subst h1 h2
    by_cases hc : k < n
    · refine Ok.neg (by simp (disch := omega) only [lI0, lI1, lI2, lI3, lI4, lI5, lI7, lI8, lI9, lI10, lI11, lI12, lI15, lI16, lI17, lI20, lI24, lI32, lI33, lI40, lI63, lI64, lI80, lI82, lI101, lI110, lI115, lI251, lI255, lI256, lI384, lI16384, lI20000, lI32768, lI49152, lI65535, nI_add, pk_mul, pk_sub, pk_div, nI_leI, nI_ltI, nI_eq] <;> omega) ?_
      rw [show nI y + nI k = nI (y + k) from nI_add _ _, show nI x + nI k = nI (x + k) from nI_add _ _, eq_X9_left (by omega) (by omega), eq_X9_above ht (by omega) (by omega) htop]
      refine Ok.bnd (Ok.bnd (K _ hc ⟨(by first | (simp (disch := omega) only [lI0, lI1, lI2, lI3, lI4, lI5, lI7, lI8, lI9, lI10, lI11, lI12, lI15, lI16, lI17, lI20, lI24, lI32, lI33, lI40, lI63, lI64, lI80, lI82, lI101, lI110, lI115, lI251, lI255, lI256, lI384, lI16384, lI20000, lI32768, lI49152, lI65535, nI_add, pk_mul, pk_sub, pk_div] <;> (apply congrArg nI; omega)) | rfl), ?_⟩))
      dsimp only [sumN, nbL, nbU]
      rw [Nat.add_assoc]
    · have hk2 : k = n := by omega
      subst hk2
      exact Ok.pos (by simp (disch := omega) only [lI0, lI1, lI2, lI3, lI4, lI5, lI7, lI8, lI9, lI10, lI11, lI12, lI15, lI16, lI17, lI20, lI24, lI32, lI33, lI40, lI63, lI64, lI80, lI82, lI101, lI110, lI115, lI251, lI255, lI256, lI384, lI16384, lI20000, lI32768, lI49152, lI65535, nI_add, pk_mul, pk_sub, pk_div, nI_leI, nI_ltI, nI_eq] <;> omega) (Ok.some rfl)
  · rintro o rfl
    rw [show (2 : Int32) * nI n = nI (2 * n) from (by first | (simp (disch := omega) only [lI0, lI1, lI2, lI3, lI4, lI5, lI7, lI8, lI9, lI10, lI11, lI12, lI15, lI16, lI17, lI20, lI24, lI32, lI33, lI40, lI63, lI64, lI80, lI82, lI101, lI110, lI115, lI251, lI255, lI256, lI384, lI16384, lI20000, lI32768, lI49152, lI65535, nI_add, pk_mul, pk_sub, pk_div] <;> (apply congrArg nI; omega)) | rfl)]
    refine Ok.bindE _ (fd_eq ?_) (Ok.some rfl)
    (simp (disch := omega) only [lI0, lI1, lI2, lI3, lI4, lI5, lI7, lI8, lI9, lI10, lI11, lI12, lI15, lI16, lI17, lI20, lI24, lI32, lI33, lI40, lI63, lI64, lI80, lI82, lI101, lI110, lI115, lI251, lI255, lI256, lI384, lI16384, lI20000, lI32768, lI49152, lI65535, nI_add, pk_mul, pk_sub, pk_div, nI_leI, nI_ltI, nI_eq] <;> omega)
