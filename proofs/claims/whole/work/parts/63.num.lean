/-! ===== the coder by numbers: what is read is what was written ===== -/
/-- the number of the first k bits -/
def bV (F : Nat → Nat) : Nat → Nat
  | 0 => 0
  | k + 1 => 2 * bV F k + F k
theorem bV_s (F : Nat → Nat) (k : Nat) : bV F (k + 1) = 2 * bV F k + F k := rfl
theorem bV_congr {F G : Nat → Nat} : ∀ {n : Nat}, (∀ i, i < n → F i = G i) → bV F n = bV G n
  | 0, _ => rfl
  | n + 1, h => by
    rw [bV_s, bV_s, bV_congr (n := n) (fun i hi => h i (by omega)), h n (by omega)]
theorem bV_zero {F : Nat → Nat} {N : Nat} (h : ∀ i, N ≤ i → F i = 0) : ∀ k, bV F (N + k) = bV F N * 2 ^ k
  | 0 => by rw [Nat.add_zero, Nat.pow_zero, Nat.mul_one]
  | k + 1 => by
    rw [← Nat.add_assoc, bV_s, bV_zero h k, h (N + k) (by omega), Nat.pow_succ, ← Nat.mul_assoc]
    omega
/-- the counts -/
def cGet (ct : Nat → Nat × Nat) (c : Nat) : Nat × Nat := if c < 20 then ct c else (1, 1)
def cHal (p : Nat × Nat) : Nat × Nat := if 64 < p.1 + p.2 then ((p.1 + 1) / 2, (p.2 + 1) / 2) else p
def cInc (p : Nat × Nat) (b : Nat) : Nat × Nat := cHal (if b = 0 then (p.1 + 1, p.2) else (p.1, p.2 + 1))
def cSet (ct : Nat → Nat × Nat) (c b : Nat) : Nat → Nat × Nat := fun j => if j = c then cInc (ct c) b else ct j
def cOk (ct : Nat → Nat × Nat) : Prop := ∀ c, c < 20 → 1 ≤ (ct c).1 ∧ 1 ≤ (ct c).2 ∧ (ct c).1 + (ct c).2 ≤ 64
theorem cInc_ok {p : Nat × Nat} {b : Nat} (h : 1 ≤ p.1 ∧ 1 ≤ p.2 ∧ p.1 + p.2 ≤ 64) : 1 ≤ (cInc p b).1 ∧ 1 ≤ (cInc p b).2 ∧ (cInc p b).1 + (cInc p b).2 ≤ 64 := by
  obtain ⟨x, y⟩ := p
  dsimp only at h
  unfold cInc cHal
  by_cases hb : b = 0
  · rw [if_pos hb]
    dsimp only
    by_cases h2 : 64 < x + 1 + y
    · rw [if_pos h2]
      dsimp only
      omega
    · rw [if_neg h2]
      dsimp only
      omega
  · rw [if_neg hb]
    dsimp only
    by_cases h2 : 64 < x + (y + 1)
    · rw [if_pos h2]
      dsimp only
      omega
    · rw [if_neg h2]
      dsimp only
      omega
theorem cSet_ok {ct : Nat → Nat × Nat} {c b : Nat} (h : cOk ct) : cOk (cSet ct c b) := by
  intro j hj
  unfold cSet
  by_cases h1 : j = c
  · rw [if_pos h1]
    subst h1
    exact cInc_ok (h j hj)
  · rw [if_neg h1]
    exact h j hj
theorem cGet_ok {ct : Nat → Nat × Nat} (h : cOk ct) (c : Nat) : 1 ≤ (cGet ct c).1 ∧ 1 ≤ (cGet ct c).2 ∧ (cGet ct c).1 + (cGet ct c).2 ≤ 64 := by
  unfold cGet
  by_cases h1 : c < 20
  · rw [if_pos h1]
    exact h c h1
  · rw [if_neg h1]
    decide
/-- the writer's state: the number of the bits, how many, how many wait, the interval, the counts -/
def WS : Type := Nat × Nat × Nat × Nat × Nat × (Nat → Nat × Nat)
/-- the reader's: code, how many bits were shifted, the interval, the counts -/
def RS : Type := Nat × Nat × Nat × Nat × (Nat → Nat × Nat)
def wNrm : Nat → Nat → Nat → Nat → Nat → Nat → Nat × Nat × Nat × Nat × Nat
  | 0, E, n, p, l, h => (E, n, p, l, h)
  | f + 1, E, n, p, l, h =>
    if h < 32768 then wNrm f (2 * (E * 2 ^ p) + 2 ^ p - 1) (n + 1 + p) 0 (2 * l) (2 * h + 1)
    else if 32768 ≤ l then wNrm f (2 * (E * 2 ^ p) + 2 ^ p) (n + 1 + p) 0 (2 * (l - 32768)) (2 * (h - 32768) + 1)
    else if 16384 ≤ l ∧ h < 49152 then wNrm f E n (p + 1) (2 * (l - 16384)) (2 * (h - 16384) + 1)
    else (E, n, p, l, h)
def rNrm (F : Nat → Nat) : Nat → Nat → Nat → Nat → Nat → Nat × Nat × Nat × Nat
  | 0, c, m, l, h => (c, m, l, h)
  | f + 1, c, m, l, h =>
    if h < 32768 then rNrm F f (2 * c + F (16 + m)) (m + 1) (2 * l) (2 * h + 1)
    else if 32768 ≤ l then rNrm F f (2 * (c - 32768) + F (16 + m)) (m + 1) (2 * (l - 32768)) (2 * (h - 32768) + 1)
    else if 16384 ≤ l ∧ h < 49152 then rNrm F f (2 * (c - 16384) + F (16 + m)) (m + 1) (2 * (l - 16384)) (2 * (h - 16384) + 1)
    else (c, m, l, h)
/-- what the shifts have taken away -/
def oW (E p : Nat) : Nat := 65536 * (E * 2 ^ p) + 32768 * (2 ^ p - 1)
def cMp (F : Nat → Nat) (E n p l h : Nat) : Prop := oW E p + l ≤ bV F (16 + n + p) ∧ bV F (16 + n + p) ≤ oW E p + h
theorem pw1 (p : Nat) : 1 ≤ 2 ^ p := Nat.one_le_two_pow
theorem oW_lo (E p : Nat) : oW (2 * (E * 2 ^ p) + 2 ^ p - 1) 0 = 2 * oW E p := by
  unfold oW
  rw [Nat.pow_zero, Nat.mul_one]
  have := pw1 p
  omega
theorem oW_hi (E p : Nat) : oW (2 * (E * 2 ^ p) + 2 ^ p) 0 = 2 * (oW E p + 32768) := by
  unfold oW
  rw [Nat.pow_zero, Nat.mul_one]
  have := pw1 p
  omega
theorem oW_mi (E p : Nat) : oW E (p + 1) = 2 * (oW E p + 16384) := by
  unfold oW
  rw [Nat.pow_succ, ← Nat.mul_assoc]
  have := pw1 p
  omega
theorem nrm_ls {F : Nat → Nat} (hF : ∀ i, F i < 2) : ∀ f E n p l h, l ≤ h → cMp F (wNrm f E n p l h).1 (wNrm f E n p l h).2.1 (wNrm f E n p l h).2.2.1 (wNrm f E n p l h).2.2.2.1 (wNrm f E n p l h).2.2.2.2 →
    cMp F E n p l h ∧ ∀ c, c + oW E p = bV F (16 + n + p) → (rNrm F f c (n + p) l h).2 = ((wNrm f E n p l h).2.1 + (wNrm f E n p l h).2.2.1, (wNrm f E n p l h).2.2.2.1, (wNrm f E n p l h).2.2.2.2) ∧ (rNrm F f c (n + p) l h).1 + oW (wNrm f E n p l h).1 (wNrm f E n p l h).2.2.1 = bV F (16 + (wNrm f E n p l h).2.1 + (wNrm f E n p l h).2.2.1) := by
  intro f
  induction f with
  | zero => exact fun E n p l h _ hc => ⟨hc, fun c h1 => ⟨rfl, h1⟩⟩
  | succ f ih =>
    intro E n p l h hlh hc
    have hb := hF (16 + n + p)
    have e1 : 16 + (n + 1 + p) + 0 = 16 + n + p + 1 := by omega
    have e2 : 16 + n + (p + 1) = 16 + n + p + 1 := by omega
    have e3 : n + 1 + p + 0 = n + p + 1 := by omega
    have e4 : n + (p + 1) = n + p + 1 := by omega
    have e5 : 16 + (n + p) = 16 + n + p := by omega
    unfold wNrm at hc ⊢
    unfold rNrm
    by_cases c1 : h < 32768
    · rw [if_pos c1] at hc ⊢
      rw [if_pos c1] at ⊢
      obtain ⟨⟨a1, a2⟩, a3⟩ := ih _ _ _ _ _ (by omega) hc
      rw [oW_lo, e1, bV_s] at a1 a2
      refine ⟨⟨by omega, by omega⟩, fun c hcd => ?_⟩
      have := a3 (2 * c + F (16 + n + p)) (by rw [oW_lo, e1, bV_s]; omega)
      rw [e3] at this
      rw [e5]
      exact this
    · rw [if_neg c1] at hc ⊢
      rw [if_neg c1] at ⊢
      by_cases c2 : 32768 ≤ l
      · rw [if_pos c2] at hc ⊢
        rw [if_pos c2] at ⊢
        obtain ⟨⟨a1, a2⟩, a3⟩ := ih _ _ _ _ _ (by omega) hc
        rw [oW_hi, e1, bV_s] at a1 a2
        refine ⟨⟨by omega, by omega⟩, fun c hcd => ?_⟩
        have := a3 (2 * (c - 32768) + F (16 + n + p)) (by rw [oW_hi, e1, bV_s]; omega)
        rw [e3] at this
        rw [e5]
        exact this
      · rw [if_neg c2] at hc ⊢
        rw [if_neg c2] at ⊢
        by_cases c3 : 16384 ≤ l ∧ h < 49152
        · rw [if_pos c3] at hc ⊢
          rw [if_pos c3] at ⊢
          obtain ⟨⟨a1, a2⟩, a3⟩ := ih _ _ _ _ _ (by omega) hc
          rw [oW_mi, e2, bV_s] at a1 a2
          refine ⟨⟨by omega, by omega⟩, fun c hcd => ?_⟩
          have := a3 (2 * (c - 16384) + F (16 + n + p)) (by rw [oW_mi, e2, bV_s]; omega)
          rw [e4] at this
          rw [e5]
          exact this
        · rw [if_neg c3] at hc ⊢
          rw [if_neg c3] at ⊢
          exact ⟨hc, fun c h1 => ⟨rfl, h1⟩⟩
theorem nrm_cI : ∀ f E n p l h, l ≤ h → h < 65536 → 65536 ≤ (h - l + 1) * 2 ^ f → cI (wNrm f E n p l h).2.2.2.1 (wNrm f E n p l h).2.2.2.2 := by
  intro f
  induction f with
  | zero =>
    intro E n p l h h1 h2 h3
    rw [Nat.pow_zero, Nat.mul_one] at h3
    show cI l h
    unfold cI
    omega
  | succ f ih =>
    intro E n p l h h1 h2 h3
    rw [Nat.pow_succ, Nat.mul_comm (2 ^ f) 2, ← Nat.mul_assoc] at h3
    unfold wNrm
    by_cases c1 : h < 32768
    · rw [if_pos c1]
      refine ih _ _ _ _ _ (by omega) (by omega) ?_
      rw [show 2 * h + 1 - 2 * l + 1 = (h - l + 1) * 2 from by omega]
      exact h3
    · rw [if_neg c1]
      by_cases c2 : 32768 ≤ l
      · rw [if_pos c2]
        refine ih _ _ _ _ _ (by omega) (by omega) ?_
        rw [show 2 * (h - 32768) + 1 - 2 * (l - 32768) + 1 = (h - l + 1) * 2 from by omega]
        exact h3
      · rw [if_neg c2]
        by_cases c3 : 16384 ≤ l ∧ h < 49152
        · rw [if_pos c3]
          refine ih _ _ _ _ _ (by omega) (by omega) ?_
          rw [show 2 * (h - 16384) + 1 - 2 * (l - 16384) + 1 = (h - l + 1) * 2 from by omega]
          exact h3
        · rw [if_neg c3]
          show cI l h
          unfold cI
          omega
/-! one bit -/
def bN (b : Nat) : Nat := if b = 0 then 0 else 1
def spW (l h : Nat) (q : Nat × Nat) : Nat := l + spl l h q.1 q.2 - 1
def wCode (b c : Nat) (s : WS) : WS × Nat :=
  (((fun (z : Nat × Nat × Nat × Nat × Nat) => (z.1, z.2.1, z.2.2.1, z.2.2.2.1, z.2.2.2.2, cSet s.2.2.2.2.2 c (bN b))) (if b = 0 then wNrm 17 s.1 s.2.1 s.2.2.1 s.2.2.2.1 (spW s.2.2.2.1 s.2.2.2.2.1 (cGet s.2.2.2.2.2 c)) else wNrm 17 s.1 s.2.1 s.2.2.1 (spW s.2.2.2.1 s.2.2.2.2.1 (cGet s.2.2.2.2.2 c) + 1) s.2.2.2.2.1)), bN b)
def rCode (F : Nat → Nat) (_b c : Nat) (r : RS) : RS × Nat :=
  if r.1 ≤ spW r.2.2.1 r.2.2.2.1 (cGet r.2.2.2.2 c) then
    ((fun (z : Nat × Nat × Nat × Nat) => (z.1, z.2.1, z.2.2.1, z.2.2.2, cSet r.2.2.2.2 c 0)) (rNrm F 17 r.1 r.2.1 r.2.2.1 (spW r.2.2.1 r.2.2.2.1 (cGet r.2.2.2.2 c))), 0)
  else ((fun (z : Nat × Nat × Nat × Nat) => (z.1, z.2.1, z.2.2.1, z.2.2.2, cSet r.2.2.2.2 c 1)) (rNrm F 17 r.1 r.2.1 (spW r.2.2.1 r.2.2.2.1 (cGet r.2.2.2.2 c) + 1) r.2.2.2.1), 1)
def wInv (s : WS) : Prop := cI s.2.2.2.1 s.2.2.2.2.1 ∧ cOk s.2.2.2.2.2
def wCmp (F : Nat → Nat) (s : WS) : Prop := cMp F s.1 s.2.1 s.2.2.1 s.2.2.2.1 s.2.2.2.2.1
def Syn (F : Nat → Nat) (s : WS) (r : RS) : Prop := r.2 = (s.2.1 + s.2.2.1, s.2.2.2.1, s.2.2.2.2.1, s.2.2.2.2.2) ∧ r.1 + oW s.1 s.2.2.1 = bV F (16 + s.2.1 + s.2.2.1)
/-- writer and reader go on in step -/
def LS {α : Type} (F : Nat → Nat) (f : WS → WS × α) (g : RS → RS × α) : Prop := ∀ s, wInv s → wInv (f s).1 ∧ (wCmp F (f s).1 → wCmp F s ∧ ∀ r, Syn F s r → Syn F (f s).1 (g r).1 ∧ (g r).2 = (f s).2)
theorem spW_bd {l h : Nat} {q : Nat × Nat} (hc : cI l h) (hq : 1 ≤ q.1 ∧ 1 ≤ q.2 ∧ q.1 + q.2 ≤ 64) : l + 255 ≤ spW l h q ∧ spW l h q + 256 ≤ h := by
  obtain ⟨h1, h2, h3, h4, h5⟩ := hc
  have := spl_bd (l := l) (h := h) hq.1 hq.2.1 hq.2.2
  unfold spW
  omega
theorem LS.code {F : Nat → Nat} (hF : ∀ i, F i < 2) (b b2 c : Nat) : LS F (wCode b c) (rCode F b2 c) := by
  rintro ⟨E, n, p, l, h, ct⟩ ⟨hI, hO⟩
  dsimp only at hI hO
  have hsp := spW_bd hI (cGet_ok hO c)
  have hI2 := hI
  obtain ⟨i1, i2, i3, i4, i5⟩ := hI2
  unfold wCode rCode wCmp Syn wInv
  dsimp only
  generalize hm : spW l h (cGet ct c) = m at hsp ⊢
  by_cases hb : b = 0
  · rw [if_pos hb]
    have hbn : bN b = 0 := if_pos hb
    rw [hbn]
    refine ⟨⟨nrm_cI _ _ _ _ _ _ (by omega) (by omega) (by omega), cSet_ok hO⟩, fun hc => ?_⟩
    obtain ⟨a1, a2⟩ := nrm_ls hF 17 E n p l m (by omega) hc
    refine ⟨⟨a1.1, by have := a1.2; omega⟩, ?_⟩
    rintro ⟨cd, mm, l2, h2, ct2⟩ ⟨r1, r2⟩
    dsimp only at r1 r2
    simp only [Prod.mk.injEq] at r1
    obtain ⟨rfl, rfl, rfl, rfl⟩ := r1
    rw [hm]
    obtain ⟨y1, y2⟩ := a2 cd r2
    rw [if_pos (by have := a1.2; omega)]
    dsimp only
    refine ⟨⟨?_, y2⟩, rfl⟩
    rw [y1]
  · rw [if_neg hb]
    have hbn : bN b = 1 := if_neg hb
    rw [hbn]
    refine ⟨⟨nrm_cI _ _ _ _ _ _ (by omega) (by omega) (by omega), cSet_ok hO⟩, fun hc => ?_⟩
    obtain ⟨a1, a2⟩ := nrm_ls hF 17 E n p (m + 1) h (by omega) hc
    refine ⟨⟨by have := a1.1; omega, a1.2⟩, ?_⟩
    rintro ⟨cd, mm, l2, h2, ct2⟩ ⟨r1, r2⟩
    dsimp only at r1 r2
    simp only [Prod.mk.injEq] at r1
    obtain ⟨rfl, rfl, rfl, rfl⟩ := r1
    rw [hm]
    obtain ⟨y1, y2⟩ := a2 cd r2
    rw [if_neg (by have := a1.1; omega)]
    dsimp only
    refine ⟨⟨?_, y2⟩, rfl⟩
    rw [y1]
/-! programs -/
def sB {σ α β : Type} (f : σ → σ × α) (k : α → σ → σ × β) (s : σ) : σ × β := k (f s).2 (f s).1
def sP {σ α : Type} (a : α) (s : σ) : σ × α := (s, a)
theorem LS.bind {α β : Type} {F : Nat → Nat} {f : WS → WS × α} {g : RS → RS × α} {k : α → WS → WS × β} {j : α → RS → RS × β} (h1 : LS F f g) (h2 : ∀ a, LS F (k a) (j a)) : LS F (sB f k) (sB g j) := by
  intro s hs
  have A := h1 s hs
  have B := h2 (f s).2 (f s).1 A.1
  refine ⟨B.1, fun hc => ?_⟩
  obtain ⟨c1, r1⟩ := B.2 hc
  obtain ⟨c0, r0⟩ := A.2 c1
  refine ⟨c0, fun r hr => ?_⟩
  obtain ⟨y1, y2⟩ := r0 r hr
  show Syn F _ (j (g r).2 (g r).1).1 ∧ (j (g r).2 (g r).1).2 = _
  rw [y2]
  exact r1 _ y1
theorem LS.pure {α : Type} {F : Nat → Nat} (a : α) : LS F (sP a) (sP a) := fun s hs => ⟨hs, fun hc => ⟨hc, fun r hr => ⟨hr, rfl⟩⟩⟩
/-- as many digits as are told, from d on -/
def pDig {σ : Type} (cd : Nat → Nat → σ → σ × Nat) (w : Nat) : Nat → Nat → σ → σ × Nat
  | 0, d => sP d
  | f + 1, d => sB (cd (if d < w then 1 else 0) (8 + d)) fun b => if b = 1 then pDig cd w f (d + 1) else sP d
def pVal {σ : Type} (cd : Nat → Nat → σ → σ × Nat) (q : Nat) : Nat → Nat → σ → σ × Nat
  | 0, v => sP v
  | k + 1, v => sB (cd (q / 2 ^ k % 2) 99) fun b => pVal cd q k (2 * v + b)
def pMag {σ : Type} (cd : Nat → Nat → σ → σ × Nat) (q w : Nat) : σ → σ × Nat := sB (pDig cd w 11 1) fun d => pVal cd q (d - 1) 1
def pLev {σ : Type} (cd : Nat → Nat → σ → σ × Nat) (x : Int32) (cx : Nat) : σ → σ × Int32 :=
  sB (cd (if x = 0 then 0 else 1) cx) fun b => if b = 0 then sP 0 else
    sB (cd (if x < 0 then 1 else 0) 8) fun ng => sB (pMag cd x.toInt.natAbs (dgF 31 x.toInt.natAbs)) fun v => sP (if ng = 1 then -nI v else nI v)
/-- the levels of a block, the first j -/
def pLvs {σ : Type} (cd : Nat → Nat → σ → σ × Nat) (n : Nat) (lv : Nat → Nat → Int32) : Nat → σ → σ × (Nat → Nat → Int32)
  | 0 => sP fun _ _ => 0
  | j + 1 => sB (pLvs cd n lv j) fun A => sB (pLev cd (lv (j / n) (j % n)) (ctxS A (j / n) (j % n))) fun x => sP fun r c => if r = j / n ∧ c = j % n then x else A r c
def pBlk {σ : Type} (cd : Nat → Nat → σ → σ × Nat) (n m : Nat) (lv : Nat → Nat → Int32) : σ → σ × Nat × (Nat → Nat → Int32) :=
  sB (cd (m / 2) 1) fun hi => sB (cd (m % 2) (2 + hi)) fun lo => sB (pLvs cd n lv (n * n)) fun A => sP (2 * hi + lo, A)
def pBls {σ : Type} (cd : Nat → Nat → σ → σ × Nat) (n : Nat) (md : Nat → Nat) (lv : Nat → Nat → Nat → Int32) : Nat → σ → σ × (Nat → Nat) × (Nat → Nat → Nat → Int32)
  | 0 => sP (fun _ => 0, fun _ _ _ => 0)
  | q + 1 => sB (pBls cd n md lv q) fun A => sB (pBlk cd n (md q) (lv q)) fun x => sP (fun j => if j = q then x.1 else A.1 j, fun j => if j = q then x.2 else A.2 j)
def pTil {σ : Type} (cd : Nat → Nat → σ → σ × Nat) (td : TD) : σ → σ × TD :=
  sB (cd (if td.1 = 2 then 1 else 0) 0) fun s => if s = 1 then sB (pBls cd 4 td.2.1 td.2.2 4) fun A => sP (2, A) else sB (pBls cd 8 td.2.1 td.2.2 1) fun A => sP (3, A)
def pPrt {σ : Type} (cd : Nat → Nat → σ → σ × Nat) (td : Nat → TD) : Nat → σ → σ × (Nat → TD)
  | 0 => sP fun _ => (3, fun _ => 0, fun _ _ _ => 0)
  | t + 1 => sB (pPrt cd td t) fun D => sB (pTil cd (td t)) fun d => sP fun j => if j = t then d else D j
section LSP
variable {F : Nat → Nat} (hF : ∀ i, F i < 2)
theorem LS.dig (w w2 : Nat) : ∀ f d, LS F (pDig wCode w f d) (pDig (rCode F) w2 f d) := by
  intro f
  induction f with
  | zero => exact fun d => LS.pure d
  | succ f ih =>
    intro d
    unfold pDig
    refine LS.bind (LS.code hF _ _ _) fun b => ?_
    by_cases hb : b = 1
    · rw [if_pos hb, if_pos hb]
      exact ih _
    · rw [if_neg hb, if_neg hb]
      exact LS.pure d
theorem LS.val (q q2 : Nat) : ∀ k v, LS F (pVal wCode q k v) (pVal (rCode F) q2 k v) := by
  intro k
  induction k with
  | zero => exact fun v => LS.pure v
  | succ k ih => exact fun v => LS.bind (LS.code hF _ _ _) fun b => ih _
theorem LS.mag (q q2 w w2 : Nat) : LS F (pMag wCode q w) (pMag (rCode F) q2 w2) := LS.bind (LS.dig hF _ _ _ _) fun d => LS.val hF _ _ _ _
theorem LS.lev (x x2 : Int32) (cx : Nat) : LS F (pLev wCode x cx) (pLev (rCode F) x2 cx) := by
  unfold pLev
  refine LS.bind (LS.code hF _ _ _) fun b => ?_
  by_cases hb : b = 0
  · rw [if_pos hb, if_pos hb]
    exact LS.pure _
  · rw [if_neg hb, if_neg hb]
    exact LS.bind (LS.code hF _ _ _) fun ng => LS.bind (LS.mag hF _ _ _ _) fun v => LS.pure _
theorem LS.lvs (n : Nat) (lv lv2 : Nat → Nat → Int32) : ∀ j, LS F (pLvs wCode n lv j) (pLvs (rCode F) n lv2 j) := by
  intro j
  induction j with
  | zero => exact LS.pure _
  | succ j ih => exact LS.bind ih fun A => LS.bind (LS.lev hF _ _ _) fun x => LS.pure _
theorem LS.blk (n m m2 : Nat) (lv lv2 : Nat → Nat → Int32) : LS F (pBlk wCode n m lv) (pBlk (rCode F) n m2 lv2) :=
  LS.bind (LS.code hF _ _ _) fun hi => LS.bind (LS.code hF _ _ _) fun lo => LS.bind (LS.lvs hF _ _ _ _) fun A => LS.pure _
theorem LS.bls (n : Nat) (md md2 : Nat → Nat) (lv lv2 : Nat → Nat → Nat → Int32) : ∀ q, LS F (pBls wCode n md lv q) (pBls (rCode F) n md2 lv2 q) := by
  intro q
  induction q with
  | zero => exact LS.pure _
  | succ q ih => exact LS.bind ih fun A => LS.bind (LS.blk hF _ _ _ _ _) fun x => LS.pure _
theorem LS.til (td td2 : TD) : LS F (pTil wCode td) (pTil (rCode F) td2) := by
  unfold pTil
  refine LS.bind (LS.code hF _ _ _) fun s => ?_
  by_cases hs : s = 1
  · rw [if_pos hs, if_pos hs]
    exact LS.bind (LS.bls hF _ _ _ _ _ _) fun A => LS.pure _
  · rw [if_neg hs, if_neg hs]
    exact LS.bind (LS.bls hF _ _ _ _ _ _) fun A => LS.pure _
theorem LS.prt (td td2 : Nat → TD) : ∀ t, LS F (pPrt wCode td t) (pPrt (rCode F) td2 t) := by
  intro t
  induction t with
  | zero => exact LS.pure _
  | succ t ih => exact LS.bind ih fun A => LS.bind (LS.til hF _ _) fun x => LS.pure _
end LSP
/-! what the writer answers is what it was given -/
def Ret {σ α : Type} (f : σ → σ × α) (v : α) : Prop := ∀ s, (f s).2 = v
theorem Ret.bind {σ α β : Type} {f : σ → σ × α} {k : α → σ → σ × β} {v : α} {w : β} (h1 : Ret f v) (h2 : Ret (k v) w) : Ret (sB f k) w := fun s => by
  show (k (f s).2 (f s).1).2 = w
  rw [h1 s]
  exact h2 _
theorem Ret.pure {σ α : Type} {v : α} : Ret (σ := σ) (sP v) v := fun _ => rfl
theorem Ret.code (b c : Nat) : Ret (wCode b c) (bN b) := fun _ => rfl
theorem Ret.dig {w : Nat} : ∀ f d, d ≤ w → w ≤ d + f → Ret (pDig wCode w f d) w := by
  intro f
  induction f with
  | zero =>
    intro d h1 h2
    have : d = w := by omega
    subst this
    exact Ret.pure
  | succ f ih =>
    intro d h1 h2
    unfold pDig
    refine Ret.bind (Ret.code _ _) ?_
    by_cases h3 : d < w
    · rw [if_pos h3]
      exact ih _ (by omega) (by omega)
    · rw [if_neg h3]
      have : d = w := by omega
      subst this
      exact Ret.pure
theorem Ret.val {q : Nat} : ∀ k v, v = q / 2 ^ k → Ret (pVal wCode q k v) q := by
  intro k
  induction k with
  | zero =>
    intro v h
    rw [Nat.pow_zero, Nat.div_one] at h
    subst h
    exact Ret.pure
  | succ k ih =>
    intro v h
    unfold pVal
    refine Ret.bind (Ret.code _ _) (ih _ ?_)
    have h1 : bN (q / 2 ^ k % 2) = q / 2 ^ k % 2 := by
      unfold bN
      by_cases h2 : q / 2 ^ k % 2 = 0
      · rw [if_pos h2, h2]
      · rw [if_neg h2]
        omega
    rw [h1, h, Nat.pow_succ, ← Nat.div_div_eq_div_mul]
    omega
theorem Ret.mag {q : Nat} (h0 : 0 < q) (h1 : q < 2048) : Ret (pMag wCode q (dgF 31 q)) q := by
  obtain ⟨a1, a2⟩ := dgF_bd 31 q (by omega)
  obtain ⟨a3, a4⟩ := a2 h0
  have h5 : dgF 31 q ≤ 11 := by
    rcases Nat.lt_or_ge 11 (dgF 31 q) with h6 | h6
    · have h7 : 2 ^ 11 ≤ 2 ^ (dgF 31 q - 1) := Nat.pow_le_pow_right (by decide) (by omega)
      omega
    · exact h6
  refine Ret.bind (Ret.dig 11 1 (by omega) (by omega)) (Ret.val _ _ ?_)
  generalize dgF 31 q = d at *
  obtain ⟨e, rfl⟩ : ∃ e, d = e + 1 := ⟨d - 1, by omega⟩
  rw [Nat.add_sub_cancel] at a4 ⊢
  rw [Nat.pow_succ] at a1
  refine ((Nat.div_eq_iff (Nat.two_pow_pos e)).mpr ?_).symm
  omega
theorem Ret.lev {x : Int32} {cx : Nat} (h1 : -2047 ≤ x.toInt) (h2 : x.toInt ≤ 2047) : Ret (pLev wCode x cx) x := by
  unfold pLev
  refine Ret.bind (Ret.code _ _) ?_
  by_cases h0 : x = 0
  · rw [if_pos h0]
    subst h0
    exact Ret.pure
  · rw [if_neg h0]
    have hz : x.toInt ≠ 0 := fun h => h0 (Int32.toInt_inj.mp h)
    refine Ret.bind (Ret.code _ _) (Ret.bind (Ret.mag (by omega) (by omega)) ?_)
    have h3 : (if bN (if x < 0 then 1 else 0) = 1 then -nI x.toInt.natAbs else nI x.toInt.natAbs) = x := by
      obtain ⟨q, q1, q2, q3, q4, q5⟩ := mag_bd (x := x) (W := 2047) (by decide) h1 h2
      by_cases h4 : 0 ≤ x
      · have h5 : ¬ x < 0 := Int32.not_lt.mpr h4
        rw [if_neg h5, if_neg (by decide)]
        have h6 := q4 h4
        rw [h6, nI_toInt (by omega)]
        rfl
      · have h5 : x < 0 := Int32.not_le.mp h4
        rw [if_pos h5, if_pos (by decide)]
        have h6 := q5 h4
        have h7 : x.toInt = -(q : Int) := by
          rw [h6, Int32.toInt_neg, nI_toInt (by omega)]
          exact Int.bmod_eq_of_le (by omega) (by omega)
        rw [h7, Int.natAbs_neg, Int.natAbs_natCast, ← h6]
    rw [h3]
    exact Ret.pure
/-- alike in a block -/
def bEq (n : Nat) (A B : Nat → Nat → Int32) : Prop := ∀ r c, r < n → c < n → A r c = B r c
def Rel {σ α : Type} (f : σ → σ × α) (P : α → Prop) : Prop := ∀ s, P (f s).2
theorem Rel.bind {σ α β : Type} {f : σ → σ × α} {k : α → σ → σ × β} {P : α → Prop} {Q : β → Prop} (h1 : Rel f P) (h2 : ∀ a, P a → Rel (k a) Q) : Rel (sB f k) Q := fun s => h2 _ (h1 s) _
theorem Rel.pure {σ α : Type} {P : α → Prop} {v : α} (h : P v) : Rel (σ := σ) (sP v) P := fun _ => h
theorem Ret.rel {σ α : Type} {f : σ → σ × α} {v : α} (h : Ret f v) : Rel f (fun x => x = v) := h
def lvOk (n : Nat) (lv : Nat → Nat → Int32) : Prop := ∀ r c, r < n → c < n → -2047 ≤ (lv r c).toInt ∧ (lv r c).toInt ≤ 2047
theorem Rel.lvs {n : Nat} {lv : Nat → Nat → Int32} (h : lvOk n lv) : ∀ j, j ≤ n * n → Rel (pLvs wCode n lv j) (fun A => ∀ i, i < j → A (i / n) (i % n) = lv (i / n) (i % n)) := by
  intro j
  induction j with
  | zero => exact fun _ => Rel.pure fun i hi => absurd hi (by omega)
  | succ j ih =>
    intro hj
    have hn : 0 < n := by
      rcases Nat.eq_zero_or_pos n with h0 | h0
      · subst h0
        omega
      · exact h0
    have hr : j / n < n := Nat.div_lt_of_lt_mul hj
    have hc : j % n < n := Nat.mod_lt _ hn
    refine Rel.bind (ih (by omega)) fun A hA => Rel.bind (Ret.lev (h _ _ hr hc).1 (h _ _ hr hc).2).rel fun x hx => Rel.pure ?_
    intro i hi
    dsimp only
    by_cases h1 : i / n = j / n ∧ i % n = j % n
    · rw [if_pos h1, h1.1, h1.2]
      exact hx
    · rw [if_neg h1]
      have h2 : i ≠ j := fun h3 => h1 (by rw [h3]; exact ⟨rfl, rfl⟩)
      exact hA i (by omega)
theorem Rel.blk {n m : Nat} {lv : Nat → Nat → Int32} (hn : 0 < n) (h : lvOk n lv) (hm : m < 4) : Rel (pBlk wCode n m lv) (fun x => x.1 = m ∧ bEq n x.2 lv) := by
  refine Rel.bind (Ret.code _ _).rel fun hi h1 => Rel.bind (Ret.code _ _).rel fun lo h2 => Rel.bind (Rel.lvs h _ (Nat.le_refl _)) fun A hA => Rel.pure ⟨?_, ?_⟩
  · dsimp only
    subst h1 h2
    have h3 : m = 0 ∨ m = 1 ∨ m = 2 ∨ m = 3 := by omega
    rcases h3 with rfl | rfl | rfl | rfl <;> decide
  · intro r c hr hc
    have h3 : n * r + c < n * n := by
      have h4 : n * (r + 1) ≤ n * n := Nat.mul_le_mul_left n hr
      rw [Nat.mul_succ] at h4
      omega
    have h5 := hA _ h3
    rw [Nat.mul_add_div hn, Nat.div_eq_of_lt hc, Nat.add_zero, Nat.mul_add_mod, Nat.mod_eq_of_lt hc] at h5
    exact h5
def blOk (n b : Nat) (md : Nat → Nat) (lv : Nat → Nat → Nat → Int32) : Prop := ∀ q, q < b → md q < 4 ∧ lvOk n (lv q)
def blEq (n b : Nat) (md md2 : Nat → Nat) (lv lv2 : Nat → Nat → Nat → Int32) : Prop := ∀ q, q < b → md q = md2 q ∧ bEq n (lv q) (lv2 q)
theorem Rel.bls {n : Nat} {md : Nat → Nat} {lv : Nat → Nat → Nat → Int32} (hn : 0 < n) : ∀ b, blOk n b md lv → Rel (pBls wCode n md lv b) (fun A => blEq n b A.1 md A.2 lv) := by
  intro b
  induction b with
  | zero => exact fun _ => Rel.pure fun q hq => absurd hq (by omega)
  | succ b ih =>
    intro h
    refine Rel.bind (ih fun q hq => h q (by omega)) fun A hA => Rel.bind (Rel.blk hn (h b (by omega)).2 (h b (by omega)).1) fun x hx => Rel.pure ?_
    intro q hq
    dsimp only
    by_cases h1 : q = b
    · rw [if_pos h1, if_pos h1]
      subst h1
      exact hx
    · rw [if_neg h1, if_neg h1]
      exact hA q (by omega)
/-- a tile's data that can be coded; two alike -/
def tOk (td : TD) : Prop := td.1 = 2 ∧ blOk 4 4 td.2.1 td.2.2 ∨ td.1 = 3 ∧ blOk 8 1 td.2.1 td.2.2
def tEq (a b : TD) : Prop := a.1 = 2 ∧ b.1 = 2 ∧ blEq 4 4 a.2.1 b.2.1 a.2.2 b.2.2 ∨ a.1 = 3 ∧ b.1 = 3 ∧ blEq 8 1 a.2.1 b.2.1 a.2.2 b.2.2
theorem Rel.til {td : TD} (h : tOk td) : Rel (pTil wCode td) (fun x => tEq x td) := by
  unfold pTil
  refine Rel.bind (Ret.code _ _).rel fun s hs => ?_
  subst hs
  rcases h with ⟨h1, h2⟩ | ⟨h1, h2⟩
  · rw [if_pos h1, if_pos (by decide)]
    exact Rel.bind (Rel.bls (by decide) _ h2) fun A hA => Rel.pure (Or.inl ⟨rfl, h1, hA⟩)
  · rw [if_neg (by rw [h1]; decide), if_neg (by decide)]
    exact Rel.bind (Rel.bls (by decide) _ h2) fun A hA => Rel.pure (Or.inr ⟨rfl, h1, hA⟩)
theorem Rel.prt {td : Nat → TD} : ∀ T, (∀ t, t < T → tOk (td t)) → Rel (pPrt wCode td T) (fun D => ∀ t, t < T → tEq (D t) (td t)) := by
  intro T
  induction T with
  | zero => exact fun _ => Rel.pure fun t ht => absurd ht (by omega)
  | succ T ih =>
    intro h
    refine Rel.bind (ih fun t ht => h t (by omega)) fun D hD => Rel.bind (Rel.til (h T (by omega))) fun x hx => Rel.pure ?_
    intro t ht
    dsimp only
    by_cases h1 : t = T
    · rw [if_pos h1]
      subst h1
      exact hx
    · rw [if_neg h1]
      exact hD t (by omega)
/-! the end of a part -/
def W0 : WS := (0, 0, 0, 0, 65535, fun _ => (1, 1))
def R0 (F : Nat → Nat) : RS := (bV F 16, 0, 0, 65535, fun _ => (1, 1))
/-- the number of all bits of a part, and how many -/
def wFin (s : WS) : Nat × Nat := (if s.2.2.2.1 < 16384 then 2 * (s.1 * 2 ^ (s.2.2.1 + 1)) + 2 ^ (s.2.2.1 + 1) - 1 else 2 * (s.1 * 2 ^ (s.2.2.1 + 1)) + 2 ^ (s.2.2.1 + 1), s.2.1 + 1 + (s.2.2.1 + 1))
theorem W0_inv : wInv W0 := ⟨⟨by decide, by decide, by decide, by decide, Or.inl (by decide)⟩, fun c _ => ⟨Nat.le_refl 1, Nat.le_refl 1, by decide⟩⟩
theorem W0_syn (F : Nat → Nat) : Syn F W0 (R0 F) := ⟨rfl, rfl⟩
theorem fin_cmp {F : Nat → Nat} {s : WS} (hs : wInv s) (hE : bV F (wFin s).2 = (wFin s).1) (hz : ∀ i, (wFin s).2 ≤ i → F i = 0) : wCmp F s := by
  obtain ⟨E, n, p, l, h, ct⟩ := s
  obtain ⟨⟨i1, i2, i3, i4, i5⟩, -⟩ := hs
  have h1 := bV_zero hz 14
  rw [hE] at h1
  unfold wFin at h1 hE hz
  dsimp only at h1 hE hz i1 i2 i3 i4 i5
  unfold wCmp cMp oW
  dsimp only
  rw [show 16 + n + p = n + 1 + (p + 1) + 14 from by omega, h1, Nat.pow_succ, ← Nat.mul_assoc]
  have := pw1 p
  by_cases h2 : l < 16384
  · rw [if_pos h2]
    omega
  · rw [if_neg h2]
    omega
/-- a part read is the part written -/
theorem part_rt {F : Nat → Nat} (hF : ∀ i, F i < 2) {td td2 : Nat → TD} {T : Nat} (h : ∀ t, t < T → tOk (td t)) (hE : bV F (wFin (pPrt wCode td T W0).1).2 = (wFin (pPrt wCode td T W0).1).1) (hz : ∀ i, (wFin (pPrt wCode td T W0).1).2 ≤ i → F i = 0) : ∀ t, t < T → tEq ((pPrt (rCode F) td2 T (R0 F)).2 t) (td t) := by
  obtain ⟨a1, a2⟩ := LS.prt hF td td2 T W0 W0_inv
  obtain ⟨-, a3⟩ := a2 (fin_cmp a1 hE hz)
  obtain ⟨-, a4⟩ := a3 _ (W0_syn F)
  intro t ht
  rw [a4]
  exact Rel.prt T h W0 t ht
