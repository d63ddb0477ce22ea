/-! ===== the class's tile, and both tiles held together ===== -/
def cTile (bc : Int32) (x y st : Nat) (tg res costs levels modes sizes : Nat → Int32) (o : Int32 × Int32 × Int32 × (Nat → Int32) × (Nat → Int32) × (Nat → Int32) × (Nat → Int32) × (Nat → Int32) × (Nat → Int32) × (Nat → Int32) × (Nat → Int32) × (Nat → Int32)) : Prop :=
  if eC 3 x y st tg (eRq 2 2 x y st tg res 4) ≤ eSq 2 2 x y st tg res 4 then
    o.1 = bc + 1 ∧ o.2.2.2.1 = upd (eCq 2 2 x y st tg res costs 4) (cellN 8 x y) (eC 3 x y st tg (eRq 2 2 x y st tg res 4)) ∧ o.2.2.2.2.1 = put 8 x y (eL 3 x y st tg (eRq 2 2 x y st tg res 4)) (eLq 2 2 x y st tg res levels 4)
      ∧ o.2.2.2.2.2.1 = upd (eMq 2 2 x y st tg res modes 4) (cellN 8 x y) (nI (eM 3 x y tg (eRq 2 2 x y st tg res 4))) ∧ o.2.2.2.2.2.2.2.2.1 = eR 3 x y st tg (eRq 2 2 x y st tg res 4) ∧ o.2.2.2.2.2.2.2.2.2.1 = upd (upd sizes (2 * (y / 8) + x / 8) (nI 4)) (2 * (y / 8) + x / 8) (nI 8)
  else ∃ co lv mo : Nat → Int32, o.1 = bc + 4 ∧ o.2.2.2.1 = eCq 2 2 x y st tg (eR 3 x y st tg (eRq 2 2 x y st tg res 4)) co 4 ∧ o.2.2.2.2.1 = eLq 2 2 x y st tg (eR 3 x y st tg (eRq 2 2 x y st tg res 4)) lv 4
      ∧ o.2.2.2.2.2.1 = eMq 2 2 x y st tg (eR 3 x y st tg (eRq 2 2 x y st tg res 4)) mo 4 ∧ o.2.2.2.2.2.2.2.2.1 = eRq 2 2 x y st tg (eR 3 x y st tg (eRq 2 2 x y st tg res 4)) 4 ∧ o.2.2.2.2.2.2.2.2.2.1 = upd (upd (upd sizes (2 * (y / 8) + x / 8) (nI 4)) (2 * (y / 8) + x / 8) (nI 8)) (2 * (y / 8) + x / 8) (nI 4)
      ∧ co = upd (eCq 2 2 x y st tg res costs 4) (cellN 8 x y) (eC 3 x y st tg (eRq 2 2 x y st tg res 4)) ∧ lv = put 8 x y (eL 3 x y st tg (eRq 2 2 x y st tg res 4)) (eLq 2 2 x y st tg res levels 4) ∧ mo = upd (eMq 2 2 x y st tg res modes 4) (cellN 8 x y) (nI (eM 3 x y tg (eRq 2 2 x y st tg res 4)))
theorem e31 {x y st : Nat} {tg A co lv mo : Nat → Int32} : eSq 3 1 x y st tg A 1 = eC 3 x y st tg A ∧ eCq 3 1 x y st tg A co 1 = upd co (cellN 8 x y) (eC 3 x y st tg A) ∧ eLq 3 1 x y st tg A lv 1 = put 8 x y (eL 3 x y st tg A) lv ∧ eMq 3 1 x y st tg A mo 1 = upd mo (cellN 8 x y) (nI (eM 3 x y tg A)) ∧ eRq 3 1 x y st tg A 1 = eR 3 x y st tg A :=
  ⟨by
    show (0 : Int32) + eC 3 x y st tg A = _
    rw [Int32.zero_add], rfl, rfl, rfl, rfl⟩
theorem ok_X4_makeTile {bc av sz : Int32} {costs levels modes ab lf res sizes line pl tg : Nat → Int32} {p1 p2 : Int32} {x y st : Nat} (e1 : p1 = nI x) (e2 : p2 = nI y) (hx : x + 8 ≤ 16) (hy : y + 8 ≤ 24) (hx8 : x % 8 = 0) (hy8 : y % 8 = 0) (hs0 : 0 < st) (hs1 : st ≤ 32) :
    Ok (lf_X4_makeTile bc av sz (nI st) costs levels modes ab lf res sizes line pl 384 tg p1 p2) (cTile bc x y st tg res costs levels modes sizes) := by
  unfold lf_X4_makeTile
  refine Ok.bind _ (ok_X4_makeBlocks (K := 2) (b := 2) (st := st) e1 e2 (Or.inr ⟨rfl, rfl⟩) (by decide) (Or.inl rfl) rfl hx hy hx8 hy8 hs0 hs1) ?_
  rintro ⟨s1, a1, z1, co1, lv1, mo1, ab1, lf1, rs1, sz1, ln1, pl1⟩ ⟨h1, h2, h3, h4, h5, h6⟩
  dsimp only at h1 h2 h3 h4 h5 h6 ⊢
  have h1 : s1 = eSq 2 2 x y st tg res 4 := h1
  have h2 : co1 = eCq 2 2 x y st tg res costs 4 := h2
  have h3 : lv1 = eLq 2 2 x y st tg res levels 4 := h3
  have h4 : mo1 = eMq 2 2 x y st tg res modes 4 := h4
  have h5 : rs1 = eRq 2 2 x y st tg res 4 := h5
  have h6 : sz1 = upd sizes (2 * (y / 8) + x / 8) (nI 4) := h6
  subst h1 h2 h3 h4 h5 h6
  refine Ok.bind _ (ok_X4_makeBlocks (K := 3) (b := 1) (st := st) e1 e2 (Or.inl ⟨rfl, rfl⟩) (by decide) (Or.inr rfl) rfl hx hy hx8 hy8 hs0 hs1) ?_
  rintro ⟨s1, a1, z1, co1, lv1, mo1, ab1, lf1, rs1, sz1, ln1, pl1⟩ ⟨h1, h2, h3, h4, h5, h6⟩
  dsimp only at h1 h2 h3 h4 h5 h6 ⊢
  have h1 := h1.trans (e31 (co := fun _ => 0) (lv := fun _ => 0) (mo := fun _ => 0)).1
  have h2 := h2.trans (e31 (lv := fun _ => 0) (mo := fun _ => 0)).2.1
  have h3 := h3.trans (e31 (co := fun _ => 0) (mo := fun _ => 0)).2.2.1
  have h4 := h4.trans (e31 (co := fun _ => 0) (lv := fun _ => 0)).2.2.2.1
  have h5 := h5.trans (e31 (co := fun _ => 0) (lv := fun _ => 0) (mo := fun _ => 0)).2.2.2.2
  subst h1 h2 h3 h4 h5 h6
  unfold cTile
  by_cases hle : eC 3 x y st tg (eRq 2 2 x y st tg res 4) ≤ eSq 2 2 x y st tg res 4
  · refine Ok.pos hle (Ok.some ?_)
    rw [if_pos hle]
    exact ⟨rfl, rfl, rfl, rfl, rfl, rfl⟩
  · refine Ok.neg hle ?_
    refine Ok.bind _ (ok_X4_makeBlocks (K := 2) (b := 2) (st := st) e1 e2 (Or.inr ⟨rfl, rfl⟩) (by decide) (Or.inl rfl) rfl hx hy hx8 hy8 hs0 hs1) ?_
    rintro ⟨s1, a1, z1, co1, lv1, mo1, ab1, lf1, rs1, sz1, ln1, pl1⟩ ⟨h1, h2, h3, h4, h5, h6⟩
    refine Ok.some ?_
    rw [if_neg hle]
    exact ⟨_, _, _, rfl, h2, h3, h4, h5, h6, rfl, rfl, rfl⟩
/-- two planes alike left of the tile, and in its first q quarters -/
def agT (x y q : Nat) (A B : Nat → Int32) : Prop := ∀ r c, r < 8 → c < 16 → (c < x ∨ c < x + 8 ∧ 2 * (r / 4) + (c - x) / 4 < q) → A (16 * (y + r) + c) = B (16 * (y + r) + c)
def agG (x y : Nat) (A B : Nat → Int32) : Prop := ∀ r c, r < 8 → c < 8 → A (16 * (y + r) + (x + c)) = B (16 * (y + r) + (x + c))
theorem bX2 {x q : Nat} : bX 2 2 x q = x + 4 * (q % 2) := rfl
theorem bY2 {y q : Nat} : bY 2 2 y q = y + 4 * (q / 2) := rfl
theorem ag4_n {x y q : Nat} {A B : Nat → Int32} (hx : x + 8 ≤ 16) (hx8 : x % 8 = 0) (hy8 : y % 8 = 0) (hq : q < 4) (h : agT x y q A B) : nL (2 ^ 2) A (bX 2 2 x q) (bY 2 2 y q) = nL (2 ^ 2) B (bX 2 2 x q) (bY 2 2 y q) ∧ nU (2 ^ 2) A (bX 2 2 x q) (bY 2 2 y q) = nU (2 ^ 2) B (bX 2 2 x q) (bY 2 2 y q) := by
  rw [bX2, bY2]
  constructor
  · funext k
    unfold nL nbL
    by_cases hk : k < 2 ^ 2
    · rw [if_pos hk, if_pos hk]
      by_cases h0 : x + 4 * (q % 2) = 0
      · rw [if_pos h0, if_pos h0]
      · rw [if_neg h0, if_neg h0]
        have h1 := h (4 * (q / 2) + k) (x + 4 * (q % 2) - 1) (by omega) (by omega) (by omega)
        rw [show 16 * (y + (4 * (q / 2) + k)) + (x + 4 * (q % 2) - 1) = 16 * (y + 4 * (q / 2) + k) + (x + 4 * (q % 2)) - 1 from by omega] at h1
        exact h1
    · rw [if_neg hk, if_neg hk]
  · funext k
    unfold nU nbU
    by_cases hk : k < 2 ^ 2
    · rw [if_pos hk, if_pos hk]
      by_cases h0 : (y + 4 * (q / 2)) % 8 = 0
      · rw [if_pos h0, if_pos h0]
      · rw [if_neg h0, if_neg h0]
        have h1 := h (4 * (q / 2) - 1) (x + 4 * (q % 2) + k) (by omega) (by omega) (by omega)
        rw [show 16 * (y + (4 * (q / 2) - 1)) + (x + 4 * (q % 2) + k) = 16 * (y + 4 * (q / 2) - 1) + (x + 4 * (q % 2)) + k from by omega] at h1
        exact h1
    · rw [if_neg hk, if_neg hk]
theorem ag4_T {x y q : Nat} {A B : Nat → Int32} (hq : q < 4) (h : agG x y A B) : nT (2 ^ 2) A (bX 2 2 x q) (bY 2 2 y q) = nT (2 ^ 2) B (bX 2 2 x q) (bY 2 2 y q) := by
  rw [bX2, bY2]
  funext r c
  unfold nT
  by_cases hk : r < 2 ^ 2 ∧ c < 2 ^ 2
  · rw [if_pos hk, if_pos hk]
    have h1 := h (4 * (q / 2) + r) (4 * (q % 2) + c) (by omega) (by omega)
    rw [show 16 * (y + (4 * (q / 2) + r)) + (x + (4 * (q % 2) + c)) = 16 * (y + 4 * (q / 2) + r) + (x + 4 * (q % 2) + c) from by omega] at h1
    exact h1
  · rw [if_neg hk, if_neg hk]
theorem ag8_n {x y : Nat} {A B : Nat → Int32} (hx : x + 8 ≤ 16) (hy8 : y % 8 = 0) (h : agT x y 0 A B) : nL (2 ^ 3) A x y = nL (2 ^ 3) B x y ∧ nU (2 ^ 3) A x y = nU (2 ^ 3) B x y := by
  constructor
  · funext k
    unfold nL nbL
    by_cases hk : k < 2 ^ 3
    · rw [if_pos hk, if_pos hk]
      by_cases h0 : x = 0
      · rw [if_pos h0, if_pos h0]
      · rw [if_neg h0, if_neg h0]
        have h1 := h k (x - 1) (by omega) (by omega) (by omega)
        rw [show 16 * (y + k) + (x - 1) = 16 * (y + k) + x - 1 from by omega] at h1
        exact h1
    · rw [if_neg hk, if_neg hk]
  · funext k
    unfold nU nbU
    rw [if_pos hy8, if_pos hy8]
theorem ag8_T {x y : Nat} {A B : Nat → Int32} (h : agG x y A B) : nT (2 ^ 3) A x y = nT (2 ^ 3) B x y := by
  funext r c
  unfold nT
  by_cases hk : r < 2 ^ 3 ∧ c < 2 ^ 3
  · rw [if_pos hk, if_pos hk]
    exact h r c hk.1 hk.2
  · rw [if_neg hk, if_neg hk]
theorem ag_put4 {x y q : Nat} {w : Nat → Nat → Int32} {A B : Nat → Int32} (h : agT x y q A B) : agT x y (q + 1) (put (2 ^ 2) (bX 2 2 x q) (bY 2 2 y q) w A) (put (2 ^ 2) (bX 2 2 x q) (bY 2 2 y q) w B) := by
  intro r c hr hc h1
  unfold put
  by_cases h2 : bY 2 2 y q ≤ (16 * (y + r) + c) / 16 ∧ (16 * (y + r) + c) / 16 < bY 2 2 y q + 2 ^ 2 ∧ bX 2 2 x q ≤ (16 * (y + r) + c) % 16 ∧ (16 * (y + r) + c) % 16 < bX 2 2 x q + 2 ^ 2
  · rw [if_pos h2, if_pos h2]
  · rw [if_neg h2, if_neg h2]
    rw [bX2, bY2] at h2
    exact h r c hr hc (by omega)
theorem ag_put8 {x y q : Nat} {w : Nat → Nat → Int32} {A B : Nat → Int32} (h : agT x y 0 A B) : agT x y q (put (2 ^ 3) x y w A) (put (2 ^ 3) x y w B) := by
  intro r c hr hc h1
  unfold put
  by_cases h2 : y ≤ (16 * (y + r) + c) / 16 ∧ (16 * (y + r) + c) / 16 < y + 2 ^ 3 ∧ x ≤ (16 * (y + r) + c) % 16 ∧ (16 * (y + r) + c) % 16 < x + 2 ^ 3
  · rw [if_pos h2, if_pos h2]
  · rw [if_neg h2, if_neg h2]
    exact h r c hr hc (by omega)
theorem ag4 {x y q st : Nat} {tA tB A B : Nat → Int32} (hx : x + 8 ≤ 16) (hx8 : x % 8 = 0) (hy8 : y % 8 = 0) (hq : q < 4) (ht : agG x y tA tB) (h : agT x y q A B) :
    eL 2 (bX 2 2 x q) (bY 2 2 y q) st tA A = eL 2 (bX 2 2 x q) (bY 2 2 y q) st tB B ∧ eM 2 (bX 2 2 x q) (bY 2 2 y q) tA A = eM 2 (bX 2 2 x q) (bY 2 2 y q) tB B ∧ eC 2 (bX 2 2 x q) (bY 2 2 y q) st tA A = eC 2 (bX 2 2 x q) (bY 2 2 y q) st tB B ∧ agT x y (q + 1) (eR 2 (bX 2 2 x q) (bY 2 2 y q) st tA A) (eR 2 (bX 2 2 x q) (bY 2 2 y q) st tB B) := by
  obtain ⟨h1, h2⟩ := ag4_n hx hx8 hy8 hq h
  have h3 := ag4_T hq ht
  unfold eR eB eL eM eC
  rw [h1, h2, h3]
  exact ⟨rfl, rfl, rfl, ag_put4 h⟩
theorem ag8 {x y st : Nat} {tA tB A B : Nat → Int32} (hx : x + 8 ≤ 16) (hy8 : y % 8 = 0) (ht : agG x y tA tB) (h : agT x y 0 A B) :
    eL 3 x y st tA A = eL 3 x y st tB B ∧ eM 3 x y tA A = eM 3 x y tB B ∧ eC 3 x y st tA A = eC 3 x y st tB B ∧ agT x y 4 (eR 3 x y st tA A) (eR 3 x y st tB B) := by
  obtain ⟨h1, h2⟩ := ag8_n hx hy8 h
  have h3 := ag8_T ht
  unfold eR eB eL eM eC
  rw [h1, h2, h3]
  exact ⟨rfl, rfl, rfl, ag_put8 h⟩
theorem ag4q {x y st : Nat} {tA tB A B : Nat → Int32} (hx : x + 8 ≤ 16) (hx8 : x % 8 = 0) (hy8 : y % 8 = 0) (ht : agG x y tA tB) (h : agT x y 0 A B) :
    ∀ q, q ≤ 4 → agT x y q (eRq 2 2 x y st tA A q) (eRq 2 2 x y st tB B q) ∧ eSq 2 2 x y st tA A q = eSq 2 2 x y st tB B q
  | 0, _ => ⟨h, rfl⟩
  | q + 1, hq => by
    obtain ⟨h1, h2⟩ := ag4q (st := st) hx hx8 hy8 ht h q (by omega)
    obtain ⟨h3, h4, h5, h6⟩ := ag4 (st := st) hx hx8 hy8 (by omega : q < 4) ht h1
    exact ⟨h6, by rw [eSq_s, eSq_s, h2, h5]⟩
/-- outside the tile nothing changes -/
theorem seq_off {x y : Nat} {f : Nat → Nat → Int32} {w : Nat → Nat → Nat → Int32} (hf : ∀ q, f (q + 1) = put (2 ^ 2) (bX 2 2 x q) (bY 2 2 y q) (w q) (f q)) {px py : Nat} (hp : px < 16) (h : ¬ (y ≤ py ∧ py < y + 8 ∧ x ≤ px ∧ px < x + 8)) : ∀ q, q ≤ 4 → f q (16 * py + px) = f 0 (16 * py + px)
  | 0, _ => rfl
  | q + 1, hq => by
    rw [hf q, put_off hp (by rw [bX2, bY2]; omega)]
    exact seq_off hf hp h q (by omega)
/-- in the tile it is what its quarter's turn laid -/
theorem seq_at {x y : Nat} {f : Nat → Nat → Int32} {w : Nat → Nat → Nat → Int32} (hx : x + 8 ≤ 16) (hf : ∀ q, f (q + 1) = put (2 ^ 2) (bX 2 2 x q) (bY 2 2 y q) (w q) (f q)) {r c : Nat} (hr : r < 8) (hc : c < 8) : ∀ q, q ≤ 4 → 2 * (r / 4) + c / 4 < q → f q (16 * (y + r) + (x + c)) = w (2 * (r / 4) + c / 4) (r % 4) (c % 4)
  | 0, _, h => absurd h (by omega)
  | q + 1, hq, h => by
    rw [hf q]
    by_cases h1 : 2 * (r / 4) + c / 4 = q
    · have e : 16 * (y + r) + (x + c) = 16 * (bY 2 2 y q + r % 4) + (bX 2 2 x q + c % 4) := by
        rw [bX2, bY2]
        omega
      rw [e, put_at (by rw [bX2]; omega) (by omega) (by omega), h1]
    · rw [put_off (by omega) (by rw [bX2, bY2]; omega)]
      exact seq_at hx hf hr hc q (by omega) (by omega)
theorem cell_q {x y r c q : Nat} (hx8 : x % 8 = 0) (hy8 : y % 8 = 0) (hr : r < 8) (hc : c < 8) (hq : q < 4) : cellN (2 ^ 2) (bX 2 2 x q) (bY 2 2 y q) = cellN 4 (x + c) (y + r) ↔ 2 * (r / 4) + c / 4 = q := by
  rw [bX2, bY2]
  show (if 4 = 4 then _ else _) = (if 4 = 4 then _ else _) ↔ _
  rw [if_pos rfl, if_pos rfl]
  omega
theorem sq_at {x y : Nat} {f : Nat → Nat → Int32} {v : Nat → Int32} (hx : x + 8 ≤ 16) (hx8 : x % 8 = 0) (hy8 : y % 8 = 0) (hf : ∀ q, f (q + 1) = upd (f q) (cellN (2 ^ 2) (bX 2 2 x q) (bY 2 2 y q)) (v q)) {r c : Nat} (hr : r < 8) (hc : c < 8) : ∀ q, q ≤ 4 → 2 * (r / 4) + c / 4 < q → f q (cellN 4 (x + c) (y + r)) = v (2 * (r / 4) + c / 4)
  | 0, _, h => absurd h (by omega)
  | q + 1, hq, h => by
    rw [hf q]
    by_cases h1 : 2 * (r / 4) + c / 4 = q
    · rw [← (cell_q hx8 hy8 hr hc (by omega)).mpr h1, upd_eq, h1]
    · rw [upd_ne (fun h2 => h1 ((cell_q hx8 hy8 hr hc (by omega)).mp h2.symm))]
      exact sq_at hx hx8 hy8 hf hr hc q (by omega) (by omega)
theorem sq_off {x y : Nat} {f : Nat → Nat → Int32} {v : Nat → Int32} (hx : x + 8 ≤ 16) (hx8 : x % 8 = 0) (hy8 : y % 8 = 0) (hf : ∀ q, f (q + 1) = upd (f q) (cellN (2 ^ 2) (bX 2 2 x q) (bY 2 2 y q)) (v q)) {j : Nat} (h : ¬ (j / 8 = y / 8 ∧ j % 4 / 2 = x / 8)) : ∀ q, q ≤ 4 → f q j = f 0 j
  | 0, _ => rfl
  | q + 1, hq => by
    rw [hf q, upd_ne (fun h2 => h ?_)]
    · exact sq_off hx hx8 hy8 hf h q (by omega)
    · rw [bX2, bY2] at h2
      have h3 : j = 4 * ((y + 4 * (q / 2)) / 4) + (x + 4 * (q % 2)) / 4 := h2
      omega
/-- a pixel of a layer, as the class and as the reference have it -/
def pxR (l px py : Nat) (lC mC cC sC lM mM cM sM : Nat → Int32) : Prop :=
  lM (384 * l + (16 * py + px)) = lC (16 * py + px) ∧ sM (384 * l + (16 * py + px)) = nI (szN sC px py) ∧ mM (384 * l + (16 * py + px)) = mC (cellN (szN sC px py) px py) ∧ cM (384 * l + (16 * py + px)) = cC (cellN (szN sC px py) px py)
theorem agT_eR8 {x y : Nat} {st : Nat} {tg A : Nat → Int32} : agT x y 0 (eR 3 x y st tg A) A := by
  intro r c hr hc h
  show put (2 ^ 3) x y _ A _ = _
  rw [put_off hc (by omega)]
theorem agT_eRq {x y : Nat} {st : Nat} {tg A : Nat → Int32} : agT x y 0 (eRq 2 2 x y st tg A 4) A := by
  intro r c hr hc h
  exact seq_off (x := x) (y := y) (f := eRq 2 2 x y st tg A) (w := fun q => bRes 2 (nL (2 ^ 2) (eRq 2 2 x y st tg A q) (bX 2 2 x q) (bY 2 2 y q)) (nU (2 ^ 2) (eRq 2 2 x y st tg A q) (bX 2 2 x q) (bY 2 2 y q)) (nI st) (eM 2 (bX 2 2 x q) (bY 2 2 y q) tg (eRq 2 2 x y st tg A q)) (eL 2 (bX 2 2 x q) (bY 2 2 y q) st tg (eRq 2 2 x y st tg A q))) (fun q => rfl) hc (by omega) 4 (by omega)
theorem agT_sub {x y q p : Nat} {A B : Nat → Int32} (h : agT x y q A B) (hp : p ≤ q) : agT x y p A B := fun r c hr hc h1 => h r c hr hc (by omega)
theorem agT_trans {x y q : Nat} {A B C : Nat → Int32} (h : agT x y q A B) (h2 : agT x y q B C) : agT x y q A C := fun r c hr hc h1 => (h r c hr hc h1).trans (h2 r c hr hc h1)
theorem cell8 {x y r c : Nat} (hx8 : x % 8 = 0) (hy8 : y % 8 = 0) (hr : r < 8) (hc : c < 8) : cellN 8 (x + c) (y + r) = cellN 8 x y := by
  show (if 8 = 4 then _ else _) = (if 8 = 4 then _ else _)
  rw [if_neg (by decide), if_neg (by decide)]
  omega
theorem szN_at {sizes : Nat → Int32} {x y r c n : Nat} (hx8 : x % 8 = 0) (hy8 : y % 8 = 0) (hr : r < 8) (hc : c < 8) (hn : n = 4 ∨ n = 8) : szN (upd sizes (2 * (y / 8) + x / 8) (nI n)) (x + c) (y + r) = n := by
  unfold szN
  rw [show 2 * ((y + r) / 8) + (x + c) / 8 = 2 * (y / 8) + x / 8 from by omega, upd_eq]
  rcases hn with rfl | rfl
  · exact if_pos rfl
  · exact if_neg (by decide)
set_option maxHeartbeats 1000000 in
theorem tile_px {bc : Int32} {l x y st : Nat} {tC tM rC rM lC mC cC sC lM mM cM sM blocks : Nat → Int32} {oc : Int32 × Int32 × Int32 × (Nat → Int32) × (Nat → Int32) × (Nat → Int32) × (Nat → Int32) × (Nat → Int32) × (Nat → Int32) × (Nat → Int32) × (Nat → Int32) × (Nat → Int32)} {om : Int32 × Int32 × (Nat → Int32) × (Nat → Int32) × (Nat → Int32) × (Nat → Int32) × (Nat → Int32) × (Nat → Int32) × (Nat → Int32) × (Nat → Int32) × (Nat → Int32) × (Nat → Int32)}
    (hx : x + 8 ≤ 16) (hx8 : x % 8 = 0) (hy8 : y % 8 = 0) (hl : l < 3) (ht : agG x y tC tM) (hr : agT x y 0 rC rM) (hc : cTile bc x y st tC rC cC lC mC sC oc) (hm : mTile l x y st tM rM blocks cM lM mM sM om) :
    (∀ r c, r < 8 → c < 8 → pxR l (x + c) (y + r) oc.2.2.2.2.1 oc.2.2.2.2.2.1 oc.2.2.2.1 oc.2.2.2.2.2.2.2.2.2.1 om.2.2.2.2.1 om.2.2.2.2.2.2.1 om.2.2.2.1 om.2.2.2.2.2.2.2.2.2.2.1) ∧ agT x y 4 oc.2.2.2.2.2.2.2.2.1 om.2.2.2.2.2.2.2.2.2.1 ∧ ∃ q, oc.1 = bc + q ∧ om.2.2.1 = upd blocks l (blocks l + q) := by
  obtain ⟨g4, s4⟩ := ag4q (st := st) hx hx8 hy8 ht hr 4 (Nat.le_refl _)
  have g0 : agT x y 0 (eRq 2 2 x y st tC rC 4) (eRq 2 2 x y st tM rM 4) := agT_sub g4 (by omega)
  obtain ⟨l8, m8, c8, r8⟩ := ag8 (st := st) hx hy8 ht g0
  unfold cTile at hc
  unfold mTile at hm
  rw [c8, s4] at hc
  by_cases hle : eC 3 x y st tM (eRq 2 2 x y st tM rM 4) ≤ eSq 2 2 x y st tM rM 4
  · rw [if_pos hle] at hc hm
    obtain ⟨a1, a2, a3, a4, a5, a6⟩ := hc
    obtain ⟨b1, b2, b3, b4, b5, b6⟩ := hm
    refine ⟨fun r c hr hc => ?_, ?_, 1, a1, b1⟩
    · unfold pxR
      have hsz : szN oc.2.2.2.2.2.2.2.2.2.1 (x + c) (y + r) = 8 := by
        rw [a6]
        exact szN_at hx8 hy8 hr hc (Or.inr rfl)
      rw [hsz, a2, a3, a4, cell8 hx8 hy8 hr hc, upd_eq, upd_eq, put_at hx hr hc, l8, m8]
      refine ⟨?_, ?_, ?_, ?_⟩
      · have := congrFun b3.1 (16 * (y + r) + (x + c))
        rw [put_at hx hr hc] at this
        exact this
      · have := congrFun b6.1 (16 * (y + r) + (x + c))
        rw [put_at hx hr hc] at this
        exact this
      · have := congrFun b4.1 (16 * (y + r) + (x + c))
        rw [put_at hx hr hc] at this
        exact this
      · have := congrFun b2.1 (16 * (y + r) + (x + c))
        rw [put_at hx hr hc] at this
        exact this
    · rw [a5, b5]
      exact r8
  · rw [if_neg hle] at hc hm
    obtain ⟨co, lv, mo, a1, a2, a3, a4, a5, a6, -, -, -⟩ := hc
    obtain ⟨b1, b2, b3, b4, b5, b6⟩ := hm
    have hr2 : agT x y 0 (eR 3 x y st tC (eRq 2 2 x y st tC rC 4)) rM := agT_trans (agT_trans agT_eR8 agT_eRq) hr
    have hq := fun q hq => ag4q (st := st) hx hx8 hy8 ht hr2 q hq
    refine ⟨fun r c hr hc => ?_, ?_, 4, a1, b1⟩
    · unfold pxR
      have hsz : szN oc.2.2.2.2.2.2.2.2.2.1 (x + c) (y + r) = 4 := by
        rw [a6]
        exact szN_at hx8 hy8 hr hc (Or.inl rfl)
      obtain ⟨k1, k2, k3, -⟩ := ag4 (st := st) hx hx8 hy8 (by omega : 2 * (r / 4) + c / 4 < 4) ht (hq (2 * (r / 4) + c / 4) (by omega)).1
      rw [hsz, a2, a3, a4]
      refine ⟨?_, ?_, ?_, ?_⟩
      · have h1 := congrFun b3.1 (16 * (y + r) + (x + c))
        have h1 : om.2.2.2.2.1 (384 * l + (16 * (y + r) + (x + c))) = _ := h1
        rw [h1, seq_at hx (fun q => eLq_s q) hr hc 4 (by omega) (by omega), seq_at hx (fun q => eLq_s q) hr hc 4 (by omega) (by omega), k1]
      · have h1 := congrFun b6.1 (16 * (y + r) + (x + c))
        have h1 : om.2.2.2.2.2.2.2.2.2.2.1 (384 * l + (16 * (y + r) + (x + c))) = _ := h1
        rw [h1, seq_at hx (fun q => pSq_s q) hr hc 4 (by omega) (by omega)]
      · have h1 := congrFun b4.1 (16 * (y + r) + (x + c))
        have h1 : om.2.2.2.2.2.2.1 (384 * l + (16 * (y + r) + (x + c))) = _ := h1
        rw [h1, seq_at hx (fun q => pMq_s q) hr hc 4 (by omega) (by omega), sq_at hx hx8 hy8 (fun q => eMq_s q) hr hc 4 (by omega) (by omega), k2]
      · have h1 := congrFun b2.1 (16 * (y + r) + (x + c))
        have h1 : om.2.2.2.1 (384 * l + (16 * (y + r) + (x + c))) = _ := h1
        rw [h1, seq_at hx (fun q => pCq_s q) hr hc 4 (by omega) (by omega), sq_at hx hx8 hy8 (fun q => eCq_s q) hr hc 4 (by omega) (by omega), k3]
    · rw [a5, b5]
      exact (hq 4 (Nat.le_refl _)).1
