/-! ===== what a slice's parts say, and what they make ===== -/
theorem seq_ex {α : Type} {R : Nat → α → α → Prop} {I : Nat → α → Prop} {x0 : α} (h0 : I 0 x0) : ∀ N, (∀ q x, q < N → I q x → ∃ y, R q x y ∧ I (q + 1) y) → ∃ f : Nat → α, f 0 = x0 ∧ (∀ q, q < N → R q (f q) (f (q + 1))) ∧ ∀ q, q ≤ N → I q (f q)
  | 0, _ => ⟨fun _ => x0, rfl, fun q hq => absurd hq (by omega), fun q hq => by
    have : q = 0 := by omega
    subst this
    exact h0⟩
  | N + 1, h => by
    obtain ⟨f, h1, h2, h3⟩ := seq_ex h0 N (fun q x hq hI => h q x (by omega) hI)
    obtain ⟨y, h4, h5⟩ := h N (f N) (by omega) (h3 N (by omega))
    refine ⟨fun q => if q ≤ N then f q else y, ?_, fun q hq => ?_, fun q hq => ?_⟩
    · dsimp only
      rw [if_pos (by omega), h1]
    · dsimp only
      by_cases h6 : q = N
      · subst h6
        rw [if_pos (by omega), if_neg (by omega)]
        exact h4
      · rw [if_pos (by omega), if_pos (by omega)]
        exact h2 q (by omega)
    · dsimp only
      by_cases h6 : q ≤ N
      · rw [if_pos h6]
        exact h3 q h6
      · rw [if_neg h6]
        have : q = N + 1 := by omega
        subst this
        exact h5
theorem seq_offB {x y : Nat} {f : Nat → Nat → Int32} {w : Nat → Nat → Nat → Int32} (hf : ∀ q, q < 4 → f (q + 1) = put (2 ^ 2) (bX 2 2 x q) (bY 2 2 y q) (w q) (f q)) {px py : Nat} (hp : px < 16) (h : ¬ (y ≤ py ∧ py < y + 8 ∧ x ≤ px ∧ px < x + 8)) : ∀ q, q ≤ 4 → f q (16 * py + px) = f 0 (16 * py + px)
  | 0, _ => rfl
  | q + 1, hq => by
    rw [hf q (by omega), put_off hp (by rw [bX2, bY2]; omega)]
    exact seq_offB hf hp h q (by omega)
theorem seq_atB {x y : Nat} {f : Nat → Nat → Int32} {w : Nat → Nat → Nat → Int32} (hx : x + 8 ≤ 16) (hf : ∀ q, q < 4 → f (q + 1) = put (2 ^ 2) (bX 2 2 x q) (bY 2 2 y q) (w q) (f q)) {r c : Nat} (hr : r < 8) (hc : c < 8) : ∀ q, q ≤ 4 → 2 * (r / 4) + c / 4 < q → f q (16 * (y + r) + (x + c)) = w (2 * (r / 4) + c / 4) (r % 4) (c % 4)
  | 0, _, h => absurd h (by omega)
  | q + 1, hq, h => by
    rw [hf q (by omega)]
    by_cases h1 : 2 * (r / 4) + c / 4 = q
    · have e : 16 * (y + r) + (x + c) = 16 * (bY 2 2 y q + r % 4) + (bX 2 2 x q + c % 4) := by
        rw [bX2, bY2]
        omega
      rw [e, put_at (by rw [bX2]; omega) (by omega) (by omega), h1]
    · rw [put_off (by omega) (by rw [bX2, bY2]; omega)]
      exact seq_atB hx hf hr hc q (by omega) (by omega)
theorem sq_atB {x y : Nat} {f : Nat → Nat → Int32} {v : Nat → Int32} (hx : x + 8 ≤ 16) (hx8 : x % 8 = 0) (hy8 : y % 8 = 0) (hf : ∀ q, q < 4 → f (q + 1) = upd (f q) (cellN (2 ^ 2) (bX 2 2 x q) (bY 2 2 y q)) (v q)) {r c : Nat} (hr : r < 8) (hc : c < 8) : ∀ q, q ≤ 4 → 2 * (r / 4) + c / 4 < q → f q (cellN 4 (x + c) (y + r)) = v (2 * (r / 4) + c / 4)
  | 0, _, h => absurd h (by omega)
  | q + 1, hq, h => by
    rw [hf q (by omega)]
    by_cases h1 : 2 * (r / 4) + c / 4 = q
    · rw [← (cell_q hx8 hy8 hr hc (by omega)).mpr h1, upd_eq, h1]
    · rw [upd_ne (fun h2 => h1 ((cell_q hx8 hy8 hr hc (by omega)).mp h2.symm))]
      exact sq_atB hx hx8 hy8 hf hr hc q (by omega) (by omega)
theorem sq_offB {x y : Nat} {f : Nat → Nat → Int32} {v : Nat → Int32} (hx : x + 8 ≤ 16) (hx8 : x % 8 = 0) (hy8 : y % 8 = 0) (hf : ∀ q, q < 4 → f (q + 1) = upd (f q) (cellN (2 ^ 2) (bX 2 2 x q) (bY 2 2 y q)) (v q)) {j : Nat} (h : ¬ (j / 8 = y / 8 ∧ j % 4 / 2 = x / 8)) : ∀ q, q ≤ 4 → f q j = f 0 j
  | 0, _ => rfl
  | q + 1, hq => by
    rw [hf q (by omega), upd_ne (fun h2 => h ?_)]
    · exact sq_offB hx hx8 hy8 hf h q (by omega)
    · rw [bX2, bY2] at h2
      have h3 : j = 4 * ((y + 4 * (q / 2)) / 4) + (x + 4 * (q % 2)) / 4 := h2
      omega
/-- a tile's blocks, made one after the other -/
def dTq (K b x y : Nat) (step : Int32) (m : Nat → Nat) (lv : Nat → Nat → Nat → Int32) (res : Nat → Int32) : Nat → Nat → Int32
  | 0 => res
  | q + 1 => eB K (bX K b x q) (bY K b y q) step (m q) (lv q) (dTq K b x y step m lv res q)
def TD : Type := Nat × (Nat → Nat) × (Nat → Nat → Nat → Int32)
def dT (x y : Nat) (step : Int32) (td : TD) (res : Nat → Int32) : Nat → Int32 := if td.1 = 2 then dTq 2 2 x y step td.2.1 td.2.2 res 4 else dTq 3 1 x y step td.2.1 td.2.2 res 1
def dS (y : Nat) (step : Int32) (td : Nat → TD) (res : Nat → Int32) : Nat → Nat → Int32
  | 0 => res
  | t + 1 => dT (8 * t) y step (td t) (dS y step td res t)
theorem dS_congr {y : Nat} {step : Int32} {td td2 : Nat → TD} {res : Nat → Int32} : ∀ t, (∀ i, i < t → td i = td2 i) → dS y step td res t = dS y step td2 res t
  | 0, _ => rfl
  | t + 1, h => by
    show dT _ _ _ (td t) (dS y step td res t) = dT _ _ _ (td2 t) (dS y step td2 res t)
    rw [dS_congr t (fun i hi => h i (by omega)), h t (by omega)]
/-- the class's rows hold a tile's data -/
def tdP (x y : Nat) (td : TD) (lC mC sC : Nat → Int32) : Prop := ∃ b, (td.1 = 2 ∧ b = 2 ∨ td.1 = 3 ∧ b = 1) ∧ szN sC x y = 2 ^ td.1 ∧ ∀ q, q < b * b → td.2.1 q < 4 ∧ mC (cellN (2 ^ td.1) (bX td.1 b x q) (bY td.1 b y q)) = nI (td.2.1 q) ∧ ∀ r c, r < 2 ^ td.1 → c < 2 ^ td.1 → lC (16 * (bY td.1 b y q + r) + (bX td.1 b x q + c)) = td.2.2 q r c
theorem tdP_keep {x y X Y : Nat} {td : TD} {lC mC sC lC2 mC2 sC2 : Nat → Int32} (hx : x + 8 ≤ 16) (hx8 : x % 8 = 0) (hy8 : y % 8 = 0) (hX : X + 8 ≤ 16) (hX8 : X % 8 = 0) (hY8 : Y % 8 = 0) (hne : ¬ (Y = y ∧ X = x)) (h : tdP x y td lC mC sC) (h1 : ∀ px py, px < 16 → ¬ (Y ≤ py ∧ py < Y + 8 ∧ X ≤ px ∧ px < X + 8) → lC2 (16 * py + px) = lC (16 * py + px)) (h2 : ∀ j, ¬ (j / 8 = Y / 8 ∧ j % 4 / 2 = X / 8) → mC2 j = mC j) (h3 : ∀ j, j ≠ 2 * (Y / 8) + X / 8 → sC2 j = sC j) : tdP x y td lC2 mC2 sC2 := by
  obtain ⟨b, hb, hs, hq⟩ := h
  refine ⟨b, hb, ?_, fun q hq2 => ?_⟩
  · unfold szN at hs ⊢
    rw [h3 _ (by omega)]
    exact hs
  · obtain ⟨g1, g2, g3⟩ := hq q hq2
    have hbx : x ≤ bX td.1 b x q ∧ bX td.1 b x q + 2 ^ td.1 ≤ x + 8 ∧ y ≤ bY td.1 b y q ∧ bY td.1 b y q + 2 ^ td.1 ≤ y + 8 := by
      unfold bX bY
      rcases hb with ⟨e, rfl⟩ | ⟨e, rfl⟩
      · rw [e]
        omega
      · rw [e]
        omega
    have hn : 2 ^ td.1 = 4 ∨ 2 ^ td.1 = 8 := by
      rcases hb with ⟨e, -⟩ | ⟨e, -⟩
      · rw [e]
        exact Or.inl rfl
      · rw [e]
        exact Or.inr rfl
    refine ⟨g1, ?_, fun r c hr hc => ?_⟩
    · rw [h2 _ ?_]
      · exact g2
      · exact cell_out (by omega) (by omega)
    · rw [h1 _ _ (by omega) (by omega)]
      exact g3 r c hr hc
/-- planes alike on a tile's left make a tile alike -/
theorem eB_ag4 {x y q m : Nat} {step : Int32} {lv : Nat → Nat → Int32} {A B : Nat → Int32} (hx : x + 8 ≤ 16) (hx8 : x % 8 = 0) (hy8 : y % 8 = 0) (hq : q < 4) (h : agT x y q A B) : agT x y (q + 1) (eB 2 (bX 2 2 x q) (bY 2 2 y q) step m lv A) (eB 2 (bX 2 2 x q) (bY 2 2 y q) step m lv B) := by
  obtain ⟨h1, h2⟩ := ag4_n hx hx8 hy8 hq h
  unfold eB
  rw [h1, h2]
  exact ag_put4 h
theorem dT_ag {x y : Nat} {step : Int32} {td : TD} {A B : Nat → Int32} (hx : x + 8 ≤ 16) (hx8 : x % 8 = 0) (hy8 : y % 8 = 0) (h : agT x y 0 A B) : agT x y 4 (dT x y step td A) (dT x y step td B) := by
  unfold dT
  by_cases h2 : td.1 = 2
  · rw [if_pos h2, if_pos h2]
    have hq : ∀ q, q ≤ 4 → agT x y q (dTq 2 2 x y step td.2.1 td.2.2 A q) (dTq 2 2 x y step td.2.1 td.2.2 B q) := by
      intro q
      induction q with
      | zero => intro _; exact h
      | succ q ih => intro hq; exact eB_ag4 hx hx8 hy8 (by omega) (ih (by omega))
    exact hq 4 (Nat.le_refl _)
  · rw [if_neg h2, if_neg h2]
    obtain ⟨h3, h4⟩ := ag8_n hx hy8 h
    show agT x y 4 (eB 3 x y step (td.2.1 0) (td.2.2 0) A) (eB 3 x y step (td.2.1 0) (td.2.2 0) B)
    unfold eB
    rw [h3, h4]
    exact ag_put8 h
theorem dS_ag {y W : Nat} {step : Int32} {td : Nat → TD} {A B : Nat → Int32} (hy8 : y % 8 = 0) (hW : W ≤ 2) : ∀ t, t ≤ W → ∀ r c, r < 8 → c < 8 * t → dS y step td A t (16 * (y + r) + c) = dS y step td B t (16 * (y + r) + c)
  | 0, _, r, c, _, hc => absurd hc (by omega)
  | t + 1, ht, r, c, hr, hc => by
    have ih := dS_ag (step := step) (td := td) (A := A) (B := B) hy8 hW t (by omega)
    exact dT_ag (x := 8 * t) (by omega) (by omega) hy8 (fun r c hr hc h => ih r c hr (by omega)) r c hr (by omega) (by omega)
