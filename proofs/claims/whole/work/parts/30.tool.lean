/-! ===== pure pictures: that they are never none, and what they answer ===== -/
theorem lI0 : (0 : Int32) = nI 0 := rfl
theorem lI1 : (1 : Int32) = nI 1 := rfl
theorem lI2 : (2 : Int32) = nI 2 := rfl
theorem lI3 : (3 : Int32) = nI 3 := rfl
theorem lI4 : (4 : Int32) = nI 4 := rfl
theorem lI5 : (5 : Int32) = nI 5 := rfl
theorem lI7 : (7 : Int32) = nI 7 := rfl
theorem lI8 : (8 : Int32) = nI 8 := rfl
theorem lI9 : (9 : Int32) = nI 9 := rfl
theorem lI10 : (10 : Int32) = nI 10 := rfl
theorem lI11 : (11 : Int32) = nI 11 := rfl
theorem lI12 : (12 : Int32) = nI 12 := rfl
theorem lI15 : (15 : Int32) = nI 15 := rfl
theorem lI16 : (16 : Int32) = nI 16 := rfl
theorem lI17 : (17 : Int32) = nI 17 := rfl
theorem lI20 : (20 : Int32) = nI 20 := rfl
theorem lI24 : (24 : Int32) = nI 24 := rfl
theorem lI32 : (32 : Int32) = nI 32 := rfl
theorem lI33 : (33 : Int32) = nI 33 := rfl
theorem lI40 : (40 : Int32) = nI 40 := rfl
theorem lI63 : (63 : Int32) = nI 63 := rfl
theorem lI64 : (64 : Int32) = nI 64 := rfl
theorem lI80 : (80 : Int32) = nI 80 := rfl
theorem lI82 : (82 : Int32) = nI 82 := rfl
theorem lI101 : (101 : Int32) = nI 101 := rfl
theorem lI110 : (110 : Int32) = nI 110 := rfl
theorem lI115 : (115 : Int32) = nI 115 := rfl
theorem lI251 : (251 : Int32) = nI 251 := rfl
theorem lI255 : (255 : Int32) = nI 255 := rfl
theorem lI256 : (256 : Int32) = nI 256 := rfl
theorem lI384 : (384 : Int32) = nI 384 := rfl
theorem lI16384 : (16384 : Int32) = nI 16384 := rfl
theorem lI20000 : (20000 : Int32) = nI 20000 := rfl
theorem lI32768 : (32768 : Int32) = nI 32768 := rfl
theorem lI49152 : (49152 : Int32) = nI 49152 := rfl
theorem lI65535 : (65535 : Int32) = nI 65535 := rfl
def Ok {α : Type} (a : Option α) (Q : α → Prop) : Prop := ∃ x, a = some x ∧ Q x
theorem Ok.some {α : Type} {x : α} {Q : α → Prop} (h : Q x) : Ok (Option.some x) Q := ⟨x, rfl, h⟩
theorem Ok.bind {α β : Type} {a : Option α} {k : α → Option β} {Q : β → Prop} (R : α → Prop) (h1 : Ok a R) (h2 : ∀ x, R x → Ok (k x) Q) : Ok (a.bind k) Q := by
  obtain ⟨x, rfl, hx⟩ := h1
  exact h2 x hx
theorem Ok.bindE {α β : Type} {a : Option α} {k : α → Option β} {Q : β → Prop} (x : α) (h1 : a = Option.some x) (h2 : Ok (k x) Q) : Ok (a.bind k) Q := by
  subst h1
  exact h2
theorem Ok.mono {α : Type} {a : Option α} {R Q : α → Prop} (h1 : Ok a R) (h2 : ∀ x, R x → Q x) : Ok a Q := by
  obtain ⟨x, rfl, hx⟩ := h1
  exact ⟨x, rfl, h2 x hx⟩
theorem Ok.bnd {α β : Type} {e : α} {k : α → Option β} {Q : β → Prop} (h : Ok (k e) Q) : Ok (bnd e k) Q := h
theorem Ok.jnI {φ β : Type} {K : φ → Option β} {B : (φ → Option β) → Option β} {Q : β → Prop} (h : Ok (B K) Q) : Ok (jn K B) Q := h
theorem Ok.jnR {φ β : Type} {K : φ → Option β} {B : (φ → Option β) → Option β} {Q : β → Prop} (R : φ → Prop) (h1 : ∀ k : φ → Option β, (∀ x, R x → Ok (k x) Q) → Ok (B k) Q) (h2 : ∀ x, R x → Ok (K x) Q) : Ok (jn K B) Q := h1 K h2
theorem Ok.pos {c : Prop} [Decidable c] {α : Type} {a b : Option α} {Q : α → Prop} (hc : c) (h : Ok a Q) : Ok (if c then a else b) Q := by
  rw [if_pos hc]
  exact h
theorem Ok.neg {c : Prop} [Decidable c] {α : Type} {a b : Option α} {Q : α → Prop} (hc : ¬ c) (h : Ok b Q) : Ok (if c then a else b) Q := by
  rw [if_neg hc]
  exact h
theorem Ok.ite {c : Prop} [Decidable c] {α : Type} {a b : Option α} {Q : α → Prop} (h1 : c → Ok a Q) (h2 : ¬ c → Ok b Q) : Ok (if c then a else b) Q := by
  by_cases hc : c
  · exact Ok.pos hc (h1 hc)
  · exact Ok.neg hc (h2 hc)
theorem Ok.fixG {φ β : Type} {F : (φ → Option β) → φ → Option β} {Q : β → Prop} (P : Nat → φ → Prop) (N : Nat) (h : ∀ k x (self : φ → Option β), k ≤ N → P k x → (∀ y, k < N → P (k + 1) y → Ok (self y) Q) → Ok (F self x) Q) :
    ∀ d fuel k x, k + d = N → d < fuel → P k x → Ok (fixN fuel F x) Q := by
  intro d
  induction d with
  | zero =>
    intro fuel k x hk hf hP
    cases fuel with
    | zero => exact absurd hf (by omega)
    | succ f => exact h k x (fixN f F) (by omega) hP (fun y hy _ => absurd hy (by omega))
  | succ d ih =>
    intro fuel k x hk hf hP
    cases fuel with
    | zero => exact absurd hf (by omega)
    | succ f => exact h k x (fixN f F) (by omega) hP (fun y _ hy => ih f (k + 1) y (by omega) (by omega) hy)
/-- a loop: N rounds at most, in the state P k before the round k -/
theorem Ok.fix {φ β : Type} {F : (φ → Option β) → φ → Option β} {Q : β → Prop} {x : φ} (P : Nat → φ → Prop) (N : Nat) (hN : N < 1000000) (h0 : P 0 x) (h : ∀ k x (self : φ → Option β), k ≤ N → P k x → (∀ y, k < N → P (k + 1) y → Ok (self y) Q) → Ok (F self x) Q) : Ok (fixN FUEL F x) Q :=
  Ok.fixG P N h N FUEL 0 x (by omega) hN h0
theorem rd_nI {n k : Nat} {f : Nat → Int32} (hk : k < n) (hn : n < 2 ^ 31) : rdA n f (nI k) = some (f k) := by
  unfold rdA
  rw [if_neg (nI_in hk hn), nI_clamp (by omega)]
theorem wr_nI {n k : Nat} {f : Nat → Int32} {x : Int32} (hk : k < n) (hn : n < 2 ^ 31) : wrA n f (nI k) x = some (upd f k x) := by
  unfold wrA
  rw [if_neg (nI_in hk hn), nI_clamp (by omega)]
theorem Ok.rd {n : Nat} {f : Nat → Int32} {i : Int32} {β : Type} {g : Int32 → Option β} {Q : β → Prop} (k : Nat) (hi : i = nI k) (hk : k < n) (hn : n < 2 ^ 31) (h : Ok (g (f k)) Q) : Ok ((rdA n f i).bind g) Q := by
  rw [hi, rd_nI hk hn]
  exact h
theorem Ok.wr {n : Nat} {f : Nat → Int32} {i x : Int32} {β : Type} {g : (Nat → Int32) → Option β} {Q : β → Prop} (k : Nat) (hi : i = nI k) (hk : k < n) (hn : n < 2 ^ 31) (h : Ok (g (upd f k x)) Q) : Ok ((wrA n f i x).bind g) Q := by
  rw [hi, wr_nI hk hn]
  exact h
theorem upd_eq {f : Nat → Int32} {k : Nat} {x : Int32} : upd f k x k = x := by simp [upd]
theorem upd_ne {f : Nat → Int32} {k j : Nat} {x : Int32} (h : j ≠ k) : upd f k x j = f j := by simp [upd, h]
