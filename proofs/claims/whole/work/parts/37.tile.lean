/-! ===== two runs side by side ===== -/
def Ok2 {α β : Type} (a : Option α) (b : Option β) (R : α → β → Prop) : Prop := ∃ x y, a = some x ∧ b = some y ∧ R x y
theorem Ok2.some {α β : Type} {x : α} {y : β} {R : α → β → Prop} (h : R x y) : Ok2 (Option.some x) (Option.some y) R := ⟨x, y, rfl, rfl, h⟩
theorem Ok2.bind {α β γ δ : Type} {a : Option α} {b : Option β} {k : α → Option γ} {m : β → Option δ} {R : γ → δ → Prop} (S : α → β → Prop) (h1 : Ok2 a b S) (h2 : ∀ x y, S x y → Ok2 (k x) (m y) R) : Ok2 (a.bind k) (b.bind m) R := by
  obtain ⟨x, y, rfl, rfl, hx⟩ := h1
  exact h2 x y hx
theorem Ok2.mono {α β : Type} {a : Option α} {b : Option β} {S R : α → β → Prop} (h1 : Ok2 a b S) (h2 : ∀ x y, S x y → R x y) : Ok2 a b R := by
  obtain ⟨x, y, rfl, rfl, hx⟩ := h1
  exact ⟨x, y, rfl, rfl, h2 x y hx⟩
theorem Ok2.l {α β γ : Type} {a : Option α} {b : Option β} {k : α → Option γ} {R : γ → β → Prop} (S : α → Prop) (h1 : Ok a S) (h2 : ∀ x, S x → Ok2 (k x) b R) : Ok2 (a.bind k) b R := by
  obtain ⟨x, rfl, hx⟩ := h1
  exact h2 x hx
theorem Ok2.r {α β γ : Type} {a : Option α} {b : Option β} {k : α → Option γ} {R : β → γ → Prop} (S : α → Prop) (h1 : Ok a S) (h2 : ∀ x, S x → Ok2 b (k x) R) : Ok2 b (a.bind k) R := by
  obtain ⟨x, rfl, hx⟩ := h1
  exact h2 x hx
theorem Ok2.lE {α β γ : Type} {a : Option α} {b : Option β} {k : α → Option γ} {R : γ → β → Prop} (x : α) (h1 : a = Option.some x) (h2 : Ok2 (k x) b R) : Ok2 (a.bind k) b R := by
  subst h1
  exact h2
theorem Ok2.rE {α β γ : Type} {a : Option α} {b : Option β} {k : α → Option γ} {R : β → γ → Prop} (x : α) (h1 : a = Option.some x) (h2 : Ok2 b (k x) R) : Ok2 b (a.bind k) R := by
  subst h1
  exact h2
theorem Ok2.both {α β : Type} {a : Option α} {b : Option β} {S : α → Prop} {T : β → Prop} {R : α → β → Prop} (h1 : Ok a S) (h2 : Ok b T) (h : ∀ x y, S x → T y → R x y) : Ok2 a b R := by
  obtain ⟨x, rfl, hx⟩ := h1
  obtain ⟨y, rfl, hy⟩ := h2
  exact ⟨x, y, rfl, rfl, h x y hx hy⟩
theorem Ok2.lpos {c : Prop} [Decidable c] {α β : Type} {a b : Option α} {d : Option β} {R : α → β → Prop} (hc : c) (h : Ok2 a d R) : Ok2 (if c then a else b) d R := by
  rw [if_pos hc]
  exact h
theorem Ok2.lneg {c : Prop} [Decidable c] {α β : Type} {a b : Option α} {d : Option β} {R : α → β → Prop} (hc : ¬ c) (h : Ok2 b d R) : Ok2 (if c then a else b) d R := by
  rw [if_neg hc]
  exact h
theorem Ok2.rpos {c : Prop} [Decidable c] {α β : Type} {a b : Option α} {d : Option β} {R : β → α → Prop} (hc : c) (h : Ok2 d a R) : Ok2 d (if c then a else b) R := by
  rw [if_pos hc]
  exact h
theorem Ok2.rneg {c : Prop} [Decidable c] {α β : Type} {a b : Option α} {d : Option β} {R : β → α → Prop} (hc : ¬ c) (h : Ok2 d b R) : Ok2 d (if c then a else b) R := by
  rw [if_neg hc]
  exact h
theorem Ok2.lbnd {α β γ : Type} {e : α} {k : α → Option β} {d : Option γ} {R : β → γ → Prop} (h : Ok2 (k e) d R) : Ok2 (bnd e k) d R := h
theorem Ok2.rbnd {α β γ : Type} {e : α} {k : α → Option β} {d : Option γ} {R : γ → β → Prop} (h : Ok2 d (k e) R) : Ok2 d (bnd e k) R := h
theorem Ok2.ljn {φ β γ : Type} {K : φ → Option β} {B : (φ → Option β) → Option β} {d : Option γ} {R : β → γ → Prop} (P : φ → Prop) (h1 : ∀ k : φ → Option β, (∀ x, P x → Ok2 (k x) d R) → Ok2 (B k) d R) (h2 : ∀ x, P x → Ok2 (K x) d R) : Ok2 (jn K B) d R := h1 K h2
theorem Ok2.rjn {φ β γ : Type} {K : φ → Option β} {B : (φ → Option β) → Option β} {d : Option γ} {R : γ → β → Prop} (P : φ → Prop) (h1 : ∀ k : φ → Option β, (∀ x, P x → Ok2 d (k x) R) → Ok2 d (B k) R) (h2 : ∀ x, P x → Ok2 d (K x) R) : Ok2 d (jn K B) R := h1 K h2
theorem Ok2.lrd {n : Nat} {f : Nat → Int32} {i : Int32} {β γ : Type} {g : Int32 → Option β} {d : Option γ} {R : β → γ → Prop} (k : Nat) (hi : i = nI k) (hk : k < n) (hn : n < 2 ^ 31) (h : Ok2 (g (f k)) d R) : Ok2 ((rdA n f i).bind g) d R := by
  rw [hi, rd_nI hk hn]
  exact h
theorem Ok2.rrd {n : Nat} {f : Nat → Int32} {i : Int32} {β γ : Type} {g : Int32 → Option β} {d : Option γ} {R : γ → β → Prop} (k : Nat) (hi : i = nI k) (hk : k < n) (hn : n < 2 ^ 31) (h : Ok2 d (g (f k)) R) : Ok2 d ((rdA n f i).bind g) R := by
  rw [hi, rd_nI hk hn]
  exact h
theorem Ok2.lwr {n : Nat} {f : Nat → Int32} {i x : Int32} {β γ : Type} {g : (Nat → Int32) → Option β} {d : Option γ} {R : β → γ → Prop} (k : Nat) (hi : i = nI k) (hk : k < n) (hn : n < 2 ^ 31) (h : Ok2 (g (upd f k x)) d R) : Ok2 ((wrA n f i x).bind g) d R := by
  rw [hi, wr_nI hk hn]
  exact h
theorem Ok2.rwr {n : Nat} {f : Nat → Int32} {i x : Int32} {β γ : Type} {g : (Nat → Int32) → Option β} {d : Option γ} {R : γ → β → Prop} (k : Nat) (hi : i = nI k) (hk : k < n) (hn : n < 2 ^ 31) (h : Ok2 d (g (upd f k x)) R) : Ok2 d ((wrA n f i x).bind g) R := by
  rw [hi, wr_nI hk hn]
  exact h
theorem Ok2.fixG {φ β ψ γ : Type} {F : (φ → Option β) → φ → Option β} {E : (ψ → Option γ) → ψ → Option γ} {R : β → γ → Prop} (P : Nat → φ → ψ → Prop) (N : Nat) (h : ∀ k x y (s1 : φ → Option β) (s2 : ψ → Option γ), k ≤ N → P k x y → (∀ u v, k < N → P (k + 1) u v → Ok2 (s1 u) (s2 v) R) → Ok2 (F s1 x) (E s2 y) R) :
    ∀ d fuel fuel2 k x y, k + d = N → d < fuel → d < fuel2 → P k x y → Ok2 (fixN fuel F x) (fixN fuel2 E y) R := by
  intro d
  induction d with
  | zero =>
    intro fuel fuel2 k x y hk hf hf2 hP
    cases fuel with
    | zero => exact absurd hf (by omega)
    | succ f => cases fuel2 with
      | zero => exact absurd hf2 (by omega)
      | succ f2 => exact h k x y (fixN f F) (fixN f2 E) (by omega) hP (fun u v hy _ => absurd hy (by omega))
  | succ d ih =>
    intro fuel fuel2 k x y hk hf hf2 hP
    cases fuel with
    | zero => exact absurd hf (by omega)
    | succ f => cases fuel2 with
      | zero => exact absurd hf2 (by omega)
      | succ f2 => exact h k x y (fixN f F) (fixN f2 E) (by omega) hP (fun u v _ hy => ih f f2 (k + 1) u v (by omega) (by omega) (by omega) hy)
/-- two loops in step -/
theorem Ok2.fix {φ β ψ γ : Type} {F : (φ → Option β) → φ → Option β} {E : (ψ → Option γ) → ψ → Option γ} {R : β → γ → Prop} {x : φ} {y : ψ} (P : Nat → φ → ψ → Prop) (N : Nat) (hN : N < 1000000) (h0 : P 0 x y) (h : ∀ k x y (s1 : φ → Option β) (s2 : ψ → Option γ), k ≤ N → P k x y → (∀ u v, k < N → P (k + 1) u v → Ok2 (s1 u) (s2 v) R) → Ok2 (F s1 x) (E s2 y) R) : Ok2 (fixN FUEL F x) (fixN FUEL E y) R :=
  Ok2.fixG P N h N FUEL FUEL 0 x y (by omega) hN hN h0
/-! ===== blocks as functions of planes ===== -/
def put (n x y : Nat) (w : Nat → Nat → Int32) (f : Nat → Int32) : Nat → Int32 := fun j => if y ≤ j / 16 ∧ j / 16 < y + n ∧ x ≤ j % 16 ∧ j % 16 < x + n then w (j / 16 - y) (j % 16 - x) else f j
theorem setP_put {n x y : Nat} {w : Nat → Nat → Int32} {f g : Nat → Int32} (hx : x + n ≤ 16) (h : setP n (p16 x y) w f g) : g = put n x y w f := by
  funext j
  unfold put
  by_cases h1 : y ≤ j / 16 ∧ j / 16 < y + n ∧ x ≤ j % 16 ∧ j % 16 < x + n
  · rw [if_pos h1]
    have h2 := h.1 (j / 16 - y) (j % 16 - x) (by omega) (by omega)
    rw [show p16 x y (j / 16 - y) (j % 16 - x) = j from by unfold p16; omega] at h2
    exact h2
  · rw [if_neg h1]
    exact h.2 j (fun r c hr hc h2 => h1 (by unfold p16 at h2; omega))
theorem put_at {n x y r c : Nat} {w : Nat → Nat → Int32} {f : Nat → Int32} (hx : x + n ≤ 16) (hr : r < n) (hc : c < n) : put n x y w f (16 * (y + r) + (x + c)) = w r c := by
  unfold put
  rw [if_pos (by omega), show (16 * (y + r) + (x + c)) / 16 - y = r from by omega, show (16 * (y + r) + (x + c)) % 16 - x = c from by omega]
theorem put_off {n x y px py : Nat} {w : Nat → Nat → Int32} {f : Nat → Int32} (hpx : px < 16) (h : ¬ (y ≤ py ∧ py < y + n ∧ x ≤ px ∧ px < x + n)) : put n x y w f (16 * py + px) = f (16 * py + px) := by
  unfold put
  rw [if_neg (by omega)]
def nL (n : Nat) (res : Nat → Int32) (x y k : Nat) : Int32 := if k < n then nbL res x y k else 0
def nU (n : Nat) (res : Nat → Int32) (x y k : Nat) : Int32 := if k < n then nbU res x y k else 0
def nT (n : Nat) (tg : Nat → Int32) (x y r c : Nat) : Int32 := if r < n ∧ c < n then tg (16 * (y + r) + (x + c)) else 0
def eL (K x y st : Nat) (tg res : Nat → Int32) : Nat → Nat → Int32 := bLev K (nL (2 ^ K) res x y) (nU (2 ^ K) res x y) (nT (2 ^ K) tg x y) (nI st)
def eM (K x y : Nat) (tg res : Nat → Int32) : Nat := bMode K (nL (2 ^ K) res x y) (nU (2 ^ K) res x y) (nT (2 ^ K) tg x y)
def eC (K x y st : Nat) (tg res : Nat → Int32) : Int32 := bCost K (nL (2 ^ K) res x y) (nU (2 ^ K) res x y) (nT (2 ^ K) tg x y) (nI st)
/-- a block's result out of its mode and levels -/
def eB (K x y : Nat) (step : Int32) (m : Nat) (lev : Nat → Nat → Int32) (res : Nat → Int32) : Nat → Int32 := put (2 ^ K) x y (bRes K (nL (2 ^ K) res x y) (nU (2 ^ K) res x y) step m lev) res
def eR (K x y st : Nat) (tg res : Nat → Int32) : Nat → Int32 := eB K x y (nI st) (eM K x y tg res) (eL K x y st tg res) res
def bX (K b x q : Nat) : Nat := x + 2 ^ K * (q % b)
def bY (K b y q : Nat) : Nat := y + 2 ^ K * (q / b)
def eRq (K b x y st : Nat) (tg res : Nat → Int32) : Nat → Nat → Int32
  | 0 => res
  | q + 1 => eR K (bX K b x q) (bY K b y q) st tg (eRq K b x y st tg res q)
def eLq (K b x y st : Nat) (tg res lv : Nat → Int32) : Nat → Nat → Int32
  | 0 => lv
  | q + 1 => put (2 ^ K) (bX K b x q) (bY K b y q) (eL K (bX K b x q) (bY K b y q) st tg (eRq K b x y st tg res q)) (eLq K b x y st tg res lv q)
def eMq (K b x y st : Nat) (tg res mo : Nat → Int32) : Nat → Nat → Int32
  | 0 => mo
  | q + 1 => upd (eMq K b x y st tg res mo q) (cellN (2 ^ K) (bX K b x q) (bY K b y q)) (nI (eM K (bX K b x q) (bY K b y q) tg (eRq K b x y st tg res q)))
def eCq (K b x y st : Nat) (tg res co : Nat → Int32) : Nat → Nat → Int32
  | 0 => co
  | q + 1 => upd (eCq K b x y st tg res co q) (cellN (2 ^ K) (bX K b x q) (bY K b y q)) (eC K (bX K b x q) (bY K b y q) st tg (eRq K b x y st tg res q))
def eSq (K b x y st : Nat) (tg res : Nat → Int32) : Nat → Int32
  | 0 => 0
  | q + 1 => eSq K b x y st tg res q + eC K (bX K b x q) (bY K b y q) st tg (eRq K b x y st tg res q)
/-- the reference's pictures of modes, costs -/
def pMq (K b x y st : Nat) (tg res mo : Nat → Int32) : Nat → Nat → Int32
  | 0 => mo
  | q + 1 => put (2 ^ K) (bX K b x q) (bY K b y q) (fun _ _ => nI (eM K (bX K b x q) (bY K b y q) tg (eRq K b x y st tg res q))) (pMq K b x y st tg res mo q)
def pCq (K b x y st : Nat) (tg res co : Nat → Int32) : Nat → Nat → Int32
  | 0 => co
  | q + 1 => put (2 ^ K) (bX K b x q) (bY K b y q) (fun _ _ => eC K (bX K b x q) (bY K b y q) st tg (eRq K b x y st tg res q)) (pCq K b x y st tg res co q)
def pSq (K b x y : Nat) (sz : Nat → Int32) : Nat → Nat → Int32
  | 0 => sz
  | q + 1 => put (2 ^ K) (bX K b x q) (bY K b y q) (fun _ _ => nI (2 ^ K)) (pSq K b x y sz q)
theorem nL_at {n x y : Nat} {res : Nat → Int32} : ∀ i, i < n → nbL res x y i = nL n res x y i := fun i hi => by
  unfold nL
  rw [if_pos hi]
theorem nU_at {n x y : Nat} {res : Nat → Int32} : ∀ i, i < n → nbU res x y i = nU n res x y i := fun i hi => by
  unfold nU
  rw [if_pos hi]
theorem nT_at {n x y : Nat} {tg : Nat → Int32} : ∀ r c, r < n → c < n → tg (p16 x y r c) = nT n tg x y r c := fun r c hr hc => by
  unfold nT
  rw [if_pos ⟨hr, hc⟩, show p16 x y r c = 16 * (y + r) + (x + c) from by unfold p16; omega]
theorem szN_upd {sizes : Nat → Int32} {x y K : Nat} {px py : Nat} (hn : 2 ^ K = 4 ∨ 2 ^ K = 8) (h : 2 * (py / 8) + px / 8 = 2 * (y / 8) + x / 8) : szN (upd sizes (2 * (y / 8) + x / 8) (nI (2 ^ K))) px py = 2 ^ K := by
  unfold szN
  rw [h, upd_eq]
  rcases hn with h | h
  · rw [h]
    exact if_pos rfl
  · rw [h]
    exact if_neg (by decide)
theorem eRq_s {K b x y st : Nat} {tg res : Nat → Int32} (q : Nat) : eRq K b x y st tg res (q + 1) = eR K (bX K b x q) (bY K b y q) st tg (eRq K b x y st tg res q) := rfl
theorem eLq_s {K b x y st : Nat} {tg res lv : Nat → Int32} (q : Nat) : eLq K b x y st tg res lv (q + 1) = put (2 ^ K) (bX K b x q) (bY K b y q) (eL K (bX K b x q) (bY K b y q) st tg (eRq K b x y st tg res q)) (eLq K b x y st tg res lv q) := rfl
theorem eMq_s {K b x y st : Nat} {tg res mo : Nat → Int32} (q : Nat) : eMq K b x y st tg res mo (q + 1) = upd (eMq K b x y st tg res mo q) (cellN (2 ^ K) (bX K b x q) (bY K b y q)) (nI (eM K (bX K b x q) (bY K b y q) tg (eRq K b x y st tg res q))) := rfl
theorem eCq_s {K b x y st : Nat} {tg res co : Nat → Int32} (q : Nat) : eCq K b x y st tg res co (q + 1) = upd (eCq K b x y st tg res co q) (cellN (2 ^ K) (bX K b x q) (bY K b y q)) (eC K (bX K b x q) (bY K b y q) st tg (eRq K b x y st tg res q)) := rfl
theorem eSq_s {K b x y st : Nat} {tg res : Nat → Int32} (q : Nat) : eSq K b x y st tg res (q + 1) = eSq K b x y st tg res q + eC K (bX K b x q) (bY K b y q) st tg (eRq K b x y st tg res q) := rfl
/-- the class makes the blocks of a tile -/
theorem ok_X4_makeBlocks {av sz : Int32} {costs levels modes ab lf res sizes line pl tg : Nat → Int32} {p1 p2 p3 : Int32} {x y K b st : Nat} (e1 : p1 = nI x) (e2 : p2 = nI y) (e3 : (p3 = 0 ∧ 2 ^ K = 8) ∨ (p3 = 1 ∧ 2 ^ K = 4)) (hK : K ≤ 3) (hn : 2 ^ K = 4 ∨ 2 ^ K = 8) (hb : 2 ^ K * b = 8) (hx : x + 8 ≤ 16) (hy : y + 8 ≤ 24) (hx8 : x % 8 = 0) (hy8 : y % 8 = 0) (hs0 : 0 < st) (hs1 : st ≤ 32) :
    Ok (lf_X4_makeBlocks av sz (nI st) costs levels modes ab lf res sizes line pl 384 tg p1 p2 p3) (fun o => o.1 = eSq K b x y st tg res (b * b) ∧ o.2.2.2.1 = eCq K b x y st tg res costs (b * b) ∧ o.2.2.2.2.1 = eLq K b x y st tg res levels (b * b) ∧ o.2.2.2.2.2.1 = eMq K b x y st tg res modes (b * b) ∧ o.2.2.2.2.2.2.2.2.1 = eRq K b x y st tg res (b * b) ∧ o.2.2.2.2.2.2.2.2.2.1 = upd sizes (2 * (y / 8) + x / 8) (nI (2 ^ K))) := by
  subst e1 e2
  unfold lf_X4_makeBlocks
  refine Ok.jnR (fun s => s = nI (2 ^ K)) (fun kk hkk => ?_) (fun s hs => ?_)
  · rcases e3 with ⟨rfl, h8⟩ | ⟨rfl, h4⟩
    · exact Ok.pos rfl (hkk _ (by rw [h8]; rfl))
    · exact Ok.neg (by decide) (hkk _ (by rw [h4]; rfl))
  subst hs
  refine Ok.bindE _ (eq_X4_setSizeAt rfl rfl (by omega) (by omega)) ?_
  refine Ok.bind (fun o => o.1 = eSq K b x y st tg res (b * b) ∧ o.2.2.2.1 = eCq K b x y st tg res costs (b * b) ∧ o.2.2.2.2.1 = eLq K b x y st tg res levels (b * b) ∧ o.2.2.2.2.2.1 = eMq K b x y st tg res modes (b * b) ∧ o.2.2.2.2.2.2.2.2.1 = eRq K b x y st tg res (b * b))
    (Ok.fix (fun i z => z.2.1 = nI (2 ^ K * i) ∧ z.1 = eSq K b x y st tg res (b * i) ∧ z.2.2.2.2.1 = eCq K b x y st tg res costs (b * i) ∧ z.2.2.2.2.2.1 = eLq K b x y st tg res levels (b * i) ∧ z.2.2.2.2.2.2.1 = eMq K b x y st tg res modes (b * i) ∧ z.2.2.2.2.2.2.2.2.2.1 = eRq K b x y st tg res (b * i)) b (by rcases hn with h | h <;> rw [h] at hb <;> omega) ⟨rfl, rfl, rfl, rfl, rfl, rfl⟩ ?_) ?_
  · rintro i ⟨x2, x3, v4, v5, g6, g7, g8, g9, g10, g11, g12, g13⟩ self hi ⟨h1, h2, h3, h4, h5, h6⟩ KK
    dsimp only at h1 h2 h3 h4 h5 h6 ⊢
    subst h1 h2 h3 h4 h5 h6
    by_cases hc : i < b
    · have hi2 : 2 ^ K * (i + 1) ≤ 8 := by
        rw [← hb]
        exact Nat.mul_le_mul_left _ hc
      rw [Nat.mul_succ] at hi2
      refine Ok.neg (by simp (disch := omega) only [lI0, lI1, lI2, lI3, lI4, lI5, lI7, lI8, lI9, lI10, lI11, lI12, lI15, lI16, lI17, lI20, lI24, lI32, lI33, lI40, lI63, lI64, lI80, lI82, lI101, lI110, lI115, lI251, lI255, lI256, lI384, lI16384, lI20000, lI32768, lI49152, lI65535, nI_add, pk_mul, pk_sub, pk_div, nI_leI, nI_ltI, nI_eq] <;> omega) ?_
      refine Ok.bind (fun o => o.1 = eSq K b x y st tg res (b * i + b) ∧ o.2.2.2.1 = eCq K b x y st tg res costs (b * i + b) ∧ o.2.2.2.2.1 = eLq K b x y st tg res levels (b * i + b) ∧ o.2.2.2.2.2.1 = eMq K b x y st tg res modes (b * i + b) ∧ o.2.2.2.2.2.2.2.2.1 = eRq K b x y st tg res (b * i + b))
        (Ok.fix (fun k z => z.2.1 = nI (2 ^ K * k) ∧ z.1 = eSq K b x y st tg res (b * i + k) ∧ z.2.2.2.2.1 = eCq K b x y st tg res costs (b * i + k) ∧ z.2.2.2.2.2.1 = eLq K b x y st tg res levels (b * i + k) ∧ z.2.2.2.2.2.2.1 = eMq K b x y st tg res modes (b * i + k) ∧ z.2.2.2.2.2.2.2.2.2.1 = eRq K b x y st tg res (b * i + k)) b (by rcases hn with h | h <;> rw [h] at hb <;> omega) ⟨rfl, rfl, rfl, rfl, rfl, rfl⟩ ?_) ?_
      · rintro k ⟨x16, x17, v18, v19, g20, g21, g22, g23, g24, g25, g26, g27⟩ self2 hk ⟨h1, h2, h3, h4, h5, h6⟩ K2
        dsimp only at h1 h2 h3 h4 h5 h6 ⊢
        subst h1 h2 h3 h4 h5 h6
        by_cases hc2 : k < b
        · have hk2 : 2 ^ K * (k + 1) ≤ 8 := by
            rw [← hb]
            exact Nat.mul_le_mul_left _ hc2
          rw [Nat.mul_succ] at hk2
          have hqx : bX K b x (b * i + k) = x + 2 ^ K * k := by
            unfold bX
            rw [Nat.mul_add_mod, Nat.mod_eq_of_lt hc2]
          have hqy : bY K b y (b * i + k) = y + 2 ^ K * i := by
            unfold bY
            rw [Nat.mul_add_div (by omega), Nat.div_eq_of_lt hc2, Nat.add_zero]
          have hsz : szN (upd sizes (2 * (y / 8) + x / 8) (nI (2 ^ K))) (x + 2 ^ K * k) (y + 2 ^ K * i) = 2 ^ K := szN_upd hn (by omega)
          refine Ok.neg (by simp (disch := omega) only [lI0, lI1, lI2, lI3, lI4, lI5, lI7, lI8, lI9, lI10, lI11, lI12, lI15, lI16, lI17, lI20, lI24, lI32, lI33, lI40, lI63, lI64, lI80, lI82, lI101, lI110, lI115, lI251, lI255, lI256, lI384, lI16384, lI20000, lI32768, lI49152, lI65535, nI_add, pk_mul, pk_sub, pk_div, nI_leI, nI_ltI, nI_eq] <;> omega) ?_
          refine Ok.bind _ (ok_X4_fitBlock (st := st) (nI_add _ _) (nI_add _ _) rfl hK hn (by omega) (by omega) hs0 hs1 hsz nL_at nU_at nT_at) ?_
          rintro ⟨c1, a1, s1, co1, lv1, mo1, ab1, lf1, ln1, pl1⟩ ⟨f1, f2, f3, f4⟩
          dsimp only at f1 f2 f3 f4 ⊢
          subst f1 f2 f4
          have f5 := setP_put (by omega) f3
          subst f5
          refine Ok.bnd (Ok.bind _ (ok_X4_restoreBlock (m := eM K (x + 2 ^ K * k) (y + 2 ^ K * i) tg (eRq K b x y st tg res (b * i + k))) (nI_add _ _) (nI_add _ _) rfl hK hn (by omega) (by omega) hsz bMode_lt upd_eq nL_at nU_at f3.1) ?_)
          rintro ⟨a2, s2, ab2, lf2, rs2, ln2, pl2⟩ f6
          dsimp only at f6 ⊢
          have f7 := setP_put (by omega) f6
          subst f7
          refine Ok.bnd (K2 _ hc2 ⟨?_, ?_, ?_, ?_, ?_, ?_⟩)
          · dsimp only
            rw [nI_add, Nat.mul_succ]
          · show _ = eSq K b x y st tg res (b * i + k + 1)
            rw [eSq_s, hqx, hqy]
            rfl
          · show _ = eCq K b x y st tg res costs (b * i + k + 1)
            rw [eCq_s, hqx, hqy]
            rfl
          · show _ = eLq K b x y st tg res levels (b * i + k + 1)
            rw [eLq_s, hqx, hqy]
            rfl
          · show _ = eMq K b x y st tg res modes (b * i + k + 1)
            rw [eMq_s, hqx, hqy]
            rfl
          · show _ = eRq K b x y st tg res (b * i + k + 1)
            rw [eRq_s, hqx, hqy]
            rfl
        · have hk2 : k = b := by omega
          subst hk2
          exact Ok.pos (by simp (disch := omega) only [lI0, lI1, lI2, lI3, lI4, lI5, lI7, lI8, lI9, lI10, lI11, lI12, lI15, lI16, lI17, lI20, lI24, lI32, lI33, lI40, lI63, lI64, lI80, lI82, lI101, lI110, lI115, lI251, lI255, lI256, lI384, lI16384, lI20000, lI32768, lI49152, lI65535, nI_add, pk_mul, pk_sub, pk_div, nI_leI, nI_ltI, nI_eq] <;> omega) (Ok.some ⟨rfl, rfl, rfl, rfl, rfl⟩)
      · rintro ⟨x16, v18, v19, g20, g21, g22, g23, g24, g25, g26, g27⟩ ⟨h2, h3, h4, h5, h6⟩
        dsimp only at h2 h3 h4 h5 h6 ⊢
        subst h2 h3 h4 h5 h6
        refine Ok.bnd (KK _ hc ⟨?_, rfl, rfl, rfl, rfl, rfl⟩)
        dsimp only
        rw [nI_add, Nat.mul_succ]
    · have hi2 : i = b := by omega
      subst hi2
      exact Ok.pos (by simp (disch := omega) only [lI0, lI1, lI2, lI3, lI4, lI5, lI7, lI8, lI9, lI10, lI11, lI12, lI15, lI16, lI17, lI20, lI24, lI32, lI33, lI40, lI63, lI64, lI80, lI82, lI101, lI110, lI115, lI251, lI255, lI256, lI384, lI16384, lI20000, lI32768, lI49152, lI65535, nI_add, pk_mul, pk_sub, pk_div, nI_leI, nI_ltI, nI_eq] <;> omega) (Ok.some ⟨rfl, rfl, rfl, rfl, rfl⟩)
  · rintro ⟨x16, v18, v19, g20, g21, g22, g23, g24, g25, g26, g27⟩ ⟨h2, h3, h4, h5, h6⟩
    exact Ok.some ⟨h2, h3, h4, h5, h6, rfl⟩
