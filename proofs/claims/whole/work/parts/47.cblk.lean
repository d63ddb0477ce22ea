/-! ===== a block, on both sides ===== -/
theorem lev_step {β : Type} {pt : Option (Int32 × Int32 × Int32 × Int32 × (Nat → Int32) × (Nat → Int32))} {wr : Option (Nat → Int32)} {g : Nat → Int32} (hw : wr = some g) {K : (Nat → Int32) → Int32 × Int32 × Int32 × Int32 × (Nat → Int32) × (Nat → Int32) → Option β} {start x many plain : Int32} {m : Int32 × Int32 × Int32 × Int32 × (Nat → Int32) × (Nat → Int32)} (hm : pt.bind (mLev1 start x many plain) = some m) :
    (pt.bind fun o25 => wr.bind fun g26 => jn (K g26) (fun k34 => (if x = (0 : Int32) then k34 (o25.1, o25.2.1, o25.2.2.1, o25.2.2.2.1, o25.2.2.2.2.1, o25.2.2.2.2.2) else jn (fun (z38 : Int32) => (fun (s37 : Int32) => (lf_X9_put o25.1 o25.2.1 o25.2.2.1 o25.2.2.2.1 start o25.2.2.2.2.1 o25.2.2.2.2.2 (8 : Int32) s37).bind fun o39 => (fixN FUEL (fun (self47 : (Int32 × Int32 × Int32 × Int32 × Int32 × (Nat → Int32) × (Nat → Int32)) → Option (Int32 × Int32 × Int32 × Int32 × (Nat → Int32) × (Nat → Int32))) (z47 : Int32 × Int32 × Int32 × Int32 × Int32 × (Nat → Int32) × (Nat → Int32)) => (fun (x40 : Int32) (v41 : Int32) (v42 : Int32) (v43 : Int32) (v44 : Int32) (g45 : (Nat → Int32)) (g46 : (Nat → Int32)) => (if many < x40 then some (v41, v42, v43, v44, g45, g46) else (if (11 : Int32) < x40 then some (v41, v42, v43, v44, g45, g46) else jn (fun (z52 : Int32) => (fun (s51 : Int32) => (lf_X9_put v41 v42 v43 v44 start g45 g46 ((8 : Int32) + x40) s51).bind fun o53 => bnd (x40 + (1 : Int32)) fun x54 => self47 (x54, o53.1, o53.2.1, o53.2.2.1, o53.2.2.2.1, o53.2.2.2.2.1, o53.2.2.2.2.2)) z52) (fun k52 => (if many ≤ x40 then k52 (0 : Int32) else k52 (1 : Int32)))))) z47.1 z47.2.1 z47.2.2.1 z47.2.2.2.1 z47.2.2.2.2.1 z47.2.2.2.2.2.1 z47.2.2.2.2.2.2) ((1 : Int32), o39.1, o39.2.1, o39.2.2.1, o39.2.2.2.1, o39.2.2.2.2.1, o39.2.2.2.2.2)).bind fun o47 => bnd (many - (2 : Int32)) fun x55 => (fixN FUEL (fun (self63 : (Int32 × Int32 × Int32 × Int32 × Int32 × (Nat → Int32) × (Nat → Int32)) → Option (Int32 × Int32 × Int32 × Int32 × (Nat → Int32) × (Nat → Int32))) (z63 : Int32 × Int32 × Int32 × Int32 × Int32 × (Nat → Int32) × (Nat → Int32)) => (fun (x56 : Int32) (v57 : Int32) (v58 : Int32) (v59 : Int32) (v60 : Int32) (g61 : (Nat → Int32)) (g62 : (Nat → Int32)) => (if x56 < (0 : Int32) then some (v57, v58, v59, v60, g61, g62) else (lf_X9_put v57 v58 v59 v60 start g61 g62 (-1 : Int32) ((plain >>> (x56 &&& 31)) &&& (1 : Int32))).bind fun o65 => bnd (x56 + (-1 : Int32)) fun x66 => self63 (x66, o65.1, o65.2.1, o65.2.2.1, o65.2.2.2.1, o65.2.2.2.2.1, o65.2.2.2.2.2))) z63.1 z63.2.1 z63.2.2.1 z63.2.2.2.1 z63.2.2.2.2.1 z63.2.2.2.2.2.1 z63.2.2.2.2.2.2) (x55, o47.1, o47.2.1, o47.2.2.1, o47.2.2.2.1, o47.2.2.2.2.1, o47.2.2.2.2.2)).bind fun o63 => k34 (o63.1, o63.2.1, o63.2.2.1, o63.2.2.2.1, o63.2.2.2.2.1, o63.2.2.2.2.2)) z38) (fun k38 => (if (0 : Int32) ≤ x then k38 (0 : Int32) else k38 (1 : Int32)))))) = K g m := by
  subst hw
  have e : ∀ o25 : Int32 × Int32 × Int32 × Int32 × (Nat → Int32) × (Nat → Int32), ((some g).bind fun g26 => jn (K g26) (fun k34 => (if x = (0 : Int32) then k34 (o25.1, o25.2.1, o25.2.2.1, o25.2.2.2.1, o25.2.2.2.2.1, o25.2.2.2.2.2) else jn (fun (z38 : Int32) => (fun (s37 : Int32) => (lf_X9_put o25.1 o25.2.1 o25.2.2.1 o25.2.2.2.1 start o25.2.2.2.2.1 o25.2.2.2.2.2 (8 : Int32) s37).bind fun o39 => (fixN FUEL (fun (self47 : (Int32 × Int32 × Int32 × Int32 × Int32 × (Nat → Int32) × (Nat → Int32)) → Option (Int32 × Int32 × Int32 × Int32 × (Nat → Int32) × (Nat → Int32))) (z47 : Int32 × Int32 × Int32 × Int32 × Int32 × (Nat → Int32) × (Nat → Int32)) => (fun (x40 : Int32) (v41 : Int32) (v42 : Int32) (v43 : Int32) (v44 : Int32) (g45 : (Nat → Int32)) (g46 : (Nat → Int32)) => (if many < x40 then some (v41, v42, v43, v44, g45, g46) else (if (11 : Int32) < x40 then some (v41, v42, v43, v44, g45, g46) else jn (fun (z52 : Int32) => (fun (s51 : Int32) => (lf_X9_put v41 v42 v43 v44 start g45 g46 ((8 : Int32) + x40) s51).bind fun o53 => bnd (x40 + (1 : Int32)) fun x54 => self47 (x54, o53.1, o53.2.1, o53.2.2.1, o53.2.2.2.1, o53.2.2.2.2.1, o53.2.2.2.2.2)) z52) (fun k52 => (if many ≤ x40 then k52 (0 : Int32) else k52 (1 : Int32)))))) z47.1 z47.2.1 z47.2.2.1 z47.2.2.2.1 z47.2.2.2.2.1 z47.2.2.2.2.2.1 z47.2.2.2.2.2.2) ((1 : Int32), o39.1, o39.2.1, o39.2.2.1, o39.2.2.2.1, o39.2.2.2.2.1, o39.2.2.2.2.2)).bind fun o47 => bnd (many - (2 : Int32)) fun x55 => (fixN FUEL (fun (self63 : (Int32 × Int32 × Int32 × Int32 × Int32 × (Nat → Int32) × (Nat → Int32)) → Option (Int32 × Int32 × Int32 × Int32 × (Nat → Int32) × (Nat → Int32))) (z63 : Int32 × Int32 × Int32 × Int32 × Int32 × (Nat → Int32) × (Nat → Int32)) => (fun (x56 : Int32) (v57 : Int32) (v58 : Int32) (v59 : Int32) (v60 : Int32) (g61 : (Nat → Int32)) (g62 : (Nat → Int32)) => (if x56 < (0 : Int32) then some (v57, v58, v59, v60, g61, g62) else (lf_X9_put v57 v58 v59 v60 start g61 g62 (-1 : Int32) ((plain >>> (x56 &&& 31)) &&& (1 : Int32))).bind fun o65 => bnd (x56 + (-1 : Int32)) fun x66 => self63 (x66, o65.1, o65.2.1, o65.2.2.1, o65.2.2.2.1, o65.2.2.2.2.1, o65.2.2.2.2.2))) z63.1 z63.2.1 z63.2.2.1 z63.2.2.2.1 z63.2.2.2.2.1 z63.2.2.2.2.2.1 z63.2.2.2.2.2.2) (x55, o47.1, o47.2.1, o47.2.2.1, o47.2.2.2.1, o47.2.2.2.2.1, o47.2.2.2.2.2)).bind fun o63 => k34 (o63.1, o63.2.1, o63.2.2.1, o63.2.2.2.1, o63.2.2.2.2.1, o63.2.2.2.2.2)) z38) (fun k38 => (if (0 : Int32) ≤ x then k38 (0 : Int32) else k38 (1 : Int32)))))) = (mLev1 start x many plain o25).bind (K g) := fun o25 => frag_eq start x many plain o25 (K g)
  rw [show (fun o25 => (some g).bind fun g26 => jn (K g26) (fun k34 => (if x = (0 : Int32) then k34 (o25.1, o25.2.1, o25.2.2.1, o25.2.2.2.1, o25.2.2.2.2.1, o25.2.2.2.2.2) else jn (fun (z38 : Int32) => (fun (s37 : Int32) => (lf_X9_put o25.1 o25.2.1 o25.2.2.1 o25.2.2.2.1 start o25.2.2.2.2.1 o25.2.2.2.2.2 (8 : Int32) s37).bind fun o39 => (fixN FUEL (fun (self47 : (Int32 × Int32 × Int32 × Int32 × Int32 × (Nat → Int32) × (Nat → Int32)) → Option (Int32 × Int32 × Int32 × Int32 × (Nat → Int32) × (Nat → Int32))) (z47 : Int32 × Int32 × Int32 × Int32 × Int32 × (Nat → Int32) × (Nat → Int32)) => (fun (x40 : Int32) (v41 : Int32) (v42 : Int32) (v43 : Int32) (v44 : Int32) (g45 : (Nat → Int32)) (g46 : (Nat → Int32)) => (if many < x40 then some (v41, v42, v43, v44, g45, g46) else (if (11 : Int32) < x40 then some (v41, v42, v43, v44, g45, g46) else jn (fun (z52 : Int32) => (fun (s51 : Int32) => (lf_X9_put v41 v42 v43 v44 start g45 g46 ((8 : Int32) + x40) s51).bind fun o53 => bnd (x40 + (1 : Int32)) fun x54 => self47 (x54, o53.1, o53.2.1, o53.2.2.1, o53.2.2.2.1, o53.2.2.2.2.1, o53.2.2.2.2.2)) z52) (fun k52 => (if many ≤ x40 then k52 (0 : Int32) else k52 (1 : Int32)))))) z47.1 z47.2.1 z47.2.2.1 z47.2.2.2.1 z47.2.2.2.2.1 z47.2.2.2.2.2.1 z47.2.2.2.2.2.2) ((1 : Int32), o39.1, o39.2.1, o39.2.2.1, o39.2.2.2.1, o39.2.2.2.2.1, o39.2.2.2.2.2)).bind fun o47 => bnd (many - (2 : Int32)) fun x55 => (fixN FUEL (fun (self63 : (Int32 × Int32 × Int32 × Int32 × Int32 × (Nat → Int32) × (Nat → Int32)) → Option (Int32 × Int32 × Int32 × Int32 × (Nat → Int32) × (Nat → Int32))) (z63 : Int32 × Int32 × Int32 × Int32 × Int32 × (Nat → Int32) × (Nat → Int32)) => (fun (x56 : Int32) (v57 : Int32) (v58 : Int32) (v59 : Int32) (v60 : Int32) (g61 : (Nat → Int32)) (g62 : (Nat → Int32)) => (if x56 < (0 : Int32) then some (v57, v58, v59, v60, g61, g62) else (lf_X9_put v57 v58 v59 v60 start g61 g62 (-1 : Int32) ((plain >>> (x56 &&& 31)) &&& (1 : Int32))).bind fun o65 => bnd (x56 + (-1 : Int32)) fun x66 => self63 (x66, o65.1, o65.2.1, o65.2.2.1, o65.2.2.2.1, o65.2.2.2.2.1, o65.2.2.2.2.2))) z63.1 z63.2.1 z63.2.2.1 z63.2.2.2.1 z63.2.2.2.2.1 z63.2.2.2.2.2.1 z63.2.2.2.2.2.2) (x55, o47.1, o47.2.1, o47.2.2.1, o47.2.2.2.1, o47.2.2.2.2.1, o47.2.2.2.2.2)).bind fun o63 => k34 (o63.1, o63.2.1, o63.2.2.1, o63.2.2.2.1, o63.2.2.2.2.1, o63.2.2.2.2.2)) z38) (fun k38 => (if (0 : Int32) ≤ x then k38 (0 : Int32) else k38 (1 : Int32)))))) = fun o25 => (mLev1 start x many plain o25).bind (K g) from funext e, ← Option.bind_assoc, hm]
  rfl
theorem jn_ite {φ β : Type} {K : φ → Option β} {c : Prop} [Decidable c] {a b : φ} : jn K (fun k => if c then k a else k b) = K (if c then a else b) := by
  unfold jn
  split <;> rfl
theorem upd_same {f : Nat → Int32} {k : Nat} {x : Int32} (h : f k = x) : upd f k x = f := by
  funext j
  unfold upd
  by_cases h1 : j = k
  · rw [if_pos h1, h1, h]
  · rw [if_neg h1]
/-- a level's context -/
def ctxS (lv : Nat → Nat → Int32) (r c : Nat) : Nat := if r = 0 ∧ c = 0 then 4 else 5 + (if 0 < c ∧ lv r (c - 1) ≠ 0 then 1 else 0) + (if 0 < r ∧ lv (r - 1) c ≠ 0 then 1 else 0)
theorem ctxS_lt {lv : Nat → Nat → Int32} {r c : Nat} : ctxS lv r c < 20 := by
  unfold ctxS
  split
  · decide
  · split <;> split <;> decide
theorem eq_levelContext {lvs : Nat → Int32} {lv : Nat → Nat → Int32} {x y r c n : Nat} (hx : x + n ≤ 16) (hy : y + n ≤ 24) (hr : r < n) (hc : c < n) (hlv : ∀ r c, r < n → c < n → lvs (16 * (y + r) + (x + c)) = lv r c) : lf_X8_levelContext 384 lvs (nI (16 * (y + r) + (x + c))) (nI r) (nI c) = some (nI (ctxS lv r c)) := by
  suffices hs : Ok (lf_X8_levelContext 384 lvs (nI (16 * (y + r) + (x + c))) (nI r) (nI c)) (fun o => o = nI (ctxS lv r c)) by
    obtain ⟨o, h1, h2⟩ := hs
    rw [h1, h2]
  unfold lf_X8_levelContext
  refine Ok.jnR (fun _ => ¬ (r = 0 ∧ c = 0)) (fun k hk => ?_) (fun _ h0 => ?_)
  · by_cases h1 : r = 0
    · by_cases h2 : c = 0
      · refine Ok.pos (by simp (disch := omega) only [lI0, lI1, lI2, lI3, lI4, lI5, lI7, lI8, lI9, lI10, lI11, lI12, lI15, lI16, lI17, lI20, lI24, lI32, lI33, lI40, lI63, lI64, lI80, lI82, lI101, lI110, lI115, lI251, lI255, lI256, lI384, lI16384, lI20000, lI32768, lI49152, lI65535, nI_add, pk_mul, pk_sub, pk_div, nI_leI, nI_ltI, nI_eq] <;> omega) (Ok.pos (by simp (disch := omega) only [lI0, lI1, lI2, lI3, lI4, lI5, lI7, lI8, lI9, lI10, lI11, lI12, lI15, lI16, lI17, lI20, lI24, lI32, lI33, lI40, lI63, lI64, lI80, lI82, lI101, lI110, lI115, lI251, lI255, lI256, lI384, lI16384, lI20000, lI32768, lI49152, lI65535, nI_add, pk_mul, pk_sub, pk_div, nI_leI, nI_ltI, nI_eq] <;> omega) (Ok.some ?_))
        unfold ctxS
        rw [if_pos ⟨h1, h2⟩]
        rfl
      · exact Ok.pos (by simp (disch := omega) only [lI0, lI1, lI2, lI3, lI4, lI5, lI7, lI8, lI9, lI10, lI11, lI12, lI15, lI16, lI17, lI20, lI24, lI32, lI33, lI40, lI63, lI64, lI80, lI82, lI101, lI110, lI115, lI251, lI255, lI256, lI384, lI16384, lI20000, lI32768, lI49152, lI65535, nI_add, pk_mul, pk_sub, pk_div, nI_leI, nI_ltI, nI_eq] <;> omega) (Ok.neg (by simp (disch := omega) only [lI0, lI1, lI2, lI3, lI4, lI5, lI7, lI8, lI9, lI10, lI11, lI12, lI15, lI16, lI17, lI20, lI24, lI32, lI33, lI40, lI63, lI64, lI80, lI82, lI101, lI110, lI115, lI251, lI255, lI256, lI384, lI16384, lI20000, lI32768, lI49152, lI65535, nI_add, pk_mul, pk_sub, pk_div, nI_leI, nI_ltI, nI_eq] <;> omega) (hk () (by omega)))
    · exact Ok.neg (by simp (disch := omega) only [lI0, lI1, lI2, lI3, lI4, lI5, lI7, lI8, lI9, lI10, lI11, lI12, lI15, lI16, lI17, lI20, lI24, lI32, lI33, lI40, lI63, lI64, lI80, lI82, lI101, lI110, lI115, lI251, lI255, lI256, lI384, lI16384, lI20000, lI32768, lI49152, lI65535, nI_add, pk_mul, pk_sub, pk_div, nI_leI, nI_ltI, nI_eq] <;> omega) (hk () (by omega))
  · refine Ok.jnR (fun s => s = nI (if 0 < c ∧ lv r (c - 1) ≠ 0 then 1 else 0)) (fun k hk => ?_) (fun s hs => ?_)
    · refine Ok.jnR (fun _ => ¬ (0 < c ∧ lv r (c - 1) ≠ 0)) (fun k2 hk2 => ?_) (fun _ h1 => hk _ (by rw [if_neg h1]; rfl))
      by_cases h2 : 0 < c
      · have e := hlv r (c - 1) hr (by omega)
        refine Ok.neg (by simp (disch := omega) only [lI0, lI1, lI2, lI3, lI4, lI5, lI7, lI8, lI9, lI10, lI11, lI12, lI15, lI16, lI17, lI20, lI24, lI32, lI33, lI40, lI63, lI64, lI80, lI82, lI101, lI110, lI115, lI251, lI255, lI256, lI384, lI16384, lI20000, lI32768, lI49152, lI65535, nI_add, pk_mul, pk_sub, pk_div, nI_leI, nI_ltI, nI_eq] <;> omega) (Ok.rd (16 * (y + r) + (x + (c - 1))) (by first | (simp (disch := omega) only [lI0, lI1, lI2, lI3, lI4, lI5, lI7, lI8, lI9, lI10, lI11, lI12, lI15, lI16, lI17, lI20, lI24, lI32, lI33, lI40, lI63, lI64, lI80, lI82, lI101, lI110, lI115, lI251, lI255, lI256, lI384, lI16384, lI20000, lI32768, lI49152, lI65535, nI_add, pk_mul, pk_sub, pk_div] <;> (apply congrArg nI; omega)) | rfl) (by omega) (by decide) ?_)
        rw [e]
        by_cases h3 : lv r (c - 1) = 0
        · exact Ok.pos h3 (hk2 () (fun h => h.2 h3))
        · exact Ok.neg h3 (hk _ (by rw [if_pos ⟨h2, h3⟩]; rfl))
      · exact Ok.pos (by simp (disch := omega) only [lI0, lI1, lI2, lI3, lI4, lI5, lI7, lI8, lI9, lI10, lI11, lI12, lI15, lI16, lI17, lI20, lI24, lI32, lI33, lI40, lI63, lI64, lI80, lI82, lI101, lI110, lI115, lI251, lI255, lI256, lI384, lI16384, lI20000, lI32768, lI49152, lI65535, nI_add, pk_mul, pk_sub, pk_div, nI_leI, nI_ltI, nI_eq] <;> omega) (hk2 () (fun h => h2 h.1))
    · subst hs
      refine Ok.jnR (fun s => s = nI (if 0 < r ∧ lv (r - 1) c ≠ 0 then 1 else 0)) (fun k hk => ?_) (fun s hs => ?_)
      · refine Ok.jnR (fun _ => ¬ (0 < r ∧ lv (r - 1) c ≠ 0)) (fun k2 hk2 => ?_) (fun _ h1 => hk _ (by rw [if_neg h1]; rfl))
        by_cases h2 : 0 < r
        · have e := hlv (r - 1) c (by omega) hc
          refine Ok.neg (by simp (disch := omega) only [lI0, lI1, lI2, lI3, lI4, lI5, lI7, lI8, lI9, lI10, lI11, lI12, lI15, lI16, lI17, lI20, lI24, lI32, lI33, lI40, lI63, lI64, lI80, lI82, lI101, lI110, lI115, lI251, lI255, lI256, lI384, lI16384, lI20000, lI32768, lI49152, lI65535, nI_add, pk_mul, pk_sub, pk_div, nI_leI, nI_ltI, nI_eq] <;> omega) (Ok.rd (16 * (y + (r - 1)) + (x + c)) (by first | (simp (disch := omega) only [lI0, lI1, lI2, lI3, lI4, lI5, lI7, lI8, lI9, lI10, lI11, lI12, lI15, lI16, lI17, lI20, lI24, lI32, lI33, lI40, lI63, lI64, lI80, lI82, lI101, lI110, lI115, lI251, lI255, lI256, lI384, lI16384, lI20000, lI32768, lI49152, lI65535, nI_add, pk_mul, pk_sub, pk_div] <;> (apply congrArg nI; omega)) | rfl) (by omega) (by decide) ?_)
          rw [e]
          by_cases h3 : lv (r - 1) c = 0
          · exact Ok.pos h3 (hk2 () (fun h => h.2 h3))
          · exact Ok.neg h3 (hk _ (by rw [if_pos ⟨h2, h3⟩]; rfl))
        · exact Ok.pos (by simp (disch := omega) only [lI0, lI1, lI2, lI3, lI4, lI5, lI7, lI8, lI9, lI10, lI11, lI12, lI15, lI16, lI17, lI20, lI24, lI32, lI33, lI40, lI63, lI64, lI80, lI82, lI101, lI110, lI115, lI251, lI255, lI256, lI384, lI16384, lI20000, lI32768, lI49152, lI65535, nI_add, pk_mul, pk_sub, pk_div, nI_leI, nI_ltI, nI_eq] <;> omega) (hk2 () (fun h => h2 h.1))
      · subst hs
        refine Ok.some ?_
        unfold ctxS
        rw [if_neg h0, show (5 : Int32) = nI 5 from rfl, nI_add, nI_add]
theorem dr_nI {n r c : Nat} (hn : n ≤ 8) (hr : r < n) (hc : c < n) : dvO (nI (n * r + c)) (nI n) = some (nI r) ∧ rmO (nI (n * r + c)) (nI n) = some (nI c) ∧ n * r + c < 64 := by
  have h1 : n * r + c < 64 := rc_lt (Nat.le_refl _) hn hr hc
  have h2 : (n * r + c) / n = r := by rw [Nat.mul_add_div (by omega), Nat.div_eq_of_lt hc, Nat.add_zero]
  have h3 : (n * r + c) % n = c := by rw [Nat.mul_add_mod, Nat.mod_eq_of_lt hc]
  refine ⟨?_, ?_, h1⟩
  · rw [dv_nI (by omega) (by omega), pk_div (by omega) (by omega) (by omega), h2]
  · unfold rmO
    rw [if_neg (nI_ne0 (by omega) (by omega)), pk_rem (by omega) (by omega) (by omega), h3]
theorem eq_contextOf {one : Nat → Int32} {lv : Nat → Nat → Int32} {r c n : Nat} (hn : n ≤ 8) (hr : r < n) (hc : c < n) (hlv : ∀ j, j < n * r + c → one j = lv (j / n) (j % n)) : lf_X9_contextOf one (nI n) (nI (n * r + c)) = some (nI (ctxS lv r c)) := by
  obtain ⟨d1, d2, d3⟩ := dr_nI hn hr hc
  suffices hs : Ok (lf_X9_contextOf one (nI n) (nI (n * r + c))) (fun o => o = nI (ctxS lv r c)) by
    obtain ⟨o, h1, h2⟩ := hs
    rw [h1, h2]
  have hz : n * r + c = 0 ↔ r = 0 ∧ c = 0 := by
    constructor
    · intro h
      have h1 : n * r = 0 := by omega
      rcases Nat.mul_eq_zero.mp h1 with h2 | h2
      · omega
      · exact ⟨h2, by omega⟩
    · rintro ⟨rfl, rfl⟩
      rfl
  unfold lf_X9_contextOf
  by_cases h0 : r = 0 ∧ c = 0
  · refine Ok.pos (by rw [hz.mpr h0]; rfl) (Ok.some ?_)
    unfold ctxS
    rw [if_pos h0]
    rfl
  · refine Ok.neg (fun h => h0 (hz.mp ((nI_eq (b := 0) (by omega) (by decide)).mp h))) (Ok.bindE _ d2 ?_)
    refine Ok.jnR (fun s => s = nI (if 0 < c ∧ lv r (c - 1) ≠ 0 then 1 else 0)) (fun k hk => ?_) (fun s hs => ?_)
    · refine Ok.jnR (fun _ => ¬ (0 < c ∧ lv r (c - 1) ≠ 0)) (fun k2 hk2 => ?_) (fun _ h1 => hk _ (by rw [if_neg h1]; rfl))
      by_cases h2 : 0 < c
      · have e := hlv (n * r + c - 1) (by omega)
        rw [show n * r + c - 1 = n * r + (c - 1) from by omega, Nat.mul_add_div (by omega), Nat.div_eq_of_lt (by omega : c - 1 < n), Nat.add_zero, Nat.mul_add_mod, Nat.mod_eq_of_lt (by omega : c - 1 < n)] at e
        refine Ok.neg (by simp (disch := omega) only [lI0, lI1, lI2, lI3, lI4, lI5, lI7, lI8, lI9, lI10, lI11, lI12, lI15, lI16, lI17, lI20, lI24, lI32, lI33, lI40, lI63, lI64, lI80, lI82, lI101, lI110, lI115, lI251, lI255, lI256, lI384, lI16384, lI20000, lI32768, lI49152, lI65535, nI_add, pk_mul, pk_sub, pk_div, nI_leI, nI_ltI, nI_eq] <;> omega) (Ok.rd (n * r + (c - 1)) (by first | (simp (disch := omega) only [lI0, lI1, lI2, lI3, lI4, lI5, lI7, lI8, lI9, lI10, lI11, lI12, lI15, lI16, lI17, lI20, lI24, lI32, lI33, lI40, lI63, lI64, lI80, lI82, lI101, lI110, lI115, lI251, lI255, lI256, lI384, lI16384, lI20000, lI32768, lI49152, lI65535, nI_add, pk_mul, pk_sub, pk_div] <;> (apply congrArg nI; omega)) | rfl) (by omega) (by decide) ?_)
        rw [e]
        by_cases h3 : lv r (c - 1) = 0
        · exact Ok.pos h3 (hk2 () (fun h => h.2 h3))
        · exact Ok.neg h3 (hk _ (by rw [if_pos ⟨h2, h3⟩]; rfl))
      · exact Ok.pos (by simp (disch := omega) only [lI0, lI1, lI2, lI3, lI4, lI5, lI7, lI8, lI9, lI10, lI11, lI12, lI15, lI16, lI17, lI20, lI24, lI32, lI33, lI40, lI63, lI64, lI80, lI82, lI101, lI110, lI115, lI251, lI255, lI256, lI384, lI16384, lI20000, lI32768, lI49152, lI65535, nI_add, pk_mul, pk_sub, pk_div, nI_leI, nI_ltI, nI_eq] <;> omega) (hk2 () (fun h => h2 h.1))
    · subst hs
      refine Ok.jnR (fun _ => ¬ (0 < r ∧ lv (r - 1) c ≠ 0)) (fun k2 hk2 => ?_) (fun _ h1 => Ok.some ?_)
      · by_cases h2 : 0 < r
        · have hm : n * r = n * (r - 1) + n := by
            rw [← Nat.mul_succ]
            exact congrArg _ (by omega)
          have e := hlv (n * (r - 1) + c) (by omega)
          rw [Nat.mul_add_div (by omega), Nat.div_eq_of_lt hc, Nat.add_zero, Nat.mul_add_mod, Nat.mod_eq_of_lt hc] at e
          refine Ok.neg (by simp (disch := omega) only [lI0, lI1, lI2, lI3, lI4, lI5, lI7, lI8, lI9, lI10, lI11, lI12, lI15, lI16, lI17, lI20, lI24, lI32, lI33, lI40, lI63, lI64, lI80, lI82, lI101, lI110, lI115, lI251, lI255, lI256, lI384, lI16384, lI20000, lI32768, lI49152, lI65535, nI_add, pk_mul, pk_sub, pk_div, nI_leI, nI_ltI, nI_eq] <;> omega) (Ok.rd (n * (r - 1) + c) (by
            rw [pk_sub (by omega)]
            exact congrArg nI (by omega)) (by omega) (by decide) ?_)
          rw [e]
          by_cases h3 : lv (r - 1) c = 0
          · exact Ok.pos h3 (hk2 () (fun h => h.2 h3))
          · refine Ok.neg h3 (Ok.some ?_)
            unfold ctxS
            rw [if_neg h0, if_pos (⟨h2, h3⟩ : 0 < r ∧ lv (r - 1) c ≠ 0), show (5 : Int32) = nI 5 from rfl, show (1 : Int32) = nI 1 from rfl, nI_add, nI_add]
        · have hr0 : r = 0 := by omega
          subst hr0
          exact Ok.pos (by
            rw [Nat.mul_zero, Nat.zero_add]
            exact nI_lt hc (by omega)) (hk2 () (fun h => h2 h.1))
      · unfold ctxS
        rw [if_neg h0, if_neg h1, show (5 : Int32) = nI 5 from rfl, show (0 : Int32) = nI 0 from rfl, nI_add, nI_add]
set_option maxHeartbeats 4000000 in
/-- a block of a part -/
theorem ok_block {start B : Nat} {s0 : Nat → Int32} {mb mh ml mp : Int32} {ct st by1 on ze : Nat → Int32} {cb ch cl cp : Int32} {lM mM one lC mC sC : Nat → Int32} {p0 p1 p2 p3 : Int32} {l x y n m : Nat} (e0 : p0 = nI l) (e1 : p1 = nI x) (e2 : p2 = nI y) (e3 : p3 = nI n) (hl : l < 3) (hn : n = 4 ∨ n = 8) (hx : x + n ≤ 16) (hy : y + n ≤ 24)
    (hs : start + 2048 ≤ 20000) (h : WR start B s0 mb mh ml mp ct st cb ch cl cp by1 on ze) (hB : B + 14 + 111 * (n * n) + 10 < 16384) (hsz : szN sC x y = n) (hm : m < 4) (hmC : mC (cellN n x y) = nI m) (hmM : mM (384 * l + (16 * y + x)) = nI m)
    (hlv : ∀ r c, r < n → c < n → lM (384 * l + (16 * (y + r) + (x + c))) = lC (16 * (y + r) + (x + c)) ∧ -2047 ≤ (lC (16 * (y + r) + (x + c))).toInt ∧ (lC (16 * (y + r) + (x + c))).toInt ≤ 2047) :
    Ok2 (lf_X9_putBlock mb mh ml mp (nI start) ct lM mM one st p0 p1 p2 p3) (lf_X8_codeBlock_X2 cb ch cl cp by1 on ze lC mC sC p1 p2 p3) (fun o k => WR start (B + 14 + 111 * (n * n)) s0 o.1 o.2.1 o.2.2.1 o.2.2.2.1 o.2.2.2.2.1 o.2.2.2.2.2.2 k.1 k.2.1 k.2.2.1 k.2.2.2.1 k.2.2.2.2.1 k.2.2.2.2.2.1 k.2.2.2.2.2.2.1 ∧ k.2.2.2.2.2.2.2.1 = lC ∧ k.2.2.2.2.2.2.2.2 = mC) := by
  subst e0 e1 e2 e3
  have hnn : n ≤ 8 := by omega
  have hn64 : n * n ≤ 64 := Nat.mul_le_mul hnn hnn
  unfold lf_X9_putBlock lf_X8_codeBlock_X2
  refine Ok2.lrd (384 * l + (16 * y + x)) (by first | (simp (disch := omega) only [lI0, lI1, lI2, lI3, lI4, lI5, lI7, lI8, lI9, lI10, lI11, lI12, lI15, lI16, lI17, lI20, lI24, lI32, lI33, lI40, lI63, lI64, lI80, lI82, lI101, lI110, lI115, lI251, lI255, lI256, lI384, lI16384, lI20000, lI32768, lI49152, lI65535, nI_add, pk_mul, pk_sub, pk_div] <;> (apply congrArg nI; omega)) | rfl) (by omega) (by decide) ?_
  have hcl := cellN_lt (n := n) (x := x) (y := y) (by omega) (by omega)
  refine Ok2.rE _ (eq_X4_firstCell rfl rfl (by omega) (by omega)) ?_
  rw [hsz]
  refine Ok2.rrd _ rfl hcl (by decide) ?_
  rw [hmM, hmC, show nI m / (2 : Int32) = nI (m / 2) from (by first | (simp (disch := omega) only [lI0, lI1, lI2, lI3, lI4, lI5, lI7, lI8, lI9, lI10, lI11, lI12, lI15, lI16, lI17, lI20, lI24, lI32, lI33, lI40, lI63, lI64, lI80, lI82, lI101, lI110, lI115, lI251, lI255, lI256, lI384, lI16384, lI20000, lI32768, lI49152, lI65535, nI_add, pk_mul, pk_sub, pk_div] <;> (apply congrArg nI; omega)) | rfl)]
  refine Ok2.bind _ (ok_put (v := m / 2) (x := 1) hs h (by omega) (by omega) (Or.inl ⟨1, by decide, rfl, rfl⟩)) ?_
  rintro ⟨m1, m2, m3, m4, m5, m6⟩ ⟨k0, k1, k2, k3, k4, k5, k6, k7⟩ ⟨hk0, hw⟩
  dsimp only at hk0 hw ⊢
  subst hk0
  refine Ok2.rrd _ rfl hcl (by decide) ?_
  rw [hmC, show nI m / (2 : Int32) = nI (m / 2) from (by first | (simp (disch := omega) only [lI0, lI1, lI2, lI3, lI4, lI5, lI7, lI8, lI9, lI10, lI11, lI12, lI15, lI16, lI17, lI20, lI24, lI32, lI33, lI40, lI63, lI64, lI80, lI82, lI101, lI110, lI115, lI251, lI255, lI256, lI384, lI16384, lI20000, lI32768, lI49152, lI65535, nI_add, pk_mul, pk_sub, pk_div] <;> (apply congrArg nI; omega)) | rfl), show (2 : Int32) + nI (m / 2) = nI (2 + m / 2) from (by first | (simp (disch := omega) only [lI0, lI1, lI2, lI3, lI4, lI5, lI7, lI8, lI9, lI10, lI11, lI12, lI15, lI16, lI17, lI20, lI24, lI32, lI33, lI40, lI63, lI64, lI80, lI82, lI101, lI110, lI115, lI251, lI255, lI256, lI384, lI16384, lI20000, lI32768, lI49152, lI65535, nI_add, pk_mul, pk_sub, pk_div] <;> (apply congrArg nI; omega)) | rfl), show nI m - nI (m / 2) * (2 : Int32) = nI (m % 2) from (by first | (simp (disch := omega) only [lI0, lI1, lI2, lI3, lI4, lI5, lI7, lI8, lI9, lI10, lI11, lI12, lI15, lI16, lI17, lI20, lI24, lI32, lI33, lI40, lI63, lI64, lI80, lI82, lI101, lI110, lI115, lI251, lI255, lI256, lI384, lI16384, lI20000, lI32768, lI49152, lI65535, nI_add, pk_mul, pk_sub, pk_div] <;> (apply congrArg nI; omega)) | rfl)]
  refine Ok2.bind _ (ok_put (v := m % 2) hs hw (by omega) (by omega) (Or.inl ⟨2 + m / 2, by omega, rfl, rfl⟩)) ?_
  rintro ⟨m1, m2, m3, m4, m5, m6⟩ ⟨k0, k1, k2, k3, k4, k5, k6, k7⟩ ⟨hk0, hw⟩
  dsimp only at hk0 hw ⊢
  subst hk0
  refine Ok2.rwr _ rfl hcl (by decide) ?_
  rw [show nI (m / 2) * (2 : Int32) + nI (m % 2) = nI m from (by first | (simp (disch := omega) only [lI0, lI1, lI2, lI3, lI4, lI5, lI7, lI8, lI9, lI10, lI11, lI12, lI15, lI16, lI17, lI20, lI24, lI32, lI33, lI40, lI63, lI64, lI80, lI82, lI101, lI110, lI115, lI251, lI255, lI256, lI384, lI16384, lI20000, lI32768, lI49152, lI65535, nI_add, pk_mul, pk_sub, pk_div] <;> (apply congrArg nI; omega)) | rfl), upd_same hmC, pk_mul]
  refine Ok2.bind (fun o k => WR start (B + 14 + 111 * (n * n)) s0 o.1 o.2.1 o.2.2.1 o.2.2.2.1 o.2.2.2.2.1 o.2.2.2.2.2.2 k.1 k.2.1 k.2.2.1 k.2.2.2.1 k.2.2.2.2.1 k.2.2.2.2.2.1 k.2.2.2.2.2.2.1 ∧ k.2.2.2.2.2.2.2 = lC)
    (Ok2.runs 64 (by decide) (fun y c => y.1 = nI (n * n) ∧ WR start (B + 14 + 111 * (n * n)) s0 y.2.1 y.2.2.1 y.2.2.2.1 y.2.2.2.2.1 y.2.2.2.2.2.1 y.2.2.2.2.2.2.2 c.1 c.2.1 c.2.2.1 c.2.2.2.1 c.2.2.2.2.1 c.2.2.2.2.2.1 c.2.2.2.2.2.2.1 ∧ c.2.2.2.2.2.2.2 = lC) (fun G X hG hX => ?_) ?_) ?_
  · refine Ok.fix (fun i z => z.1 = nI i ∧ z.2.2.2.2.2.2.2.2 = lC ∧ ∃ w, Runs G X w (n * i) ∧ w.1 = nI (n * i) ∧ (∀ j, j < n * i → w.2.2.2.2.2.2.1 j = lC (16 * (y + j / n) + (x + j % n))) ∧ WR start (B + 14 + 111 * (n * i)) s0 w.2.1 w.2.2.1 w.2.2.2.1 w.2.2.2.2.1 w.2.2.2.2.2.1 w.2.2.2.2.2.2.2 z.2.1 z.2.2.1 z.2.2.2.1 z.2.2.2.2.1 z.2.2.2.2.2.1 z.2.2.2.2.2.2.1 z.2.2.2.2.2.2.2.1) n (by omega) ⟨rfl, rfl, X, Runs.rf, by rw [hX]; rfl, fun j hj => absurd hj (by omega), by rw [hX]; exact hw⟩ ?_
    rintro i ⟨x7, v8, v9, v10, v11, g12, g13, g14, g15⟩ self hi ⟨h1, h2, w, hr, h3, h4, hw2⟩ K
    dsimp only at h1 h2 hw2 ⊢
    subst h1 h2
    by_cases hc : i < n
    · have hni : n * i + n ≤ n * n := by
        rw [← Nat.mul_succ]
        exact Nat.mul_le_mul_left _ hc
      refine Ok.neg (by simp (disch := omega) only [lI0, lI1, lI2, lI3, lI4, lI5, lI7, lI8, lI9, lI10, lI11, lI12, lI15, lI16, lI17, lI20, lI24, lI32, lI33, lI40, lI63, lI64, lI80, lI82, lI101, lI110, lI115, lI251, lI255, lI256, lI384, lI16384, lI20000, lI32768, lI49152, lI65535, nI_add, pk_mul, pk_sub, pk_div, nI_leI, nI_ltI, nI_eq] <;> omega) (Ok.bind (fun c => c.2.2.2.2.2.2.2 = g15 ∧ ∃ w, Runs G X w (n * (i + 1)) ∧ w.1 = nI (n * (i + 1)) ∧ (∀ j, j < n * (i + 1) → w.2.2.2.2.2.2.1 j = g15 (16 * (y + j / n) + (x + j % n))) ∧ WR start (B + 14 + 111 * (n * (i + 1))) s0 w.2.1 w.2.2.1 w.2.2.2.1 w.2.2.2.2.1 w.2.2.2.2.2.1 w.2.2.2.2.2.2.2 c.1 c.2.1 c.2.2.1 c.2.2.2.1 c.2.2.2.2.1 c.2.2.2.2.2.1 c.2.2.2.2.2.2.1) (Ok.fix (fun k z => z.1 = nI k ∧ z.2.2.2.2.2.2.2.2 = g15 ∧ ∃ w, Runs G X w (n * i + k) ∧ w.1 = nI (n * i + k) ∧ (∀ j, j < n * i + k → w.2.2.2.2.2.2.1 j = g15 (16 * (y + j / n) + (x + j % n))) ∧ WR start (B + 14 + 111 * (n * i + k)) s0 w.2.1 w.2.2.1 w.2.2.2.1 w.2.2.2.2.1 w.2.2.2.2.2.1 w.2.2.2.2.2.2.2 z.2.1 z.2.2.1 z.2.2.2.1 z.2.2.2.2.1 z.2.2.2.2.2.1 z.2.2.2.2.2.2.1 z.2.2.2.2.2.2.2.1) n (by omega) ⟨rfl, rfl, w, hr, h3, h4, hw2⟩ ?_) (fun c hc2 => Ok.bnd (K _ hc ⟨(by first | (simp (disch := omega) only [lI0, lI1, lI2, lI3, lI4, lI5, lI7, lI8, lI9, lI10, lI11, lI12, lI15, lI16, lI17, lI20, lI24, lI32, lI33, lI40, lI63, lI64, lI80, lI82, lI101, lI110, lI115, lI251, lI255, lI256, lI384, lI16384, lI20000, lI32768, lI49152, lI65535, nI_add, pk_mul, pk_sub, pk_div] <;> (apply congrArg nI; omega)) | rfl), hc2.1, hc2.2⟩)))
      rintro k ⟨x18, v19, v20, v21, v22, g23, g24, g25, g26⟩ self2 hk ⟨h5, h6, ⟨y1, y2, y3, y4, y5, y6, y7, y8⟩, hr2, h7, h8, hw3⟩ K2
      dsimp only at h5 h6 h7 h8 hw3 ⊢
      subst h5 h6 h7
      by_cases hc2 : k < n
      · obtain ⟨d1, d2, d3⟩ := dr_nI hnn hc hc2
        obtain ⟨l1, l2, l3⟩ := hlv i k hc hc2
        refine Ok.neg (by simp (disch := omega) only [lI0, lI1, lI2, lI3, lI4, lI5, lI7, lI8, lI9, lI10, lI11, lI12, lI15, lI16, lI17, lI20, lI24, lI32, lI33, lI40, lI63, lI64, lI80, lI82, lI101, lI110, lI115, lI251, lI255, lI256, lI384, lI16384, lI20000, lI32768, lI49152, lI65535, nI_add, pk_mul, pk_sub, pk_div, nI_leI, nI_ltI, nI_eq] <;> omega) (Ok.bnd ?_)
        rw [show (nI y + nI i) * (16 : Int32) + nI x + nI k = nI (16 * (y + i) + (x + k)) from (by first | (simp (disch := omega) only [lI0, lI1, lI2, lI3, lI4, lI5, lI7, lI8, lI9, lI10, lI11, lI12, lI15, lI16, lI17, lI20, lI24, lI32, lI33, lI40, lI63, lI64, lI80, lI82, lI101, lI110, lI115, lI251, lI255, lI256, lI384, lI16384, lI20000, lI32768, lI49152, lI65535, nI_add, pk_mul, pk_sub, pk_div] <;> (apply congrArg nI; omega)) | rfl)]
        refine Ok.bindE _ (eq_levelContext (lv := fun r c => g26 (16 * (y + r) + (x + c))) hx hy hc hc2 (fun r c _ _ => rfl)) ?_
        refine Ok.rd _ rfl (by omega) (by decide) ?_
        obtain ⟨m2, c2, em, ec, hk0, hw4⟩ := ok_level (nz := if g26 (16 * (y + i) + (x + k)) = 0 then 0 else 1) hs hw3 (by omega) (ctxS_lt (lv := fun r c => g26 (16 * (y + r) + (x + c))) (r := i) (c := k)) l2 l3 rfl
        refine Ok.bindE _ ec ?_
        rw [hk0]
        refine Ok.wr _ rfl (by omega) (by decide) (Ok.bnd ?_)
        rw [upd_same rfl]
        refine K2 _ hc2 ⟨(by first | (simp (disch := omega) only [lI0, lI1, lI2, lI3, lI4, lI5, lI7, lI8, lI9, lI10, lI11, lI12, lI15, lI16, lI17, lI20, lI24, lI32, lI33, lI40, lI63, lI64, lI80, lI82, lI101, lI110, lI115, lI251, lI255, lI256, lI384, lI16384, lI20000, lI32768, lI49152, lI65535, nI_add, pk_mul, pk_sub, pk_div] <;> (apply congrArg nI; omega)) | rfl), rfl, (nI (n * i + (k + 1)), m2.1, m2.2.1, m2.2.2.1, m2.2.2.2.1, m2.2.2.2.2.1, upd y7 (n * i + k) (g26 (16 * (y + i) + (x + k))), m2.2.2.2.2.2), Runs.snoc hr2 (fun self3 => ?_), rfl, fun j hj => ?_, ?_⟩
        · rw [hG]
          dsimp only
          rw [if_neg (by (simp (disch := omega) only [lI0, lI1, lI2, lI3, lI4, lI5, lI7, lI8, lI9, lI10, lI11, lI12, lI15, lI16, lI17, lI20, lI24, lI32, lI33, lI40, lI63, lI64, lI80, lI82, lI101, lI110, lI115, lI251, lI255, lI256, lI384, lI16384, lI20000, lI32768, lI49152, lI65535, nI_add, pk_mul, pk_sub, pk_div, nI_leI, nI_ltI, nI_eq] <;> omega)), d1]
          dsimp only [Option.bind]
          rw [d2]
          dsimp only [Option.bind]
          rw [show (384 : Int32) * nI l + (16 : Int32) * (nI y + nI i) + nI x + nI k = nI (384 * l + (16 * (y + i) + (x + k))) from (by first | (simp (disch := omega) only [lI0, lI1, lI2, lI3, lI4, lI5, lI7, lI8, lI9, lI10, lI11, lI12, lI15, lI16, lI17, lI20, lI24, lI32, lI33, lI40, lI63, lI64, lI80, lI82, lI101, lI110, lI115, lI251, lI255, lI256, lI384, lI16384, lI20000, lI32768, lI49152, lI65535, nI_add, pk_mul, pk_sub, pk_div] <;> (apply congrArg nI; omega)) | rfl), rd_nI (by omega) (by decide), l1]
          dsimp only [Option.bind]
          rw [eq_X9_digits]
          dsimp only [Option.bind]
          rw [jn_ite]
          try dsimp only
          rw [eq_contextOf (lv := fun r c => g26 (16 * (y + r) + (x + c))) hnn hc hc2 h8]
          dsimp only [Option.bind]
          rw [jn_ite]
          try dsimp only
          refine (lev_step (wr_nI (k := n * i + k) d3 (by decide)) em).trans ?_
          dsimp only [bnd]
          rw [nI_1]
          rfl
        · dsimp only
          by_cases h9 : j = n * i + k
          · rw [h9, upd_eq, Nat.mul_add_div (by omega), Nat.div_eq_of_lt hc2, Nat.add_zero, Nat.mul_add_mod, Nat.mod_eq_of_lt hc2]
          · rw [upd_ne h9]
            exact h8 j (by omega)
        · have hw5 : WRt start (B + 14 + 111 * (n * i + k) + 111) s0 m2 c2.2 := hw4
          exact WR_mono hw5 (by omega)
      · have hk2 : k = n := by omega
        subst hk2
        exact Ok.pos (by simp (disch := omega) only [lI0, lI1, lI2, lI3, lI4, lI5, lI7, lI8, lI9, lI10, lI11, lI12, lI15, lI16, lI17, lI20, lI24, lI32, lI33, lI40, lI63, lI64, lI80, lI82, lI101, lI110, lI115, lI251, lI255, lI256, lI384, lI16384, lI20000, lI32768, lI49152, lI65535, nI_add, pk_mul, pk_sub, pk_div, nI_leI, nI_ltI, nI_eq] <;> omega) (Ok.some ⟨rfl, _, hr2, rfl, h8, hw3⟩)
    · have hi2 : i = n := by omega
      subst hi2
      exact Ok.pos (by simp (disch := omega) only [lI0, lI1, lI2, lI3, lI4, lI5, lI7, lI8, lI9, lI10, lI11, lI12, lI15, lI16, lI17, lI20, lI24, lI32, lI33, lI40, lI63, lI64, lI80, lI82, lI101, lI110, lI115, lI251, lI255, lI256, lI384, lI16384, lI20000, lI32768, lI49152, lI65535, nI_add, pk_mul, pk_sub, pk_div, nI_leI, nI_ltI, nI_eq] <;> omega) (Ok.some ⟨w, i * i, hn64, hr, h3, hw2, rfl⟩)
  · rintro ⟨y1, y2, y3, y4, y5, y6, y7, y8⟩ c ⟨h1, h2, h3⟩
    dsimp only at h1 h2
    subst h1
    exact ⟨(y2, y3, y4, y5, y6, y7, y8), fun self => if_pos (by (simp (disch := omega) only [lI0, lI1, lI2, lI3, lI4, lI5, lI7, lI8, lI9, lI10, lI11, lI12, lI15, lI16, lI17, lI20, lI24, lI32, lI33, lI40, lI63, lI64, lI80, lI82, lI101, lI110, lI115, lI251, lI255, lI256, lI384, lI16384, lI20000, lI32768, lI49152, lI65535, nI_add, pk_mul, pk_sub, pk_div, nI_leI, nI_ltI, nI_eq] <;> omega)), h2, h3⟩
  · rintro ⟨m1, m2, m3, m4, m5, m6, m7⟩ ⟨k1, k2, k3, k4, k5, k6, k7, k8⟩ ⟨hw, h1⟩
    exact Ok2.some ⟨hw, h1, rfl⟩
