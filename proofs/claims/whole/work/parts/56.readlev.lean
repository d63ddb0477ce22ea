/-! ===== a level read ===== -/
def mTk1 (en sta : Int32) (st : Nat → Int32) (o16 : Int32 × Int32 × Int32 × Int32 × Int32 × (Nat → Int32)) : Option (Int32 × Int32 × Int32 × Int32 × Int32 × (Nat → Int32)) :=
  if o16.1 = (0 : Int32) then some ((0 : Int32), o16.2.1, o16.2.2.1, o16.2.2.2.1, o16.2.2.2.2.1, o16.2.2.2.2.2) else (lf_X9_take o16.2.1 o16.2.2.1 en o16.2.2.2.1 o16.2.2.2.2.1 sta o16.2.2.2.2.2 st (8 : Int32)).bind fun o26 => (fixN FUEL (fun (self33 : (Int32 × Int32 × Int32 × Int32 × Int32 × (Nat → Int32)) → Option (Int32 × Int32 × Int32 × Int32 × Int32 × (Nat → Int32))) (z33 : Int32 × Int32 × Int32 × Int32 × Int32 × (Nat → Int32)) => (fun (x27 : Int32) (v28 : Int32) (v29 : Int32) (v30 : Int32) (v31 : Int32) (g32 : (Nat → Int32)) => (if (12 : Int32) ≤ x27 then some (x27, v28, v29, v30, v31, g32) else (lf_X9_take v28 v29 en v30 v31 sta g32 st ((8 : Int32) + x27)).bind fun o35 => (if o35.1 = (1 : Int32) then bnd (x27 + (1 : Int32)) fun x37 => self33 (x37, o35.2.1, o35.2.2.1, o35.2.2.2.1, o35.2.2.2.2.1, o35.2.2.2.2.2) else some (x27, o35.2.1, o35.2.2.1, o35.2.2.2.1, o35.2.2.2.2.1, o35.2.2.2.2.2)))) z33.1 z33.2.1 z33.2.2.1 z33.2.2.2.1 z33.2.2.2.2.1 z33.2.2.2.2.2) ((1 : Int32), o26.2.1, o26.2.2.1, o26.2.2.2.1, o26.2.2.2.2.1, o26.2.2.2.2.2)).bind fun o33 => (fixN FUEL (fun (self45 : (Int32 × Int32 × Int32 × Int32 × Int32 × Int32 × (Nat → Int32)) → Option (Int32 × Int32 × Int32 × Int32 × Int32 × (Nat → Int32))) (z45 : Int32 × Int32 × Int32 × Int32 × Int32 × Int32 × (Nat → Int32)) => (fun (x38 : Int32) (x39 : Int32) (v40 : Int32) (v41 : Int32) (v42 : Int32) (v43 : Int32) (g44 : (Nat → Int32)) => (if o33.1 ≤ x39 then some (x38, v40, v41, v42, v43, g44) else (lf_X9_take v40 v41 en v42 v43 sta g44 st (-1 : Int32)).bind fun o47 => bnd (((2 : Int32) * x38) + o47.1) fun x48 => bnd (x39 + (1 : Int32)) fun x49 => self45 (x48, x49, o47.2.1, o47.2.2.1, o47.2.2.2.1, o47.2.2.2.2.1, o47.2.2.2.2.2))) z45.1 z45.2.1 z45.2.2.1 z45.2.2.2.1 z45.2.2.2.2.1 z45.2.2.2.2.2.1 z45.2.2.2.2.2.2) ((1 : Int32), (1 : Int32), o33.2.1, o33.2.2.1, o33.2.2.2.1, o33.2.2.2.2.1, o33.2.2.2.2.2)).bind fun o45 => some ((if o26.1 = (1 : Int32) then -o45.1 else o45.1), o45.2.1, o45.2.2.1, o45.2.2.2.1, o45.2.2.2.2.1, o45.2.2.2.2.2)
theorem tk_frag {β : Type} {K : Int32 × Int32 × Int32 × Int32 × (Nat → Int32) × (Nat → Int32) → Option β} {en sta : Int32} {st g14 : Nat → Int32} {j : Nat} (hj : j < 64) (h0 : g14 j = 0) (o16 : Int32 × Int32 × Int32 × Int32 × Int32 × (Nat → Int32)) :
    jn K (fun k24 => (if o16.1 = (0 : Int32) then k24 (o16.2.1, o16.2.2.1, o16.2.2.2.1, o16.2.2.2.2.1, o16.2.2.2.2.2, g14) else (lf_X9_take o16.2.1 o16.2.2.1 en o16.2.2.2.1 o16.2.2.2.2.1 sta o16.2.2.2.2.2 st (8 : Int32)).bind fun o26 => (fixN FUEL (fun (self33 : (Int32 × Int32 × Int32 × Int32 × Int32 × (Nat → Int32)) → Option (Int32 × Int32 × Int32 × Int32 × Int32 × (Nat → Int32))) (z33 : Int32 × Int32 × Int32 × Int32 × Int32 × (Nat → Int32)) => (fun (x27 : Int32) (v28 : Int32) (v29 : Int32) (v30 : Int32) (v31 : Int32) (g32 : (Nat → Int32)) => (if (12 : Int32) ≤ x27 then some (x27, v28, v29, v30, v31, g32) else (lf_X9_take v28 v29 en v30 v31 sta g32 st ((8 : Int32) + x27)).bind fun o35 => (if o35.1 = (1 : Int32) then bnd (x27 + (1 : Int32)) fun x37 => self33 (x37, o35.2.1, o35.2.2.1, o35.2.2.2.1, o35.2.2.2.2.1, o35.2.2.2.2.2) else some (x27, o35.2.1, o35.2.2.1, o35.2.2.2.1, o35.2.2.2.2.1, o35.2.2.2.2.2)))) z33.1 z33.2.1 z33.2.2.1 z33.2.2.2.1 z33.2.2.2.2.1 z33.2.2.2.2.2) ((1 : Int32), o26.2.1, o26.2.2.1, o26.2.2.2.1, o26.2.2.2.2.1, o26.2.2.2.2.2)).bind fun o33 => (fixN FUEL (fun (self45 : (Int32 × Int32 × Int32 × Int32 × Int32 × Int32 × (Nat → Int32)) → Option (Int32 × Int32 × Int32 × Int32 × Int32 × (Nat → Int32))) (z45 : Int32 × Int32 × Int32 × Int32 × Int32 × Int32 × (Nat → Int32)) => (fun (x38 : Int32) (x39 : Int32) (v40 : Int32) (v41 : Int32) (v42 : Int32) (v43 : Int32) (g44 : (Nat → Int32)) => (if o33.1 ≤ x39 then some (x38, v40, v41, v42, v43, g44) else (lf_X9_take v40 v41 en v42 v43 sta g44 st (-1 : Int32)).bind fun o47 => bnd (((2 : Int32) * x38) + o47.1) fun x48 => bnd (x39 + (1 : Int32)) fun x49 => self45 (x48, x49, o47.2.1, o47.2.2.1, o47.2.2.2.1, o47.2.2.2.2.1, o47.2.2.2.2.2))) z45.1 z45.2.1 z45.2.2.1 z45.2.2.2.1 z45.2.2.2.2.1 z45.2.2.2.2.2.1 z45.2.2.2.2.2.2) ((1 : Int32), (1 : Int32), o33.2.1, o33.2.2.1, o33.2.2.2.1, o33.2.2.2.2.1, o33.2.2.2.2.2)).bind fun o45 => jn (fun (z52 : Int32) => (fun (s51 : Int32) => (wrA 64 g14 (nI j) s51).bind fun g53 => k24 (o45.2.1, o45.2.2.1, o45.2.2.2.1, o45.2.2.2.2.1, o45.2.2.2.2.2, g53)) z52) (fun k52 => (if o26.1 = (1 : Int32) then k52 (-o45.1) else k52 o45.1)))) = (mTk1 en sta st o16).bind (fun r => K (r.2.1, r.2.2.1, r.2.2.2.1, r.2.2.2.2.1, r.2.2.2.2.2, upd g14 j r.1)) := by
  unfold mTk1
  rw [show ∀ B : (Int32 × Int32 × Int32 × Int32 × (Nat → Int32) × (Nat → Int32) → Option β) → Option β, jn K B = B K from fun _ => rfl]
  by_cases h : o16.1 = 0
  · rw [if_pos h, if_pos h]
    show _ = K (_, _, _, _, _, upd g14 j 0)
    rw [upd_same h0]
  · rw [if_neg h, if_neg h]
    simp only [Option.bind_assoc, jn_ite, wr_nI hj (show 64 < 2 ^ 31 by decide)]
    rfl
theorem tk_step {β : Type} {pt : Option (Int32 × Int32 × Int32 × Int32 × Int32 × (Nat → Int32))} {K : Int32 × Int32 × Int32 × Int32 × (Nat → Int32) × (Nat → Int32) → Option β} {en sta : Int32} {st g14 : Nat → Int32} {j : Nat} {m : Int32 × Int32 × Int32 × Int32 × Int32 × (Nat → Int32)} (hj : j < 64) (h0 : g14 j = 0) (hm : pt.bind (mTk1 en sta st) = some m) :
    (pt.bind fun o16 => jn K (fun k24 => (if o16.1 = (0 : Int32) then k24 (o16.2.1, o16.2.2.1, o16.2.2.2.1, o16.2.2.2.2.1, o16.2.2.2.2.2, g14) else (lf_X9_take o16.2.1 o16.2.2.1 en o16.2.2.2.1 o16.2.2.2.2.1 sta o16.2.2.2.2.2 st (8 : Int32)).bind fun o26 => (fixN FUEL (fun (self33 : (Int32 × Int32 × Int32 × Int32 × Int32 × (Nat → Int32)) → Option (Int32 × Int32 × Int32 × Int32 × Int32 × (Nat → Int32))) (z33 : Int32 × Int32 × Int32 × Int32 × Int32 × (Nat → Int32)) => (fun (x27 : Int32) (v28 : Int32) (v29 : Int32) (v30 : Int32) (v31 : Int32) (g32 : (Nat → Int32)) => (if (12 : Int32) ≤ x27 then some (x27, v28, v29, v30, v31, g32) else (lf_X9_take v28 v29 en v30 v31 sta g32 st ((8 : Int32) + x27)).bind fun o35 => (if o35.1 = (1 : Int32) then bnd (x27 + (1 : Int32)) fun x37 => self33 (x37, o35.2.1, o35.2.2.1, o35.2.2.2.1, o35.2.2.2.2.1, o35.2.2.2.2.2) else some (x27, o35.2.1, o35.2.2.1, o35.2.2.2.1, o35.2.2.2.2.1, o35.2.2.2.2.2)))) z33.1 z33.2.1 z33.2.2.1 z33.2.2.2.1 z33.2.2.2.2.1 z33.2.2.2.2.2) ((1 : Int32), o26.2.1, o26.2.2.1, o26.2.2.2.1, o26.2.2.2.2.1, o26.2.2.2.2.2)).bind fun o33 => (fixN FUEL (fun (self45 : (Int32 × Int32 × Int32 × Int32 × Int32 × Int32 × (Nat → Int32)) → Option (Int32 × Int32 × Int32 × Int32 × Int32 × (Nat → Int32))) (z45 : Int32 × Int32 × Int32 × Int32 × Int32 × Int32 × (Nat → Int32)) => (fun (x38 : Int32) (x39 : Int32) (v40 : Int32) (v41 : Int32) (v42 : Int32) (v43 : Int32) (g44 : (Nat → Int32)) => (if o33.1 ≤ x39 then some (x38, v40, v41, v42, v43, g44) else (lf_X9_take v40 v41 en v42 v43 sta g44 st (-1 : Int32)).bind fun o47 => bnd (((2 : Int32) * x38) + o47.1) fun x48 => bnd (x39 + (1 : Int32)) fun x49 => self45 (x48, x49, o47.2.1, o47.2.2.1, o47.2.2.2.1, o47.2.2.2.2.1, o47.2.2.2.2.2))) z45.1 z45.2.1 z45.2.2.1 z45.2.2.2.1 z45.2.2.2.2.1 z45.2.2.2.2.2.1 z45.2.2.2.2.2.2) ((1 : Int32), (1 : Int32), o33.2.1, o33.2.2.1, o33.2.2.2.1, o33.2.2.2.2.1, o33.2.2.2.2.2)).bind fun o45 => jn (fun (z52 : Int32) => (fun (s51 : Int32) => (wrA 64 g14 (nI j) s51).bind fun g53 => k24 (o45.2.1, o45.2.2.1, o45.2.2.2.1, o45.2.2.2.2.1, o45.2.2.2.2.2, g53)) z52) (fun k52 => (if o26.1 = (1 : Int32) then k52 (-o45.1) else k52 o45.1))))) = K (m.2.1, m.2.2.1, m.2.2.2.1, m.2.2.2.2.1, m.2.2.2.2.2, upd g14 j m.1) := by
  rw [show (fun o16 : Int32 × Int32 × Int32 × Int32 × Int32 × (Nat → Int32) => jn K (fun k24 => (if o16.1 = (0 : Int32) then k24 (o16.2.1, o16.2.2.1, o16.2.2.2.1, o16.2.2.2.2.1, o16.2.2.2.2.2, g14) else (lf_X9_take o16.2.1 o16.2.2.1 en o16.2.2.2.1 o16.2.2.2.2.1 sta o16.2.2.2.2.2 st (8 : Int32)).bind fun o26 => (fixN FUEL (fun (self33 : (Int32 × Int32 × Int32 × Int32 × Int32 × (Nat → Int32)) → Option (Int32 × Int32 × Int32 × Int32 × Int32 × (Nat → Int32))) (z33 : Int32 × Int32 × Int32 × Int32 × Int32 × (Nat → Int32)) => (fun (x27 : Int32) (v28 : Int32) (v29 : Int32) (v30 : Int32) (v31 : Int32) (g32 : (Nat → Int32)) => (if (12 : Int32) ≤ x27 then some (x27, v28, v29, v30, v31, g32) else (lf_X9_take v28 v29 en v30 v31 sta g32 st ((8 : Int32) + x27)).bind fun o35 => (if o35.1 = (1 : Int32) then bnd (x27 + (1 : Int32)) fun x37 => self33 (x37, o35.2.1, o35.2.2.1, o35.2.2.2.1, o35.2.2.2.2.1, o35.2.2.2.2.2) else some (x27, o35.2.1, o35.2.2.1, o35.2.2.2.1, o35.2.2.2.2.1, o35.2.2.2.2.2)))) z33.1 z33.2.1 z33.2.2.1 z33.2.2.2.1 z33.2.2.2.2.1 z33.2.2.2.2.2) ((1 : Int32), o26.2.1, o26.2.2.1, o26.2.2.2.1, o26.2.2.2.2.1, o26.2.2.2.2.2)).bind fun o33 => (fixN FUEL (fun (self45 : (Int32 × Int32 × Int32 × Int32 × Int32 × Int32 × (Nat → Int32)) → Option (Int32 × Int32 × Int32 × Int32 × Int32 × (Nat → Int32))) (z45 : Int32 × Int32 × Int32 × Int32 × Int32 × Int32 × (Nat → Int32)) => (fun (x38 : Int32) (x39 : Int32) (v40 : Int32) (v41 : Int32) (v42 : Int32) (v43 : Int32) (g44 : (Nat → Int32)) => (if o33.1 ≤ x39 then some (x38, v40, v41, v42, v43, g44) else (lf_X9_take v40 v41 en v42 v43 sta g44 st (-1 : Int32)).bind fun o47 => bnd (((2 : Int32) * x38) + o47.1) fun x48 => bnd (x39 + (1 : Int32)) fun x49 => self45 (x48, x49, o47.2.1, o47.2.2.1, o47.2.2.2.1, o47.2.2.2.2.1, o47.2.2.2.2.2))) z45.1 z45.2.1 z45.2.2.1 z45.2.2.2.1 z45.2.2.2.2.1 z45.2.2.2.2.2.1 z45.2.2.2.2.2.2) ((1 : Int32), (1 : Int32), o33.2.1, o33.2.2.1, o33.2.2.2.1, o33.2.2.2.2.1, o33.2.2.2.2.2)).bind fun o45 => jn (fun (z52 : Int32) => (fun (s51 : Int32) => (wrA 64 g14 (nI j) s51).bind fun g53 => k24 (o45.2.1, o45.2.2.1, o45.2.2.2.1, o45.2.2.2.2.1, o45.2.2.2.2.2, g53)) z52) (fun k52 => (if o26.1 = (1 : Int32) then k52 (-o45.1) else k52 o45.1))))) = fun o16 => (mTk1 en sta st o16).bind (fun r => K (r.2.1, r.2.2.1, r.2.2.2.1, r.2.2.2.2.1, r.2.2.2.2.2, upd g14 j r.1)) from funext (tk_frag hj h0), ← Option.bind_assoc, hm]
  rfl
/-- the readers' states as one thing each -/
def RRt (start len B : Nat) (m : Int32 × Int32 × Int32 × Int32 × (Nat → Int32)) (k : Int32 × Int32 × Int32 × Int32 × (Nat → Int32) × (Nat → Int32)) : Prop := RR start len B m.1 m.2.1 m.2.2.1 m.2.2.2.1 m.2.2.2.2 k.1 k.2.1 k.2.2.1 k.2.2.2.1 k.2.2.2.2.1 k.2.2.2.2.2
set_option maxHeartbeats 4000000 in
theorem ok_levelR {start len n B cx : Nat} {st cy : Nat → Int32} {mb mc mh ml p1 : Int32} {ct on ze : Nat → Int32} {cc ch cl cp : Int32} (hs : start + len ≤ 20000) (hs2 : start + len ≤ n) (hn : n ≤ 32768) (hcy : ∀ i, i < start + len → cy i = st i) (h : RR start len B mb mc mh ml ct cc ch cl cp on ze) (hB : B + 300 < 2 ^ 20) (hcx : cx < 20) :
    Ok2 ((lf_X9_take mb mc (nI (start + len)) mh ml (nI start) ct st (nI cx)).bind (mTk1 (nI (start + len)) (nI start) st)) (lf_X8_codeLevel_X1 cc (nI (8 * (start + len))) ch cl cp n cy on ze p1 (nI cx)) (fun m k => k.1 = m.1 ∧ RRt start len (B + 200) m.2 k.2) := by
  unfold lf_X8_codeLevel_X1
  have htk := fun (bit : Int32) => ok_take (bit := bit) hs hs2 hn hcy h (by omega) (Or.inl ⟨cx, hcx, rfl⟩)
  refine Ok2.rjn (fun _ => True) (fun k hk => ?_) ?_
  · by_cases h0 : p1 = 0
    · exact Ok2.rpos h0 (hk _ trivial)
    · exact Ok2.rneg h0 (hk _ trivial)
  intro s _
  refine Ok2.bind _ (htk s) ?_
  rintro ⟨m0, m1, m2, m3, m4, m5⟩ ⟨k0, k1, k2, k3, k4, k5, k6⟩ ⟨v, hv, e1, e2, hR⟩
  dsimp only at e1 e2 hR ⊢
  subst e1 e2
  unfold mTk1
  by_cases hv0 : v = 0
  · subst hv0
    exact Ok2.lpos rfl (Ok2.rpos rfl (Ok2.some ⟨rfl, RR_mono hR (by omega)⟩))
  refine Ok2.lneg (nI_ne0 (by omega) (by omega)) (Ok2.rneg (nI_ne0 (by omega) (by omega)) ?_)
  refine Ok2.rjn (fun _ => True) (fun k hk => ?_) ?_
  · by_cases h0 : 0 ≤ p1
    · exact Ok2.rpos h0 (hk _ trivial)
    · exact Ok2.rneg h0 (hk _ trivial)
  intro s2 _
  refine Ok2.bind _ (ok_take (x := 8) (bit := s2) hs hs2 hn hcy hR (by omega) (Or.inl ⟨8, by decide, rfl⟩)) ?_
  rintro ⟨m0, m1, m2, m3, m4, m5⟩ ⟨k0, k1, k2, k3, k4, k5, k6⟩ ⟨v2, hv2, e1, e2, hR⟩
  dsimp only at e1 e2 hR ⊢
  subst e1 e2
  refine Ok2.rjn (fun _ => True) (fun k hk => ?_) ?_
  · by_cases h0 : 0 ≤ p1
    · exact Ok2.rpos h0 (hk _ trivial)
    · exact Ok2.rneg h0 (hk _ trivial)
  intro s3 _
  refine Ok2.rE _ (eq_X8_digitsOf _) ?_
  generalize dgI s3 = wanted
  refine Ok2.bind (fun o33 o21 => ∃ d, 1 ≤ d ∧ d ≤ 12 ∧ o33.1 = nI d ∧ o21.1 = nI d ∧ RRt start len (B + 16 + 8 * 11) o33.2 o21.2) (Ok2.fix (fun k x y => x.1 = nI (k + 1) ∧ y.1 = nI (k + 1) ∧ RRt start len (B + 16 + 8 * k) x.2 y.2) 11 (by omega) ⟨rfl, rfl, hR⟩ ?_) ?_
  · rintro k ⟨x27, x28, x29, x30, x31, x32⟩ ⟨y14, y15, y16, y17, y18, y19, y20⟩ s4 s5 hk ⟨h1, h2, hR2⟩ K
    dsimp only at h1 h2 ⊢
    subst h1 h2
    by_cases hc : k < 11
    · refine Ok2.lneg (by simp (disch := omega) only [lI0, lI1, lI2, lI3, lI4, lI5, lI7, lI8, lI9, lI10, lI11, lI12, lI15, lI16, lI17, lI20, lI24, lI32, lI33, lI40, lI63, lI64, lI80, lI82, lI101, lI110, lI115, lI251, lI255, lI256, lI384, lI16384, lI20000, lI32768, lI49152, lI65535, nI_add, pk_mul, pk_sub, pk_div, nI_leI, nI_ltI, nI_eq] <;> omega) (Ok2.rneg (by simp (disch := omega) only [lI0, lI1, lI2, lI3, lI4, lI5, lI7, lI8, lI9, lI10, lI11, lI12, lI15, lI16, lI17, lI20, lI24, lI32, lI33, lI40, lI63, lI64, lI80, lI82, lI101, lI110, lI115, lI251, lI255, lI256, lI384, lI16384, lI20000, lI32768, lI49152, lI65535, nI_add, pk_mul, pk_sub, pk_div, nI_leI, nI_ltI, nI_eq] <;> omega) ?_)
      refine Ok2.rjn (fun _ => True) (fun k2 hk2 => ?_) ?_
      · by_cases h0 : wanted ≤ nI (k + 1)
        · exact Ok2.rpos h0 (hk2 _ trivial)
        · exact Ok2.rneg h0 (hk2 _ trivial)
      intro s6 _
      have hR3 : RR start len (B + 16 + 8 * k) x28 x29 x30 x31 x32 y15 y16 y17 y18 y19 y20 := hR2
      refine Ok2.bind _ (ok_take (x := (8 : Int32) + nI (k + 1)) (bit := s6) hs hs2 hn hcy hR3 (by omega) (Or.inl ⟨8 + (k + 1), by omega, nI_add 8 (k + 1)⟩)) ?_
      rintro ⟨m0, m1, m2, m3, m4, m5⟩ ⟨k0, k1, k2, k3, k4, k5, k6⟩ ⟨v3, hv3, e1, e2, hR4⟩
      dsimp only at e1 e2 hR4 ⊢
      subst e1 e2
      by_cases h3 : v3 = 1
      · subst h3
        exact Ok2.lpos rfl (Ok2.rpos rfl (Ok2.lbnd (Ok2.rbnd (K _ _ hc ⟨(by first | (simp (disch := omega) only [lI0, lI1, lI2, lI3, lI4, lI5, lI7, lI8, lI9, lI10, lI11, lI12, lI15, lI16, lI17, lI20, lI24, lI32, lI33, lI40, lI63, lI64, lI80, lI82, lI101, lI110, lI115, lI251, lI255, lI256, lI384, lI16384, lI20000, lI32768, lI49152, lI65535, nI_add, pk_mul, pk_sub, pk_div] <;> (apply congrArg nI; omega)) | rfl), (by first | (simp (disch := omega) only [lI0, lI1, lI2, lI3, lI4, lI5, lI7, lI8, lI9, lI10, lI11, lI12, lI15, lI16, lI17, lI20, lI24, lI32, lI33, lI40, lI63, lI64, lI80, lI82, lI101, lI110, lI115, lI251, lI255, lI256, lI384, lI16384, lI20000, lI32768, lI49152, lI65535, nI_add, pk_mul, pk_sub, pk_div] <;> (apply congrArg nI; omega)) | rfl), hR4⟩))))
      · have h4 : v3 = 0 := by omega
        subst h4
        exact Ok2.lneg (by decide) (Ok2.rneg (by decide) (Ok2.some ⟨k + 1, by omega, by omega, rfl, rfl, RR_mono hR4 (by omega)⟩))
    · have hk2 : k = 11 := by omega
      subst hk2
      exact Ok2.lpos (by simp (disch := omega) only [lI0, lI1, lI2, lI3, lI4, lI5, lI7, lI8, lI9, lI10, lI11, lI12, lI15, lI16, lI17, lI20, lI24, lI32, lI33, lI40, lI63, lI64, lI80, lI82, lI101, lI110, lI115, lI251, lI255, lI256, lI384, lI16384, lI20000, lI32768, lI49152, lI65535, nI_add, pk_mul, pk_sub, pk_div, nI_leI, nI_ltI, nI_eq] <;> omega) (Ok2.rpos (by simp (disch := omega) only [lI0, lI1, lI2, lI3, lI4, lI5, lI7, lI8, lI9, lI10, lI11, lI12, lI15, lI16, lI17, lI20, lI24, lI32, lI33, lI40, lI63, lI64, lI80, lI82, lI101, lI110, lI115, lI251, lI255, lI256, lI384, lI16384, lI20000, lI32768, lI49152, lI65535, nI_add, pk_mul, pk_sub, pk_div, nI_leI, nI_ltI, nI_eq] <;> omega) (Ok2.some ⟨12, by decide, by decide, rfl, rfl, hR2⟩))
  rintro ⟨x27, x28, x29, x30, x31, x32⟩ ⟨y14, y15, y16, y17, y18, y19, y20⟩ ⟨d, hd1, hd2, e1, e2, hR2⟩
  dsimp only at e1 e2 ⊢
  subst e1 e2
  refine Ok2.rbnd ?_
  have hix : nI d - (2 : Int32) = ix (d - 1) := by
    unfold ix
    by_cases h1 : d - 1 = 0
    · rw [if_pos h1, show d = 1 from by omega]
      decide
    · rw [if_neg h1]
      (first | (simp (disch := omega) only [lI0, lI1, lI2, lI3, lI4, lI5, lI7, lI8, lI9, lI10, lI11, lI12, lI15, lI16, lI17, lI20, lI24, lI32, lI33, lI40, lI63, lI64, lI80, lI82, lI101, lI110, lI115, lI251, lI255, lI256, lI384, lI16384, lI20000, lI32768, lI49152, lI65535, nI_add, pk_mul, pk_sub, pk_div] <;> (apply congrArg nI; omega)) | rfl)
  rw [hix]
  refine Ok2.bind (fun o45 o38 => o38.1 = o45.1 ∧ RRt start len (B + 200) o45.2 o38.2) (Ok2.fix (fun k x y => y.1 = x.1 ∧ x.2.1 = nI (1 + k) ∧ y.2.1 = ix (d - 1 - k) ∧ RRt start len (B + 104 + 8 * k) x.2.2 y.2.2) (d - 1) (by omega) ⟨rfl, rfl, rfl, hR2⟩ ?_) ?_
  · rintro k ⟨x38, x39, v40, v41, v42, v43, g44⟩ ⟨z30, z31, w32, w33, w34, w35, g36, g37⟩ s4 s5 hk ⟨h1, h2, h3, hR3⟩ K
    dsimp only at h1 h2 h3 ⊢
    subst h1 h2 h3
    have hR4 : RR start len (B + 104 + 8 * k) v40 v41 v42 v43 g44 w32 w33 w34 w35 g36 g37 := hR3
    by_cases hc : k < d - 1
    · obtain ⟨i, hi⟩ : ∃ i, d - 1 - k = i + 1 := ⟨d - 1 - k - 1, by omega⟩
      rw [hi]
      have hii : ix (i + 1) = nI i := rfl
      rw [hii]
      refine Ok2.lneg (by simp (disch := omega) only [lI0, lI1, lI2, lI3, lI4, lI5, lI7, lI8, lI9, lI10, lI11, lI12, lI15, lI16, lI17, lI20, lI24, lI32, lI33, lI40, lI63, lI64, lI80, lI82, lI101, lI110, lI115, lI251, lI255, lI256, lI384, lI16384, lI20000, lI32768, lI49152, lI65535, nI_add, pk_mul, pk_sub, pk_div, nI_leI, nI_ltI, nI_eq] <;> omega) (Ok2.rneg (nI_pos (by omega)) ?_)
      refine Ok2.bind _ (ok_take (x := -1) hs hs2 hn hcy hR4 (by omega) (Or.inr rfl)) ?_
      rintro ⟨m0, m1, m2, m3, m4, m5⟩ ⟨k0, k1, k2, k3, k4, k5, k6⟩ ⟨v3, hv3, e1, e2, hR5⟩
      dsimp only at e1 e2 hR5 ⊢
      subst e1 e2
      refine Ok2.lbnd (Ok2.lbnd (Ok2.rbnd (Ok2.rbnd (K _ _ hc ⟨?_, (by first | (simp (disch := omega) only [lI0, lI1, lI2, lI3, lI4, lI5, lI7, lI8, lI9, lI10, lI11, lI12, lI15, lI16, lI17, lI20, lI24, lI32, lI33, lI40, lI63, lI64, lI80, lI82, lI101, lI110, lI115, lI251, lI255, lI256, lI384, lI16384, lI20000, lI32768, lI49152, lI65535, nI_add, pk_mul, pk_sub, pk_div] <;> (apply congrArg nI; omega)) | rfl), ?_, hR5⟩))))
      · dsimp only
        rw [Int32.mul_comm]
      · dsimp only
        rw [show d - 1 - (k + 1) = i from by omega]
        exact ix_s i
    · have hk2 : d - 1 - k = 0 := by omega
      rw [hk2]
      exact Ok2.lpos (by simp (disch := omega) only [lI0, lI1, lI2, lI3, lI4, lI5, lI7, lI8, lI9, lI10, lI11, lI12, lI15, lI16, lI17, lI20, lI24, lI32, lI33, lI40, lI63, lI64, lI80, lI82, lI101, lI110, lI115, lI251, lI255, lI256, lI384, lI16384, lI20000, lI32768, lI49152, lI65535, nI_add, pk_mul, pk_sub, pk_div, nI_leI, nI_ltI, nI_eq] <;> omega) (Ok2.rpos (by decide) (Ok2.some ⟨rfl, RR_mono hR4 (by omega)⟩))
  · rintro ⟨o1, o2, o3, o4, o5, o6⟩ ⟨k1, k2, k3, k4, k5, k6, k7⟩ ⟨e1, hR3⟩
    dsimp only at e1 ⊢
    subst e1
    by_cases h1 : nI v2 = 1
    · rw [if_pos h1]
      exact Ok2.rpos h1 (Ok2.some ⟨rfl, hR3⟩)
    · rw [if_neg h1]
      exact Ok2.rneg h1 (Ok2.some ⟨rfl, hR3⟩)
set_option maxHeartbeats 4000000 in
/-- a block read -/
theorem ok_blockR {start len nn B : Nat} {stm cy : Nat → Int32} {mb mc mh ml mean : Int32} {ct on ze line one rM work lC mC sC : Nat → Int32} {cc ch cl cp step p0 p1 p2 p3 : Int32} {x y K n top : Nat} (e0 : p0 = nI x) (e1 : p1 = nI y) (e2 : p2 = nI n) (e3 : p3 = nI top) (en : n = 2 ^ K) (hK : K ≤ 3) (hn : n = 4 ∨ n = 8) (hx : x + n ≤ 16) (hy : y + n ≤ 24) (ht : y = top ↔ y % 8 = 0) (htop : top < 24) (hsz : szN sC x y = n)
    (hs : start + len ≤ 20000) (hs2 : start + len ≤ nn) (hnn : nn ≤ 32768) (hcy : ∀ i, i < start + len → cy i = stm i) (h : RR start len B mb mc mh ml ct cc ch cl cp on ze) (hB : B + 16 + 200 * (n * n) + 300 < 2 ^ 20) :
    Ok2 (lf_X9_takeBlock mb mc (nI (start + len)) mh ml mean (nI start) ct line one rM stm work p0 p1 p2 p3 step) (lf_X8_codeBlock_X1 cc (nI (8 * (start + len))) ch cl cp nn cy on ze lC mC sC p0 p1 p2) (fun o k => RR start len (B + 16 + 200 * (n * n)) o.1 o.2.1 o.2.2.1 o.2.2.2.1 o.2.2.2.2.2.1 k.1 k.2.1 k.2.2.1 k.2.2.2.1 k.2.2.2.2.1 k.2.2.2.2.2.1 ∧
      ∃ m lv, m < 4 ∧ k.2.2.2.2.2.2.2 = upd mC (cellN n x y) (nI m) ∧ k.2.2.2.2.2.2.1 = put n x y lv lC ∧ o.2.2.2.2.2.2.2.2.1 = eB K x y step m lv rM) := by
  subst e0 e1 e2 e3
  have hn8 : n ≤ 8 := by omega
  have hn64 : n * n ≤ 64 := Nat.mul_le_mul hn8 hn8
  unfold lf_X9_takeBlock lf_X8_codeBlock_X1
  have hcl := cellN_lt (n := n) (x := x) (y := y) (by omega) (by omega)
  refine Ok2.rE _ (eq_X4_firstCell rfl rfl (by omega) (by omega)) ?_
  rw [hsz]
  refine Ok2.rrd _ rfl hcl (by decide) ?_
  refine Ok2.bind _ (ok_take (x := 1) hs hs2 hnn hcy h (by omega) (Or.inl ⟨1, by decide, rfl⟩)) ?_
  rintro ⟨m0, m1, m2, m3, m4, m5⟩ ⟨k0, k1, k2, k3, k4, k5, k6⟩ ⟨v1, hv1, e1, e2, hR⟩
  dsimp only at e1 e2 hR ⊢
  subst e1 e2
  refine Ok2.lbnd (Ok2.rrd _ rfl hcl (by decide) ?_)
  rw [show (2 : Int32) * nI v1 = nI (2 * v1) from (by first | (simp (disch := omega) only [lI0, lI1, lI2, lI3, lI4, lI5, lI7, lI8, lI9, lI10, lI11, lI12, lI15, lI16, lI17, lI20, lI24, lI32, lI33, lI40, lI63, lI64, lI80, lI82, lI101, lI110, lI115, lI251, lI255, lI256, lI384, lI16384, lI20000, lI32768, lI49152, lI65535, nI_add, pk_mul, pk_sub, pk_div] <;> (apply congrArg nI; omega)) | rfl), show (2 : Int32) + nI (2 * v1) / (2 : Int32) = nI (2 + v1) from (by first | (simp (disch := omega) only [lI0, lI1, lI2, lI3, lI4, lI5, lI7, lI8, lI9, lI10, lI11, lI12, lI15, lI16, lI17, lI20, lI24, lI32, lI33, lI40, lI63, lI64, lI80, lI82, lI101, lI110, lI115, lI251, lI255, lI256, lI384, lI16384, lI20000, lI32768, lI49152, lI65535, nI_add, pk_mul, pk_sub, pk_div] <;> (apply congrArg nI; omega)) | rfl), show (2 : Int32) + nI v1 = nI (2 + v1) from (by first | (simp (disch := omega) only [lI0, lI1, lI2, lI3, lI4, lI5, lI7, lI8, lI9, lI10, lI11, lI12, lI15, lI16, lI17, lI20, lI24, lI32, lI33, lI40, lI63, lI64, lI80, lI82, lI101, lI110, lI115, lI251, lI255, lI256, lI384, lI16384, lI20000, lI32768, lI49152, lI65535, nI_add, pk_mul, pk_sub, pk_div] <;> (apply congrArg nI; omega)) | rfl)]
  refine Ok2.bind _ (ok_take hs hs2 hnn hcy hR (by omega) (Or.inl ⟨2 + v1, by omega, rfl⟩)) ?_
  rintro ⟨m0, m1, m2, m3, m4, m5⟩ ⟨k0, k1, k2, k3, k4, k5, k6⟩ ⟨v2, hv2, e1, e2, hR⟩
  dsimp only at e1 e2 hR ⊢
  subst e1 e2
  refine Ok2.lbnd (Ok2.rwr _ rfl hcl (by decide) ?_)
  rw [show nI (2 * v1) + nI v2 = nI (2 * v1 + v2) from (by first | (simp (disch := omega) only [lI0, lI1, lI2, lI3, lI4, lI5, lI7, lI8, lI9, lI10, lI11, lI12, lI15, lI16, lI17, lI20, lI24, lI32, lI33, lI40, lI63, lI64, lI80, lI82, lI101, lI110, lI115, lI251, lI255, lI256, lI384, lI16384, lI20000, lI32768, lI49152, lI65535, nI_add, pk_mul, pk_sub, pk_div] <;> (apply congrArg nI; omega)) | rfl), show nI v1 * (2 : Int32) + nI v2 = nI (2 * v1 + v2) from (by first | (simp (disch := omega) only [lI0, lI1, lI2, lI3, lI4, lI5, lI7, lI8, lI9, lI10, lI11, lI12, lI15, lI16, lI17, lI20, lI24, lI32, lI33, lI40, lI63, lI64, lI80, lI82, lI101, lI110, lI115, lI251, lI255, lI256, lI384, lI16384, lI20000, lI32768, lI49152, lI65535, nI_add, pk_mul, pk_sub, pk_div] <;> (apply congrArg nI; omega)) | rfl), pk_mul]
  -- the levels
  refine Ok2.bind (fun o k => RR start len (B + 16 + 200 * (n * n)) o.1 o.2.1 o.2.2.1 o.2.2.2.1 o.2.2.2.2.1 k.1 k.2.1 k.2.2.1 k.2.2.2.1 k.2.2.2.2.1 k.2.2.2.2.2.1 ∧ ∃ lv, setP n (p16 x y) lv lC k.2.2.2.2.2.2 ∧ ∀ j, j < n * n → o.2.2.2.2.2 j = fl n lv j)
    (Ok2.runs 64 (by decide) (fun w c => w.1 = nI (n * n) ∧ RR start len (B + 16 + 200 * (n * n)) w.2.1 w.2.2.1 w.2.2.2.1 w.2.2.2.2.1 w.2.2.2.2.2.1 c.1 c.2.1 c.2.2.1 c.2.2.2.1 c.2.2.2.2.1 c.2.2.2.2.2.1 ∧ ∃ lv, setP n (p16 x y) lv lC c.2.2.2.2.2.2 ∧ ∀ j, j < n * n → w.2.2.2.2.2.2 j = fl n lv j) (fun G X hG hX => ?_) ?_) ?_
  · refine Ok.fix (fun i z => z.1 = nI i ∧ ∃ w, Runs G X w (n * i) ∧ w.1 = nI (n * i) ∧ RR start len (B + 16 + 200 * (n * i)) w.2.1 w.2.2.1 w.2.2.2.1 w.2.2.2.2.1 w.2.2.2.2.2.1 z.2.1 z.2.2.1 z.2.2.2.1 z.2.2.2.2.1 z.2.2.2.2.2.1 z.2.2.2.2.2.2.1 ∧ (∀ j, j < n * i → w.2.2.2.2.2.2 j = z.2.2.2.2.2.2.2 (16 * (y + j / n) + (x + j % n))) ∧ ∀ j, (∀ r c, r < n → c < n → j ≠ p16 x y r c) → z.2.2.2.2.2.2.2 j = lC j) n (by omega) ⟨rfl, X, Runs.rf, by rw [hX]; rfl, by rw [hX]; exact hR, fun j hj => absurd hj (by omega), fun j _ => rfl⟩ ?_
    rintro i ⟨x7, v8, v9, v10, v11, g12, g13, g14⟩ self hi ⟨h1, w, hr, h3, hR2, h4, h5⟩ KK
    dsimp only at h1 hR2 h4 h5 ⊢
    subst h1
    by_cases hc : i < n
    · have hni : n * i + n ≤ n * n := by
        rw [← Nat.mul_succ]
        exact Nat.mul_le_mul_left _ hc
      refine Ok.neg (by simp (disch := omega) only [lI0, lI1, lI2, lI3, lI4, lI5, lI7, lI8, lI9, lI10, lI11, lI12, lI15, lI16, lI17, lI20, lI24, lI32, lI33, lI40, lI63, lI64, lI80, lI82, lI101, lI110, lI115, lI251, lI255, lI256, lI384, lI16384, lI20000, lI32768, lI49152, lI65535, nI_add, pk_mul, pk_sub, pk_div, nI_leI, nI_ltI, nI_eq] <;> omega) (Ok.bind (fun c => ∃ w, Runs G X w (n * (i + 1)) ∧ w.1 = nI (n * (i + 1)) ∧ RR start len (B + 16 + 200 * (n * (i + 1))) w.2.1 w.2.2.1 w.2.2.2.1 w.2.2.2.2.1 w.2.2.2.2.2.1 c.1 c.2.1 c.2.2.1 c.2.2.2.1 c.2.2.2.2.1 c.2.2.2.2.2.1 ∧ (∀ j, j < n * (i + 1) → w.2.2.2.2.2.2 j = c.2.2.2.2.2.2 (16 * (y + j / n) + (x + j % n))) ∧ ∀ j, (∀ r c, r < n → c < n → j ≠ p16 x y r c) → c.2.2.2.2.2.2 j = lC j) (Ok.fix (fun k z => z.1 = nI k ∧ ∃ w, Runs G X w (n * i + k) ∧ w.1 = nI (n * i + k) ∧ RR start len (B + 16 + 200 * (n * i + k)) w.2.1 w.2.2.1 w.2.2.2.1 w.2.2.2.2.1 w.2.2.2.2.2.1 z.2.1 z.2.2.1 z.2.2.2.1 z.2.2.2.2.1 z.2.2.2.2.2.1 z.2.2.2.2.2.2.1 ∧ (∀ j, j < n * i + k → w.2.2.2.2.2.2 j = z.2.2.2.2.2.2.2 (16 * (y + j / n) + (x + j % n))) ∧ ∀ j, (∀ r c, r < n → c < n → j ≠ p16 x y r c) → z.2.2.2.2.2.2.2 j = lC j) n (by omega) ⟨rfl, w, hr, h3, hR2, h4, h5⟩ ?_) (fun c hc2 => Ok.bnd (KK _ hc ⟨(by first | (simp (disch := omega) only [lI0, lI1, lI2, lI3, lI4, lI5, lI7, lI8, lI9, lI10, lI11, lI12, lI15, lI16, lI17, lI20, lI24, lI32, lI33, lI40, lI63, lI64, lI80, lI82, lI101, lI110, lI115, lI251, lI255, lI256, lI384, lI16384, lI20000, lI32768, lI49152, lI65535, nI_add, pk_mul, pk_sub, pk_div] <;> (apply congrArg nI; omega)) | rfl), hc2⟩)))
      rintro k ⟨x18, v19, v20, v21, v22, g23, g24, g26⟩ self2 hk ⟨h6, ⟨y1, y2, y3, y4, y5, y6, y7⟩, hr2, h7, hR3, h8, h9⟩ K2
      dsimp only at h6 h7 h8 h9 hR3 ⊢
      subst h6 h7
      by_cases hc2 : k < n
      · obtain ⟨d1, d2, d3⟩ := dr_nI hn8 hc hc2
        refine Ok.neg (by simp (disch := omega) only [lI0, lI1, lI2, lI3, lI4, lI5, lI7, lI8, lI9, lI10, lI11, lI12, lI15, lI16, lI17, lI20, lI24, lI32, lI33, lI40, lI63, lI64, lI80, lI82, lI101, lI110, lI115, lI251, lI255, lI256, lI384, lI16384, lI20000, lI32768, lI49152, lI65535, nI_add, pk_mul, pk_sub, pk_div, nI_leI, nI_ltI, nI_eq] <;> omega) (Ok.bnd ?_)
        rw [show (nI y + nI i) * (16 : Int32) + nI x + nI k = nI (16 * (y + i) + (x + k)) from (by first | (simp (disch := omega) only [lI0, lI1, lI2, lI3, lI4, lI5, lI7, lI8, lI9, lI10, lI11, lI12, lI15, lI16, lI17, lI20, lI24, lI32, lI33, lI40, lI63, lI64, lI80, lI82, lI101, lI110, lI115, lI251, lI255, lI256, lI384, lI16384, lI20000, lI32768, lI49152, lI65535, nI_add, pk_mul, pk_sub, pk_div] <;> (apply congrArg nI; omega)) | rfl)]
        refine Ok.bindE _ (eq_levelContext (lv := fun r c => g26 (16 * (y + r) + (x + c))) hx hy hc hc2 (fun r c _ _ => rfl)) ?_
        refine Ok.rd _ rfl (by omega) (by decide) ?_
        obtain ⟨m2, c2, em, ec, hk0, hR4⟩ := ok_levelR (p1 := g26 (16 * (y + i) + (x + k))) hs hs2 hnn hcy hR3 (by omega) (ctxS_lt (lv := fun r c => g26 (16 * (y + r) + (x + c))) (r := i) (c := k))
        refine Ok.bindE _ ec ?_
        rw [hk0]
        refine Ok.wr _ rfl (by omega) (by decide) (Ok.bnd ?_)
        have hR5 : RR start len (B + 16 + 200 * (n * i + k) + 200) m2.2.1 m2.2.2.1 m2.2.2.2.1 m2.2.2.2.2.1 m2.2.2.2.2.2 c2.2.1 c2.2.2.1 c2.2.2.2.1 c2.2.2.2.2.1 c2.2.2.2.2.2.1 c2.2.2.2.2.2.2 := hR4
        refine K2 _ hc2 ⟨(by first | (simp (disch := omega) only [lI0, lI1, lI2, lI3, lI4, lI5, lI7, lI8, lI9, lI10, lI11, lI12, lI15, lI16, lI17, lI20, lI24, lI32, lI33, lI40, lI63, lI64, lI80, lI82, lI101, lI110, lI115, lI251, lI255, lI256, lI384, lI16384, lI20000, lI32768, lI49152, lI65535, nI_add, pk_mul, pk_sub, pk_div] <;> (apply congrArg nI; omega)) | rfl), (nI (n * i + (k + 1)), m2.2.1, m2.2.2.1, m2.2.2.2.1, m2.2.2.2.2.1, m2.2.2.2.2.2, upd (upd y7 (n * i + k) 0) (n * i + k) m2.1), Runs.snoc hr2 (fun self3 => ?_), rfl, RR_mono hR5 (by omega), fun j hj => ?_, fun j hj => ?_⟩
        · rw [hG]
          dsimp only
          rw [if_neg (by (simp (disch := omega) only [lI0, lI1, lI2, lI3, lI4, lI5, lI7, lI8, lI9, lI10, lI11, lI12, lI15, lI16, lI17, lI20, lI24, lI32, lI33, lI40, lI63, lI64, lI80, lI82, lI101, lI110, lI115, lI251, lI255, lI256, lI384, lI16384, lI20000, lI32768, lI49152, lI65535, nI_add, pk_mul, pk_sub, pk_div, nI_leI, nI_ltI, nI_eq] <;> omega)), wr_nI d3 (by decide)]
          dsimp only [Option.bind]
          rw [eq_contextOf (one := upd y7 (n * i + k) 0) (lv := fun r c => g26 (16 * (y + r) + (x + c))) hn8 hc hc2 (fun j hj => by rw [upd_ne (by omega)]; exact h8 j hj)]
          dsimp only [Option.bind]
          refine (tk_step (j := n * i + k) d3 upd_eq em).trans ?_
          dsimp only [bnd]
          rw [nI_1]
          rfl
        · dsimp only
          by_cases h10 : j = n * i + k
          · rw [h10, upd_eq, Nat.mul_add_div (by omega), Nat.div_eq_of_lt hc2, Nat.add_zero, Nat.mul_add_mod, Nat.mod_eq_of_lt hc2, upd_eq]
          · have hjd : j / n < n := Nat.div_lt_of_lt_mul (by omega)
            have hjm : j % n < n := Nat.mod_lt _ (by omega)
            have hjj := Nat.div_add_mod j n
            rw [upd_ne h10, upd_ne h10, upd_ne (fun h11 => h10 ?_)]
            · exact h8 j (by omega)
            · have h12 : j / n = i ∧ j % n = k := by omega
              rw [← hjj, h12.1, h12.2]
        · dsimp only
          rw [upd_ne (fun h10 => hj i k hc hc2 (by unfold p16; omega))]
          exact h9 j hj
      · have hk2 : k = n := by omega
        subst hk2
        exact Ok.pos (by simp (disch := omega) only [lI0, lI1, lI2, lI3, lI4, lI5, lI7, lI8, lI9, lI10, lI11, lI12, lI15, lI16, lI17, lI20, lI24, lI32, lI33, lI40, lI63, lI64, lI80, lI82, lI101, lI110, lI115, lI251, lI255, lI256, lI384, lI16384, lI20000, lI32768, lI49152, lI65535, nI_add, pk_mul, pk_sub, pk_div, nI_leI, nI_ltI, nI_eq] <;> omega) (Ok.some ⟨_, hr2, rfl, hR3, h8, h9⟩)
    · have hi2 : i = n := by omega
      subst hi2
      refine Ok.pos (by simp (disch := omega) only [lI0, lI1, lI2, lI3, lI4, lI5, lI7, lI8, lI9, lI10, lI11, lI12, lI15, lI16, lI17, lI20, lI24, lI32, lI33, lI40, lI63, lI64, lI80, lI82, lI101, lI110, lI115, lI251, lI255, lI256, lI384, lI16384, lI20000, lI32768, lI49152, lI65535, nI_add, pk_mul, pk_sub, pk_div, nI_leI, nI_ltI, nI_eq] <;> omega) (Ok.some ⟨w, i * i, hn64, hr, h3, hR2, fun r c => g14 (16 * (y + r) + (x + c)), ⟨fun r c _ _ => by rw [show p16 x y r c = 16 * (y + r) + (x + c) from by unfold p16; omega], h5⟩, h4⟩)
  · rintro ⟨y1, y2, y3, y4, y5, y6, y7⟩ c ⟨h1, h2, h3⟩
    dsimp only at h1 h2 h3
    subst h1
    exact ⟨(y2, y3, y4, y5, y6, y7), fun self => if_pos (by (simp (disch := omega) only [lI0, lI1, lI2, lI3, lI4, lI5, lI7, lI8, lI9, lI10, lI11, lI12, lI15, lI16, lI17, lI20, lI24, lI32, lI33, lI40, lI63, lI64, lI80, lI82, lI101, lI110, lI115, lI251, lI255, lI256, lI384, lI16384, lI20000, lI32768, lI49152, lI65535, nI_add, pk_mul, pk_sub, pk_div, nI_leI, nI_ltI, nI_eq] <;> omega)), h2, h3⟩
  rintro ⟨o1, o2, o3, o4, o5, o6⟩ ⟨k1, k2, k3, k4, k5, k6, k7⟩ ⟨hR2, lv, hset, hone⟩
  dsimp only at hR2 hset hone ⊢
  refine Ok2.l (fun g => agr n n g lv) (Ok.fix (fun k z => z.1 = nI k ∧ ∀ j, j < k → z.2 j = fl n lv j) (n * n) (by omega) ⟨rfl, fun j hj => absurd hj (by omega)⟩ ?_) ?_
  · rintro k ⟨z1, z2⟩ self hk ⟨h1, h2⟩ K2
    dsimp only at h1 h2 ⊢
    subst h1
    by_cases hc : k < n * n
    · refine Ok.neg (by simp (disch := omega) only [lI0, lI1, lI2, lI3, lI4, lI5, lI7, lI8, lI9, lI10, lI11, lI12, lI15, lI16, lI17, lI20, lI24, lI32, lI33, lI40, lI63, lI64, lI80, lI82, lI101, lI110, lI115, lI251, lI255, lI256, lI384, lI16384, lI20000, lI32768, lI49152, lI65535, nI_add, pk_mul, pk_sub, pk_div, nI_leI, nI_ltI, nI_eq] <;> omega) (Ok.rd k rfl (by omega) (by decide) (Ok.wr k rfl (by omega) (by decide) (Ok.bnd (K2 _ hc ⟨(by first | (simp (disch := omega) only [lI0, lI1, lI2, lI3, lI4, lI5, lI7, lI8, lI9, lI10, lI11, lI12, lI15, lI16, lI17, lI20, lI24, lI32, lI33, lI40, lI63, lI64, lI80, lI82, lI101, lI110, lI115, lI251, lI255, lI256, lI384, lI16384, lI20000, lI32768, lI49152, lI65535, nI_add, pk_mul, pk_sub, pk_div] <;> (apply congrArg nI; omega)) | rfl), fun j hj => ?_⟩))))
      dsimp only
      by_cases h3 : j = k
      · rw [h3, upd_eq, hone k hc]
      · rw [upd_ne h3]
        exact h2 j (by omega)
    · have hk2 : k = n * n := by omega
      subst hk2
      exact Ok.pos (by simp (disch := omega) only [lI0, lI1, lI2, lI3, lI4, lI5, lI7, lI8, lI9, lI10, lI11, lI12, lI15, lI16, lI17, lI20, lI24, lI32, lI33, lI40, lI63, lI64, lI80, lI82, lI101, lI110, lI115, lI251, lI255, lI256, lI384, lI16384, lI20000, lI32768, lI49152, lI65535, nI_add, pk_mul, pk_sub, pk_div, nI_leI, nI_ltI, nI_eq] <;> omega) (Ok.some (fl_agr h2))
  intro wk hwk
  subst en
  refine Ok2.l _ (ok_X9_rebuild (step := step) (lev := lv) (m := 2 * v1 + v2) rfl rfl rfl rfl rfl hK hn hx hy (by omega) ht htop nL_at nU_at hwk) ?_
  rintro ⟨r1, r2, r3, r4⟩ ⟨-, hr3⟩
  exact Ok2.some ⟨hR2, 2 * v1 + v2, lv, by omega, rfl, setP_put hx hset, setP_put hx hr3⟩
