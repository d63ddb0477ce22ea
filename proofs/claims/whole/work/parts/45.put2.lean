/-! ===== one bit of a part, on both sides ===== -/
set_option maxHeartbeats 2000000 in
theorem ok_put {start B w : Nat} {s0 : Nat → Int32} {mb mh ml mp x : Int32} {ct st by1 on ze : Nat → Int32} {cb ch cl cp : Int32} {v : Nat} (hs : start + 2048 ≤ 20000) (h : WR start B s0 mb mh ml mp ct st cb ch cl cp by1 on ze) (hB : B + 10 < 16384) (hv : v < 2) (hx : (∃ c, c < 20 ∧ x = nI c ∧ w = 7) ∨ x = -1 ∧ w = 2) :
    Ok2 (lf_X9_put mb mh ml mp (nI start) ct st x (nI v)) (lf_X0_code_X2 cb ch cl cp by1 on ze (nI v) x) (fun m k => k.1 = nI v ∧ WR start (B + w) s0 m.1 m.2.1 m.2.2.1 m.2.2.2.1 m.2.2.2.2.1 m.2.2.2.2.2 k.2.1 k.2.2.1 k.2.2.2.1 k.2.2.2.2.1 k.2.2.2.2.2.1 k.2.2.2.2.2.2.1 k.2.2.2.2.2.2.2) := by
  obtain ⟨b, h, l, p, rfl, rfl, rfl, rfl, rfl, rfl, rfl, rfl, hI, hC, hw, hfr, hbd⟩ := h
  obtain ⟨i1, i2, i3, i4, i5⟩ := hI
  -- the counts, and how far the interval shrinks
  have hctx : ∃ a1 b1, ctxP x ct ze on a1 b1 ∧ 1 ≤ a1 ∧ 1 ≤ b1 ∧ a1 + b1 ≤ 64 ∧ (w = 7 ∨ w = 2 ∧ a1 = 1 ∧ b1 = 1) := by
    rcases hx with ⟨c, hc, rfl, rfl⟩ | ⟨rfl, rfl⟩
    · obtain ⟨a1, b1, e1, e2, e3, e4, e5, e6, e7⟩ := hC c hc
      exact ⟨a1, b1, Or.inl ⟨c, hc, rfl, e1, e2, e3, e4⟩, e5, e6, e7, Or.inl rfl⟩
    · exact ⟨1, 1, Or.inr ⟨rfl, rfl, rfl⟩, by decide, by decide, by decide, Or.inr ⟨rfl, rfl, rfl⟩⟩
  obtain ⟨a1, b1, hcx, ha1, hb1, hab, hww⟩ := hctx
  obtain ⟨q1, q2⟩ := spl_bd (l := l) (h := h) ha1 hb1 hab
  have hq2 : w = 7 ∨ w = 2 ∧ spl l h a1 b1 = (h - l + 1) / 2 := by
    rcases hww with e | ⟨e1, rfl, rfl⟩
    · exact Or.inl e
    · exact Or.inr ⟨e1, spl_1⟩
  have hq : 1 ≤ spl l h a1 b1 := by omega
  have hR : 16386 ≤ h - l + 1 := by omega
  -- the interval behind the bit
  obtain ⟨l1, h1, hl1, hnar, hnar2⟩ : ∃ l1 h1, (l1 ≤ h1 ∧ h1 < 65536 ∧ (h - l + 1) / 64 ≤ h1 - l1 + 1 ∧ (w = 7 ∨ w = 2 ∧ (h - l + 1) / 2 ≤ h1 - l1 + 1)) ∧ lf_X9_narrows (nI h) (nI l) (nI (l + spl l h a1 b1 - 1)) (nI v) = some (nI h1, nI l1) ∧ (if nI v = 0 then (nI (l + spl l h a1 b1 - 1), nI l) else (nI h, nI (l + spl l h a1 b1 - 1) + 1)) = (nI h1, nI l1) := by
    have hv2 : v = 0 ∨ v = 1 := by omega
    rcases hv2 with rfl | rfl
    · exact ⟨l, l + spl l h a1 b1 - 1, ⟨by omega, by omega, by omega, by omega⟩, rfl, rfl⟩
    · have e : nI (l + spl l h a1 b1 - 1) + 1 = nI (l + spl l h a1 b1) := by
        rw [nI_1]
        exact congrArg nI (by omega)
      refine ⟨l + spl l h a1 b1, h, ⟨by omega, by omega, by omega, by omega⟩, ?_, ?_⟩
      · show some (nI h, nI (l + spl l h a1 b1 - 1) + 1) = _
        rw [e]
      · rw [if_neg (by decide), e]
  obtain ⟨n1, n2, n3, n4⟩ := hl1
  have hu1 : phi l h = if h - l + 1 < 32768 then 1 else 0 := rfl
  have hT2 : b + p + 9 < 16384 := by omega
  unfold lf_X9_put lf_X0_code_X2
  refine Ok2.lE _ (eq_X9_splitPlace hcx i1 i2 ha1 hb1 hab hq) ?_
  refine Ok2.rE _ (eq_X0_splitFor_X2 hcx i1 i2 ha1 hb1 hab hq) ?_
  refine Ok2.lE _ hnar (Ok2.rE _ rfl ?_)
  refine Ok2.rjn (fun z => z = (nI h1, nI l1)) (fun k hk => ?_) ?_
  · by_cases hv0 : nI v = 0
    · rw [if_pos hv0] at hnar2
      exact Ok2.rpos hv0 (hk _ hnar2)
    · rw [if_neg hv0] at hnar2
      exact Ok2.rneg hv0 (hk _ hnar2)
  rintro z rfl
  refine Ok2.bind _ (ok_learn_X2 hC hcx ha1 hb1 hab hv) ?_
  rintro ct2 ⟨on2, ze2⟩ hC2
  dsimp only at hC2 ⊢
  refine Ok2.lE _ (eq_X9_offset (by omega) (by omega)) (Ok2.rE _ (eq_nextOffset_X2 (by omega) (by omega)) ?_)
  refine Ok2.bind _ (ok_norm (start := start) (T := b + p) (r := h1 - l1 + 1) (s0 := s0) hs n1 n2 rfl (by omega) rfl hT2 hw hfr rfl rfl) ?_
  rintro ⟨m1, m2, m3, m4, m5⟩ ⟨c1, c2, c3, c4, c5⟩ ⟨b2, h2, l2, p2, k, rfl, rfl, rfl, rfl, rfl, rfl, rfl, rfl, hI2, hR2, hk8, hT, hw2, hfr2⟩
  dsimp only at hR2 hT hw2 hfr2 ⊢
  refine Ok2.some ⟨rfl, b2, h2, l2, p2, rfl, rfl, rfl, rfl, rfl, rfl, rfl, rfl, hI2, hC2, hw2, hfr2, ?_⟩
  obtain ⟨j1, j2, j3, j4, j5⟩ := hI2
  have hu2 : phi l2 h2 = if h2 - l2 + 1 < 32768 then 1 else 0 := rfl
  have hk9 : k = 0 ∨ k = 1 ∨ k = 2 ∨ k = 3 ∨ k = 4 ∨ k = 5 ∨ k = 6 ∨ k = 7 ∨ k = 8 := by omega
  rw [hu2]
  rw [hu1] at hbd
  split at hbd <;> split <;> rcases hk9 with rfl | rfl | rfl | rfl | rfl | rfl | rfl | rfl | rfl <;> simp only [Nat.reducePow] at hR2 <;> omega
theorem WR_mono {start B C : Nat} {s0 : Nat → Int32} {mb mh ml mp : Int32} {ct st by1 on ze : Nat → Int32} {cb ch cl cp : Int32} (h : WR start B s0 mb mh ml mp ct st cb ch cl cp by1 on ze) (hc : B ≤ C) : WR start C s0 mb mh ml mp ct st cb ch cl cp by1 on ze := by
  obtain ⟨b, h, l, p, h1, h2, h3, h4, h5, h6, h7, h8, hI, hC, hw, hfr, hbd⟩ := h
  exact ⟨b, h, l, p, h1, h2, h3, h4, h5, h6, h7, h8, hI, hC, hw, hfr, by omega⟩
