/-! ===== the ratio, both sides ===== -/
def ratR (kind fsz cdH cdW rs rp : Int32) : Prop := (kind = 0 ∧ rp = 0) ∨ (kind ≠ 0 ∧ ∃ w h sz, 1 ≤ w ∧ w ≤ 16 ∧ 1 ≤ h ∧ h ≤ 24 ∧ cdW = nI w ∧ cdH = nI h ∧ fsz = nI sz ∧ rs = nI sz ∧ rp = nI (3 + w * h))
theorem okc_ratio {kind fsz cdH cdW rs rp thr : Int32} (hL : ratR kind fsz cdH cdW rs rp) : Ok2 (lf_X9_ratio cdH cdW fsz kind thr) (lf_X8_ratio rp rs) (fun o k => (k = .inl 3 ∧ o.2 = 1) ∨ ∃ v, k = .inr v ∧ o = (v, 0) ∧ v.toNat % 2147483648 ≤ 2139095040) := by
  unfold lf_X9_ratio lf_X8_ratio
  rcases hL with ⟨rfl, rfl⟩ | ⟨hk, w, h, sz, h1, h2, h3, h4, rfl, rfl, rfl, rfl, rfl⟩
  · exact Ok2.ljnI (Ok2.lpos rfl (Ok2.lpos rfl (Ok2.rpos rfl (Ok2.some (Or.inl ⟨rfl, rfl⟩)))))
  · have hwh : w * h ≤ 16 * 24 := Nat.mul_le_mul h2 h4
    have e : (3 : Int32) + nI w * nI h = nI (3 + w * h) := by
      rw [pk_mul]
      exact nI_add 3 (w * h)
    rw [e]
    have g := fl_div (a := sz) (b := 3 + w * h) (by omega) (by omega)
    exact Ok2.ljnI (Ok2.lneg hk (Ok2.lneg hk (Ok2.lpos g (Ok2.rneg (by simp (disch := omega) only [lI0, lI1, lI2, lI3, lI4, lI5, lI7, lI8, lI9, lI10, lI11, lI12, lI15, lI16, lI17, lI20, lI24, lI32, lI33, lI40, lI63, lI64, lI80, lI82, lI101, lI110, lI115, lI251, lI255, lI256, lI384, lI16384, lI20000, lI32768, lI49152, lI65535, nI_add, pk_mul, pk_sub, pk_div, nI_leI, nI_ltI, nI_eq] <;> omega) (Ok2.rpos g (Ok2.some (Or.inr ⟨_, rfl, rfl, g⟩)))))))
