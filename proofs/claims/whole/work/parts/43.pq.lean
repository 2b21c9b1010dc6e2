section zPQ
variable {n m i : zP} {cf cf1 : Nat → Int32} {ca ca1 : Nat → Nat → Int32} {f f1 : Nat → Int32} {ar a1 : Nat → Nat → Int32}
/-- the letters kept, of both sides -/
def tp (cf : Nat → Int32) (ca : Nat → Nat → Int32) (T : Nat → Int32) (L : Nat) : Prop := L ≤ 96 ∧ cf 2 = nI L ∧ (∀ r : Nat, r < L → ca 33 r = T r ∧ ∃ k : Nat, k < 256 ∧ T r = nI k) ∧ ∀ r : Nat, r < 1000 → L ≤ r → T r = -1
theorem tp_I (hI : Inv n i cf ca f ar) : ∃ L : Nat, tp cf ca (tT f ar) L ∧ f 17 = nI L := by
  obtain ⟨e17, hb, -, hn⟩ := hI.2.2.1
  obtain ⟨L, hL, eL⟩ := bt_nI (hi := 96) hb (by omega)
  have e : f 17 = nI L := e17.symm.trans eL
  refine ⟨L, ⟨hL, eL, fun r hr => ?_, fun r h1 hr => ?_⟩, e⟩
  · obtain ⟨q1, q2⟩ := hn r (by rw [eL, nI_toInt (by omega)]; omega)
    have e1 : tT f ar r = ar 13 r := by
      unfold tT
      rw [e, if_neg (by rw [Int32.le_iff_toInt_le, nI_toInt (by omega), nI_toInt (by omega)]; omega)]
    obtain ⟨k, hk, ek⟩ := bt_nI (hi := 255) q2 (by omega)
    exact ⟨q1.trans e1.symm, k, by omega, e1.trans (q1.symm.trans ek)⟩
  · unfold tT
    rw [e, if_pos (by rw [Int32.le_iff_toInt_le, nI_toInt (by omega), nI_toInt (by omega)]; omega)]
theorem sg_in {T : Nat → Int32} {L r : Nat} (h : tp cf ca T L) (hr : r < L) : sX5_signAt cf ca (nI r) = T r := by
  obtain ⟨h1, h2, h3, -⟩ := h
  unfold sX5_signAt
  rw [h2, if_neg (by rw [Int32.lt_iff_toInt_lt, i0, nI_toInt (by omega)]; omega), if_neg (by rw [Int32.le_iff_toInt_le, nI_toInt (by omega), nI_toInt (by omega)]; omega), if_neg (by rw [Int32.le_iff_toInt_le, nI_toInt (by omega), show (96 : Int32).toInt = 96 by decide]; omega), nI_clamp (by omega)]
  exact (h3 r hr).1
theorem sg_out {T : Nat → Int32} {L r : Nat} (h : tp cf ca T L) (hr : L ≤ r) (h2 : r < 1000) : sX5_signAt cf ca (nI r) = 0 := by
  unfold sX5_signAt
  rw [h.2.1, if_neg (by rw [Int32.lt_iff_toInt_lt, i0, nI_toInt (by omega)]; omega), if_pos (by have := h.1; rw [Int32.le_iff_toInt_le, nI_toInt (by omega), nI_toInt (by omega)]; omega)]
theorem fi_a : ∀ k : Nat, k < 256 → sX5_fits 35 (nI k) = cD (nI k) ∧ sX5_fits 43 (nI k) = cS (nI k) ∧ sX5_fits 68 (nI k) = cK (nI k) ∧ sX5_fits 80 (nI k) = cP (nI k) ∧ sX5_fits 82 (nI k) = cR (nI k) ∧ sX5_fits 59 (nI k) = cE (nI k) := by decide +kernel
theorem kd_a : ∀ k : Nat, k < 256 → (0 ≤ sX7_personOf (nI k) → ix1 (nI k) = sX7_personOf (nI k)) ∧ (0 ≤ sX7_driftOf (nI k) → ix2 (nI k) = sX7_driftOf (nI k)) ∧ (0 ≤ sX7_ruleOf (nI k) → ix3 (nI k) = sX7_ruleOf (nI k)) := by decide +kernel
theorem fi_out : cD (-1) = false ∧ cS (-1) = false ∧ cK (-1) = false ∧ cP (-1) = false ∧ cR (-1) = false ∧ cE (-1) = false := by decide +kernel
end zPQ
