section zPL
variable {n m i : zP} {cf cf1 : Nat → Int32} {ca ca1 : Nat → Nat → Int32} {f f1 : Nat → Int32} {ar a1 : Nat → Nat → Int32}
theorem held_0 (x : Int32) : sX6_held x 0 99 = if 0 ≤ x then (if x ≤ 99 then x else 99) else 0 := by
  unfold sX6_held sMax sMin
  have e2 : (99 : Int32).toInt = 99 := by decide
  simp only [Int32.lt_iff_toInt_lt, Int32.le_iff_toInt_le]
  by_cases h1 : x.toInt < (99 : Int32).toInt
  · rw [if_pos h1]
    by_cases h2 : (0 : Int32).toInt < x.toInt
    · rw [if_pos h2, if_pos (by omega), if_pos (by omega)]
    · rw [if_neg h2]
      by_cases h3 : (0 : Int32).toInt ≤ x.toInt
      · rw [if_pos h3, if_pos (by omega)]
        exact int_ext (by omega)
      · rw [if_neg h3]
  · rw [if_neg h1, if_pos (by decide)]
    rw [if_pos (by rw [i0]; omega)]
    by_cases h3 : x.toInt ≤ (99 : Int32).toInt
    · rw [if_pos h3]
      exact int_ext (by omega)
    · rw [if_neg h3]
theorem st_fo {a : Nat} (ha : a < 1000) : stX7_firstOther f1 a1 a = if sX6_held (a1 26 a + 50) 0 99 = a1 34 a then .inr () else .inl (nI a) := by
  unfold stX7_firstOther
  rw [nI_clamp (by omega), held_0]
  generalize a1 26 a + 50 = y
  generalize a1 34 a = z
  by_cases c : 0 ≤ y
  · rw [if_pos c, if_pos c]
  · rw [if_neg c, if_neg c]
theorem fu_it : ∀ (j a b g : Nat) (s : zS) (f : Nat → Int32) (ar : Nat → Nat → Int32), SR true s.1 s.2.1 s.2.2 f ar → SB g s.1 s.2.2 → g + j ≤ 240 → a + j ≤ 240 → (∀ q : Nat, q < j → a1 26 (a + q) = (itX7_goes (q + 1) b f ar).2 1 0) → (∀ q : Nat, q < a + j → s.2.2 34 q = a1 34 q) → (itX6_firstUnlike j a s.1 s.2.1 s.2.2).1 = itX7_firstOther f1 a1 j a ∧ ck s.2.1 s.2.2 (itX6_firstUnlike j a s.1 s.2.1 s.2.2).2.2.1 (itX6_firstUnlike j a s.1 s.2.1 s.2.2).2.2.2
  | 0, a, b, g, s, f, ar, _, _, _, _, _, _ => ⟨rfl, ck.rf⟩
  | j + 1, a, b, g, s, f, ar, h, hB, hg, ha, hp, hr => by
    obtain ⟨k1, k2⟩ := h.step hB (by omega)
    have hc : ck s.2.1 s.2.2 (mpass true 1 s).2.1 (mpass true 1 s).2.2 := ck_pass
    have em : mpass true 1 s = mstep true s := rfl
    have k3 : (mpass true 1 s).1.1 0 = a1 26 a := by
      have h0 := hp 0 (by omega)
      rw [Nat.add_zero] at h0
      rw [h0, em]
      exact k1.1.1
    have k4 : (mpass true 1 s).2.2 34 a = a1 34 a := by rw [hc.2 34 (by decide) (by decide) (by decide)]; exact hr a (by omega)
    have ih := fu_it j (a + 1) (b + 1) (g + 1) (mpass true 1 s) (sX7_goesOne f ar).1 (sX7_goesOne f ar).2 k1 k2 (by omega) (by omega) (fun q hq => by rw [show a + 1 + q = a + (q + 1) by omega]; exact hp (q + 1) (by omega)) (fun q hq => by rw [hc.2 34 (by decide) (by decide) (by decide)]; exact hr q (by omega))
    have es : stX6_firstUnlike a s.1 s.2.1 s.2.2 = if sX6_held ((mpass true 1 s).1.1 0 + 50) 0 99 = (mpass true 1 s).2.2 34 (nI a).toNatClampNeg then .inr ((mpass true 1 s).1, (mpass true 1 s).2.1, (mpass true 1 s).2.2) else .inl (nI a, (mpass true 1 s).1, (mpass true 1 s).2.1, (mpass true 1 s).2.2) := rfl
    rw [nI_clamp (by omega), k3, k4] at es
    by_cases c : sX6_held (a1 26 a + 50) 0 99 = a1 34 a
    · rw [if_pos c] at es
      have e7 : stX7_firstOther f1 a1 a = .inr () := by rw [st_fo (by omega), if_pos c]
      rw [itX6_firstUnlike_n es, itX7_firstOther_n e7]
      exact ⟨ih.1, hc.tr ih.2⟩
    · rw [if_neg c] at es
      have e7 : stX7_firstOther f1 a1 a = .inl (nI a) := by rw [st_fo (by omega), if_neg c]
      rw [itX6_firstUnlike_r es, itX7_firstOther_r e7]
      exact ⟨rfl, hc⟩
/-- a whole comparing: of the class in mind, and of the reference after a thought -/
theorem fu_th (h : rK true m f ar) {K : Nat} (hK : K ≤ 12) (hc1 : cf 1 = nI K) (hr : ∀ q : Nat, q < K → ca 34 q = a1 34 q) (h35 : f1 35 = nI K) (h26 : a1 26 = (sX7_goes f ar (nI K)).2 26) : (sX6_firstUnlike m (sX0_clear cf ca).1 (sX0_clear cf ca).2).1 = sX7_firstOther f1 a1 ∧ ck cf ca (sX6_firstUnlike m (sX0_clear cf ca).1 (sX0_clear cf ca).2).2.2.1 (sX6_firstUnlike m (sX0_clear cf ca).1 (sX0_clear cf ca).2).2.2.2 := by
  obtain ⟨h1, h2⟩ := h.begin cf ca
  have hk := ck_clear (cf := cf) (ca := ca)
  have h4 := (at_it K 0 0 (sX7_begins f ar).1 (sX7_begins f ar).2 rfl (by omega)).2.2.2
  have := fu_it (f1 := f1) (a1 := a1) K 0 0 0 (m, (sX0_clear cf ca).1, (sX0_clear cf ca).2) (sX7_begins f ar).1 (sX7_begins f ar).2 h1 h2 (by omega) (by omega) (fun q hq => by
    rw [h26, gs_i, nI_clamp (by omega)]
    exact h4 q hq) (fun q hq => by
    dsimp only
    rw [hk.2 34 (by decide) (by decide) (by decide)]
    exact hr q (by omega))
  unfold sX6_firstUnlike sX7_firstOther
  rw [hk.1 1 (by decide) (by decide) (by decide), hc1, h35, nI_clamp (by omega)]
  exact ⟨this.1, hk.tr this.2⟩
theorem Inv.r0 (h : Inv n i cf ca f ar) : Inv n i (upd cf 1 0) ca (upd f 35 0) ar := by
  obtain ⟨h1, h2, h3, h4, h5⟩ := h
  exact ⟨h1, h2, h3, ⟨rfl, ⟨by show 0 ≤ (0 : Int32).toInt; decide, by show (0 : Int32).toInt ≤ 12; decide⟩, fun j hj => absurd (show (j : Int) < (0 : Int32).toInt from hj) (by rw [i0]; omega)⟩, h5⟩
set_option maxRecDepth 100000 in
theorem pu_judge (hI : Inv n i cf ca f ar) : ((sX6_judge n m cf ca).1) = ((sX7_judge f ar).1) ∧ Inv n i ((sX6_judge n m cf ca).2.2.1) ((sX6_judge n m cf ca).2.2.2) ((sX7_judge f ar).2.1) ((sX7_judge f ar).2.2) := by
  obtain ⟨K, hK, eK⟩ := bt_nI (hi := 12) hI.2.2.2.1.2.1 (by omega)
  have e35 : f 35 = nI K := by rw [← hI.2.2.2.1.1]; exact eK
  have hn := hI.2.2.2.1.2.2
  have hx : (nI K).toInt ≤ 240 := by rw [nI_toInt (by omega)]; omega
  have t1 := th_kt (iv_mk hI) hx
  have hf := fu_th (f1 := (sX7_thinks f ar (nI K)).2.1) (a1 := (sX7_thinks f ar (nI K)).2.2) (ca := ca) (cf := cf) hI.1.k hK eK (fun q hq => by rw [t1.2 34 (by omega)]; exact hn q (by rw [eK, nI_toInt (by omega)]; omega)) (by rw [t1.1 35 (by omega)]; exact e35) (th_a (by decide))
  unfold sX6_judge sX7_judge
  rw [e35, show sX6_think n cf ca = (n, (sX0_clear cf ca).1, (sX0_clear cf ca).2) from rfl]
  dsimp only
  generalize sX6_firstUnlike n (sX0_clear cf ca).1 (sX0_clear cf ca).2 = L at hf ⊢
  generalize sX7_thinks f ar (nI K) = Y at t1 hf ⊢
  exact ⟨hf.1, (hI.mind hf.2 t1).r0⟩
end zPL
