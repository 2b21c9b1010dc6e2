section zPO
variable {n m i : zP} {cf cf1 : Nat → Int32} {ca ca1 : Nat → Nat → Int32} {f f1 : Nat → Int32} {ar a1 : Nat → Nat → Int32}
theorem gu_27 : (sX7_getsUp f ar).2 27 = upd (ar 27) (f 28).toNatClampNeg (f 33) := by
  unfold sX7_getsUp
  dsimp only
  rw [up2_eq, tt_k (k := 27) (by decide)]
theorem g1w : ∀ (j a : Nat) (f : Nat → Int32) (ar : Nat → Nat → Int32), (itX7_goesOne j a f ar).1 28 = f 28 ∧ (itX7_goesOne j a f ar).2 27 = ar 27
  | 0, a, f, ar => by
    show (exX7_goesOne a f ar).1 28 = _ ∧ (exX7_goesOne a f ar).2 27 = _
    unfold exX7_goesOne
    dsimp only
    refine ⟨?_, ?_⟩
    · rw [upd_ne (by decide), upd_ne (by decide), upd_ne (by decide), upd_ne (by decide)]
    · rw [up2_ne (by decide)]
  | j + 1, a, f, ar => by
    have ih := g1w j (a + 1) (stX7_goesOne a f ar).1 (stX7_goesOne a f ar).2
    have e1 : (stX7_goesOne a f ar).1 = f := rfl
    have e3 : (stX7_goesOne a f ar).2 27 = ar 27 := by unfold stX7_goesOne; dsimp only; rw [up2_ne (by decide)]
    rw [e1, e3] at ih
    exact ih
theorem g1_w : ((sX7_goesOne f ar).1 28 = f 28 ∧ (sX7_goesOne f ar).2 27 = ar 27) ∨ ((sX7_goesOne f ar).1 28 = f 28 + 1 ∧ (sX7_goesOne f ar).2 27 = upd (ar 27) (f 28).toNatClampNeg (f 33)) := by
  obtain ⟨k1, k2⟩ := g1w (f 8).toNatClampNeg 0 (mU f ar).1 (mU f ar).2
  rw [g1_eq, k1, k2]
  have hA : mA f ar 27 = ar 27 := by unfold mA; rw [up2_ne (by decide)]
  unfold mU
  by_cases c : f 8 ≤ 0
  · rw [if_pos c]; exact Or.inl ⟨rfl, hA⟩
  · rw [if_neg c]
    by_cases c2 : sX7_isUp f (mA f ar) = true
    · rw [if_pos c2]
      exact Or.inr ⟨gu_28, gu_27.trans (by rw [hA])⟩
    · rw [if_neg c2]; exact Or.inl ⟨rfl, hA⟩
/-- the number of times only grows, and what is written of it stays -/
theorem wm_it : ∀ (j b u : Nat) (f : Nat → Int32) (ar : Nat → Nat → Int32), f 28 = nI u → u + j ≤ 1000 → ∃ u2 : Nat, (itX7_goes j b f ar).1 28 = nI u2 ∧ u ≤ u2 ∧ u2 ≤ u + j ∧ ∀ q : Nat, q < u → (itX7_goes j b f ar).2 27 q = ar 27 q
  | 0, b, u, f, ar, h, _ => ⟨u, h, by omega, by omega, fun _ _ => rfl⟩
  | j + 1, b, u, f, ar, h, hj => by
    rcases g1_w (f := f) (ar := ar) with ⟨g1, g2⟩ | ⟨g1, g2⟩
    · obtain ⟨u2, e1, e2, e3, e4⟩ := wm_it j (b + 1) u (sX7_goesOne f ar).1 (sX7_goesOne f ar).2 (g1.trans h) (by omega)
      exact ⟨u2, e1, e2, by omega, fun q hq => (e4 q hq).trans (by rw [g2])⟩
    · obtain ⟨u2, e1, e2, e3, e4⟩ := wm_it j (b + 1) (u + 1) (sX7_goesOne f ar).1 (sX7_goesOne f ar).2 (by rw [g1, h, nI_1]) (by omega)
      exact ⟨u2, e1, by omega, by omega, fun q hq => (e4 q (by omega)).trans (by rw [g2, h, nI_clamp (by omega), upd_ne (by omega)])⟩
theorem wn_it {y : Int32} {Y : Nat} (hY : Y < 2 ^ 31) (hy : y = nI Y) : ∀ (j a b u : Nat) (s : zS) (f : Nat → Int32) (ar : Nat → Nat → Int32), SR true s.1 s.2.1 s.2.2 f ar → SB a s.1 s.2.2 → f 33 = nI a → f 28 = nI u → u ≤ a → u ≤ Y → a + j = 240 → (itX6_when y j a s.1 s.2.1 s.2.2).1 = (if (itX7_goes j b f ar).1 28 ≤ y then -9 else (itX7_goes j b f ar).2 27 Y) ∧ ck s.2.1 s.2.2 (itX6_when y j a s.1 s.2.1 s.2.2).2.2.1 (itX6_when y j a s.1 s.2.1 s.2.2).2.2.2
  | 0, a, b, u, s, f, ar, h, hB, h33, h28, hu, huY, ha => by
    refine ⟨?_, ck.rf⟩
    show (-9 : Int32) = if f 28 ≤ y then -9 else ar 27 Y
    rw [if_pos (by rw [h28, hy, Int32.le_iff_toInt_le, nI_toInt (by omega), nI_toInt hY]; omega)]
  | j + 1, a, b, u, s, f, ar, h, hB, h33, h28, hu, huY, ha => by
    obtain ⟨k1, k2⟩ := h.step hB (by omega)
    have hc : ck s.2.1 s.2.2 (mstep true s).2.1 (mstep true s).2.2 := ck_pass (mg := true) (k := 1) (s := s)
    have ht : sX0_allUps (mstep true s).2.2 = (sX7_goesOne f ar).1 28 := k1.told.2
    have n33 : (sX7_goesOne f ar).1 33 = nI (a + 1) := by rw [(g1_at (f := f) (ar := ar)).2.1, h33, nI_1]
    have es : stX6_when y a s.1 s.2.1 s.2.2 = if sX0_allUps (mstep true s).2.2 ≤ y then .inr ((mstep true s).1, (mstep true s).2.1, (mstep true s).2.2) else .inl (nI a, (mstep true s).1, (mstep true s).2.1, (mstep true s).2.2) := rfl
    rw [ht] at es
    have rg : itX7_goes (j + 1) b f ar = itX7_goes j (b + 1) (sX7_goesOne f ar).1 (sX7_goesOne f ar).2 := rfl
    rw [rg]
    have le : ∀ v : Nat, v ≤ 1000 → (nI v ≤ y ↔ v ≤ Y) := fun v hv => by
      rw [hy, Int32.le_iff_toInt_le, nI_toInt (by omega), nI_toInt hY]; omega
    rcases g1_w (f := f) (ar := ar) with ⟨g1, g2⟩ | ⟨g1, g2⟩
    · have n28 : (sX7_goesOne f ar).1 28 = nI u := g1.trans h28
      rw [n28, if_pos ((le u (by omega)).mpr huY)] at es
      rw [itX6_when_n es]
      have ih := wn_it hY hy j (a + 1) (b + 1) u (mstep true s) (sX7_goesOne f ar).1 (sX7_goesOne f ar).2 k1 k2 n33 n28 (by omega) huY (by omega)
      exact ⟨ih.1, hc.tr ih.2⟩
    · have n28 : (sX7_goesOne f ar).1 28 = nI (u + 1) := by rw [g1, h28, nI_1]
      by_cases c : u + 1 ≤ Y
      · rw [n28, if_pos ((le (u + 1) (by omega)).mpr c)] at es
        rw [itX6_when_n es]
        have ih := wn_it hY hy j (a + 1) (b + 1) (u + 1) (mstep true s) (sX7_goesOne f ar).1 (sX7_goesOne f ar).2 k1 k2 n33 n28 (by omega) c (by omega)
        exact ⟨ih.1, hc.tr ih.2⟩
      · rw [n28, if_neg (fun z => c ((le (u + 1) (by omega)).mp z))] at es
        rw [itX6_when_r es]
        refine ⟨?_, hc⟩
        obtain ⟨u2, e1, e2, e3, e4⟩ := wm_it j (b + 1) (u + 1) (sX7_goesOne f ar).1 (sX7_goesOne f ar).2 n28 (by omega)
        have eY : Y = u := by omega
        rw [e1, if_neg (fun z => by have := (le u2 (by omega)).mp z; omega), e4 Y (by omega), g2, h28, nI_clamp (by omega), eY, upd_eq, h33]
set_option maxRecDepth 100000 in
theorem pu_when (hI : Inv n i cf ca f ar) (y : Int32) : ((sX6_when n m cf ca y).1) = ((sX7_when f ar y).1) ∧ Inv n i ((sX6_when n m cf ca y).2.2.1) ((sX6_when n m cf ca y).2.2.2) ((sX7_when f ar y).2.1) ((sX7_when f ar y).2.2) := by
  unfold sX6_when sX7_when
  by_cases c : 0 ≤ y
  · rw [if_pos c, if_pos c]
    have h240 : (240 : Int32).toInt ≤ 240 := by decide
    have t1 := th_kt (iv_mk hI) h240
    obtain ⟨Y, hY, eY⟩ := nI_of (x := y) (by rw [Int32.le_iff_toInt_le, i0] at c; rw [Int32.lt_iff_toInt_lt, i0]; omega)
    obtain ⟨b1, b2⟩ := hI.1.k.begin cf ca
    have hw := wn_it hY eY 240 0 0 0 (n, (sX0_clear cf ca).1, (sX0_clear cf ca).2) (sX7_begins f ar).1 (sX7_begins f ar).2 b1 b2 rfl rfl (by omega) (by omega) (by omega)
    have e28 : (sX7_thinks f ar 240).2.1 28 = (itX7_goes 240 0 (sX7_begins f ar).1 (sX7_begins f ar).2).1 28 := by
      rw [th_f (by decide) (by decide), gs_i, show (240 : Int32).toNatClampNeg = 240 by decide]
    have e27 : (sX7_thinks f ar 240).2.2 27 = (itX7_goes 240 0 (sX7_begins f ar).1 (sX7_begins f ar).2).2 27 := by
      rw [th_a (by decide), gs_i, show (240 : Int32).toNatClampNeg = 240 by decide]
    have ey : y.toNatClampNeg = Y := by rw [eY, nI_clamp (by omega)]
    rw [e28, e27, ey, show sX6_think n cf ca = (n, (sX0_clear cf ca).1, (sX0_clear cf ca).2) from rfl]
    dsimp only at hw ⊢
    have hk := ck_clear (cf := cf) (ca := ca)
    generalize itX6_when y 240 0 n (sX0_clear cf ca).1 (sX0_clear cf ca).2 = L at hw ⊢
    generalize itX7_goes 240 0 (sX7_begins f ar).1 (sX7_begins f ar).2 = G at hw ⊢
    generalize sX7_thinks f ar 240 = T at t1 ⊢
    by_cases d : G.1 28 ≤ y
    · rw [if_pos d] at hw ⊢
      exact ⟨hw.1, hI.mind (hk.tr hw.2) t1⟩
    · rw [if_neg d] at hw ⊢
      exact ⟨hw.1, hI.mind (hk.tr hw.2) t1⟩
  · rw [if_neg c, if_neg c]
    exact hI.no w4
end zPO
