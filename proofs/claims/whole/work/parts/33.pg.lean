section zPG
variable {n m i : zP} {cf cf1 : Nat → Int32} {ca ca1 : Nat → Nat → Int32} {f f1 : Nat → Int32} {ar a1 : Nat → Nat → Int32}
theorem mk4 {R L : Int32 × (Nat → Nat → Int32)} (q : R.1 = L.1 ∧ Inv n i cf R.2 f L.2) : (R.1, m, cf, R.2).1 = (L.1, f, L.2).1 ∧ Inv n i (R.1, m, cf, R.2).2.2.1 (R.1, m, cf, R.2).2.2.2 (L.1, f, L.2).2.1 (L.1, f, L.2).2.2 := q
theorem g1i : ∀ (j a : Nat) (f : Nat → Int32) (ar : Nat → Nat → Int32), (itX7_goesOne j a f ar).1 12 = f 12 + 1 ∧ (itX7_goesOne j a f ar).1 33 = f 33 + 1 ∧ (itX7_goesOne j a f ar).2 1 = ar 1 ∧ (itX7_goesOne j a f ar).2 26 = upd (ar 26) (f 33).toNatClampNeg (ar 1 0)
  | 0, a, f, ar => by
    show (exX7_goesOne a f ar).1 12 = _ ∧ (exX7_goesOne a f ar).1 33 = _ ∧ (exX7_goesOne a f ar).2 1 = _ ∧ (exX7_goesOne a f ar).2 26 = _
    unfold exX7_goesOne
    dsimp only
    refine ⟨F1_12, ?_, ?_, ?_⟩
    · rw [upd_eq]
    · rw [up2_ne (by decide)]
    · rw [up2_eq]
  | j + 1, a, f, ar => by
    have ih := g1i j (a + 1) (stX7_goesOne a f ar).1 (stX7_goesOne a f ar).2
    have e1 : (stX7_goesOne a f ar).1 = f := rfl
    have e2 : (stX7_goesOne a f ar).2 1 = ar 1 := by unfold stX7_goesOne; dsimp only; rw [up2_ne (by decide)]
    have e3 : (stX7_goesOne a f ar).2 26 = ar 26 := by unfold stX7_goesOne; dsimp only; rw [up2_ne (by decide)]
    rw [e1, e2, e3] at ih
    exact ih
theorem mU_g : (mU f ar).1 12 = f 12 ∧ (mU f ar).1 33 = f 33 ∧ (mU f ar).2 26 = ar 26 := by
  unfold mU
  have hA : mA f ar 26 = ar 26 := by unfold mA; rw [up2_ne (by decide)]
  by_cases c : f 8 ≤ 0
  · rw [if_pos c]; exact ⟨rfl, rfl, hA⟩
  · rw [if_neg c]
    by_cases c2 : sX7_isUp f (mA f ar) = true
    · rw [if_pos c2]
      exact ⟨gu_k (by omega) (by omega) (by omega), gu_k (by omega) (by omega) (by omega), (gu_a (by omega) (by omega) (by omega)).trans hA⟩
    · rw [if_neg c2]; exact ⟨rfl, rfl, hA⟩
theorem g1_at : (sX7_goesOne f ar).1 12 = f 12 + 1 ∧ (sX7_goesOne f ar).1 33 = f 33 + 1 ∧ (sX7_goesOne f ar).2 26 = upd (ar 26) (f 33).toNatClampNeg ((sX7_goesOne f ar).2 1 0) := by
  obtain ⟨h1, h2, h3⟩ := mU_g (f := f) (ar := ar)
  obtain ⟨k1, k2, k3, k4⟩ := g1i (f 8).toNatClampNeg 0 (mU f ar).1 (mU f ar).2
  rw [g1_eq, k1, k2, k3, k4, h1, h2, h3]
  exact ⟨rfl, rfl, rfl⟩
theorem at_it : ∀ (k b g : Nat) (f : Nat → Int32) (ar : Nat → Nat → Int32), f 33 = nI g → g + k ≤ 240 → (itX7_goes k b f ar).1 33 = nI (g + k) ∧ (itX7_goes k b f ar).1 12 = f 12 + nI k ∧ (∀ j : Nat, j < g → (itX7_goes k b f ar).2 26 j = ar 26 j) ∧ (∀ q : Nat, q < k → (itX7_goes k b f ar).2 26 (g + q) = (itX7_goes (q + 1) b f ar).2 1 0)
  | 0, b, g, f, ar, hf, _ => ⟨hf, by show f 12 = f 12 + nI 0; rw [show nI 0 = 0 from rfl]; grind, fun _ _ => rfl, fun q hq => absurd hq (by omega)⟩
  | k + 1, b, g, f, ar, hf, hk => by
    obtain ⟨h1, h2, h3⟩ := g1_at (f := f) (ar := ar)
    have e33 : (sX7_goesOne f ar).1 33 = nI (g + 1) := by rw [h2, hf, nI_1]
    obtain ⟨i1, i2, i3, i4⟩ := at_it k (b + 1) (g + 1) (sX7_goesOne f ar).1 (sX7_goesOne f ar).2 e33 (by omega)
    refine ⟨?_, ?_, fun j hj => ?_, fun q hq => ?_⟩
    · rw [show g + (k + 1) = g + 1 + k by omega]; exact i1
    · refine Eq.trans i2 ?_
      rw [h1, ← nI_1]
      generalize f 12 = z
      generalize nI k = y
      grind
    · refine Eq.trans (i3 j (by omega)) ?_
      rw [h3, hf, nI_clamp (by omega), upd_ne (by omega)]
    · match q with
      | 0 =>
        refine Eq.trans (i3 g (by omega)) ?_
        rw [h3, hf, nI_clamp (by omega), upd_eq]
        rfl
      | q + 1 =>
        rw [show g + (q + 1) = g + 1 + q by omega]
        exact i4 q (by omega)
set_option maxRecDepth 100000 in
theorem pu_at (hI : Inv n i cf ca f ar) (x : Int32) : ((sX6_at n m cf ca x).1) = ((sX7_at f ar x).1) ∧ Inv n i ((sX6_at n m cf ca x).2.2.1) ((sX6_at n m cf ca x).2.2.2) ((sX7_at f ar x).2.1) ((sX7_at f ar x).2.2) := by
  unfold sX6_at sX7_at
  by_cases c : sX7_bound x 0 240 = 0
  · rw [if_pos (show sX6_outside x 0 240 = 0 from c), if_pos c, pim_eq]
    have hx := bd_hi c
    obtain ⟨hs, -⟩ := hI.1.k.pm (cf := cf) (ca := ca) hx
    have hn := hI.mind pm_ck (th_kt (iv_mk hI) hx) (cf1 := (pm true n cf ca x).2.1) (ca1 := (pm true n cf ca x).2.2)
    refine ⟨?_, hn⟩
    refine Eq.trans hs.1.1 ?_
    have h0 := bd_bt c
    rw [i0, show (240 : Int32).toInt = 240 by decide] at h0
    obtain ⟨k, hk, ek⟩ := bt_nI (hi := 240) h0 (by omega)
    by_cases d : x = 0
    · rw [if_pos d, th_1, d]
      rfl
    · rw [if_neg d, th_a (by decide)]
      match k, hk, ek with
      | 0, _, ek => exact absurd ek d
      | k + 1, hk, ek =>
        have e1 : x - 1 = nI k := by rw [ek, ← nI_1]; generalize nI k = y; grind
        have h4 := (at_it (k + 1) 0 0 (sX7_begins f ar).1 (sX7_begins f ar).2 rfl (by omega)).2.2.2 k (by omega)
        rw [Nat.zero_add] at h4
        rw [e1, nI_clamp (by omega), gs_i, ek, nI_clamp (by omega)]
        exact h4.symm
  · rw [if_neg (show ¬ sX6_outside x 0 240 = 0 from c), if_neg c]
    exact mk4 (R := sX6_refuseTold ca _) (L := sX7_lower ar _) (hI.lower (bd_w c))
set_option maxRecDepth 100000 in
theorem pu_go (hI : Inv n i cf ca f ar) (x : Int32) : ((sX6_go n m cf ca x).1) = ((sX7_go f ar x).1) ∧ Inv ((sX6_go n m cf ca x).2.1) i ((sX6_go n m cf ca x).2.2.1) ((sX6_go n m cf ca x).2.2.2) ((sX7_go f ar x).2.1) ((sX7_go f ar x).2.2) := by
  unfold sX6_go sX7_go
  by_cases c : sX7_bound x 1 60 = 0
  · rw [if_pos (show sX6_outside x 1 60 = 0 from c), if_pos c]
    have h0 := bd_bt c
    rw [show (1 : Int32).toInt = 1 by decide, show (60 : Int32).toInt = 60 by decide] at h0
    obtain ⟨k, hk, ek⟩ := bt_nI (x := x) (hi := 60) ⟨by have := h0.1; omega, h0.2⟩ (by omega)
    have e8 : n.1 8 = f 12 := hI.1.1.2.2.2.2.2.1
    by_cases d : f 12 + x ≤ 9999
    · rw [if_pos (show n.1 8 + x ≤ 9999 by rw [e8]; exact d), if_pos d]
      obtain ⟨hs, hb⟩ := hI.1.k.pm (cf := cf) (ca := ca) (x := x) (by have := h0.2; omega)
      have hg := (gs_ok (x := x) (iv_mk hI) (by have := h0.2; omega)).2.2
      have h12 : (sX7_goes f ar x).1 12 = f 12 + x := by
        have h4 := (at_it k 0 0 (sX7_begins f ar).1 (sX7_begins f ar).2 rfl (by omega)).2.1
        rw [gs_i, ek, nI_clamp (by omega)]
        exact h4
      have hck := pm_ck (mg := true) (n := n) (cf := cf) (ca := ca) (x := x)
      unfold pm at hs hb hck
      generalize mpass true x.toNatClampNeg (n, (sX0_clear cf ca).1, (sX0_clear cf ca).2) = Z at hs hb hck ⊢
      generalize sX7_goes f ar x = Y at hs hg h12 ⊢
      have hN : rN Z.1 Y.1 Y.2 := by
        obtain ⟨⟨a0, a1, a2, a6, a7, a8, a9, a10, a12, a13⟩, ⟨a11, -⟩, hP, hR, -⟩ := hs
        refine ⟨⟨a0, a1, a2, a6, a7, a8, a9, a10, a11 rfl, a12, a13⟩, hP, hR, hb.1, hb.2.1.1, ?_⟩
        rw [Int32.le_iff_toInt_le, show (9999 : Int32).toInt = 9999 by decide +kernel] at d
        rw [a8, h12]
        exact d
      exact ⟨hs.told.2, (hI.now hN (fun k hk => hg.1 k (by omega) (by omega) (by omega)) (fun k hk => hg.2.1 k (by omega) (by omega))).mind hck kt.rf⟩
    · rw [if_neg (show ¬ n.1 8 + x ≤ 9999 by rw [e8]; exact d), if_neg d]
      exact hI.no w6
  · rw [if_neg (show ¬ sX6_outside x 1 60 = 0 from c), if_neg c]
    exact hI.no (bd_w c)
theorem rK.kt {mg : Bool} (h : rK mg m f ar) (k : kt f ar f1 a1) : rK mg m f1 a1 := by
  unfold rK rS0 rM rP at h ⊢
  rw [k.1 8 (by omega), k.1 9 (by omega), k.1 10 (by omega), k.1 11 (by omega), k.1 12 (by omega), k.2 1 (by omega), k.2 2 (by omega), k.2 3 (by omega), k.2 4 (by omega), k.2 5 (by omega), k.2 6 (by omega), k.2 7 (by omega)]
  exact h
theorem rK.r5 {mg : Bool} (h : rK mg m f ar) : rK false m (upd f 10 5) ar := by
  obtain ⟨⟨a0, a1, a2, a6, a7, a8, a9, a10, a12, a13⟩, -, hP, hR, h0, h8⟩ := h
  exact ⟨⟨a0, a1, a2, a6, a7, a8, a9, a10, a12, a13⟩, ⟨fun z => absurd z (by decide), fun _ => rfl⟩, hP, hR, h0, h8⟩
set_option maxRecDepth 100000 in
theorem pu_leave (hI : Inv n i cf ca f ar) (x : Int32) : ((sX6_leave n m cf ca x).1) = ((sX7_leave f ar x).1) ∧ Inv n i ((sX6_leave n m cf ca x).2.2.1) ((sX6_leave n m cf ca x).2.2.2) ((sX7_leave f ar x).2.1) ((sX7_leave f ar x).2.2) := by
  unfold sX6_leave sX7_leave
  by_cases c : sX7_bound x 0 240 = 0
  · rw [if_pos (show sX6_outside x 0 240 = 0 from c), if_pos c]
    have hx := bd_hi c
    have t1 := th_kt (iv_mk hI) hx
    have k1 := (hI.1.k.cost cf ca hx).1
    rw [pim_eq]
    dsimp only
    rw [pim_eq]
    dsimp only
    have hc1 := pm_ck (mg := true) (n := n) (cf := cf) (ca := ca) (x := x)
    have e1 : sX0_allCost (pm true n cf ca x).2.2 = (sX7_thinks f ar x).1 := k1
    generalize pm true n cf ca x = Z at e1 hc1 ⊢
    have k2 : sX0_allCost (pm false n Z.2.1 Z.2.2 x).2.2 = _ := ((hI.1.k.kt t1).r5.cost Z.2.1 Z.2.2 hx).1
    have hc2 := pm_ck (mg := false) (n := n) (cf := Z.2.1) (ca := Z.2.2) (x := x)
    have t2 := tr_kt (k := 5) (t1.ok (iv_mk hI)) hx
    rw [e1, k2]
    exact ⟨rfl, hI.mind (hc1.tr hc2) (t1.tr t2)⟩
  · rw [if_neg (show ¬ sX6_outside x 0 240 = 0 from c), if_neg c]
    exact mk4 (R := sX6_refuseTold ca _) (L := sX7_lower ar _) (hI.lower (bd_w c))
theorem mo_it {m : zP} {mg : Bool} {g : Nat → Int32} {b : Nat → Nat → Int32} (hs : SR mg m cf ca g b) {f1 : Nat → Int32} {a1 : Nat → Nat → Int32} (e : a1 24 = b 24 ∧ a1 25 = b 25 ∧ a1 7 = b 7) : ∀ (j a : Nat) (be : Int32), a + j ≤ 5 → itX6_most n cf ca j a be (sX7_bothOf a1 be) = itX7_most f1 a1 j a be
  | 0, a, be, _ => rfl
  | j + 1, a, be, h => by
    have ih := fun be => mo_it hs (f1 := f1) e j (a + 1) be (by omega)
    have ht : sX0_toldOf cf ca (nI a) 2 = sX7_bothOf a1 (nI a) := by
      rw [to_eq hs (by omega), if_neg (by decide), if_neg (by decide)]
      unfold sX7_bothOf
      rw [nI_clamp (by omega), e.1, e.2.1, e.2.2]
    show itX6_most n cf ca j (a + 1) (stX6_most n cf ca a be (sX7_bothOf a1 be)).1 (stX6_most n cf ca a be (sX7_bothOf a1 be)).2 = itX7_most f1 a1 j (a + 1) (stX7_most f1 a1 a be)
    unfold stX6_most stX7_most
    rw [ht]
    by_cases c : sX7_bothOf a1 (nI a) ≤ sX7_bothOf a1 be
    · rw [if_pos c, if_pos c]; exact ih be
    · rw [if_neg c, if_neg c]; exact ih (nI a)
set_option maxRecDepth 100000 in
theorem pu_most (hI : Inv n i cf ca f ar) (x : Int32) : ((sX6_most n m cf ca x).1) = ((sX7_most f ar x).1) ∧ Inv n i ((sX6_most n m cf ca x).2.2.1) ((sX6_most n m cf ca x).2.2.2) ((sX7_most f ar x).2.1) ((sX7_most f ar x).2.2) := by
  unfold sX6_most sX7_most
  by_cases c : sX7_bound x 0 240 = 0
  · rw [if_pos (show sX6_outside x 0 240 = 0 from c), if_pos c, pim_eq]
    have hx := bd_hi c
    obtain ⟨hs, hb⟩ := hI.1.k.pm (cf := cf) (ca := ca) hx
    have t1 := th_kt (iv_mk hI) hx
    have hn := hI.mind pm_ck t1 (cf1 := (pm true n cf ca x).2.1) (ca1 := (pm true n cf ca x).2.2)
    refine ⟨?_, hn⟩
    dsimp only
    have e6 : n.1 6 = (sX7_thinks f ar x).2.1 8 := by rw [t1.1 8 (by omega)]; exact hI.1.1.2.2.2.1
    obtain ⟨k, hk, ek⟩ := bt_nI (hi := 5) (iv_sz hI) (by omega)
    have e24 := th_a (f := f) (ar := ar) (x := x) (k := 24) (by decide)
    have e25 := th_a (f := f) (ar := ar) (x := x) (k := 25) (by decide)
    have e7 := th_a (f := f) (ar := ar) (x := x) (k := 7) (by decide)
    rw [← e6, ek, nI_clamp (by omega)]
    generalize pm true n cf ca x = Z at hs hb ⊢
    generalize sX7_thinks f ar x = Y at e24 e25 e7 ⊢
    match k, hk with
    | 0, _ => rfl
    | k + 1, hk =>
      have hm := mo_it hs (n := n) (f1 := Y.2.1) (a1 := Y.2.2) ⟨e24, e25, e7⟩ k 1 0 (by omega)
      have ht : sX0_toldOf Z.2.1 Z.2.2 (nI 0) 2 = sX7_bothOf Y.2.2 0 := by
        rw [to_eq hs (by omega), if_neg (by decide), if_neg (by decide)]
        unfold sX7_bothOf
        rw [show (0 : Int32).toNatClampNeg = 0 by decide, e24, e25, e7]
      have h0 : ¬ sX0_toldOf Z.2.1 Z.2.2 (nI 0) 2 ≤ -1 := by
        have b1 := (hb.2.2 0 (by omega)).1
        have b2 := (hb.2.2 0 (by omega)).2
        have hxx := cl240 hx
        have b3 := bt_add b1 b2 (by omega) (by omega) (by omega)
        have e : sX0_toldOf Z.2.1 Z.2.2 (nI 0) 2 = Z.2.2 29 0 + Z.2.2 31 0 := by
          unfold sX0_toldOf
          rw [if_neg (by decide), if_pos (by decide), if_neg (by decide), if_neg (by decide)]
          rfl
        rw [e, Int32.le_iff_toInt_le, show (-1 : Int32).toInt = -1 by decide]
        have := b3.1
        omega
      have hst : itX6_most n Z.2.1 Z.2.2 (k + 1) 0 (-9) (-1) = itX6_most n Z.2.1 Z.2.2 k 1 0 (sX7_bothOf Y.2.2 0) := by
        show itX6_most n Z.2.1 Z.2.2 k 1 (stX6_most n Z.2.1 Z.2.2 0 (-9) (-1)).1 (stX6_most n Z.2.1 Z.2.2 0 (-9) (-1)).2 = _
        have : stX6_most n Z.2.1 Z.2.2 0 (-9) (-1) = (0, sX7_bothOf Y.2.2 0) := by
          unfold stX6_most
          rw [if_neg h0, ht]
          rfl
        rw [this]
      rw [if_neg (show ¬ nI (k + 1) = 0 from fun z => by have := congrArg Int32.toInt z; rw [nI_toInt (by omega), i0] at this; omega)]
      exact hst.trans hm
  · rw [if_neg (show ¬ sX6_outside x 0 240 = 0 from c), if_neg c]
    exact hI.no (bd_w c)
end zPG
