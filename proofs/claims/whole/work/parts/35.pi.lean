section zPI
variable {n m i : zP} {cf cf1 : Nat → Int32} {ca ca1 : Nat → Nat → Int32} {f f1 : Nat → Int32} {ar a1 : Nat → Nat → Int32}
theorem md41 (q : Int32) : bt (q - q / 41 * 41 - 20) (-99) 99 := by
  have h0 : (41 : Int32).toInt = 41 := by decide
  have h1 : (q / 41).toInt = q.toInt.tdiv 41 := by rw [Int32.toInt_div_of_ne_right q 41 (by decide), h0]
  have a := q.toInt_lt
  have b := q.le_toInt
  have e := Int.mul_tdiv_add_tmod q.toInt 41
  have t1 := Int.tmod_lt_of_pos q.toInt (show (0 : Int) < 41 by omega)
  have t2 : -41 < q.toInt.tmod 41 := Int.lt_tmod_of_pos q.toInt (show (0 : Int) < 41 by omega)
  have t3 : 0 ≤ q.toInt → 0 ≤ q.toInt.tmod 41 := fun h => Int.tmod_nonneg 41 h
  have t4 : q.toInt ≤ 0 → q.toInt.tmod 41 ≤ 0 := fun h => by
    have := Int.tmod_nonneg (a := -q.toInt) 41 (by omega)
    rw [Int.neg_tmod] at this
    omega
  have h2 : (q / 41 * 41).toInt = q.toInt.tdiv 41 * 41 := by
    rw [Int32.toInt_mul, h1, h0]
    exact Int.bmod_eq_of_le (by omega) (by omega)
  have h3 : (q - q / 41 * 41).toInt = q.toInt.tmod 41 := by
    rw [Int32.toInt_sub, h2]
    rw [Int.bmod_eq_of_le (by omega) (by omega)]
    omega
  unfold bt
  rw [tsub (by omega) (by omega) (by decide) (by decide), h3, show (20 : Int32).toInt = 20 by decide]
  omega
def lot (sd : Int32) : Int32 := (((((sd * 1664525) + 1013904223) &&& 2147483647) / 256) - ((((sd * 1664525) + 1013904223) &&& 2147483647) / 256) / 41 * 41) - 20
theorem lot_e (sd : Int32) : (((((sd * 1664525) + 1013904223) &&& 2147483647) / 256) - ((((sd * 1664525) + 1013904223) &&& 2147483647) / 256) / 41 * 41) - 20 = lot sd := rfl
theorem lot_bt (sd : Int32) : bt (lot sd) (-99) 99 := md41 _
theorem lo_it (h : rN n f ar) {x : Int32} : ∀ (j a : Nat) (m : zP) (cf1 : Nat → Int32) (ca1 : Nat → Nat → Int32) (f1 : Nat → Int32) (a1 : Nat → Nat → Int32) (sd al : Int32), ck cf ca cf1 ca1 → kt f ar f1 a1 → (itX6_lots n j a m cf1 ca1 sd al).1 = (itX7_lots x j a f1 a1 sd al).1 ∧ ck cf ca (itX6_lots n j a m cf1 ca1 sd al).2.2.1 (itX6_lots n j a m cf1 ca1 sd al).2.2.2 ∧ kt f ar (itX7_lots x j a f1 a1 sd al).2.1 (itX7_lots x j a f1 a1 sd al).2.2
  | 0, a, m, cf1, ca1, f1, a1, sd, al, hc, hk => ⟨rfl, hc, hk⟩
  | j + 1, a, m, cf1, ca1, f1, a1, sd, al, hc, hk => by
    have h60 : (60 : Int32).toInt ≤ 240 := by decide
    have T := tw_TH (f := f) (ar := ar) (q := 0) (by omega) h60 (lo := -99) (hi := 99) (fun v hv => h.set0 hv) (lot sd) (lot_bt sd) f1 a1 hk
    have hs : sX0_allCost (pm true ((upd n.1 0 (lot sd)), n.2) cf1 ca1 60).2.2 = _ := ((h.set0 (lot_bt sd)).k.cost cf1 ca1 h60).1
    have e6 : stX6_lots n a m cf1 ca1 sd al = ((pm true ((upd n.1 0 (lot sd)), n.2) cf1 ca1 60).1, (pm true ((upd n.1 0 (lot sd)), n.2) cf1 ca1 60).2.1, (pm true ((upd n.1 0 (lot sd)), n.2) cf1 ca1 60).2.2, (sd * 1664525) + 1013904223, (al + sX0_allCost (pm true ((upd n.1 0 (lot sd)), n.2) cf1 ca1 60).2.2)) := by
      unfold stX6_lots
      rw [lot_e, show (sX6_think n cf1 ca1).1 = n from rfl]
      generalize lot sd = d
      rw [pim2]
    have e7 : stX7_lots x a f1 a1 sd al = ((sX7_thinksWith f1 a1 (nI 0) (lot sd) 60).2.1, (sX7_thinksWith f1 a1 (nI 0) (lot sd) 60).2.2, (sd * 1664525) + 1013904223, (al + (sX7_thinksWith f1 a1 (nI 0) (lot sd) 60).1)) := by
      unfold stX7_lots
      rw [lot_e, show nI 0 = 0 from rfl]
    dsimp only at T
    generalize lot sd = d at T hs e6 e7
    rw [hs] at e6
    rw [T.1] at e7
    have hp := pm_ck (mg := true) (n := ((upd n.1 0 d), n.2)) (cf := cf1) (ca := ca1) (x := 60)
    have ih := lo_it h (x := x) j (a + 1) (pm true ((upd n.1 0 d), n.2) cf1 ca1 60).1 (pm true ((upd n.1 0 d), n.2) cf1 ca1 60).2.1 (pm true ((upd n.1 0 d), n.2) cf1 ca1 60).2.2 (sX7_thinksWith f1 a1 (nI 0) d 60).2.1 (sX7_thinksWith f1 a1 (nI 0) d 60).2.2 ((sd * 1664525) + 1013904223) (al + (sX7_thinks f (up2 ar 1 (upd (ar 1) 0 d)) 60).1) (hc.tr hp) T.2
    have r6 : itX6_lots n (j + 1) a m cf1 ca1 sd al = itX6_lots n j (a + 1) (stX6_lots n a m cf1 ca1 sd al).1 (stX6_lots n a m cf1 ca1 sd al).2.1 (stX6_lots n a m cf1 ca1 sd al).2.2.1 (stX6_lots n a m cf1 ca1 sd al).2.2.2.1 (stX6_lots n a m cf1 ca1 sd al).2.2.2.2 := rfl
    rw [r6, itX7_lots_n e7, e6]
    dsimp only at ih ⊢
    generalize (sd * 1664525) + 1013904223 = s1 at ih ⊢
    exact ih
set_option maxRecDepth 100000 in
theorem pu_lots (hI : Inv n i cf ca f ar) (x : Int32) (z : Int32) : ((sX6_lots n m cf ca x z).1) = ((sX7_lots f ar x z).1) ∧ Inv n i ((sX6_lots n m cf ca x z).2.2.1) ((sX6_lots n m cf ca x z).2.2.2) ((sX7_lots f ar x z).2.1) ((sX7_lots f ar x z).2.2) := by
  unfold sX6_lots sX7_lots
  by_cases c : sX7_bound x 1 20 = 0
  · rw [if_pos (show sX6_outside x 1 20 = 0 from c), if_pos c]
    obtain ⟨h1, h2, h3⟩ := lo_it hI.1 (x := x) (cf := cf) (ca := ca) x.toNatClampNeg 0 m cf ca f ar z 0 ck.rf kt.rf
    generalize itX6_lots n x.toNatClampNeg 0 m cf ca z 0 = L at h1 h2 ⊢
    generalize itX7_lots x x.toNatClampNeg 0 f ar z 0 = B at h1 h3 ⊢
    exact ⟨h1, hI.mind h2 h3⟩
  · rw [if_neg (show ¬ sX6_outside x 1 20 = 0 from c), if_neg c]
    exact hI.no (bd_w c)
/-- what is kept of an image -/
def kS (f : Nat → Int32) (ar : Nat → Nat → Int32) : Nat → Int32 := upd (upd (upd (upd (upd (savK (savK (savK (savK (savK (savK (savK (ar 20) (ar 1) 0 6) (ar 2) 6 5) (ar 3) 11 5) (ar 4) 16 5) (ar 5) 21 5) (ar 6) 26 5) (ar 7) 31 5) 36 (f 8)) 37 (f 9)) 38 (f 10)) 39 (f 11)) 40 (f 12)
theorem kS_1 {p : Nat} (hp : p < 6) : kS f ar (0 + p) = ar 1 p := by
  match p, hp with
  | 0, _ => rfl
  | 1, _ => rfl
  | 2, _ => rfl
  | 3, _ => rfl
  | 4, _ => rfl
  | 5, _ => rfl
  | p + 6, hp => exact absurd hp (by omega)
theorem kS_2 {p : Nat} (hp : p < 5) : kS f ar (6 + p) = ar 2 p := by
  match p, hp with
  | 0, _ => rfl
  | 1, _ => rfl
  | 2, _ => rfl
  | 3, _ => rfl
  | 4, _ => rfl
  | p + 5, hp => exact absurd hp (by omega)
theorem kS_3 {p : Nat} (hp : p < 5) : kS f ar (11 + p) = ar 3 p := by
  match p, hp with
  | 0, _ => rfl
  | 1, _ => rfl
  | 2, _ => rfl
  | 3, _ => rfl
  | 4, _ => rfl
  | p + 5, hp => exact absurd hp (by omega)
theorem kS_4 {p : Nat} (hp : p < 5) : kS f ar (16 + p) = ar 4 p := by
  match p, hp with
  | 0, _ => rfl
  | 1, _ => rfl
  | 2, _ => rfl
  | 3, _ => rfl
  | 4, _ => rfl
  | p + 5, hp => exact absurd hp (by omega)
theorem kS_5 {p : Nat} (hp : p < 5) : kS f ar (21 + p) = ar 5 p := by
  match p, hp with
  | 0, _ => rfl
  | 1, _ => rfl
  | 2, _ => rfl
  | 3, _ => rfl
  | 4, _ => rfl
  | p + 5, hp => exact absurd hp (by omega)
theorem kS_6 {p : Nat} (hp : p < 5) : kS f ar (26 + p) = ar 6 p := by
  match p, hp with
  | 0, _ => rfl
  | 1, _ => rfl
  | 2, _ => rfl
  | 3, _ => rfl
  | 4, _ => rfl
  | p + 5, hp => exact absurd hp (by omega)
theorem kS_7 {p : Nat} (hp : p < 5) : kS f ar (31 + p) = ar 7 p := by
  match p, hp with
  | 0, _ => rfl
  | 1, _ => rfl
  | 2, _ => rfl
  | 3, _ => rfl
  | 4, _ => rfl
  | p + 5, hp => exact absurd hp (by omega)
theorem rN.kept (h : rN n f ar) : rN n (fI (kS f ar)) (aI (kS f ar)) := by
  obtain ⟨⟨a0, a1, a2, a6, a7, a8, a9, a10, a11, a12, a13⟩, hP, hR, b0, b8⟩ := h
  have h5 := hR.2.2.1.2
  refine ⟨⟨a0.trans (kS_1 (f := f) (ar := ar) (p := 0) (by omega)).symm, a1.trans (kS_1 (f := f) (ar := ar) (p := 1) (by omega)).symm, a2.trans (kS_1 (f := f) (ar := ar) (p := 2) (by omega)).symm, a6, a7, a8, a9, a10.trans (kS_1 (f := f) (ar := ar) (p := 3) (by omega)).symm, a11, a12.trans (kS_1 (f := f) (ar := ar) (p := 4) (by omega)).symm, a13.trans (kS_1 (f := f) (ar := ar) (p := 5) (by omega)).symm⟩, fun p hp => ?_, hR, b0, b8⟩
  obtain ⟨p0, p1, p2, p3, p4, p5⟩ := hP p hp
  exact ⟨p0.trans (kS_2 (by omega)).symm, p1.trans (kS_3 (by omega)).symm, p2.trans (kS_4 (by omega)).symm, p3.trans (kS_5 (by omega)).symm, p4.trans (kS_6 (by omega)).symm, p5.trans (kS_7 (by omega)).symm⟩
set_option maxRecDepth 100000 in
theorem pu_image (hI : Inv n i cf ca f ar) : ((sX6_image n m i cf ca).1) = ((sX7_image f ar).1) ∧ Inv n ((sX6_image n m i cf ca).2.1) ((sX6_image n m i cf ca).2.2) ca ((sX7_image f ar).2.1) ((sX7_image f ar).2.2) := by
  have e1 : ∀ k, k ≠ 21 → k ≠ 22 → k ≠ 23 → (sX7_passesAll_0k (upd f 21 1) ar).1 k = f k := by
    intro k h1 h2 h3
    unfold sX7_passesAll_0k
    dsimp only
    by_cases c12 : k = 12
    · subst c12; rw [upd_eq, upd_ne (by decide)]
    rw [upd_ne c12, upd_ne h3]
    by_cases c11 : k = 11
    · subst c11; rw [upd_eq, upd_ne (by decide)]
    rw [upd_ne c11]
    by_cases c10 : k = 10
    · subst c10; rw [upd_eq, upd_ne (by decide)]
    rw [upd_ne c10]
    by_cases c9 : k = 9
    · subst c9; rw [upd_eq, upd_ne (by decide)]
    rw [upd_ne c9]
    by_cases c8 : k = 8
    · subst c8; rw [upd_eq, upd_ne (by decide)]
    rw [upd_ne c8, upd_ne h2, upd_ne h1]
  have e21 : (sX7_passesAll_0k (upd f 21 1) ar).1 21 = 1 := by
    unfold sX7_passesAll_0k
    dsimp only
    rw [upd_ne (by decide), upd_ne (by decide), upd_ne (by decide), upd_ne (by decide), upd_ne (by decide), upd_ne (by decide), upd_ne (by decide), upd_eq]
  have e2 : ∀ k, k ≠ 20 → (sX7_passesAll_0k (upd f 21 1) ar).2 k = ar k := by
    intro k h
    unfold sX7_passesAll_0k
    dsimp only
    rw [up2_ne h]
  have e20 : (sX7_passesAll_0k (upd f 21 1) ar).2 20 = kS f ar := by
    unfold sX7_passesAll_0k
    dsimp only
    rw [up2_eq]
    rfl
  unfold sX6_image sX7_image
  obtain ⟨h1, -, h3, h4, h5⟩ := hI
  have hk := h1.kept
  have h1x := h1
  have e8 : n.1 8 = f 12 := h1.1.2.2.2.2.2.1
  generalize sX7_passesAll_0k (upd f 21 1) ar = Y at e1 e21 e2 e20 ⊢
  refine ⟨?_, ?_, ⟨?_, fun _ => ?_⟩, ?_, ?_, ?_⟩
  · dsimp only
    rw [e8, e1 12 (by decide) (by decide) (by decide)]
  · unfold rN rS rP at h1x ⊢
    dsimp only
    rw [e1 8 (by decide) (by decide) (by decide), e1 9 (by decide) (by decide) (by decide), e1 10 (by decide) (by decide) (by decide), e1 11 (by decide) (by decide) (by decide), e1 12 (by decide) (by decide) (by decide), e2 1 (by decide), e2 2 (by decide), e2 3 (by decide), e2 4 (by decide), e2 5 (by decide), e2 6 (by decide), e2 7 (by decide)]
    exact h1x
  · dsimp only
    rw [upd_eq, e21]
  · dsimp only
    rw [e20]
    exact hk
  · dsimp only
    rw [upd_ne (by decide), e1 17 (by decide) (by decide) (by decide), e2 13 (by decide)]
    exact h3
  · dsimp only
    rw [upd_ne (by decide), e1 35 (by decide) (by decide) (by decide), e2 34 (by decide)]
    exact h4
  · dsimp only
    rw [e2 0 (by decide)]
    exact h5
set_option maxRecDepth 100000 in
theorem pu_on (hI : Inv n i cf ca f ar) : ((sX6_on n m i cf ca).1) = ((sX7_on f ar).1) ∧ Inv ((sX6_on n m i cf ca).2.1) i cf ((sX6_on n m i cf ca).2.2) ((sX7_on f ar).2.1) ((sX7_on f ar).2.2) := by
  unfold sX6_on sX7_on
  obtain ⟨e0, hi⟩ := hI.2.1
  by_cases c : cf 0 = 0
  · rw [if_pos c, if_pos (e0.symm.trans c)]
    exact hI.no w3
  · rw [if_neg c, if_neg (fun z => c (e0.trans z))]
    have hr := hi c
    have q : ∀ k, k = 17 ∨ k = 21 ∨ k = 35 → (sX7_passesAll_0p f ar).1 k = f k := by
      intro k hk
      unfold sX7_passesAll_0p
      dsimp only
      rw [upd_ne (by omega), upd_ne (by omega), upd_ne (by omega), upd_ne (by omega), upd_ne (by omega), upd_ne (by omega), upd_ne (by omega)]
    have q2 : ∀ k, k = 0 ∨ k = 13 ∨ k = 20 ∨ k = 34 → (sX7_passesAll_0p f ar).2 k = ar k := by
      intro k hk
      unfold sX7_passesAll_0p
      dsimp only
      rw [up2_ne (by omega), up2_ne (by omega), up2_ne (by omega), up2_ne (by omega), up2_ne (by omega), up2_ne (by omega), up2_ne (by omega)]
    have hN : rN i (sX7_passesAll_0p f ar).1 (sX7_passesAll_0p f ar).2 := by
      obtain ⟨⟨a0, a1, a2, a6, a7, a8, a9, a10, a11, a12, a13⟩, hP, hR, b0, b8⟩ := hr
      have h5 := hR.2.2.1.2
      refine ⟨⟨a0, a1, a2, a6, a7, a8, a9, a10, a11, a12, a13⟩, fun p hp => ?_, hR, b0, b8⟩
      obtain ⟨p0, p1, p2, p3, p4, p5⟩ := hP p hp
      have hp5 : p < 5 := by omega
      exact ⟨p0.trans (if_pos hp5).symm, p1.trans (if_pos hp5).symm, p2.trans (if_pos hp5).symm, p3.trans (if_pos hp5).symm, p4.trans (if_pos hp5).symm, p5.trans (if_pos hp5).symm⟩
    have e8 : i.1 8 = (sX7_passesAll_0p f ar).1 12 := hN.1.2.2.2.2.2.1
    exact ⟨e8, hI.now hN q q2⟩
set_option maxRecDepth 100000 in
theorem pu_count (hI : Inv n i cf ca f ar) (w : Int32) : (sX6_count n cf ca w) = (sX7_count f ar w) ∧ Inv n i cf ca f ar := by
  refine ⟨?_, hI⟩
  have hN := hI.1
  obtain ⟨⟨a0, a1, a2, a6, a7, a8, a9, a10, a11, a12, a13⟩, hP, hR, -⟩ := hN
  unfold sX6_count sX7_count
  by_cases c : sX7_isIn w 11 16 = true
  · rw [if_pos c]
    have hw : 11 ≤ w.toInt ∧ w.toInt ≤ 16 := by
      unfold sX7_isIn at c
      by_cases c1 : w < 11
      · rw [if_pos c1] at c; cases c
      · rw [if_neg c1] at c
        rw [Int32.lt_iff_toInt_lt, show (11 : Int32).toInt = 11 by decide] at c1
        refine ⟨by omega, ?_⟩
        by_cases c2 : (16 : Int32) < w
        · rw [decide_eq_true c2] at c; cases c
        · rw [Int32.lt_iff_toInt_lt, show (16 : Int32).toInt = 16 by decide] at c2
          omega
    have g : ∀ z : Int32, z.toInt ≤ 10 → ¬ w = z := fun z hz e => by rw [e] at hw; omega
    rw [if_neg (g 0 (by decide)), if_neg (g 1 (by decide)), if_neg (g 2 (by decide)), if_neg (g 3 (by decide)), if_neg (g 4 (by decide)), if_neg (g 5 (by decide)), if_neg (g 6 (by decide)), if_neg (g 7 (by decide)), if_neg (g 8 (by decide)), if_neg (g 9 (by decide)), if_neg (by rw [Int32.lt_iff_toInt_lt, show (11 : Int32).toInt = 11 by decide]; omega), if_neg (by rw [Int32.lt_iff_toInt_lt, show (16 : Int32).toInt = 16 by decide]; omega)]
    obtain ⟨k, hk, ek⟩ := bt_nI (x := w) (hi := 16) ⟨by omega, hw.2⟩ (by omega)
    rw [ek, nI_toInt (by omega)] at hw
    have hk2 : 10 ≤ k := by omega
    rw [ek, show (10 : Int32) = nI 10 from rfl, nI_sub hk2, nI_clamp (by omega)]
    exact hI.2.2.2.2 (k - 10) (by omega)
  rw [if_neg c]
  by_cases d0 : w = 0
  · rw [if_pos d0, if_pos d0]; exact a6
  rw [if_neg d0, if_neg d0]
  by_cases d1 : w = 1
  · rw [if_pos d1, if_pos d1]; exact a8
  rw [if_neg d1, if_neg d1]
  by_cases d2 : w = 2
  · rw [if_pos d2, if_pos d2]; exact a9
  rw [if_neg d2, if_neg d2]
  by_cases d3 : w = 3
  · rw [if_pos d3, if_pos d3]; exact a11
  rw [if_neg d3, if_neg d3]
  by_cases d4 : w = 4
  · rw [if_pos d4, if_pos d4]; exact a12
  rw [if_neg d4, if_neg d4]
  by_cases d5 : w = 5
  · rw [if_pos d5, if_pos d5]; exact a13
  rw [if_neg d5, if_neg d5]
  by_cases d6 : w = 6
  · rw [if_pos d6, if_pos d6]; exact a7
  rw [if_neg d6, if_neg d6]
  by_cases d7 : w = 7
  · rw [if_pos d7, if_pos d7]
    obtain ⟨k, hk, ek⟩ := bt_nI (hi := 5) (iv_sz hI) (by omega)
    have hm : ∀ p : Nat, p < k → n.2 p 1 = ar 3 p := fun p hp => (hP p (by rw [ek, nI_toInt (by omega)]; omega)).2.1
    unfold sX2_allMinds
    rw [← a6, ek, nI_clamp (by omega)]
    match k, hk, hm with
    | 0, _, _ => rw [if_pos (by decide)]; rfl
    | 1, _, hm => rw [if_neg (by decide), if_pos (by decide), hm 0 (by omega)]; rfl
    | 2, _, hm => rw [if_neg (by decide), if_neg (by decide), if_pos (by decide), hm 0 (by omega), hm 1 (by omega)]; rfl
    | 3, _, hm => rw [if_neg (by decide), if_neg (by decide), if_neg (by decide), if_pos (by decide), hm 0 (by omega), hm 1 (by omega), hm 2 (by omega)]; rfl
    | 4, _, hm => rw [if_neg (by decide), if_neg (by decide), if_neg (by decide), if_neg (by decide), if_pos (by decide), hm 0 (by omega), hm 1 (by omega), hm 2 (by omega), hm 3 (by omega)]; rfl
    | 5, _, hm => rw [if_neg (by decide), if_neg (by decide), if_neg (by decide), if_neg (by decide), if_neg (by decide), if_pos (by decide), hm 0 (by omega), hm 1 (by omega), hm 2 (by omega), hm 3 (by omega), hm 4 (by omega)]; rfl
    | k + 6, hk, _ => exact absurd hk (by omega)
  rw [if_neg d7, if_neg d7]
  by_cases d8 : w = 8
  · rw [if_pos d8, if_pos d8]; exact hI.2.2.2.1.1
  rw [if_neg d8, if_neg d8]
  by_cases d9 : w = 9
  · rw [if_pos d9, if_pos d9]; exact hI.2.2.1.1
  rw [if_neg d9, if_neg d9]
  by_cases e1 : w < 11
  · rw [if_pos e1]
  · rw [if_neg e1, if_pos (by
      unfold sX7_isIn at c
      rw [if_neg e1] at c
      by_cases c2 : (16 : Int32) < w
      · exact c2
      · rw [decide_eq_false c2] at c; exact absurd rfl c)]
end zPI
