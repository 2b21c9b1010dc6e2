section zPP
variable {n m i : zP} {cf cf1 : Nat → Int32} {ca ca1 : Nat → Nat → Int32} {f f1 : Nat → Int32} {ar a1 : Nat → Nat → Int32}
theorem rN.pw (h : rN n f ar) (hf : f1 8 = f 8 ∧ f1 9 = f 9 ∧ f1 10 = f 10 ∧ f1 11 = f 11 ∧ f1 12 = f 12) (h1 : ∀ j : Nat, j < 6 → a1 1 j = ar 1 j) (hk : ∀ k : Nat, 2 ≤ k → k ≤ 7 → ∀ p : Nat, p < 5 → a1 k p = ar k p) : rN n f1 a1 := by
  obtain ⟨⟨a0, b1, a2, a6, a7, a8, a9, a10, a11, a12, a13⟩, hP, hR, b0, b8⟩ := h
  obtain ⟨e8, e9, e10, e11, e12⟩ := hf
  have h5 := hR.2.2.1.2
  refine ⟨⟨a0.trans (h1 0 (by omega)).symm, b1.trans (h1 1 (by omega)).symm, a2.trans (h1 2 (by omega)).symm, a6.trans e8.symm, a7.trans e11.symm, a8.trans e12.symm, a9.trans e9.symm, a10.trans (h1 3 (by omega)).symm, a11.trans e10.symm, a12.trans (h1 4 (by omega)).symm, a13.trans (h1 5 (by omega)).symm⟩, fun p hp => ?_, hR, b0, b8⟩
  obtain ⟨p0, p1, p2, p3, p4, p5⟩ := hP p hp
  have hp5 : p < 5 := by omega
  exact ⟨p0.trans (hk 2 (by omega) (by omega) p hp5).symm, p1.trans (hk 3 (by omega) (by omega) p hp5).symm, p2.trans (hk 4 (by omega) (by omega) p hp5).symm, p3.trans (hk 5 (by omega) (by omega) p hp5).symm, p4.trans (hk 6 (by omega) (by omega) p hp5).symm, p5.trans (hk 7 (by omega) (by omega) p hp5).symm⟩
/-- the image read from what is saved: only its first 41 numbers -/
theorem rN.im {s t : Nat → Int32} (h : rN i (fI s) (aI s)) (e : ∀ j : Nat, j < 41 → t j = s j) : rN i (fI t) (aI t) := by
  refine h.pw ⟨e 36 (by omega), e 37 (by omega), e 38 (by omega), e 39 (by omega), e 40 (by omega)⟩ (fun j hj => e j (by omega)) (fun k h2 h7 p hp => ?_)
  match k, h2, h7 with
  | 0, h2, _ => exact absurd h2 (by omega)
  | 1, h2, _ => exact absurd h2 (by omega)
  | 2, _, _ => exact e (6 + p) (by omega)
  | 3, _, _ => exact e (11 + p) (by omega)
  | 4, _, _ => exact e (16 + p) (by omega)
  | 5, _, _ => exact e (21 + p) (by omega)
  | 6, _, _ => exact e (26 + p) (by omega)
  | 7, _, _ => exact e (31 + p) (by omega)
  | k + 8, _, h7 => exact absurd h7 (by omega)
/-- what is kept for a while -/
def kM (f : Nat → Int32) (ar : Nat → Nat → Int32) : Nat → Int32 := upd (upd (upd (upd (upd (savK (savK (savK (savK (savK (savK (savK (ar 20) (ar 1) 100 6) (ar 2) 106 5) (ar 3) 111 5) (ar 4) 116 5) (ar 5) 121 5) (ar 6) 126 5) (ar 7) 131 5) 136 (f 8)) 137 (f 9)) 138 (f 10)) 139 (f 11)) 140 (f 12)
theorem sv_n {s x : Nat → Int32} {b L j : Nat} (h : j < b) : savK s x b L j = s j := if_neg (fun z => by omega)
theorem kM_0 {j : Nat} (h : j < 100) : kM f ar j = ar 20 j := by
  unfold kM
  rw [upd_ne (by omega), upd_ne (by omega), upd_ne (by omega), upd_ne (by omega), upd_ne (by omega), sv_n (by omega), sv_n (by omega), sv_n (by omega), sv_n (by omega), sv_n (by omega), sv_n (by omega), sv_n (by omega)]
theorem kM_1 {p : Nat} (hp : p < 6) : kM f ar (100 + p) = ar 1 p := by
  match p, hp with
  | 0, _ => rfl
  | 1, _ => rfl
  | 2, _ => rfl
  | 3, _ => rfl
  | 4, _ => rfl
  | 5, _ => rfl
  | p + 6, hp => exact absurd hp (by omega)
theorem kM_2 {p : Nat} (hp : p < 5) : kM f ar (106 + p) = ar 2 p := by
  match p, hp with
  | 0, _ => rfl
  | 1, _ => rfl
  | 2, _ => rfl
  | 3, _ => rfl
  | 4, _ => rfl
  | p + 5, hp => exact absurd hp (by omega)
theorem kM_3 {p : Nat} (hp : p < 5) : kM f ar (111 + p) = ar 3 p := by
  match p, hp with
  | 0, _ => rfl
  | 1, _ => rfl
  | 2, _ => rfl
  | 3, _ => rfl
  | 4, _ => rfl
  | p + 5, hp => exact absurd hp (by omega)
theorem kM_4 {p : Nat} (hp : p < 5) : kM f ar (116 + p) = ar 4 p := by
  match p, hp with
  | 0, _ => rfl
  | 1, _ => rfl
  | 2, _ => rfl
  | 3, _ => rfl
  | 4, _ => rfl
  | p + 5, hp => exact absurd hp (by omega)
theorem kM_5 {p : Nat} (hp : p < 5) : kM f ar (121 + p) = ar 5 p := by
  match p, hp with
  | 0, _ => rfl
  | 1, _ => rfl
  | 2, _ => rfl
  | 3, _ => rfl
  | 4, _ => rfl
  | p + 5, hp => exact absurd hp (by omega)
theorem kM_6 {p : Nat} (hp : p < 5) : kM f ar (126 + p) = ar 6 p := by
  match p, hp with
  | 0, _ => rfl
  | 1, _ => rfl
  | 2, _ => rfl
  | 3, _ => rfl
  | 4, _ => rfl
  | p + 5, hp => exact absurd hp (by omega)
theorem kM_7 {p : Nat} (hp : p < 5) : kM f ar (131 + p) = ar 7 p := by
  match p, hp with
  | 0, _ => rfl
  | 1, _ => rfl
  | 2, _ => rfl
  | 3, _ => rfl
  | 4, _ => rfl
  | p + 5, hp => exact absurd hp (by omega)
theorem mk_it {x nw : Int32} : ∀ (j a : Nat) (f : Nat → Int32) (ar : Nat → Nat → Int32), a + j ≤ 100 → ∃ g : Nat → Int32, itX7_mark x nw j a f ar = exX7_mark x nw (a + j) f (up2 ar 6 g) ∧ ∀ p : Nat, g p = if a ≤ p ∧ p < a + j then 1 else ar 6 p
  | 0, a, f, ar, _ => ⟨ar 6, by
    have e : up2 ar 6 (ar 6) = ar := by
      funext q
      by_cases c : q = 6
      · subst c; rw [up2_eq]
      · rw [up2_ne c]
    rw [e]
    rfl, fun p => by rw [if_neg (by omega)]⟩
  | j + 1, a, f, ar, h => by
    obtain ⟨g, h1, h2⟩ := mk_it (x := x) (nw := nw) j (a + 1) f (up2 ar 6 (upd (ar 6) a 1)) (by omega)
    refine ⟨g, ?_, fun p => ?_⟩
    · have r : itX7_mark x nw (j + 1) a f ar = itX7_mark x nw j (a + 1) (stX7_mark x nw a f ar).1 (stX7_mark x nw a f ar).2 := rfl
      have e : stX7_mark x nw a f ar = (f, up2 ar 6 (upd (ar 6) a 1)) := by unfold stX7_mark; rw [nI_clamp (by omega)]
      have e2 : up2 (up2 ar 6 (upd (ar 6) a 1)) 6 g = up2 ar 6 g := by
        funext q
        by_cases c : q = 6
        · subst c; rw [up2_eq, up2_eq]
        · rw [up2_ne c, up2_ne c, up2_ne c]
      rw [r, e, h1, e2, show a + 1 + j = a + (j + 1) by omega]
    · rw [h2, up2_eq]
      by_cases c : p = a
      · subst c; rw [upd_eq, if_neg (by omega), if_pos (by omega)]
      · rw [upd_ne c]
        by_cases d : a ≤ p ∧ p < a + (j + 1)
        · rw [if_pos d, if_pos (by omega)]
        · rw [if_neg d, if_neg (by omega)]
set_option maxRecDepth 100000 in
theorem pu_mark (hI : Inv n i cf ca f ar) (x : Int32) : ((sX6_mark n m cf ca x).1) = ((sX7_mark f ar x).1) ∧ Inv n i ((sX6_mark n m cf ca x).2.2.1) ((sX6_mark n m cf ca x).2.2.2) ((sX7_mark f ar x).2.1) ((sX7_mark f ar x).2.2) := by
  unfold sX6_mark sX7_mark
  by_cases c : sX7_bound x 0 240 = 0
  · rw [if_pos (show sX6_outside x 0 240 = 0 from c), if_pos c]
    have hx := bd_hi c
    obtain ⟨N, hN, eN⟩ := bt_nI (hi := 5) (iv_sz hI) (by omega)
    have e68 : n.1 6 = f 8 := hI.1.1.2.2.2.1
    have t1 := th_kt (iv_mk hI) hx
    have c1 : sX0_allCost (pm true n cf ca x).2.2 = _ := (hI.1.k.cost cf ca hx).1
    have hc1 := pm_ck (mg := true) (n := n) (cf := cf) (ca := ca) (x := x)
    rw [sv_eq, c1]
    generalize pm true n cf ca x = Z at hc1 ⊢
    generalize sX7_thinks f ar x = Y at t1 ⊢
    -- what is saved
    have s1 : ∀ k : Nat, k ≠ 22 → k ≠ 23 → (sX7_passesAll_2k Y.2.1 Y.2.2).1 k = Y.2.1 k := by
      intro k h2 h3
      unfold sX7_passesAll_2k
      dsimp only
      by_cases c12 : k = 12
      · subst c12; rw [upd_eq]
      rw [upd_ne c12, upd_ne h3]
      by_cases c11 : k = 11
      · subst c11; rw [upd_eq]
      rw [upd_ne c11]
      by_cases c10 : k = 10
      · subst c10; rw [upd_eq]
      rw [upd_ne c10]
      by_cases c9 : k = 9
      · subst c9; rw [upd_eq]
      rw [upd_ne c9]
      by_cases c8 : k = 8
      · subst c8; rw [upd_eq]
      rw [upd_ne c8, upd_ne h2]
    have s2 : ∀ k : Nat, k ≠ 20 → (sX7_passesAll_2k Y.2.1 Y.2.2).2 k = Y.2.2 k := by
      intro k h
      unfold sX7_passesAll_2k
      dsimp only
      rw [up2_ne h]
    have s20 : (sX7_passesAll_2k Y.2.1 Y.2.2).2 20 = kM Y.2.1 Y.2.2 := by
      unfold sX7_passesAll_2k
      dsimp only
      rw [up2_eq]
      rfl
    generalize sX7_passesAll_2k Y.2.1 Y.2.2 = S at s1 s2 s20 ⊢
    rw [s1 8 (by decide) (by decide), t1.1 8 (by omega), ← e68, eN, nI_clamp (by omega)]
    obtain ⟨g, g1, g2⟩ := mk_it (x := x) (nw := Y.1) N 0 S.1 S.2 (by omega)
    rw [g1]
    unfold exX7_mark
    dsimp only
    -- the hands made fine
    have hF0 := hI.1.fine (fi := 0) (la := nI N - 1) (g := g) (fun p hp => by
      rw [eN, nI_toInt (by omega)] at hp
      have hpN : p < N := by omega
      rw [g2, if_pos (by omega)]
      unfold rh
      have e1 : nI N - 1 = nI (N - 1) := nI_sub (a := N) (b := 1) (by omega)
      rw [e1, if_neg (by rw [Int32.lt_iff_toInt_lt, i0, nI_toInt (by omega)]; omega), if_neg (by rw [Int32.lt_iff_toInt_lt, nI_toInt (by omega), nI_toInt (by omega)]; omega)])
    have hF : rN (sX2_refineHands n 0 (nI N - 1)) S.1 (up2 S.2 6 g) := by
      refine hF0.pw ⟨?_, ?_, ?_, ?_, ?_⟩ (fun j hj => ?_) (fun k h2 h7 p hp => ?_)
      · rw [s1 8 (by decide) (by decide), t1.1 8 (by omega)]
      · rw [s1 9 (by decide) (by decide), t1.1 9 (by omega)]
      · rw [s1 10 (by decide) (by decide), t1.1 10 (by omega)]
      · rw [s1 11 (by decide) (by decide), t1.1 11 (by omega)]
      · rw [s1 12 (by decide) (by decide), t1.1 12 (by omega)]
      · rw [up2_ne (by decide), up2_ne (by decide), s2 1 (by decide), t1.2 1 (by omega)]
      · by_cases c6 : k = 6
        · subst c6; rw [up2_eq, up2_eq]
        · rw [up2_ne c6, up2_ne c6, s2 k (by omega), t1.2 k (by omega)]
    have c2 : sX0_allCost (pm true (sX2_refineHands n 0 (nI N - 1)) Z.2.1 Z.2.2 x).2.2 = _ := (hF.k.cost Z.2.1 Z.2.2 hx).1
    have hc2 := pm_ck (mg := true) (n := sX2_refineHands n 0 (nI N - 1)) (cf := Z.2.1) (ca := Z.2.2) (x := x)
    have t2 := th_kt hF.mk hx
    rw [c2]
    generalize pm true (sX2_refineHands n 0 (nI N - 1)) Z.2.1 Z.2.2 x = V at hc2 ⊢
    generalize sX7_thinks S.1 (up2 S.2 6 g) x = W at t2 ⊢
    have w20 : W.2.2 20 = kM Y.2.1 Y.2.2 := by rw [t2.2 20 (by omega), up2_ne (by decide), s20]
    -- what comes back
    have q1 : ∀ k : Nat, (k < 8 ∨ (12 < k ∧ k < 22) ∨ 33 < k) → (sX7_passesAll_2p W.2.1 W.2.2).1 k = f k := by
      intro k hk
      unfold sX7_passesAll_2p
      dsimp only
      rw [upd_ne (by omega), upd_ne (by omega), upd_ne (by omega), upd_ne (by omega), upd_ne (by omega), upd_ne (by omega), upd_ne (by omega), t2.1 k (by omega), s1 k (by omega) (by omega), t1.1 k (by omega)]
    have q2 : ∀ k : Nat, (k < 1 ∨ (7 < k ∧ k < 20) ∨ 27 < k) → (sX7_passesAll_2p W.2.1 W.2.2).2 k = ar k := by
      intro k hk
      unfold sX7_passesAll_2p
      dsimp only
      rw [up2_ne (by omega), up2_ne (by omega), up2_ne (by omega), up2_ne (by omega), up2_ne (by omega), up2_ne (by omega), up2_ne (by omega), t2.2 k (by omega), up2_ne (by omega), s2 k (by omega), t1.2 k (by omega)]
    have q20 : (sX7_passesAll_2p W.2.1 W.2.2).2 20 = kM Y.2.1 Y.2.2 := by
      rw [← w20]
      unfold sX7_passesAll_2p
      dsimp only
      rw [up2_ne (by omega), up2_ne (by omega), up2_ne (by omega), up2_ne (by omega), up2_ne (by omega), up2_ne (by omega), up2_ne (by omega)]
    have q8 : (sX7_passesAll_2p W.2.1 W.2.2).1 8 = f 8 ∧ (sX7_passesAll_2p W.2.1 W.2.2).1 9 = f 9 ∧ (sX7_passesAll_2p W.2.1 W.2.2).1 10 = f 10 ∧ (sX7_passesAll_2p W.2.1 W.2.2).1 11 = f 11 ∧ (sX7_passesAll_2p W.2.1 W.2.2).1 12 = f 12 := by
      rw [← t1.1 8 (by omega), ← t1.1 9 (by omega), ← t1.1 10 (by omega), ← t1.1 11 (by omega), ← t1.1 12 (by omega)]
      unfold sX7_passesAll_2p
      dsimp only
      rw [w20]
      exact ⟨rfl, rfl, rfl, rfl, rfl⟩
    have qa1 : ∀ j : Nat, j < 6 → (sX7_passesAll_2p W.2.1 W.2.2).2 1 j = ar 1 j := by
      intro j hj
      rw [← t1.2 1 (by omega), ← kM_1 (f := Y.2.1) (ar := Y.2.2) hj, ← w20]
      exact if_pos hj
    have qak : ∀ k : Nat, 2 ≤ k → k ≤ 7 → ∀ p : Nat, p < 5 → (sX7_passesAll_2p W.2.1 W.2.2).2 k p = ar k p := by
      intro k h2 h7 p hp
      rw [← t1.2 k (by omega)]
      match k, h2, h7 with
      | 0, h2, _ => exact absurd h2 (by omega)
      | 1, h2, _ => exact absurd h2 (by omega)
      | 2, _, _ => rw [← kM_2 (f := Y.2.1) (ar := Y.2.2) hp, ← w20]; exact if_pos hp
      | 3, _, _ => rw [← kM_3 (f := Y.2.1) (ar := Y.2.2) hp, ← w20]; exact if_pos hp
      | 4, _, _ => rw [← kM_4 (f := Y.2.1) (ar := Y.2.2) hp, ← w20]; exact if_pos hp
      | 5, _, _ => rw [← kM_5 (f := Y.2.1) (ar := Y.2.2) hp, ← w20]; exact if_pos hp
      | 6, _, _ => rw [← kM_6 (f := Y.2.1) (ar := Y.2.2) hp, ← w20]; exact if_pos hp
      | 7, _, _ => rw [← kM_7 (f := Y.2.1) (ar := Y.2.2) hp, ← w20]; exact if_pos hp
      | k + 8, _, h7 => exact absurd h7 (by omega)
    generalize sX7_passesAll_2p W.2.1 W.2.2 = B at q1 q2 q20 q8 qa1 qak ⊢
    refine ⟨rfl, ?_⟩
    have hc := hc1.tr hc2
    obtain ⟨h1, h2, h3, h4, h5⟩ := hI
    refine ⟨h1.pw q8 qa1 qak, ⟨?_, fun z => ?_⟩, ?_, ?_, ?_⟩
    · rw [hc.1 0 (by decide) (by decide) (by decide), q1 21 (by omega)]; exact h2.1
    · rw [hc.1 0 (by decide) (by decide) (by decide)] at z
      exact (h2.2 z).im (fun j hj => by rw [q20, kM_0 (by omega), t1.2 20 (by omega)])
    · rw [hc.1 2 (by decide) (by decide) (by decide), hc.2 33 (by decide) (by decide) (by decide), q1 17 (by omega), q2 13 (by omega)]; exact h3
    · rw [hc.1 1 (by decide) (by decide) (by decide), hc.2 34 (by decide) (by decide) (by decide), q1 35 (by omega), q2 34 (by omega)]; exact h4
    · rw [hc.2 35 (by decide) (by decide) (by decide), q2 0 (by omega)]; exact h5
  · rw [if_neg (show ¬ sX6_outside x 0 240 = 0 from c), if_neg c]
    exact mk4 (R := sX6_refuseTold ca _) (L := sX7_lower ar _) (hI.lower (bd_w c))
end zPP
