section zPE
variable {n m i : zP} {cf cf1 : Nat → Int32} {ca ca1 : Nat → Nat → Int32} {f f1 : Nat → Int32} {ar a1 : Nat → Nat → Int32}
theorem Inv.cg (h : Inv n i cf ca f ar) (hf : ∀ k, (8 ≤ k ∧ k ≤ 12) ∨ k = 17 ∨ k = 21 ∨ k = 35 → f1 k = f k) (ha : ∀ k, (1 ≤ k ∧ k ≤ 7) ∨ k = 13 ∨ k = 20 ∨ k = 34 → a1 k = ar k) (hcf : cf1 0 = cf 0 ∧ cf1 1 = cf 1 ∧ cf1 2 = cf 2) (hca : ca1 33 = ca 33 ∧ ca1 34 = ca 34) (h35 : ∀ j : Nat, j < 7 → ca1 35 j = a1 0 j) : Inv n i cf1 ca1 f1 a1 := by
  obtain ⟨h1, h2, h3, h4, -⟩ := h
  refine ⟨?_, ?_, ?_, ?_, h35⟩
  · unfold rN rS rP at h1 ⊢
    rw [hf 8 (by omega), hf 9 (by omega), hf 10 (by omega), hf 11 (by omega), hf 12 (by omega), ha 1 (by omega), ha 2 (by omega), ha 3 (by omega), ha 4 (by omega), ha 5 (by omega), ha 6 (by omega), ha 7 (by omega)]
    exact h1
  · rw [hcf.1, hf 21 (by omega), ha 20 (by omega)]
    exact h2
  · rw [hcf.2.2, hf 17 (by omega), ha 13 (by omega), hca.1]
    exact h3
  · rw [hcf.2.1, hf 35 (by omega), ha 34 (by omega), hca.2]
    exact h4
/-- what stays of the class in mind -/
def ck (cf : Nat → Int32) (ca : Nat → Nat → Int32) (cf1 : Nat → Int32) (ca1 : Nat → Nat → Int32) : Prop := (∀ q, q ≠ 3 → q ≠ 4 → q ≠ 5 → cf1 q = cf q) ∧ (∀ q, q ≠ 29 → q ≠ 30 → q ≠ 31 → ca1 q = ca q)
theorem ck.rf : ck cf ca cf ca := ⟨fun _ _ _ _ => rfl, fun _ _ _ _ => rfl⟩
theorem ck.tr {cf2 : Nat → Int32} {ca2 : Nat → Nat → Int32} (h1 : ck cf ca cf1 ca1) (h2 : ck cf1 ca1 cf2 ca2) : ck cf ca cf2 ca2 := ⟨fun q a b c => (h2.1 q a b c).trans (h1.1 q a b c), fun q a b c => (h2.2 q a b c).trans (h1.2 q a b c)⟩
theorem ck_clear : ck cf ca (sX0_clear cf ca).1 (sX0_clear cf ca).2 := by
  unfold sX0_clear
  exact ⟨fun q h3 h4 h5 => by dsimp only; rw [upd_ne h5, upd_ne h4, upd_ne h3], fun q h29 h30 h31 => by dsimp only; rw [up2_ne h31, up2_ne h30, up2_ne h29]⟩
theorem ck_pass {mg : Bool} {k : Nat} {s : zS} : ck s.2.1 s.2.2 (mpass mg k s).2.1 (mpass mg k s).2.2 := ⟨fun q h3 h4 h5 => mpass_cf h3 h4 h5 k s, fun q h29 h30 h31 => mpass_ca h29 h30 h31 k s⟩
theorem Inv.mind (h : Inv n i cf ca f ar) (hc : ck cf ca cf1 ca1) (hk : kt f ar f1 a1) : Inv n i cf1 ca1 f1 a1 := by
  refine h.cg (fun k hk1 => hk.1 k (by omega)) (fun k hk1 => hk.2 k (by omega)) ⟨hc.1 0 (by decide) (by decide) (by decide), hc.1 1 (by decide) (by decide) (by decide), hc.1 2 (by decide) (by decide) (by decide)⟩ ⟨hc.2 33 (by decide) (by decide) (by decide), hc.2 34 (by decide) (by decide) (by decide)⟩ (fun j hj => ?_)
  rw [hc.2 35 (by decide) (by decide) (by decide), hk.2 0 (by omega)]
  exact h.2.2.2.2 j hj
/-! refusals -/
def isW (w : Int32) : Prop := w = -1 ∨ w = -2 ∨ w = -3 ∨ w = -4 ∨ w = -6
theorem bd_w {v lo hi : Int32} (h : ¬ sX7_bound v lo hi = 0) : isW (sX7_bound v lo hi) := by
  unfold sX7_bound at h ⊢
  unfold isW
  split at h
  · rename_i c1
    rw [if_pos c1]
    split at h
    · exact absurd rfl h
    · rename_i c2
      rw [if_neg c2]
      decide
  · rename_i c1
    rw [if_neg c1]
    decide
theorem Inv.ref (h : Inv n i cf ca f ar) (k : Nat) : Inv n i cf (up2 ca 35 (upd (ca 35) k ((ca 35 k) + 1))) f (up2 ar 0 (upd (ar 0) k ((ar 0 k) + 1))) := by
  refine h.cg (fun _ _ => rfl) (fun q hq => up2_ne (by omega)) ⟨rfl, rfl, rfl⟩ ⟨up2_ne (by decide), up2_ne (by decide)⟩ (fun j hj => ?_)
  rw [up2_eq, up2_eq]
  by_cases c : j = k
  · subst c
    rw [upd_eq, upd_eq, h.2.2.2.2 j hj]
  · rw [upd_ne c, upd_ne c, h.2.2.2.2 j hj]
theorem rf_eq {w : Int32} (hw : isW w) : sX6_refuse ca w = (w, up2 ca 35 (upd (ca 35) (-w).toNatClampNeg ((ca 35 (-w).toNatClampNeg) + 1))) := by
  unfold sX6_refuse
  rcases hw with rfl | rfl | rfl | rfl | rfl <;> rw [if_neg (by decide), if_neg (by decide)]
theorem Inv.no (h : Inv n i cf ca f ar) {w : Int32} (hw : isW w) : (sX6_refuse ca w).1 = (sX7_no ar w).1 ∧ Inv n i cf (sX6_refuse ca w).2 f (sX7_no ar w).2 := by
  rw [rf_eq hw]
  unfold sX7_no
  exact ⟨rfl, h.ref _⟩
theorem Inv.lower (h : Inv n i cf ca f ar) {w : Int32} (hw : isW w) : (sX6_refuseTold ca w).1 = (sX7_lower ar w).1 ∧ Inv n i cf (sX6_refuseTold ca w).2 f (sX7_lower ar w).2 := by
  unfold sX6_refuseTold
  rw [rf_eq hw]
  unfold sX7_lower
  exact ⟨rfl, h.ref _⟩
theorem w1 : isW (-1) := by unfold isW; decide
theorem w2 : isW (-2) := by unfold isW; decide
theorem w3 : isW (-3) := by unfold isW; decide
theorem w4 : isW (-4) := by unfold isW; decide
theorem w6 : isW (-6) := by unfold isW; decide
/-! a play in mind -/
def pm (mg : Bool) (n : zP) (cf : Nat → Int32) (ca : Nat → Nat → Int32) (x : Int32) : zS := mpass mg x.toNatClampNeg (n, (sX0_clear cf ca).1, (sX0_clear cf ca).2)
theorem pim_eq {mg : Bool} {x : Int32} : sX6_playInMind (sX6_think n cf ca).1 (sX6_think n cf ca).2.1 (sX6_think n cf ca).2.2 x mg = (sX0_allCost (pm mg n cf ca x).2.2, pm mg n cf ca x) := rfl
theorem pm_ck {mg : Bool} {x : Int32} : ck cf ca (pm mg n cf ca x).2.1 (pm mg n cf ca x).2.2 := ck_clear.tr (ck_pass (s := (n, (sX0_clear cf ca).1, (sX0_clear cf ca).2)))
theorem rK.pm {mg : Bool} (h : rK mg n f ar) {x : Int32} (hx : x.toInt ≤ 240) : SR mg (pm mg n cf ca x).1 (pm mg n cf ca x).2.1 (pm mg n cf ca x).2.2 (sX7_goes f ar x).1 (sX7_goes f ar x).2 ∧ SB x.toNatClampNeg (pm mg n cf ca x).1 (pm mg n cf ca x).2.2 := h.play cf ca (cl240 hx) 0
theorem th_f {x : Int32} {k : Nat} (h1 : k ≠ 11) (h2 : k ≠ 12) : (sX7_thinks f ar x).2.1 k = (sX7_goes f ar x).1 k := by
  unfold sX7_thinks
  dsimp only
  rw [upd_ne h1, upd_ne h2]
theorem th_a {x : Int32} {k : Nat} (h1 : k ≠ 1) : (sX7_thinks f ar x).2.2 k = (sX7_goes f ar x).2 k := by
  unfold sX7_thinks
  dsimp only
  rw [up2_ne h1]
theorem th_1 {x : Int32} : (sX7_thinks f ar x).2.2 1 0 = ar 1 0 := by
  unfold sX7_thinks
  dsimp only
  rw [up2_eq, upd_eq]
theorem in_pos {w : Int32} {hi : Int32} (h0 : ¬ w < 0) (h : w ≤ hi) : sX7_isIn w 0 hi = true := by
  unfold sX7_isIn
  rw [if_neg h0, decide_eq_false (by rw [Int32.le_iff_toInt_le] at h; rw [Int32.lt_iff_toInt_lt]; omega)]
  rfl
theorem in_neg0 {w : Int32} {hi : Int32} (h0 : w < 0) : ¬ sX7_isIn w 0 hi = true := by
  unfold sX7_isIn
  rw [if_pos h0]
  exact Bool.false_ne_true
theorem in_neg1 {w : Int32} {hi : Int32} (h0 : ¬ w < 0) (h : ¬ w ≤ hi) : ¬ sX7_isIn w 0 hi = true := by
  unfold sX7_isIn
  rw [if_neg h0, decide_eq_true (by rw [Int32.le_iff_toInt_le] at h; rw [Int32.lt_iff_toInt_lt]; omega)]
  exact Bool.false_ne_true
theorem pu_whoLast (hI : Inv n i cf ca f ar) (x : Int32) : ((sX6_whoLast n m cf ca x).1) = ((sX7_whoLast f ar x).1) ∧ Inv n i ((sX6_whoLast n m cf ca x).2.2.1) ((sX6_whoLast n m cf ca x).2.2.2) ((sX7_whoLast f ar x).2.1) ((sX7_whoLast f ar x).2.2) := by
  unfold sX6_whoLast sX7_whoLast
  by_cases c : sX7_bound x 0 240 = 0
  · rw [if_pos (show sX6_outside x 0 240 = 0 from c), if_pos c, pim_eq]
    have hx := bd_hi c
    obtain ⟨hs, -⟩ := hI.1.k.pm (cf := cf) (ca := ca) hx
    refine ⟨?_, hI.mind pm_ck (th_kt (iv_mk hI) hx)⟩
    show (pm true n cf ca x).2.1 5 = (sX7_thinks f ar x).2.1 32
    rw [th_f (by decide) (by decide)]
    exact hs.2.2.2.2.1.2.2
  · rw [if_neg (show ¬ sX6_outside x 0 240 = 0 from c), if_neg c]
    exact hI.no (bd_w c)
theorem SR.told {mg : Bool} (h : SR mg m cf ca f ar) : s5 (ca 31) = f 29 ∧ s5 (ca 30) = f 28 := h.2.2.2.2.2.2.2
theorem pu_cost (hI : Inv n i cf ca f ar) (x : Int32) (w : Int32) : ((sX6_cost n m cf ca x w).1) = ((sX7_cost f ar x w).1) ∧ Inv n i ((sX6_cost n m cf ca x w).2.2.1) ((sX6_cost n m cf ca x w).2.2.2) ((sX7_cost f ar x w).2.1) ((sX7_cost f ar x w).2.2) := by
  unfold sX6_cost sX7_cost
  by_cases c : sX7_bound x 0 240 = 0
  · rw [if_pos (show sX6_outside x 0 240 = 0 from c), if_pos c, pim_eq]
    have hx := bd_hi c
    obtain ⟨hs, -⟩ := hI.1.k.pm (cf := cf) (ca := ca) hx
    have hc := (hI.1.k.cost cf ca hx).1
    have hn := hI.mind pm_ck (th_kt (iv_mk hI) hx) (cf1 := (pm true n cf ca x).2.1) (ca1 := (pm true n cf ca x).2.2)
    by_cases c1 : w < 0
    · rw [if_pos c1, if_neg (in_neg0 c1)]
      exact hI.no w2
    rw [if_neg c1]
    by_cases c2 : w ≤ 4
    · rw [if_pos c2, if_pos (in_pos c1 c2)]
      have e28 := th_f (f := f) (ar := ar) (x := x) (k := 28) (by decide) (by decide)
      have e29 := th_f (f := f) (ar := ar) (x := x) (k := 29) (by decide) (by decide)
      have e30 := th_f (f := f) (ar := ar) (x := x) (k := 30) (by decide) (by decide)
      have e31 := th_f (f := f) (ar := ar) (x := x) (k := 31) (by decide) (by decide)
      obtain ⟨t1, t2⟩ := hs.told
      obtain ⟨t3, t4, -⟩ := hs.2.2.2.2.1
      unfold sX0_told
      dsimp only
      by_cases d0 : w = 0
      · rw [if_pos d0, if_pos d0]
        exact ⟨hc, hn⟩
      rw [if_neg d0, if_neg d0]
      by_cases d1 : w = 1
      · rw [if_pos d1, if_pos d1]
        exact ⟨t2.trans e28.symm, hn⟩
      rw [if_neg d1, if_neg d1]
      by_cases d2 : w = 2
      · rw [if_pos d2, if_pos d2]
        exact ⟨t1.trans e29.symm, hn⟩
      rw [if_neg d2, if_neg d2]
      by_cases d3 : w = 3
      · rw [if_pos d3, if_pos d3]
        exact ⟨t3.trans e30.symm, hn⟩
      rw [if_neg d3, if_neg d3]
      exact ⟨t4.trans e31.symm, hn⟩
    · rw [if_neg c2, if_neg (in_neg1 c1 c2)]
      exact hI.no w2
  · rw [if_neg (show ¬ sX6_outside x 0 240 = 0 from c), if_neg c]
    exact hI.no (bd_w c)
/-! people -/
theorem has_eq (h : Inv n i cf ca f ar) (p : Int32) : sX2_has (n.1 0) (n.1 1) (n.1 2) (n.1 6) (n.1 7) (n.1 8) p = sX7_isPerson f p := by
  unfold sX2_has sX7_isPerson
  have e6 : n.1 6 = f 8 := h.1.1.2.2.2.1
  have h5 := (iv_sz h).2
  rw [← e6]
  by_cases c1 : p < 0
  · rw [if_pos c1, if_pos c1]
  rw [if_neg c1, if_neg c1]
  by_cases c2 : n.1 6 ≤ p
  · rw [if_pos c2, decide_eq_true c2]
    rfl
  · rw [if_neg c2, decide_eq_false c2, decide_eq_false (by rw [Int32.le_iff_toInt_le, show (5 : Int32).toInt = 5 by decide] at *; omega)]
theorem per_k (h : Inv n i cf ca f ar) {p : Int32} (hp : sX7_isPerson f p = true) : ∃ k : Nat, p = nI k ∧ (k : Int) < (n.1 6).toInt ∧ k < 5 := by
  have e6 : n.1 6 = f 8 := h.1.1.2.2.2.1
  have h5 := (iv_sz h).2
  unfold sX7_isPerson at hp
  by_cases c1 : p < 0
  · rw [if_pos c1] at hp; cases hp
  · rw [if_neg c1] at hp
    by_cases c2 : f 8 ≤ p
    · rw [decide_eq_true c2] at hp; cases hp
    · obtain ⟨k, hk, e⟩ := nI_of c1
      subst e
      rw [Int32.le_iff_toInt_le, nI_toInt hk, ← e6] at c2
      exact ⟨k, rfl, by omega, by omega⟩
theorem to_eq {mg : Bool} (h : SR mg m cf ca f ar) {k : Nat} (hk : k < 5) {w : Int32} : sX0_toldOf cf ca (nI k) w = if w = 0 then ar 24 k else if w = 1 then ar 25 k else ar 24 k + ar 25 k * ar 7 k := by
  obtain ⟨f1, f2, f3⟩ := h.2.2.2.2.2.1 k hk
  unfold sX0_toldOf
  rw [if_neg (by rw [Int32.lt_iff_toInt_lt, i0, nI_toInt (by omega)]; omega), if_pos (by rw [Int32.lt_iff_toInt_lt, nI_toInt (by omega), show (5 : Int32).toInt = 5 by decide]; omega), nI_clamp (by omega), f1, f2, f3]
theorem pu_of (hI : Inv n i cf ca f ar) (p : Int32) (x : Int32) (w : Int32) : ((sX6_of n m cf ca p x w).1) = ((sX7_of f ar p x w).1) ∧ Inv n i ((sX6_of n m cf ca p x w).2.2.1) ((sX6_of n m cf ca p x w).2.2.2) ((sX7_of f ar p x w).2.1) ((sX7_of f ar p x w).2.2) := by
  unfold sX6_of sX7_of
  rw [has_eq hI]
  by_cases cp : sX7_isPerson f p = true
  · rw [if_pos cp, if_pos cp]
    by_cases c : sX7_bound x 0 240 = 0
    · rw [if_pos (show sX6_outside x 0 240 = 0 from c), if_pos c, pim_eq]
      have hx := bd_hi c
      obtain ⟨hs, -⟩ := hI.1.k.pm (cf := cf) (ca := ca) hx
      have hn := hI.mind pm_ck (th_kt (iv_mk hI) hx) (cf1 := (pm true n cf ca x).2.1) (ca1 := (pm true n cf ca x).2.2)
      by_cases c1 : w < 0
      · rw [if_pos c1, if_neg (in_neg0 c1)]
        exact hI.no w2
      rw [if_neg c1]
      by_cases c2 : w ≤ 2
      · rw [if_pos c2, if_pos (in_pos c1 c2)]
        obtain ⟨k, rfl, hk, hk5⟩ := per_k hI cp
        have e24 := th_a (f := f) (ar := ar) (x := x) (k := 24) (by decide)
        have e25 := th_a (f := f) (ar := ar) (x := x) (k := 25) (by decide)
        have e7 := th_a (f := f) (ar := ar) (x := x) (k := 7) (by decide)
        have ht := to_eq hs hk5 (w := w)
        unfold sX7_bothOf
        dsimp only
        rw [ht, e24, e25, e7, nI_clamp (by omega)]
        by_cases d0 : w = 0
        · rw [if_pos d0, if_pos d0]
          exact ⟨rfl, hn⟩
        rw [if_neg d0, if_neg d0]
        by_cases d1 : w = 1
        · rw [if_pos d1, if_pos d1]
          exact ⟨rfl, hn⟩
        rw [if_neg d1, if_neg d1]
        exact ⟨rfl, hn⟩
      · rw [if_neg c2, if_neg (in_neg1 c1 c2)]
        exact hI.no w2
    · rw [if_neg (show ¬ sX6_outside x 0 240 = 0 from c), if_neg c]
      exact hI.no (bd_w c)
  · rw [if_neg cp, if_neg cp]
    exact hI.no w1
end zPE
