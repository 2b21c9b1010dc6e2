section zPN
variable {n m i : zP} {cf cf1 : Nat → Int32} {ca ca1 : Nat → Nat → Int32} {f f1 : Nat → Int32} {ar a1 : Nat → Nat → Int32}
/-- the class's minutes held, the reference's -/
def mR (x y : Int32) : Prop := (x = 240 ∧ y = -9) ∨ (∃ q : Nat, q < 240 ∧ x = nI q ∧ y = nI q)
theorem oe_eq {m : zP} {v : Int32} (h0 : m.1 0 = v) (h1 : m.1 1 = a1 1 1) (h2 : m.1 2 = a1 1 2) (h4 : m.1 12 = a1 1 4) : sX2_isOffEither m = sX7_isOff a1 v := by
  unfold sX2_isOffEither sX7_isOff
  rw [off_eq, off_eq, if_pos (show (0 : Int32) = 0 from rfl), if_neg (show ¬ (1 : Int32) = 0 by decide), h0, h1, h2, h4]
theorem mh_it : ∀ (j a b g : Nat) (s : zS) (f : Nat → Int32) (ar : Nat → Nat → Int32), SR false s.1 s.2.1 s.2.2 f ar → SB g s.1 s.2.2 → g + j ≤ 240 → a + j ≤ 240 → (∀ q : Nat, q < j → a1 26 (a + q) = (itX7_goes (q + 1) b f ar).2 1 0) → (∀ q : Nat, q ≠ 0 → ar 1 q = a1 1 q) → mR (itX6_minutesHeld j a s.1).1 (itX7_holdsFrom f1 a1 j a)
  | 0, a, b, g, s, f, ar, _, _, _, _, _, _ => Or.inl ⟨rfl, rfl⟩
  | j + 1, a, b, g, s, f, ar, h, hB, hg, ha, hp, hr => by
    obtain ⟨k1, k2⟩ := h.step hB (by omega)
    have hkg := kg_1 f ar
    have k3 : (mstep false s).1.1 0 = a1 26 a := by
      have h0 := hp 0 (by omega)
      rw [Nat.add_zero] at h0
      rw [h0]
      exact k1.1.1
    have ho : sX2_isOffEither (mstep false s).1 = sX7_isOff a1 (a1 26 a) := oe_eq k3 (k1.1.2.1.trans ((hkg.2.2 1 (by decide)).trans (hr 1 (by decide)))) (k1.1.2.2.1.trans ((hkg.2.2 2 (by decide)).trans (hr 2 (by decide)))) (k1.1.2.2.2.2.2.2.2.2.1.trans ((hkg.2.2 4 (by decide)).trans (hr 4 (by decide))))
    have ih := mh_it j (a + 1) (b + 1) (g + 1) (mstep false s) (sX7_goesOne f ar).1 (sX7_goesOne f ar).2 k1 k2 (by omega) (by omega) (fun q hq => by rw [show a + 1 + q = a + (q + 1) by omega]; exact hp (q + 1) (by omega)) (fun q hq => (hkg.2.2 q hq).trans (hr q hq))
    have es : stX6_minutesHeld a s.1 = if sX2_isOffEither (mstep false s).1 = true then .inl (nI a, (mstep false s).1) else .inr (mstep false s).1 := rfl
    have e7 : stX7_holdsFrom f1 a1 a = if sX7_isOff a1 (a1 26 a) = true then .inl (nI a) else .inr () := by
      unfold stX7_holdsFrom
      rw [nI_clamp (by omega)]
    rw [ho] at es
    by_cases c : sX7_isOff a1 (a1 26 a) = true
    · rw [if_pos c] at es e7
      rw [itX6_minutesHeld_r es, itX7_holdsFrom_r e7]
      exact Or.inr ⟨a, by omega, rfl, rfl⟩
    · rw [if_neg c] at es e7
      rw [itX6_minutesHeld_n es, itX7_holdsFrom_n e7]
      exact ih
theorem mh_eq (hN : rN n f ar) {v : Int32} (hv : bt v (-99) 99) (cf1 : Nat → Int32) (ca1 : Nat → Nat → Int32) {f1 : Nat → Int32} {a1 : Nat → Nat → Int32} (k : kt f ar f1 a1) : mR (sX6_minutesHeld n cf1 ca1 v).1 (sX7_holdsFrom f1 a1 v).1 ∧ ck cf1 ca1 (sX6_minutesHeld n cf1 ca1 v).2.2.1 (sX6_minutesHeld n cf1 ca1 v).2.2.2 ∧ kt f ar (sX7_holdsFrom f1 a1 v).2.1 (sX7_holdsFrom f1 a1 v).2.2 := by
  have h2 := hf_kt (v := v) (k.ok hN.mk)
  have g5 : (sX6_minutesHeld n cf1 ca1 v).2.2 = ((sX0_clear cf1 ca1).1, (sX0_clear cf1 ca1).2) := by
    unfold sX6_minutesHeld sX6_think
    dsimp only
  have g6 : (sX6_minutesHeld n cf1 ca1 v).1 = (itX6_minutesHeld 240 0 ((upd n.1 0 v), n.2)).1 := by
    unfold sX6_minutesHeld sX6_think
    dsimp only
  have g7 : (sX7_holdsFrom f1 a1 v).1 = itX7_holdsFrom (sX7_holdsFrom f1 a1 v).2.1 (sX7_holdsFrom f1 a1 v).2.2 240 0 := by
    unfold sX7_holdsFrom
    dsimp only
  refine ⟨?_, by rw [g5]; exact ck_clear, k.tr h2⟩
  rw [g6, g7]
  have hr := ((hN.set0 hv).k.kt (kt_1 k 0 v)).r5
  obtain ⟨b1, b2⟩ := hr.begin cf1 ca1
  have h4 := (at_it 240 0 0 (sX7_begins (upd f1 10 5) (up2 a1 1 (upd (a1 1) 0 v))).1 (sX7_begins (upd f1 10 5) (up2 a1 1 (upd (a1 1) 0 v))).2 rfl (by omega)).2.2.2
  have e26 : (sX7_holdsFrom f1 a1 v).2.2 26 = (sX7_goes (upd f1 10 5) (up2 a1 1 (upd (a1 1) 0 v)) 240).2 26 := by
    unfold sX7_holdsFrom sX7_thinksWith
    dsimp only
    rw [up2_ne (by decide), show (0 : Int32).toNatClampNeg = 0 by decide]
    exact th_a (by decide)
  have e1 : (sX7_holdsFrom f1 a1 v).2.2 1 = a1 1 := h2.2 1 (by omega)
  have hk := kg_be (upd f1 10 5) (up2 a1 1 (upd (a1 1) 0 v))
  have := mh_it (f1 := (sX7_holdsFrom f1 a1 v).2.1) (a1 := (sX7_holdsFrom f1 a1 v).2.2) 240 0 0 0 (((upd n.1 0 v), n.2), (sX0_clear cf1 ca1).1, (sX0_clear cf1 ca1).2) _ _ b1 b2 (by omega) (by omega) (fun q hq => by
    rw [e26, gs_i, show (240 : Int32).toNatClampNeg = 240 by decide]
    exact h4 q hq) (fun q hq => by
    rw [hk.2.2 q hq, up2_eq, upd_ne hq, e1])
  exact this
set_option maxRecDepth 100000 in
theorem pu_holds (hI : Inv n i cf ca f ar) (v : Int32) : ((sX6_holds n m cf ca v).1) = ((sX7_holds f ar v).1) ∧ Inv n i ((sX6_holds n m cf ca v).2.2.1) ((sX6_holds n m cf ca v).2.2.2) ((sX7_holds f ar v).2.1) ((sX7_holds f ar v).2.2) := by
  unfold sX6_holds sX7_holds
  by_cases c : sX7_bound v (-99) 99 = 0
  · rw [if_pos (show sX6_outside v (-99) 99 = 0 from c), if_pos c]
    have hv := bd_bt c
    rw [show (-99 : Int32).toInt = -99 by decide, show (99 : Int32).toInt = 99 by decide] at hv
    obtain ⟨h1, h2, h3⟩ := mh_eq hI.1 hv cf ca kt.rf
    generalize sX6_minutesHeld n cf ca v = L at h1 h2 ⊢
    generalize sX7_holdsFrom f ar v = Y at h1 h3 ⊢
    refine ⟨?_, hI.mind h2 h3⟩
    dsimp only
    rcases h1 with ⟨g1, g2⟩ | ⟨q, hq, g1, g2⟩
    · rw [g1, g2, if_pos (by decide)]
    · rw [g1, g2, if_neg (by rw [Int32.le_iff_toInt_le, show (240 : Int32).toInt = 240 by decide, nI_toInt (by omega)]; omega)]
  · rw [if_neg (show ¬ sX6_outside v (-99) 99 = 0 from c), if_neg c]
    exact hI.no (bd_w c)
theorem mR.h {x y : Int32} (h : mR x y) : (if 0 ≤ y then y else 240) = x := by
  rcases h with ⟨g1, g2⟩ | ⟨q, hq, g1, g2⟩
  · rw [g1, g2, if_neg (by decide)]
  · rw [g1, g2, if_pos (by rw [Int32.le_iff_toInt_le, i0, nI_toInt (by omega)]; omega)]
theorem sa_it (hN : rN n f ar) : ∀ (j a : Nat) (m : zP) (cf1 : Nat → Int32) (ca1 : Nat → Nat → Int32) (f1 : Nat → Int32) (a1 : Nat → Nat → Int32) (lo be v : Int32), ck cf ca cf1 ca1 → kt f ar f1 a1 → -20 ≤ v.toInt → v.toInt + j ≤ 21 → (itX6_setAt n j a m cf1 ca1 lo be v).1 = (itX7_setAt j a f1 a1 be lo v).1 ∧ ck cf ca (itX6_setAt n j a m cf1 ca1 lo be v).2.2.1 (itX6_setAt n j a m cf1 ca1 lo be v).2.2.2 ∧ kt f ar (itX7_setAt j a f1 a1 be lo v).2.1 (itX7_setAt j a f1 a1 be lo v).2.2
  | 0, a, m, cf1, ca1, f1, a1, lo, be, v, hc, hk, _, _ => ⟨rfl, hc, hk⟩
  | j + 1, a, m, cf1, ca1, f1, a1, lo, be, v, hc, hk, h1, h2 => by
    obtain ⟨p1, p2, p3⟩ := mh_eq hN (v := v) ⟨by omega, by omega⟩ cf1 ca1 hk
    have hv : (v + 1).toInt = v.toInt + 1 := i_s1 (by omega)
    have e6 : stX6_setAt n a m cf1 ca1 lo be v = if (sX6_minutesHeld n cf1 ca1 v).1 ≤ lo then ((sX6_minutesHeld n cf1 ca1 v).2.1, (sX6_minutesHeld n cf1 ca1 v).2.2.1, (sX6_minutesHeld n cf1 ca1 v).2.2.2, lo, be, v + 1) else ((sX6_minutesHeld n cf1 ca1 v).2.1, (sX6_minutesHeld n cf1 ca1 v).2.2.1, (sX6_minutesHeld n cf1 ca1 v).2.2.2, (sX6_minutesHeld n cf1 ca1 v).1, v, v + 1) := rfl
    have e7 : stX7_setAt a f1 a1 be lo v = if lo < (if 0 ≤ (sX7_holdsFrom f1 a1 v).1 then (sX7_holdsFrom f1 a1 v).1 else 240) then ((sX7_holdsFrom f1 a1 v).2.1, (sX7_holdsFrom f1 a1 v).2.2, v, (if 0 ≤ (sX7_holdsFrom f1 a1 v).1 then (sX7_holdsFrom f1 a1 v).1 else 240), v + 1) else ((sX7_holdsFrom f1 a1 v).2.1, (sX7_holdsFrom f1 a1 v).2.2, be, lo, v + 1) := rfl
    rw [p1.h] at e7
    generalize sX6_minutesHeld n cf1 ca1 v = L at p1 p2 e6 e7
    generalize sX7_holdsFrom f1 a1 v = Y at p1 p3 e7
    by_cases c : L.1 ≤ lo
    · rw [if_pos c] at e6
      rw [if_neg (by rw [Int32.lt_iff_toInt_lt]; rw [Int32.le_iff_toInt_le] at c; omega)] at e7
      rw [itX6_setAt_n e6, itX7_setAt_n e7]
      exact sa_it hN j (a + 1) _ _ _ _ _ _ _ _ (hc.tr p2) p3 (by omega) (by omega)
    · rw [if_neg c] at e6
      rw [if_pos (by rw [Int32.lt_iff_toInt_lt]; rw [Int32.le_iff_toInt_le] at c; omega)] at e7
      rw [itX6_setAt_n e6, itX7_setAt_n e7]
      exact sa_it hN j (a + 1) _ _ _ _ _ _ _ _ (hc.tr p2) p3 (by omega) (by omega)
set_option maxRecDepth 100000 in
theorem pu_setAt (hI : Inv n i cf ca f ar) : ((sX6_setAt n m cf ca).1) = ((sX7_setAt f ar).1) ∧ Inv n i ((sX6_setAt n m cf ca).2.2.1) ((sX6_setAt n m cf ca).2.2.2) ((sX7_setAt f ar).2.1) ((sX7_setAt f ar).2.2) := by
  unfold sX6_setAt sX7_setAt
  obtain ⟨h1, h2, h3⟩ := sa_it hI.1 41 0 m cf ca f ar (-1) (-20) (-20) ck.rf kt.rf (by decide) (by decide)
  have h0 : itX7_setAt 41 0 f ar 0 (-1) (-20) = itX7_setAt 41 0 f ar (-20) (-1) (-20) := by
    have e : ∀ be, stX7_setAt 0 f ar be (-1) (-20) = ((sX7_holdsFrom f ar (-20)).2.1, (sX7_holdsFrom f ar (-20)).2.2, -20, (if 0 ≤ (sX7_holdsFrom f ar (-20)).1 then (sX7_holdsFrom f ar (-20)).1 else 240), -20 + 1) := by
      intro be
      obtain ⟨p1, -, -⟩ := mh_eq hI.1 (v := -20) ⟨by decide, by decide⟩ cf ca kt.rf
      unfold stX7_setAt
      rw [if_pos]
      rw [p1.h]
      rcases p1 with ⟨g1, -⟩ | ⟨q, hq, g1, -⟩
      · rw [g1]; decide
      · rw [g1, Int32.lt_iff_toInt_lt, nI_toInt (by omega), show (-1 : Int32).toInt = -1 by decide]; omega
    rw [itX7_setAt_n (e 0), itX7_setAt_n (e (-20))]
  rw [h0]
  generalize itX6_setAt n 41 0 m cf ca (-1) (-20) (-20) = L at h1 h2 ⊢
  generalize itX7_setAt 41 0 f ar (-20) (-1) (-20) = Y at h1 h3 ⊢
  exact ⟨h1, hI.mind h2 h3⟩
end zPN
