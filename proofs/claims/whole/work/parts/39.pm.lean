section zPM
variable {n m i : zP} {cf cf1 : Nat → Int32} {ca ca1 : Nat → Nat → Int32} {f f1 : Nat → Int32} {ar a1 : Nat → Nat → Int32}
theorem fo_v : ∀ (j a : Nat), a + j ≤ 1000 → itX7_firstOther f ar j a = -9 ∨ 0 ≤ itX7_firstOther f ar j a
  | 0, a, _ => Or.inl rfl
  | j + 1, a, h => by
    by_cases c : sX6_held (ar 26 a + 50) 0 99 = ar 34 a
    · have e7 : stX7_firstOther f ar a = .inr () := by rw [st_fo (by omega), if_pos c]
      rw [itX7_firstOther_n e7]
      exact fo_v j (a + 1) (by omega)
    · have e7 : stX7_firstOther f ar a = .inl (nI a) := by rw [st_fo (by omega), if_neg c]
      rw [itX7_firstOther_r e7]
      refine Or.inr ?_
      rw [Int32.le_iff_toInt_le, i0, nI_toInt (by omega)]
      omega
theorem fo_9 (h : (f 35).toNatClampNeg ≤ 12) : (sX7_firstOther f ar = -9 ∧ ¬ 0 ≤ sX7_firstOther f ar) ∨ (¬ sX7_firstOther f ar = -9 ∧ 0 ≤ sX7_firstOther f ar) := by
  unfold sX7_firstOther
  rcases fo_v (f := f) (ar := ar) (f 35).toNatClampNeg 0 (by omega) with e | e
  · rw [e]; exact Or.inl ⟨rfl, by decide⟩
  · exact Or.inr ⟨fun z => by rw [z] at e; exact absurd e (by decide), e⟩
theorem or_0 (x : Int32) : x ||| 0 = x := Int32.or_zero
theorem cr_it (hI : Inv n i cf ca f ar) {w : Int32} {K : Nat} (hK : K ≤ 12) (eK : cf 1 = nI K) : ∀ (j a : Nat) (m : zP) (cf1 : Nat → Int32) (ca1 : Nat → Nat → Int32) (f1 : Nat → Int32) (a1 : Nat → Nat → Int32) (bi : Int32), a + j = 5 → ck cf ca cf1 ca1 → kt f ar f1 a1 → ∃ (f2 : Nat → Int32) (a2 : Nat → Nat → Int32) (r : Int32), itX7_kept w j a f1 a1 bi = exX7_kept w 5 f2 a2 r ∧ kt f ar f2 a2 ∧ (itX6_rulesKept n j a m cf1 ca1 bi).1 = r ∧ ck cf ca (itX6_rulesKept n j a m cf1 ca1 bi).2.2.1 (itX6_rulesKept n j a m cf1 ca1 bi).2.2.2
  | 0, a, m, cf1, ca1, f1, a1, bi, ha, hc, hk => ⟨f1, a1, bi, rfl, hk, rfl, hc⟩
  | j + 1, a, m, cf1, ca1, f1, a1, bi, ha, hc, hk => by
    have hx : (nI K).toInt ≤ 240 := by rw [nI_toInt (by omega)]; omega
    have hv : bt (nI a) 0 4 := nI_bt (hi := 4) (by omega) (by omega)
    have e35 : f1 35 = nI K := by rw [hk.1 35 (by omega), ← hI.2.2.2.1.1]; exact eK
    have t1 := tr_kt (k := nI a) (hk.ok (iv_mk hI)) hx
    have hf := fu_th (f1 := (sX7_thinksByRule f1 a1 (nI a) (nI K)).2.1) (a1 := (sX7_thinksByRule f1 a1 (nI a) (nI K)).2.2) (ca := ca1) (cf := cf1) ((hI.1.rk hv).k.kt (kt_f hk 10 (nI a))) hK (by rw [hc.1 1 (by decide) (by decide) (by decide)]; exact eK) (fun q hq => by
      rw [hc.2 34 (by decide) (by decide) (by decide), t1.2 34 (by omega), hk.2 34 (by omega)]
      exact hI.2.2.2.1.2.2 q (by rw [eK, nI_toInt (by omega)]; omega)) (by rw [t1.1 35 (by omega)]; exact e35) (by
      show (sX7_thinks (upd f1 10 (nI a)) a1 (nI K)).2.2 26 = _
      exact th_a (by decide))
    have h12 : ((sX7_thinksByRule f1 a1 (nI a) (nI K)).2.1 35).toNatClampNeg ≤ 12 := by rw [t1.1 35 (by omega), e35, nI_clamp (by omega)]; exact hK
    have e7 : stX7_kept w a f1 a1 bi = ((sX7_thinksByRule f1 a1 (nI a) (nI K)).2.1, (sX7_thinksByRule f1 a1 (nI a) (nI K)).2.2, if 0 ≤ sX7_firstOther (sX7_thinksByRule f1 a1 (nI a) (nI K)).2.1 (sX7_thinksByRule f1 a1 (nI a) (nI K)).2.2 then bi else bi ||| (1 <<< (nI a &&& 31))) := by
      unfold stX7_kept
      rw [e35, or_0]
      by_cases c : 0 ≤ sX7_firstOther (sX7_thinksByRule f1 a1 (nI a) (nI K)).2.1 (sX7_thinksByRule f1 a1 (nI a) (nI K)).2.2
      · rw [if_pos c, if_pos c]
      · rw [if_neg c, if_neg c]
    have e6 : stX6_rulesKept n a m cf1 ca1 bi = ((sX6_firstUnlike ((upd n.1 11 (nI a)), n.2) (sX0_clear cf1 ca1).1 (sX0_clear cf1 ca1).2).2.1, (sX6_firstUnlike ((upd n.1 11 (nI a)), n.2) (sX0_clear cf1 ca1).1 (sX0_clear cf1 ca1).2).2.2.1, (sX6_firstUnlike ((upd n.1 11 (nI a)), n.2) (sX0_clear cf1 ca1).1 (sX0_clear cf1 ca1).2).2.2.2, if (sX6_firstUnlike ((upd n.1 11 (nI a)), n.2) (sX0_clear cf1 ca1).1 (sX0_clear cf1 ca1).2).1 = -9 then bi ||| (1 <<< (nI a &&& 31)) else bi) := by
      unfold stX6_rulesKept
      rw [show sX6_think n cf1 ca1 = (n, (sX0_clear cf1 ca1).1, (sX0_clear cf1 ca1).2) from rfl]
      dsimp only
      generalize sX6_firstUnlike ((upd n.1 11 (nI a)), n.2) (sX0_clear cf1 ca1).1 (sX0_clear cf1 ca1).2 = L
      by_cases c : L.1 = -9
      · rw [if_pos c, if_pos c]
      · rw [if_neg c, if_neg c]
    have r6 : itX6_rulesKept n (j + 1) a m cf1 ca1 bi = itX6_rulesKept n j (a + 1) (stX6_rulesKept n a m cf1 ca1 bi).1 (stX6_rulesKept n a m cf1 ca1 bi).2.1 (stX6_rulesKept n a m cf1 ca1 bi).2.2.1 (stX6_rulesKept n a m cf1 ca1 bi).2.2.2 := rfl
    have r7 : itX7_kept w (j + 1) a f1 a1 bi = itX7_kept w j (a + 1) (stX7_kept w a f1 a1 bi).1 (stX7_kept w a f1 a1 bi).2.1 (stX7_kept w a f1 a1 bi).2.2 := rfl
    have h9 := fo_9 (f := (sX7_thinksByRule f1 a1 (nI a) (nI K)).2.1) (ar := (sX7_thinksByRule f1 a1 (nI a) (nI K)).2.2) h12
    rw [r6, r7, e6, e7]
    generalize sX7_thinksByRule f1 a1 (nI a) (nI K) = Y at t1 hf h9 ⊢
    generalize sX6_firstUnlike ((upd n.1 11 (nI a)), n.2) (sX0_clear cf1 ca1).1 (sX0_clear cf1 ca1).2 = L at hf ⊢
    generalize (1 <<< (nI a &&& 31) : Int32) = bb
    dsimp only
    rw [hf.1]
    rcases h9 with ⟨g1, g2⟩ | ⟨g1, g2⟩
    · rw [if_pos g1, if_neg g2]
      exact cr_it hI hK eK j (a + 1) _ _ _ _ _ _ (by omega) (hc.tr hf.2) (hk.tr t1)
    · rw [if_neg g1, if_pos g2]
      exact cr_it hI hK eK j (a + 1) _ _ _ _ _ _ (by omega) (hc.tr hf.2) (hk.tr t1)
theorem cl_it (hI : Inv n i cf ca f ar) {w ru : Int32} {K : Nat} (hK : K ≤ 12) (eK : cf 1 = nI K) : ∀ (j a : Nat) (m : zP) (cf1 : Nat → Int32) (ca1 : Nat → Nat → Int32) (f1 : Nat → Int32) (a1 : Nat → Nat → Int32) (bi : Int32), a + j = 21 → 1 ≤ a → ck cf ca cf1 ca1 → kt f ar f1 a1 → ∃ (f2 : Nat → Int32) (a2 : Nat → Nat → Int32) (r : Int32), itX7_kept2 w ru j a f1 a1 bi = (if w = 0 then ru else r, f2, a2) ∧ kt f ar f2 a2 ∧ (itX6_limitsKept n j a m cf1 ca1 bi).1 = r ∧ ck cf ca (itX6_limitsKept n j a m cf1 ca1 bi).2.2.1 (itX6_limitsKept n j a m cf1 ca1 bi).2.2.2
  | 0, a, m, cf1, ca1, f1, a1, bi, ha, _, hc, hk => ⟨f1, a1, bi, rfl, hk, rfl, hc⟩
  | j + 1, a, m, cf1, ca1, f1, a1, bi, ha, ha1, hc, hk => by
    have hx : (nI K).toInt ≤ 240 := by rw [nI_toInt (by omega)]; omega
    have hv : bt (nI a) 1 20 := ⟨by rw [nI_toInt (by omega)]; omega, by rw [nI_toInt (by omega)]; omega⟩
    have e35 : f1 35 = nI K := by rw [hk.1 35 (by omega), ← hI.2.2.2.1.1]; exact eK
    have k1 := kt_1 hk 4 (nI a)
    have hN := hI.1.set4 hv
    have t1 : kt f1 a1 (sX7_thinksWith f1 a1 4 (nI a) (nI K)).2.1 (sX7_thinksWith f1 a1 4 (nI a) (nI K)).2.2 := tw_kt (f := f1) (ar := a1) (w := 4) (v := nI a) (x := nI K) (k1.ok hN.mk) hx
    have hf := fu_th (f1 := (sX7_thinksWith f1 a1 4 (nI a) (nI K)).2.1) (a1 := (sX7_thinksWith f1 a1 4 (nI a) (nI K)).2.2) (ca := ca1) (cf := cf1) (hN.k.kt k1) hK (by rw [hc.1 1 (by decide) (by decide) (by decide)]; exact eK) (fun q hq => by
      rw [hc.2 34 (by decide) (by decide) (by decide), t1.2 34 (by omega), hk.2 34 (by omega)]
      exact hI.2.2.2.1.2.2 q (by rw [eK, nI_toInt (by omega)]; omega)) (by rw [t1.1 35 (by omega)]; exact e35) (by
      unfold sX7_thinksWith
      dsimp only
      rw [up2_ne (by decide), show (4 : Int32).toNatClampNeg = 4 by decide]
      exact th_a (by decide))
    have h12 : ((sX7_thinksWith f1 a1 4 (nI a) (nI K)).2.1 35).toNatClampNeg ≤ 12 := by rw [t1.1 35 (by omega), e35, nI_clamp (by omega)]; exact hK
    have e7 : stX7_kept2 w ru a f1 a1 bi = ((sX7_thinksWith f1 a1 4 (nI a) (nI K)).2.1, (sX7_thinksWith f1 a1 4 (nI a) (nI K)).2.2, if 0 ≤ sX7_firstOther (sX7_thinksWith f1 a1 4 (nI a) (nI K)).2.1 (sX7_thinksWith f1 a1 4 (nI a) (nI K)).2.2 then bi else bi + 1) := by
      unfold stX7_kept2
      rw [e35]
      by_cases c : 0 ≤ sX7_firstOther (sX7_thinksWith f1 a1 4 (nI a) (nI K)).2.1 (sX7_thinksWith f1 a1 4 (nI a) (nI K)).2.2
      · rw [if_pos c, decide_eq_true c, show b2i (!true) = 0 from rfl, Int32.add_zero]
      · rw [if_neg c, decide_eq_false c]
        rfl
    have e6 : stX6_limitsKept n a m cf1 ca1 bi = ((sX6_firstUnlike ((upd n.1 12 (nI a)), n.2) (sX0_clear cf1 ca1).1 (sX0_clear cf1 ca1).2).2.1, (sX6_firstUnlike ((upd n.1 12 (nI a)), n.2) (sX0_clear cf1 ca1).1 (sX0_clear cf1 ca1).2).2.2.1, (sX6_firstUnlike ((upd n.1 12 (nI a)), n.2) (sX0_clear cf1 ca1).1 (sX0_clear cf1 ca1).2).2.2.2, if (sX6_firstUnlike ((upd n.1 12 (nI a)), n.2) (sX0_clear cf1 ca1).1 (sX0_clear cf1 ca1).2).1 = -9 then bi + 1 else bi) := by
      unfold stX6_limitsKept
      rw [show sX6_think n cf1 ca1 = (n, (sX0_clear cf1 ca1).1, (sX0_clear cf1 ca1).2) from rfl]
      dsimp only
      generalize sX6_firstUnlike ((upd n.1 12 (nI a)), n.2) (sX0_clear cf1 ca1).1 (sX0_clear cf1 ca1).2 = L
      by_cases c : L.1 = -9
      · rw [if_pos c, if_pos c]
      · rw [if_neg c, if_neg c]
    have r6 : itX6_limitsKept n (j + 1) a m cf1 ca1 bi = itX6_limitsKept n j (a + 1) (stX6_limitsKept n a m cf1 ca1 bi).1 (stX6_limitsKept n a m cf1 ca1 bi).2.1 (stX6_limitsKept n a m cf1 ca1 bi).2.2.1 (stX6_limitsKept n a m cf1 ca1 bi).2.2.2 := rfl
    have r7 : itX7_kept2 w ru (j + 1) a f1 a1 bi = itX7_kept2 w ru j (a + 1) (stX7_kept2 w ru a f1 a1 bi).1 (stX7_kept2 w ru a f1 a1 bi).2.1 (stX7_kept2 w ru a f1 a1 bi).2.2 := rfl
    have h9 := fo_9 (f := (sX7_thinksWith f1 a1 4 (nI a) (nI K)).2.1) (ar := (sX7_thinksWith f1 a1 4 (nI a) (nI K)).2.2) h12
    rw [r6, r7, e6, e7]
    generalize sX7_thinksWith f1 a1 4 (nI a) (nI K) = Y at t1 hf h9 ⊢
    generalize sX6_firstUnlike ((upd n.1 12 (nI a)), n.2) (sX0_clear cf1 ca1).1 (sX0_clear cf1 ca1).2 = L at hf ⊢
    dsimp only
    rw [hf.1]
    rcases h9 with ⟨g1, g2⟩ | ⟨g1, g2⟩
    · rw [if_pos g1, if_neg g2]
      exact cl_it hI hK eK j (a + 1) _ _ _ _ _ _ (by omega) (by omega) (hc.tr hf.2) (hk.tr t1)
    · rw [if_neg g1, if_pos g2]
      exact cl_it hI hK eK j (a + 1) _ _ _ _ _ _ (by omega) (by omega) (hc.tr hf.2) (hk.tr t1)
set_option maxRecDepth 100000 in
theorem pu_kept (hI : Inv n i cf ca f ar) (w : Int32) : ((sX6_kept n m cf ca w).1) = ((sX7_kept f ar w).1) ∧ Inv n i ((sX6_kept n m cf ca w).2.2.1) ((sX6_kept n m cf ca w).2.2.2) ((sX7_kept f ar w).2.1) ((sX7_kept f ar w).2.2) := by
  unfold sX6_kept sX7_kept
  by_cases c1 : w < 0
  · rw [if_pos c1, if_neg (in_neg0 c1)]
    exact hI.no w2
  rw [if_neg c1]
  by_cases c2 : w ≤ 1
  · rw [if_pos c2, if_pos (in_pos c1 c2)]
    obtain ⟨K, hK, eK⟩ := bt_nI (hi := 12) hI.2.2.2.1.2.1 (by omega)
    obtain ⟨f2, a2, r, g1, g2, g3, g4⟩ := cr_it hI (w := w) hK eK 5 0 m cf ca f ar 0 (by omega) ck.rf kt.rf
    obtain ⟨f3, a3, r3, q1, q2, q3, q4⟩ := cl_it hI (w := w) (ru := r) hK eK 20 1 m cf ca f2 a2 0 (by omega) (by omega) ck.rf g2
    have e : itX7_kept w 5 0 f ar 0 = (if w = 0 then r else r3, f3, a3) := by
      rw [g1]
      unfold exX7_kept
      rw [q1]
    rw [e]
    by_cases d : w = 0
    · rw [if_pos d, if_pos d]
      unfold sX6_rulesKept
      generalize itX6_rulesKept n 5 0 m cf ca 0 = L at g3 g4 ⊢
      exact ⟨g3, hI.mind g4 q2⟩
    · rw [if_neg d, if_neg d]
      unfold sX6_limitsKept
      generalize itX6_limitsKept n 20 1 m cf ca 0 = L at q3 q4 ⊢
      exact ⟨q3, hI.mind q4 q2⟩
  · rw [if_neg c2, if_neg (in_neg1 c1 c2)]
    exact hI.no w2
end zPM
