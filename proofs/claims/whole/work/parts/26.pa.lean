theorem i0 : (0 : Int32).toInt = 0 := by decide
theorem ob_eq (v lo hi : Int32) : sX6_outside v lo hi = sX7_bound v lo hi := rfl
theorem abs_eq (x : Int32) : sAbs x = sX7_size x := by
  unfold sAbs sX7_size
  rw [Int32.zero_sub]
theorem int_ext {x y : Int32} (h : x.toInt = y.toInt) : x = y := Int32.toInt_inj.mp h
theorem tadd {x y : Int32} (h1 : -1000000000 ≤ x.toInt) (h2 : x.toInt ≤ 1000000000) (h3 : -1000000000 ≤ y.toInt) (h4 : y.toInt ≤ 1000000000) : (x + y).toInt = x.toInt + y.toInt := by
  rw [Int32.toInt_add]
  exact Int.bmod_eq_of_le (by omega) (by omega)
theorem tsub {x y : Int32} (h1 : -1000000000 ≤ x.toInt) (h2 : x.toInt ≤ 1000000000) (h3 : -1000000000 ≤ y.toInt) (h4 : y.toInt ≤ 1000000000) : (x - y).toInt = x.toInt - y.toInt := by
  rw [Int32.toInt_sub]
  exact Int.bmod_eq_of_le (by omega) (by omega)
theorem tneg {x : Int32} (h1 : -1000000000 ≤ x.toInt) (h2 : x.toInt ≤ 1000000000) : (-x).toInt = -x.toInt := by
  rw [← Int32.zero_sub, tsub (by rw [i0]; omega) (by rw [i0]; omega) h1 h2, i0]
  omega
theorem held_eq (x : Int32) : sX6_held x (-99) 99 = if (-99) ≤ x then (if x ≤ 99 then x else 99) else (-99) := by
  unfold sX6_held sMax sMin
  have e1 : (-99 : Int32).toInt = -99 := by decide
  have e2 : (99 : Int32).toInt = 99 := by decide
  simp only [Int32.lt_iff_toInt_lt, Int32.le_iff_toInt_le]
  by_cases h1 : x.toInt < (99 : Int32).toInt
  · rw [if_pos h1]
    by_cases h2 : (-99 : Int32).toInt < x.toInt
    · rw [if_pos h2, if_pos (by omega), if_pos (by omega)]
    · rw [if_neg h2]
      by_cases h3 : (-99 : Int32).toInt ≤ x.toInt
      · rw [if_pos h3, if_pos (by omega)]
        exact int_ext (by omega)
      · rw [if_neg h3]
  · rw [if_neg h1, if_pos (by omega), if_pos (by omega)]
    by_cases h2 : x.toInt ≤ (99 : Int32).toInt
    · rw [if_pos h2]
      exact int_ext (by omega)
    · rw [if_neg h2]
/-! drift -/
theorem div20 {t : Int32} (h0 : 0 ≤ t.toInt) : (t / 20).toInt = t.toInt / 20 := by
  obtain ⟨k, hk, rfl⟩ := nI_of (x := t) (by rw [Int32.lt_iff_toInt_lt, i0]; omega)
  have e := pk_div (a := k) (d := 20) hk (by decide) (by decide)
  rw [show (20 : Int32) = nI 20 from rfl, e, nI_toInt hk, nI_toInt (by have := Nat.div_le_self k 20; omega)]
  omega
theorem cool_eq {dk dr t : Int32} {ar : Nat → Nat → Int32} (h : dr = ar 1 3) (h1 : -9 ≤ dr.toInt) (h2 : dr.toInt ≤ 9) (h3 : 0 ≤ t.toInt) (h4 : t.toInt ≤ 30000) : sX1_cooled dk dr (t / 20) = sX7_cooling ar t := by
  unfold sX1_cooled sX7_cooling sX7_size
  rw [← h]
  have hq := div20 h3
  have hq2 : 0 ≤ (t / 20).toInt ∧ (t / 20).toInt ≤ 1500 := by rw [hq]; omega
  generalize t / 20 = b at hq2
  have ea := tadd (x := dr) (y := b) (by omega) (by omega) (by omega) (by omega)
  have es := tsub (x := dr) (y := b) (by omega) (by omega) (by omega) (by omega)
  have eb := tneg (x := b) (by omega) (by omega)
  have en := tneg (x := dr) (by omega) (by omega)
  have ens := tsub (x := -dr) (y := b) (by rw [en]; omega) (by rw [en]; omega) (by omega) (by omega)
  have enns := tneg (x := -dr - b) (by rw [ens, en]; omega) (by rw [ens, en]; omega)
  simp only [Int32.lt_iff_toInt_lt, Int32.le_iff_toInt_le, i0]
  by_cases c1 : dr.toInt ≤ 0
  · rw [if_pos c1, eb]
    by_cases c2 : 0 ≤ dr.toInt
    · simp only [if_pos c2]
      rw [if_pos (by omega : -b.toInt ≤ dr.toInt), es, if_neg (by omega)]
    · simp only [if_neg c2]
      rw [ens, en]
      by_cases c3 : -b.toInt ≤ dr.toInt
      · rw [if_pos c3, if_neg (by omega)]
      · rw [if_neg c3, if_pos (by omega)]
        refine int_ext ?_
        rw [enns, ens, en, ea]
        omega
  · have h0 : 0 ≤ dr.toInt := by omega
    rw [if_neg c1]
    simp only [if_pos h0]
    rw [es]
    by_cases c3 : dr.toInt ≤ b.toInt
    · rw [if_pos c3, if_neg (by omega)]
    · rw [if_neg c3, if_pos (by omega)]
theorem dr_eq {dk dr t : Int32} {f : Nat → Int32} {ar : Nat → Nat → Int32} (hk : dk = f 9) (h : dr = ar 1 3) (h1 : -9 ≤ dr.toInt) (h2 : dr.toInt ≤ 9) (h3 : 0 ≤ t.toInt) (h4 : t.toInt ≤ 30000) : sX1_amountIn dk dr t = sX7_driftIn f ar t := by
  have hs : sX1_swinging dk dr t = sX7_swinging ar t := by
    unfold sX1_swinging sX7_swinging
    rw [h]
  unfold sX1_amountIn sX7_driftIn
  rw [cool_eq h h1 h2 h3 h4, hs, hk, h]
  by_cases c1 : f 9 = 1
  · rw [if_pos c1, if_pos c1]
  rw [if_neg c1, if_neg c1]
  by_cases c2 : f 9 = 2
  · rw [if_pos c2, if_pos c2]
  rw [if_neg c2, if_neg c2]
  by_cases c3 : f 9 = 3
  · rw [if_pos c3, if_pos c3]
  rw [if_neg c3, if_neg c3]
  by_cases c4 : f 9 = 4
  · rw [if_pos c4, if_pos c4]
    by_cases c5 : t - t / 2 * 2 = 0
    · rw [if_pos c5, b2i_p c5]
    · rw [if_neg c5, b2i_n c5, Int32.add_zero]
  rw [if_neg c4, if_neg c4]
/-! places -/
theorem pl_eq {ar : Nat → Nat → Int32} {s : Int32} (h : 0 ≤ s.toInt ∧ s.toInt ≤ 1) : sX7_placeOf ar s = if s = 0 then ar 1 1 else ar 1 2 := by
  unfold sX7_placeOf
  by_cases z : s.toInt = 0
  · have e : s = 0 := int_ext (z.trans (by decide))
    subst e
    rw [if_pos rfl, show ((1 : Int32) + 0).toNatClampNeg = 1 by decide]
  · have e : s = 1 := int_ext ((show s.toInt = 1 by omega).trans (by decide))
    subst e
    rw [if_neg (by decide), show ((1 : Int32) + 1).toNatClampNeg = 2 by decide]
theorem off_eq {av p0 p1 a b c s : Int32} : sX2_off av p0 p1 a b c s = sX7_size (av - (if s = 0 then p0 else p1)) := by
  unfold sX2_off
  rw [abs_eq]
/-! rules -/
theorem up_eq {rk rl rp off mi : Int32} {f : Nat → Int32} {ar : Nat → Nat → Int32} (hk : rk = f 10) (hl : rl = ar 1 4) (hm : mi = f 12) (ho : off = sX7_size ((ar 1 0) - (sX7_placeOf ar (ar 5 (f 11).toNatClampNeg)))) (h4 : rk.toInt ≤ 4) (h1 : 1 ≤ rl.toInt) : sX4_rouses rk rl rp off mi = sX7_isUp f ar := by
  unfold sX4_rouses sX7_isUp
  rw [← ho, ← hk, ← hl, ← hm]
  have n5 : ¬ rk = 5 := fun e => by rw [e] at h4; exact absurd h4 (by decide)
  have n0 : ¬ rl ≤ 0 := by rw [Int32.le_iff_toInt_le, i0]; omega
  by_cases c1 : rk = 2
  · rw [if_pos c1, if_pos c1, if_neg n0]
  rw [if_neg c1, if_neg c1]
  by_cases c2 : rk = 4
  · rw [if_pos c2, if_pos c2]
  rw [if_neg c2, if_neg c2, if_neg n5]
theorem aim_eq {rk rl rp own mid d : Int32} {f : Nat → Int32} {ar : Nat → Nat → Int32} (hk : rk = f 10) (hp : rp = ar 1 5) (ho : own = sX7_placeOf ar (ar 5 (f 11).toNatClampNeg)) (hm : mid = (ar 1 1 + ar 1 2) / 2) (hd : d = sX7_driftIn f ar (f 12)) : sX4_aim rk rl rp own mid d = sX7_shouldBe f ar := by
  have hg : sX4_against rk rl rp own d = if d ≤ 0 then (if 0 ≤ d then own else own + rp) else own - rp := by
    unfold sX4_against
    by_cases c : d = 0
    · rw [if_pos c, if_pos (by rw [c]; decide), if_pos (by rw [c]; decide)]
    · rw [if_neg c]
      by_cases c2 : d ≤ 0
      · have c3 : ¬ 0 ≤ d := fun h => c (int_ext (by rw [Int32.le_iff_toInt_le] at h c2; omega))
        rw [if_pos c2, if_pos c2, if_neg c3]
      · rw [if_neg c2, if_neg c2]
  unfold sX4_aim sX7_shouldBe
  rw [hg, ← ho, ← hk, ← hp, ← hd, ← hm]
  by_cases c1 : rk = 1
  · have n3 : ¬ rk = 3 := by rw [c1]; decide
    simp only [if_pos c1, if_neg n3]
  rw [if_neg c1]
  by_cases c3 : rk = 3
  · rw [if_pos c3, if_pos c3]
  rw [if_neg c3, if_neg c3, if_neg c1]
/-! how far he turns -/
theorem neg_mul_ (x y : Int32) : -x * y = -(x * y) := by grind
theorem add_neg_ (x y : Int32) : x + -y = x - y := by grind
theorem tu_eq {pk pm pf ps ph pp fr aim : Int32} {ar : Nat → Nat → Int32} (hf : fr = ar 1 0) (hh : 1 ≤ ph.toInt) : upd (ar 1) 0 (sX3_turned pk pm pf ps ph pp fr aim) = sX7_turnsTo ar aim ph 1 := by
  have h1 : 1 ≤ ph := by rw [Int32.le_iff_toInt_le]; exact hh
  show upd (ar 1) 0 _ = upd (ar 1) 0 _
  congr 1
  unfold sX3_turned
  rw [if_pos h1, abs_eq, ← hf]
  have z : aim ≤ fr → fr ≤ aim → sX7_size (aim - fr) = 0 := by
    intro h1 h2
    have e : aim = fr := int_ext (by rw [Int32.le_iff_toInt_le] at h1 h2; omega)
    subst e
    rw [Int32.sub_self]
    decide
  by_cases c1 : 2 * (sX7_size (aim - fr) - sX7_size (aim - fr) / ph * ph) ≤ ph
  · have b0 : b2i (!decide (2 * (sX7_size (aim - fr) - sX7_size (aim - fr) / ph * ph) ≤ ph)) = 0 := b2i_np c1
    rw [if_pos c1, b0, Int32.add_zero]
    by_cases c2 : aim ≤ fr
    · rw [if_pos c2]
      by_cases c3 : fr ≤ aim
      · rw [if_pos c3, z c2 c3, Int32.zero_div, Int32.zero_mul, Int32.sub_zero, Int32.add_zero]
      · rw [if_neg c3, neg_mul_, add_neg_]
    · have c3 : fr ≤ aim := by rw [Int32.le_iff_toInt_le] at c2 ⊢; omega
      rw [if_neg c2, if_pos c3]
  · have b1 : b2i (!decide (2 * (sX7_size (aim - fr) - sX7_size (aim - fr) / ph * ph) ≤ ph)) = 1 := b2i_nn c1
    rw [if_neg c1, b1]
    by_cases c2 : aim ≤ fr
    · rw [if_pos c2]
      by_cases c3 : fr ≤ aim
      · exfalso
        refine c1 ?_
        rw [z c2 c3, Int32.zero_div, Int32.zero_mul, Int32.sub_zero, Int32.mul_zero, Int32.le_iff_toInt_le, i0]
        omega
      · rw [if_neg c3, neg_mul_, add_neg_]
    · have c3 : fr ≤ aim := by rw [Int32.le_iff_toInt_le] at c2 ⊢; omega
      rw [if_neg c2, if_pos c3]
/-! bother -/
theorem two_mul_ (x y : Int32) : 2 * x * y = 2 * (x * y) := by grind
theorem le_cases {x y : Int32} (h : ¬ x ≤ y) : y ≤ x ∧ ¬ y = x := by
  rw [Int32.le_iff_toInt_le] at h
  rw [Int32.le_iff_toInt_le]
  exact ⟨by omega, fun e => by subst e; omega⟩
theorem deaf_eq {a b c d e g x u : Int32} : sX3_deafTo a b c d e g x u = if u ≤ x then (x - u) * b else 0 := by
  unfold sX3_deafTo
  by_cases h1 : x ≤ u
  · rw [if_pos h1]
    by_cases h2 : u ≤ x
    · have e : x = u := int_ext (by rw [Int32.le_iff_toInt_le] at h1 h2; omega)
      rw [if_pos h2, e, Int32.sub_self, Int32.zero_mul]
    · rw [if_neg h2]
  · rw [if_neg h1, if_pos (le_cases h1).1]
theorem bo_eq {ar : Nat → Nat → Int32} {p x : Int32} {k : Nat} {q : Nat → Int32} (hp : p.toNatClampNeg = k) (h0 : q 0 = ar 2 k) (h1 : q 1 = ar 3 k) (h2 : q 2 = ar 4 k) : sX3_botheredBy (q 0) (q 1) (q 2) (q 3) (q 4) (q 5) x = sX7_botherOf ar p x := by
  unfold sX3_botheredBy sX7_botherOf
  rw [hp, deaf_eq, deaf_eq, h0, h1, h2]
  by_cases c1 : ar 2 k = 1
  · rw [if_pos c1, if_pos c1]
  rw [if_neg c1, if_neg c1]
  by_cases c2 : ar 2 k = 2
  · rw [if_pos c2, if_pos c2, two_mul_]
  rw [if_neg c2, if_neg c2]
  by_cases c3 : ar 2 k = 3
  · rw [if_pos c3, if_pos c3, two_mul_]
    by_cases c5 : x ≤ 2
    · rw [if_pos c5, if_pos c5, Int32.add_zero]
    · rw [if_neg c5, if_neg c5]
  rw [if_neg c3, if_neg c3]
