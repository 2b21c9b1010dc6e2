section zPK
variable {n m i : zP} {cf cf1 : Nat → Int32} {ca ca1 : Nat → Nat → Int32} {f f1 : Nat → Int32} {ar a1 : Nat → Nat → Int32}
/-- nothing drifts that many minutes from now -/
def sti (f : Nat → Int32) (ar : Nat → Nat → Int32) (a : Nat) : Prop := sX7_driftIn f ar (f 12 + nI a) = 0
theorem is_it {a : Nat} : ∀ (j k : Nat), itX7_isStill f ar (f 12 + nI a) j k = true ↔ ∀ q : Nat, q < j → sti f ar (a + (k + q))
  | 0, k => ⟨fun _ q hq => absurd hq (by omega), fun _ => rfl⟩
  | j + 1, k => by
    have e : f 12 + nI a + nI k = f 12 + nI (a + k) := by rw [← nI_add]; grind
    by_cases c : sti f ar (a + k)
    · have e1 : stX7_isStill f ar (f 12 + nI a) k = .inr () := by unfold stX7_isStill; rw [e]; exact if_pos c
      rw [itX7_isStill_n e1, is_it j (k + 1)]
      constructor
      · intro h q hq
        match q with
        | 0 => exact c
        | q + 1 => rw [show a + (k + (q + 1)) = a + (k + 1 + q) by omega]; exact h q (by omega)
      · intro h q hq
        rw [show a + (k + 1 + q) = a + (k + (q + 1)) by omega]
        exact h (q + 1) (by omega)
    · have e1 : stX7_isStill f ar (f 12 + nI a) k = .inl false := by unfold stX7_isStill; rw [e]; exact if_neg c
      rw [itX7_isStill_r e1]
      constructor
      · intro h; cases h
      · intro h; exact absurd (h 0 (by omega)) c
theorem is_eq {a : Nat} : sX7_isStill f ar (f 12 + nI a) = true ↔ ∀ q : Nat, q < 10 → sti f ar (a + q) := by
  unfold sX7_isStill
  rw [is_it 10 0]
  constructor
  · intro h q hq; have := h q hq; rw [Nat.zero_add] at this; exact this
  · intro h q hq; rw [Nat.zero_add]; exact h q hq
theorem sf_skip : ∀ (d b : Nat), (∀ q : Nat, q < d → ∃ y : Nat, y < 10 ∧ ¬ sti f ar (b + q + y)) → itX7_steadyFrom f ar (241 - b) b = itX7_steadyFrom f ar (241 - (b + d)) (b + d)
  | 0, b, _ => rfl
  | d + 1, b, h => by
    have ih := sf_skip d (b + 1) (fun q hq => by obtain ⟨y, hy, h1⟩ := h (q + 1) (by omega); exact ⟨y, hy, by rw [show b + 1 + q + y = b + (q + 1) + y by omega]; exact h1⟩)
    rw [show b + (d + 1) = b + 1 + d by omega, ← ih]
    by_cases c : b < 241
    · obtain ⟨y, hy, h1⟩ := h 0 (by omega)
      have e1 : stX7_steadyFrom f ar b = .inr () := by
        unfold stX7_steadyFrom
        rw [if_neg (fun z => h1 (by rw [Nat.add_zero]; exact (is_eq.mp z) y hy))]
      rw [show 241 - b = (240 - b) + 1 by omega, itX7_steadyFrom_n e1, show 241 - (b + 1) = 240 - b by omega]
    · rw [show 241 - b = 0 by omega, show 241 - (b + 1) = 0 by omega]
      rfl
theorem sf_it (hD : ∀ a : Nat, a < 250 → sX1_amountIn (n.1 9) (n.1 10) (n.1 8 + nI a) = sX7_driftIn f ar (f 12 + nI a)) : ∀ (j a s : Nat), a + j = 250 → s ≤ 9 → s ≤ a → (∀ q : Nat, q < s → sti f ar (a - s + q)) → itX6_steadyFrom n j a (nI s) = itX7_steadyFrom f ar (241 - (a - s)) (a - s)
  | 0, a, s, ha, hs, hsa, _ => by
    rw [show 241 - (a - s) = 0 by omega]
    rfl
  | j + 1, a, s, ha, hs, hsa, h => by
    have d := hD a (by omega)
    by_cases c : sti f ar a
    · have d0 : sX1_amountIn (n.1 9) (n.1 10) (n.1 8 + nI a) = 0 := d.trans c
      by_cases c9 : s = 9
      · subst c9
        have e1 : stX6_steadyFrom n a (nI 9) = .inl (nI (a - 9)) := by
          unfold stX6_steadyFrom
          rw [if_pos d0, if_pos (by decide), show (10 : Int32) = nI 10 from rfl, show (1 : Int32) = nI 1 from rfl]
          have e : nI a = nI (a - 9) + nI 9 := by rw [nI_add, show a - 9 + 9 = a by omega]
          rw [e, show nI 10 = nI 9 + nI 1 from by decide]
          generalize nI (a - 9) = z
          generalize nI 9 = y
          generalize nI 1 = x
          congr 1
          grind
        have e2 : stX7_steadyFrom f ar (a - 9) = .inl (nI (a - 9)) := by
          unfold stX7_steadyFrom
          rw [if_pos (is_eq.mpr (fun q hq => by
            by_cases q9 : q = 9
            · subst q9; rw [show a - 9 + 9 = a by omega]; exact c
            · exact h q (by omega)))]
        rw [itX6_steadyFrom_r e1, show 241 - (a - 9) = (240 - (a - 9)) + 1 by omega, itX7_steadyFrom_r e2]
      · have e1 : stX6_steadyFrom n a (nI s) = .inr (nI (s + 1)) := by
          unfold stX6_steadyFrom
          rw [if_pos d0, nI_1, if_neg (fun z => by have := congrArg Int32.toInt z; rw [nI_toInt (by omega), show (10 : Int32).toInt = 10 by decide] at this; omega)]
        rw [itX6_steadyFrom_n e1, sf_it hD j (a + 1) (s + 1) (by omega) (by omega) (by omega) (fun q hq => by
          rw [show a + 1 - (s + 1) + q = a - s + q by omega]
          by_cases qs : q = s
          · rw [qs, show a - s + s = a by omega]; exact c
          · exact h q (by omega)), show a + 1 - (s + 1) = a - s by omega]
    · have d0 : ¬ sX1_amountIn (n.1 9) (n.1 10) (n.1 8 + nI a) = 0 := fun z => c (d.symm.trans z)
      have e1 : stX6_steadyFrom n a (nI s) = .inr (nI 0) := by
        unfold stX6_steadyFrom
        rw [if_neg d0, if_neg (by decide)]
        rfl
      have hk := sf_skip (f := f) (ar := ar) (s + 1) (a - s) (fun q hq => ⟨s - q, by omega, by rw [show a - s + q + (s - q) = a by omega]; exact c⟩)
      rw [itX6_steadyFrom_n e1, sf_it hD j (a + 1) 0 (by omega) (by omega) (by omega) (fun q hq => absurd hq (by omega)), hk, show a - s + (s + 1) = a + 1 by omega, show a + 1 - 0 = a + 1 by omega]
set_option maxRecDepth 100000 in
theorem pu_steadyFrom (hI : Inv n i cf ca f ar) : (sX6_steadyFrom n) = (sX7_steadyFrom f ar) ∧ Inv n i cf ca f ar := by
  refine ⟨?_, hI⟩
  unfold sX6_steadyFrom sX7_steadyFrom
  obtain ⟨⟨a0, a1, a2, a6, a7, a8, a9, a10, a11, a12, a13⟩, -, hR, -, b8⟩ := hI.1
  refine sf_it (n := n) (f := f) (ar := ar) (fun a ha => ?_) 250 0 0 (by omega) (by omega) (by omega) (fun q hq => absurd hq (by omega))
  rw [← a8]
  have e : (n.1 8 + nI a).toInt = (n.1 8).toInt + a := by
    rw [tadd (by have := b8.1; omega) (by have := b8.2; omega) (by rw [nI_toInt (by omega)]; omega) (by rw [nI_toInt (by omega)]; omega), nI_toInt (by omega)]
  exact dr_eq a9 a10 hR.2.2.2.2.1.1 hR.2.2.2.2.1.2 (by rw [e]; have := b8.1; omega) (by rw [e]; have := b8.2; omega)
end zPK
