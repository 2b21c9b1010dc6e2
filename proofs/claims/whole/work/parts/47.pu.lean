section zPU
variable {n m i : zP} {cf cf1 : Nat → Int32} {ca ca1 : Nat → Nat → Int32}
/-- the reference once all is read -/
def rdT (f : Nat → Int32) (ar : Nat → Nat → Int32) : Int32 × (Nat → Int32) × (Nat → Nat → Int32) := ((itX7_parlour2 (((sX7_passesAll_1k (upd f 17 0) ar).1) 19).toNatClampNeg 0 ((sX7_passesAll_1k (upd f 17 0) ar).1) ((sX7_passesAll_1k (upd f 17 0) ar).2)).1, (itX7_parlour2 (((sX7_passesAll_1k (upd f 17 0) ar).1) 19).toNatClampNeg 0 ((sX7_passesAll_1k (upd f 17 0) ar).1) ((sX7_passesAll_1k (upd f 17 0) ar).2)).2.1, (itX7_parlour2 (((sX7_passesAll_1k (upd f 17 0) ar).1) 19).toNatClampNeg 0 ((sX7_passesAll_1k (upd f 17 0) ar).1) ((sX7_passesAll_1k (upd f 17 0) ar).2)).2.2)
def fr (f : Nat → Int32) (ar : Nat → Nat → Int32) (F : Nat → Int32) (A : Nat → Nat → Int32) : Prop := (∀ k, k ≠ 18 → k ≠ 19 → F k = f k) ∧ (∀ k, k ≠ 14 → k ≠ 15 → k ≠ 16 → A k = ar k)
theorem nI_inj {a b : Nat} (ha : a < 2 ^ 31) (hb : b < 2 ^ 31) (h : nI a = nI b) : a = b := by
  have := congrArg Int32.toInt h
  rw [nI_toInt ha, nI_toInt hb] at this
  omega
theorem m_le (T : Nat → Int32) : ∀ m : Nat, m ≤ stS T m
  | 0 => Nat.zero_le _
  | m + 1 => by
    have := m_le T m
    show m + 1 ≤ stS T m + 1 + _
    omega
theorem st_0 {a : Nat} {f : Nat → Int32} {ar : Nat → Nat → Int32} {gd : Int32} (h : gd = 0) : stX7_parlour a f ar gd = .inl (-1000 - f 18, upd f 17 0, ar) := by
  unfold stX7_parlour
  rw [if_pos h]
theorem st_1 {a : Nat} {f : Nat → Int32} {ar : Nat → Nat → Int32} {gd : Int32} (h : ¬ gd = 0) (h2 : f 18 < f 17 ∨ f 19 = 0) : stX7_parlour a f ar gd = .inr (upd (sX7_statement f ar).2.1 19 ((sX7_statement f ar).2.1 19 + b2i (decide ((sX7_statement f ar).1 = true))), (sX7_statement f ar).2.2, b2i (sX7_statement f ar).1) := by
  unfold stX7_parlour
  rw [if_neg h]
  by_cases c : f 18 < f 17
  · rw [if_pos c]
  · rw [if_neg c, if_pos (h2.resolve_left c)]
theorem st_2 {a : Nat} {f : Nat → Int32} {ar : Nat → Nat → Int32} {gd : Int32} (h : ¬ gd = 0) (h2 : ¬ (f 18 < f 17 ∨ f 19 = 0)) : stX7_parlour a f ar gd = .inl (rdT f ar) := by
  unfold stX7_parlour rdT
  rw [if_neg h, if_neg (fun c => h2 (Or.inl c)), if_neg (fun c => h2 (Or.inr c))]
theorem pj_it : ∀ (j a r m L : Nat) (f : Nat → Int32) (ar : Nat → Nat → Int32) (sh : Nat) (dn : Int32), pI j f ar 1 → tp cf ca (tT f ar) L → f 17 = nI L → f 18 = nI r → f 19 = nI m → r ≤ L → r = stS (tT f ar) m → sJ0_length_8abf5 sh ≤ dn →
    (∃ (e : Nat) (F : Nat → Int32) (A : Nat → Nat → Int32), e ≤ 200 ∧ itX5_firstUnfit cf ca (L - r) r sh dn = nI e ∧ itX7_parlour j a f ar 1 = (-1000 - nI e, upd F 17 0, A) ∧ fr f ar F A) ∨ (∃ (M : Nat) (F : Nat → Int32) (A : Nat → Nat → Int32), itX5_firstUnfit cf ca (L - r) r sh dn = -9 ∧ itX7_parlour j a f ar 1 = rdT F A ∧ fr f ar F A ∧ F 19 = nI M ∧ M ≤ 40 ∧ stS (tT f ar) M = L ∧ okS (tT f ar) A M)
  | 0, a, r, m, L, f, ar, sh, dn, hp, _, _, _, _, _, _, _ => absurd hp pI_0
  | j + 1, a, r, m, L, f, ar, sh, dn, hp, ht, h17, h18, h19, hr, hs, hd => by
    have hL := ht.1
    have g1 : ¬ (1 : Int32) = 0 := by decide
    have hpx := hp
    obtain ⟨r', m', x18, x19, -, xr, xm, -, -, -, xo, -⟩ := hpx
    have hmm := m_le (tT f ar) m
    have hm40 : m = m' := nI_inj (by omega) (by omega) (h19.symm.trans x19)
    subst hm40
    by_cases c2 : f 18 < f 17 ∨ f 19 = 0
    · have e1 := st_1 (a := a) (ar := ar) g1 c2
      have hp2 := pI_n hp g1 c2
      rw [itX7_parlour_n e1]
      have hbr : hdP (tT f ar r) → r < L := fun hb => by
        by_cases z : r < L
        · exact z
        · rw [ht.2.2.2 r (by omega) (by omega)] at hb; exact absurd hb no_hd
      by_cases hb : hdP (tT f ar r)
      · have hrL := hbr hb
        have sl := (shE_len (tT f ar r)).2
        have fl := fitL_le (tT f ar) (shE (tT f ar r)) (r + 1)
        obtain ⟨s1, s2, s3, s4, s5, s6, s7⟩ := st_sp h18 (by omega) h19 (by omega) hb
        have fu := fu_stm ht hd hrL hb
        by_cases c : fitL (shE (tT f ar r)) (tT f ar) (r + 1) = (shE (tT f ar r)).length
        · rw [if_pos c] at fu
          rw [decide_eq_true c] at s1
          have hle := fit_le ht.2.2.2 _ (r + 1) (shE_all hb) (by omega) (by omega) c
          have n17 : (upd (sX7_statement f ar).2.1 19 ((sX7_statement f ar).2.1 19 + b2i (decide ((sX7_statement f ar).1 = true)))) 17 = f 17 := by rw [upd_ne (by decide), s2, upd_ne (by decide)]
          have n13 : (sX7_statement f ar).2.2 13 = ar 13 := s3 13 (by decide) (by decide) (by decide)
          have eT := tT_eq n17 n13
          have n18 : (upd (sX7_statement f ar).2.1 19 ((sX7_statement f ar).2.1 19 + b2i (decide ((sX7_statement f ar).1 = true)))) 18 = nI (r + 1 + (shE (tT f ar r)).length) := by rw [upd_ne (by decide), s2, upd_eq, c]
          have n19 : (upd (sX7_statement f ar).2.1 19 ((sX7_statement f ar).2.1 19 + b2i (decide ((sX7_statement f ar).1 = true)))) 19 = nI (m + 1) := by
            rw [upd_eq, s1, s2, upd_ne (by decide), h19, ← nI_1]
            rfl
          have hfr : ∀ F A, fr (upd (sX7_statement f ar).2.1 19 ((sX7_statement f ar).2.1 19 + b2i (decide ((sX7_statement f ar).1 = true)))) (sX7_statement f ar).2.2 F A → fr f ar F A := fun F A z => ⟨fun k k1 k2 => (z.1 k k1 k2).trans (by rw [upd_ne k2, s2, upd_ne k1]), fun k k1 k2 k3 => (z.2 k k1 k2 k3).trans (s3 k k1 k2 k3)⟩
          have gd1 : b2i (sX7_statement f ar).1 = 1 := by rw [s1]; rfl
          rw [gd1] at hp2 ⊢
          generalize upd (sX7_statement f ar).2.1 19 ((sX7_statement f ar).2.1 19 + b2i (decide ((sX7_statement f ar).1 = true))) = F1 at hp2 n17 n18 n19 hfr eT ⊢
          generalize (sX7_statement f ar).2.2 = A1 at hp2 hfr eT ⊢
          have ih := pj_it j (a + 1) (r + 1 + (shE (tT f ar r)).length) (m + 1) L F1 A1 (sc (tT f ar r)) (nI (shE (tT f ar r)).length) hp2 (by rw [eT]; exact ht) (n17.trans h17) n18 n19 (by omega) (by rw [eT, hs]; rfl) (by rw [(shp hb).2.1, Int32.le_iff_toInt_le]; omega)
          rw [fu]
          rw [eT] at ih
          rcases ih with ⟨e, F, A, q1, q2, q3, q4⟩ | ⟨M, F, A, q1, q2, q3, q4, q5, q6, q7⟩
          · exact Or.inl ⟨e, F, A, q1, q2, q3, hfr F A q4⟩
          · exact Or.inr ⟨M, F, A, q1, q2, hfr F A q3, q4, q5, q6, q7⟩
        · rw [if_neg c] at fu
          rw [decide_eq_false c] at s1
          have gd0 : b2i (sX7_statement f ar).1 = 0 := by rw [s1]; rfl
          obtain ⟨_, _, -, -, -, -, -, -, hj1, -⟩ := hp2
          have hj1 := hj1 gd0
          match j, hj1 with
          | j + 1, _ =>
            rw [itX7_parlour_r (st_0 gd0)]
            refine Or.inl ⟨r + 1 + fitL (shE (tT f ar r)) (tT f ar) (r + 1), upd (sX7_statement f ar).2.1 19 ((sX7_statement f ar).2.1 19 + b2i (decide ((sX7_statement f ar).1 = true))), (sX7_statement f ar).2.2, by omega, fu, ?_, ⟨fun k k1 k2 => by rw [upd_ne k2, s2, upd_ne k1], fun k k1 k2 k3 => s3 k k1 k2 k3⟩⟩
            rw [upd_ne (by decide), s2, upd_eq]
      · have sn := st_no (f := f) (ar := ar) (by rw [nx_T h18 (by omega)]; exact hb)
        have gd0 : b2i (sX7_statement f ar).1 = 0 := by rw [sn]; rfl
        obtain ⟨_, _, -, -, -, -, -, -, hj1, -⟩ := hp2
        have hj1 := hj1 gd0
        match j, hj1 with
        | j + 1, _ =>
          rw [itX7_parlour_r (st_0 gd0), sn]
          refine Or.inl ⟨r, upd f 19 (f 19 + b2i (decide (false = true))), ar, by omega, ?_, by simp only [upd_ne (show (18 : Nat) ≠ 19 by decide), h18], ⟨fun k k1 k2 => by rw [upd_ne k2], fun k k1 k2 k3 => rfl⟩⟩
          by_cases z : r < L
          · rw [show L - r = (L - (r + 1)) + 1 by omega]
            exact fu_nohd ht hd (by omega) hb
          · have er : r = L := by omega
            have z0 : r = 0 := by
              rcases c2 with c3 | c3
              · rw [h18, h17, Int32.lt_iff_toInt_lt, nI_toInt (by omega), nI_toInt (by omega)] at c3; omega
              · have : m = 0 := nI_inj (by omega) (by omega) (h19.symm.trans c3)
                rw [hs, this]; rfl
            rw [show L - r = 0 by omega, er, fu_end ht hd, if_pos (by omega)]
            rw [← er, z0]
    · have e1 := st_2 (a := a) (ar := ar) g1 c2
      rw [itX7_parlour_r e1]
      have er : r = L := by
        have : ¬ f 18 < f 17 := fun z => c2 (Or.inl z)
        rw [h18, h17, Int32.lt_iff_toInt_lt, nI_toInt (by omega), nI_toInt (by omega)] at this
        omega
      have hm0 : ¬ m = 0 := fun z => c2 (Or.inr (by rw [h19, z]; rfl))
      refine Or.inr ⟨m, f, ar, ?_, rfl, ⟨fun _ _ _ => rfl, fun _ _ _ _ => rfl⟩, h19, by omega, by rw [← hs]; exact er, xo⟩
      have h0 : ¬ L = 0 := by
        rw [← er, hs]
        match m, hm0 with
        | 0, hm0 => exact absurd rfl hm0
        | m + 1, _ => show ¬ stS (tT f ar) m + 1 + _ = 0; omega
      rw [show L - r = 0 by omega, er, fu_end ht hd, if_neg h0]
end zPU
