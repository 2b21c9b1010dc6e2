theorem nu_eq {cf : Nat → Int32} {ca : Nat → Nat → Int32} {t : Nat} {pr : Int32} (ht : t < 5) : sX0_noteUp cf ca (nI t) pr = (upd cf 5 (nI t), up2 (up2 ca 30 (upd (ca 30) t ((ca 30 t) + 1))) 31 (upd (ca 31) t ((ca 31 t) + pr))) := by
  unfold sX0_noteUp
  rw [if_neg (by rw [Int32.lt_iff_toInt_lt, i0, nI_toInt (by omega)]; omega), if_neg (by rw [Int32.le_iff_toInt_le, nI_toInt (by omega), show (5 : Int32).toInt = 5 by decide]; omega), nI_clamp (by omega)]
theorem has_t {a b c d e x : Int32} {t : Nat} (ht : (t : Int) < x.toInt) (h5 : x.toInt ≤ 5) : sX2_has a b c x d e (nI t) = true := by
  unfold sX2_has
  rw [if_neg (by rw [Int32.lt_iff_toInt_lt, i0, nI_toInt (by omega)]; omega), if_neg (by rw [Int32.le_iff_toInt_le, nI_toInt (by omega)]; omega), decide_eq_false (by rw [Int32.le_iff_toInt_le, nI_toInt (by omega), show (5 : Int32).toInt = 5 by decide]; omega)]
  rfl
theorem has_0 {a b c d e x y : Int32} (h : x.toInt ≤ 0) : ¬ sX2_has a b c x d e y = true := by
  unfold sX2_has
  by_cases c1 : y < 0
  · rw [if_pos c1]; exact Bool.false_ne_true
  · rw [if_neg c1, if_pos (by rw [Int32.lt_iff_toInt_lt, i0] at c1; rw [Int32.le_iff_toInt_le]; omega)]
    exact Bool.false_ne_true
theorem lgu_eq {m : zP} {cf : Nat → Int32} {ca : Nat → Nat → Int32} {dr : Int32} {t : Nat} (h7 : m.1 7 = nI t) (ht : (t : Int) < (m.1 6).toInt) (h6 : (m.1 6).toInt ≤ 5) : sX2_letOneGetUp m cf ca dr = if (sX4_rouses (m.1 11) (m.1 12) (m.1 13) (sX2_off (m.1 0) (m.1 1) (m.1 2) (m.1 6) (m.1 7) (m.1 8) (m.2 t 3)) (m.1 8)) = true then (((upd (upd m.1 0 (sX3_turned (m.2 t 0) (m.2 t 1) (m.2 t 2) (m.2 t 3) (m.2 t 4) (m.2 t 5) (m.1 0) (sX4_aim (m.1 11) (m.1 12) (m.1 13) (if (m.2 t 3) = 0 then m.1 1 else m.1 2) (((m.1 1) + (m.1 2)) / 2) dr))) 7 (if (m.1 6) ≤ ((m.1 7) + 1) then 0 else (m.1 7) + 1)), m.2), (sX0_noteUp cf ca (m.1 7) (m.2 t 5)).1, (sX0_noteUp cf ca (m.1 7) (m.2 t 5)).2) else (m, cf, ca) := by
  have hh : sX2_has (m.1 0) (m.1 1) (m.1 2) (m.1 6) (m.1 7) (m.1 8) (m.1 7) = true := by
    have := has_t (a := m.1 0) (b := m.1 1) (c := m.1 2) (d := m.1 7) (e := m.1 8) ht h6
    rw [← h7] at this
    exact this
  unfold sX2_letOneGetUp
  rw [if_pos hh]
  match t, h7, ht with
  | 0, h7, _ => rw [if_pos (show m.1 7 = 0 from h7)]
  | 1, h7, _ => rw [if_neg (show ¬ m.1 7 = 0 by rw [h7]; decide), if_pos (show m.1 7 = 1 from h7)]
  | 2, h7, _ => rw [if_neg (show ¬ m.1 7 = 0 by rw [h7]; decide), if_neg (show ¬ m.1 7 = 1 by rw [h7]; decide), if_pos (show m.1 7 = 2 from h7)]
  | 3, h7, _ => rw [if_neg (show ¬ m.1 7 = 0 by rw [h7]; decide), if_neg (show ¬ m.1 7 = 1 by rw [h7]; decide), if_neg (show ¬ m.1 7 = 2 by rw [h7]; decide), if_pos (show m.1 7 = 3 from h7)]
  | 4, h7, _ => rw [if_neg (show ¬ m.1 7 = 0 by rw [h7]; decide), if_neg (show ¬ m.1 7 = 1 by rw [h7]; decide), if_neg (show ¬ m.1 7 = 2 by rw [h7]; decide), if_neg (show ¬ m.1 7 = 3 by rw [h7]; decide)]
  | t + 5, _, ht => exact absurd ht (by omega)
theorem lgu_0 {m : zP} {cf : Nat → Int32} {ca : Nat → Nat → Int32} {dr : Int32} (h : (m.1 6).toInt ≤ 0) : sX2_letOneGetUp m cf ca dr = (m, cf, ca) := by
  unfold sX2_letOneGetUp
  rw [if_neg (has_0 h)]
/-! all are bothered -/
theorem nb_eq {cf : Nat → Int32} {ca : Nat → Nat → Int32} {mu : Int32} (k : Nat) (x : Int32) (hx : x = nI k) (hk : k < 5) : sX0_noteBother cf ca x mu = up2 ca 29 (upd (ca 29) k ((ca 29 k) + mu)) := by
  subst hx
  unfold sX0_noteBother
  rw [if_neg (by rw [Int32.lt_iff_toInt_lt, i0, nI_toInt (by omega)]; omega), if_neg (by rw [Int32.le_iff_toInt_le, nI_toInt (by omega), show (5 : Int32).toInt = 5 by decide]; omega), nI_clamp (by omega)]
def o0_ (m : zP) : Int32 := sX2_off (m.1 0) (m.1 1) (m.1 2) (m.1 6) (m.1 7) (m.1 8) 0
def o1_ (m : zP) : Int32 := sX2_off (m.1 0) (m.1 1) (m.1 2) (m.1 6) (m.1 7) (m.1 8) 1
def bB (m : zP) (p : Nat) : Int32 := sX3_botheredBy (m.2 p 0) (m.2 p 1) (m.2 p 2) (m.2 p 3) (m.2 p 4) (m.2 p 5) (if (m.2 p 3) = 0 then o0_ m else o1_ m)
theorem ba_cf {m : zP} {cf : Nat → Int32} {ca : Nat → Nat → Int32} : (sX2_botherAll m cf ca).1 = upd (upd cf 3 (sMax (cf 3) (o0_ m))) 4 (sMax (cf 4) (o1_ m)) := by
  unfold sX2_botherAll
  repeat' split
  all_goals rfl
theorem ba_29_0 {m : zP} {cf : Nat → Int32} {ca : Nat → Nat → Int32} (h : m.1 6 = nI 0) : ∀ p : Nat, p < 5 → (sX2_botherAll m cf ca).2 29 p = if p < 0 then ca 29 p + bB m p else ca 29 p := by
  unfold sX2_botherAll
  rw [if_pos (show m.1 6 ≤ 0 by rw [h]; decide)]
  intro p hp
  match p, hp with
  | 0, _ => exact rfl
  | 1, _ => exact rfl
  | 2, _ => exact rfl
  | 3, _ => exact rfl
  | 4, _ => exact rfl
  | p + 5, hp => exact absurd hp (by omega)
theorem ba_29_1 {m : zP} {cf : Nat → Int32} {ca : Nat → Nat → Int32} (h : m.1 6 = nI 1) : ∀ p : Nat, p < 5 → (sX2_botherAll m cf ca).2 29 p = if p < 1 then ca 29 p + bB m p else ca 29 p := by
  unfold sX2_botherAll
  rw [if_neg (show ¬ m.1 6 ≤ 0 by rw [h]; decide), if_pos (show m.1 6 ≤ 1 by rw [h]; decide)]
  simp only [nb_eq 0 0 rfl (by decide)]
  intro p hp
  match p, hp with
  | 0, _ => exact rfl
  | 1, _ => exact rfl
  | 2, _ => exact rfl
  | 3, _ => exact rfl
  | 4, _ => exact rfl
  | p + 5, hp => exact absurd hp (by omega)
theorem ba_29_2 {m : zP} {cf : Nat → Int32} {ca : Nat → Nat → Int32} (h : m.1 6 = nI 2) : ∀ p : Nat, p < 5 → (sX2_botherAll m cf ca).2 29 p = if p < 2 then ca 29 p + bB m p else ca 29 p := by
  unfold sX2_botherAll
  rw [if_neg (show ¬ m.1 6 ≤ 0 by rw [h]; decide), if_neg (show ¬ m.1 6 ≤ 1 by rw [h]; decide), if_pos (show m.1 6 ≤ 2 by rw [h]; decide)]
  simp only [nb_eq 1 1 rfl (by decide), nb_eq 0 0 rfl (by decide)]
  intro p hp
  match p, hp with
  | 0, _ => exact rfl
  | 1, _ => exact rfl
  | 2, _ => exact rfl
  | 3, _ => exact rfl
  | 4, _ => exact rfl
  | p + 5, hp => exact absurd hp (by omega)
theorem ba_29_3 {m : zP} {cf : Nat → Int32} {ca : Nat → Nat → Int32} (h : m.1 6 = nI 3) : ∀ p : Nat, p < 5 → (sX2_botherAll m cf ca).2 29 p = if p < 3 then ca 29 p + bB m p else ca 29 p := by
  unfold sX2_botherAll
  rw [if_neg (show ¬ m.1 6 ≤ 0 by rw [h]; decide), if_neg (show ¬ m.1 6 ≤ 1 by rw [h]; decide), if_neg (show ¬ m.1 6 ≤ 2 by rw [h]; decide), if_pos (show m.1 6 ≤ 3 by rw [h]; decide)]
  simp only [nb_eq 2 2 rfl (by decide), nb_eq 1 1 rfl (by decide), nb_eq 0 0 rfl (by decide)]
  intro p hp
  match p, hp with
  | 0, _ => exact rfl
  | 1, _ => exact rfl
  | 2, _ => exact rfl
  | 3, _ => exact rfl
  | 4, _ => exact rfl
  | p + 5, hp => exact absurd hp (by omega)
theorem ba_29_4 {m : zP} {cf : Nat → Int32} {ca : Nat → Nat → Int32} (h : m.1 6 = nI 4) : ∀ p : Nat, p < 5 → (sX2_botherAll m cf ca).2 29 p = if p < 4 then ca 29 p + bB m p else ca 29 p := by
  unfold sX2_botherAll
  rw [if_neg (show ¬ m.1 6 ≤ 0 by rw [h]; decide), if_neg (show ¬ m.1 6 ≤ 1 by rw [h]; decide), if_neg (show ¬ m.1 6 ≤ 2 by rw [h]; decide), if_neg (show ¬ m.1 6 ≤ 3 by rw [h]; decide), if_pos (show m.1 6 ≤ 4 by rw [h]; decide)]
  simp only [nb_eq 3 3 rfl (by decide), nb_eq 2 2 rfl (by decide), nb_eq 1 1 rfl (by decide), nb_eq 0 0 rfl (by decide)]
  intro p hp
  match p, hp with
  | 0, _ => exact rfl
  | 1, _ => exact rfl
  | 2, _ => exact rfl
  | 3, _ => exact rfl
  | 4, _ => exact rfl
  | p + 5, hp => exact absurd hp (by omega)
theorem ba_29_5 {m : zP} {cf : Nat → Int32} {ca : Nat → Nat → Int32} (h : m.1 6 = nI 5) : ∀ p : Nat, p < 5 → (sX2_botherAll m cf ca).2 29 p = if p < 5 then ca 29 p + bB m p else ca 29 p := by
  unfold sX2_botherAll
  rw [if_neg (show ¬ m.1 6 ≤ 0 by rw [h]; decide), if_neg (show ¬ m.1 6 ≤ 1 by rw [h]; decide), if_neg (show ¬ m.1 6 ≤ 2 by rw [h]; decide), if_neg (show ¬ m.1 6 ≤ 3 by rw [h]; decide), if_neg (show ¬ m.1 6 ≤ 4 by rw [h]; decide), if_pos (show m.1 6 ≤ 5 by rw [h]; decide)]
  simp only [nb_eq 4 4 rfl (by decide), nb_eq 3 3 rfl (by decide), nb_eq 2 2 rfl (by decide), nb_eq 1 1 rfl (by decide), nb_eq 0 0 rfl (by decide)]
  intro p hp
  match p, hp with
  | 0, _ => exact rfl
  | 1, _ => exact rfl
  | 2, _ => exact rfl
  | 3, _ => exact rfl
  | 4, _ => exact rfl
  | p + 5, hp => exact absurd hp (by omega)
theorem ba_29 {m : zP} {cf : Nat → Int32} {ca : Nat → Nat → Int32} {n : Nat} (h : m.1 6 = nI n) (hn : n ≤ 5) : ∀ p : Nat, p < 5 → (sX2_botherAll m cf ca).2 29 p = if p < n then ca 29 p + bB m p else ca 29 p := by
  match n, h, hn with
  | 0, h, _ => exact ba_29_0 h
  | 1, h, _ => exact ba_29_1 h
  | 2, h, _ => exact ba_29_2 h
  | 3, h, _ => exact ba_29_3 h
  | 4, h, _ => exact ba_29_4 h
  | 5, h, _ => exact ba_29_5 h
  | n + 6, _, hn => exact absurd hn (by omega)
/-! the reference's people, one by one -/
def bR (ar : Nat → Nat → Int32) (p : Nat) : Int32 := sX7_botherOf ar (nI p) (sX7_size ((ar 1 0) - (sX7_placeOf ar (ar 5 p))))
theorem gi_24 : ∀ (j a : Nat) (f : Nat → Int32) (ar : Nat → Nat → Int32), a + j ≤ 5 → ∀ p : Nat, (itX7_goesOne j a f ar).2 24 p = if a ≤ p ∧ p < a + j then ar 24 p + bR ar p else ar 24 p
  | 0, a, f, ar, _, p => by
    rw [if_neg (by omega)]
    rfl
  | j + 1, a, f, ar, h, p => by
    have ih := gi_24 j (a + 1) (stX7_goesOne a f ar).1 (stX7_goesOne a f ar).2 (by omega) p
    rw [show itX7_goesOne (j + 1) a f ar = itX7_goesOne j (a + 1) (stX7_goesOne a f ar).1 (stX7_goesOne a f ar).2 from rfl, ih]
    have e24 : (stX7_goesOne a f ar).2 24 = upd (ar 24) a (ar 24 a + bR ar a) := by
      show upd (ar 24) (nI a).toNatClampNeg _ = _
      rw [nI_clamp (by omega)]
      rfl
    have eB : bR (stX7_goesOne a f ar).2 p = bR ar p := rfl
    rw [e24, eB]
    by_cases e : p = a
    · subst e
      rw [if_neg (by omega), if_pos (by omega)]
      exact if_pos rfl
    · rw [upd_ne e]
      by_cases c : a + 1 ≤ p ∧ p < a + 1 + j
      · rw [if_pos c, if_pos (by omega)]
      · rw [if_neg c, if_neg (by omega)]
def F1 (f : Nat → Int32) (ar : Nat → Nat → Int32) : Nat → Int32 := upd (upd (upd (upd f 30 (if (sX7_size ((ar 1 0) - (ar 1 1))) ≤ (f 30) then f 30 else (sX7_size ((ar 1 0) - (ar 1 1))))) 31 (if (sX7_size ((ar 1 0) - (ar 1 2))) ≤ (f 31) then f 31 else (sX7_size ((ar 1 0) - (ar 1 2))))) 12 ((f 12) + 1)) 33 ((f 33) + 1)
theorem gi_f : ∀ (j a : Nat) (f : Nat → Int32) (ar : Nat → Nat → Int32), (itX7_goesOne j a f ar).1 = F1 f ar
  | 0, a, f, ar => rfl
  | j + 1, a, f, ar => (gi_f j (a + 1) (stX7_goesOne a f ar).1 (stX7_goesOne a f ar).2).trans rfl
theorem gi_a : ∀ (j a : Nat) (f : Nat → Int32) (ar : Nat → Nat → Int32) (k : Nat), k ≠ 24 → k ≠ 26 → (itX7_goesOne j a f ar).2 k = ar k
  | 0, a, f, ar, k, h1, h2 => up2_ne h2
  | j + 1, a, f, ar, k, h1, h2 => (gi_a j (a + 1) (stX7_goesOne a f ar).1 (stX7_goesOne a f ar).2 k h1 h2).trans (up2_ne h1)
theorem gi_26 : ∀ (j a : Nat) (f : Nat → Int32) (ar : Nat → Nat → Int32), (itX7_goesOne j a f ar).2 26 = upd (ar 26) (f 33).toNatClampNeg (ar 1 0)
  | 0, a, f, ar => rfl
  | j + 1, a, f, ar => (gi_26 j (a + 1) (stX7_goesOne a f ar).1 (stX7_goesOne a f ar).2).trans rfl
theorem max_eq {x y : Int32} : sMax x y = if y ≤ x then x else y := by
  unfold sMax
  by_cases h : y ≤ x
  · rw [if_pos h, if_neg (by rw [Int32.le_iff_toInt_le] at h; rw [Int32.lt_iff_toInt_lt]; omega)]
  · rw [if_neg h, if_pos (by rw [Int32.le_iff_toInt_le] at h; rw [Int32.lt_iff_toInt_lt]; omega)]
def s5 (g : Nat → Int32) : Int32 := ((((0 + g 0) + g 1) + g 2) + g 3) + g 4
theorem s5_up {g : Nat → Int32} {t : Nat} {x : Int32} (ht : t < 5) : s5 (upd g t (g t + x)) = s5 g + x := by
  match t, ht with
  | 0, _ => show ((((0 + (g 0 + x)) + g 1) + g 2) + g 3) + g 4 = (((((0 + g 0) + g 1) + g 2) + g 3) + g 4) + x; grind
  | 1, _ => show ((((0 + g 0) + (g 1 + x)) + g 2) + g 3) + g 4 = (((((0 + g 0) + g 1) + g 2) + g 3) + g 4) + x; grind
  | 2, _ => show ((((0 + g 0) + g 1) + (g 2 + x)) + g 3) + g 4 = (((((0 + g 0) + g 1) + g 2) + g 3) + g 4) + x; grind
  | 3, _ => show ((((0 + g 0) + g 1) + g 2) + (g 3 + x)) + g 4 = (((((0 + g 0) + g 1) + g 2) + g 3) + g 4) + x; grind
  | 4, _ => show ((((0 + g 0) + g 1) + g 2) + g 3) + (g 4 + x) = (((((0 + g 0) + g 1) + g 2) + g 3) + g 4) + x; grind
  | t + 5, ht => exact absurd ht (by omega)
/-! the tie within a play: mg, whether somebody may get up -/
def rS0 (N f : Nat → Int32) (ar : Nat → Nat → Int32) : Prop := N 0 = ar 1 0 ∧ N 1 = ar 1 1 ∧ N 2 = ar 1 2 ∧ N 6 = f 8 ∧ N 7 = f 11 ∧ N 8 = f 12 ∧ N 9 = f 9 ∧ N 10 = ar 1 3 ∧ N 12 = ar 1 4 ∧ N 13 = ar 1 5
def rM (mg : Bool) (N f : Nat → Int32) : Prop := (mg = true → N 11 = f 10) ∧ (mg = false → f 10 = 5)
def rA (m : zP) (cf : Nat → Int32) (ca : Nat → Nat → Int32) (f : Nat → Int32) (ar : Nat → Nat → Int32) : Prop := (cf 3 = f 30 ∧ cf 4 = f 31 ∧ cf 5 = f 32) ∧ (∀ p : Nat, p < 5 → ca 29 p = ar 24 p ∧ ca 30 p = ar 25 p ∧ ca 31 p = ar 25 p * ar 7 p) ∧ (∀ p : Nat, p < 5 → (m.1 6).toInt ≤ p → ar 24 p = 0 ∧ ar 25 p = 0) ∧ s5 (ca 31) = f 29 ∧ s5 (ca 30) = f 28
def SR (mg : Bool) (m : zP) (cf : Nat → Int32) (ca : Nat → Nat → Int32) (f : Nat → Int32) (ar : Nat → Nat → Int32) : Prop := rS0 m.1 f ar ∧ rM mg m.1 f ∧ rP m.2 (m.1 6) ar ∧ rR m ∧ rA m cf ca f ar
/-- it drifts -/
theorem SR.drift {mg : Bool} {m : zP} {cf : Nat → Int32} {ca : Nat → Nat → Int32} {f : Nat → Int32} {ar : Nat → Nat → Int32} (h : SR mg m cf ca f ar) (h0 : 0 ≤ (m.1 8).toInt) (h1 : (m.1 8).toInt ≤ 30000) : (sX2_driftOnce m).1 = sX7_driftIn f ar (f 12) ∧ SR mg (sX2_driftOnce m).2 cf ca f (mA f ar) ∧ bt ((sX2_driftOnce m).2.1 0) (-99) 99 := by
  obtain ⟨⟨a0, a1, a2, a6, a7, a8, a9, a10, a12, a13⟩, hM, hP, hR, hA⟩ := h
  have hr := hR.2.2.2.2.1
  have hd : sX1_amountIn (m.1 9) (m.1 10) (m.1 8) = sX7_driftIn f ar (f 12) := by
    rw [dr_eq a9 a10 hr.1 hr.2 h0 h1, a8]
  have hv : sX6_held (m.1 0 + sX1_amountIn (m.1 9) (m.1 10) (m.1 8)) (-99) 99 = mV f ar := by
    rw [held_eq, hd, a0]
    rfl
  refine ⟨hd, ⟨⟨hv, a1, a2, a6, a7, a8, a9, a10, a12, a13⟩, hM, hP, hR, hA⟩, ?_⟩
  show bt (sX6_held (m.1 0 + sX1_amountIn (m.1 9) (m.1 10) (m.1 8)) (-99) 99) (-99) 99
  rw [held_eq]
  unfold bt
  have e1 : (-99 : Int32).toInt = -99 := by decide
  have e2 : (99 : Int32).toInt = 99 := by decide
  split
  · rename_i c1
    rw [Int32.le_iff_toInt_le] at c1
    split
    · rename_i c2
      rw [Int32.le_iff_toInt_le] at c2
      omega
    · omega
  · omega
theorem turn_eq {n t : Nat} (ht : t < n) (hn : n ≤ 5) : (if nI n ≤ nI t + 1 then (0 : Int32) else nI t + 1) = (nI t + 1) - (nI t + 1) / nI n * nI n := by
  rw [nI_1, pk_rem (by omega) (by omega) (by omega)]
  by_cases c : n ≤ t + 1
  · rw [if_pos (nI_le c (by omega)), show t + 1 = n by omega, Nat.mod_self]
    rfl
  · rw [if_neg (nI_ge (by omega) (by omega)), Nat.mod_eq_of_lt (by omega)]
