section zPF
variable {n m i : zP} {cf : Nat → Int32} {ca : Nat → Nat → Int32} {f f1 : Nat → Int32} {ar a1 : Nat → Nat → Int32}
theorem Inv.now {n1 : zP} (h : Inv n i cf ca f ar) (hN : rN n1 f1 a1) (hf : ∀ k, k = 17 ∨ k = 21 ∨ k = 35 → f1 k = f k) (ha : ∀ k, k = 0 ∨ k = 13 ∨ k = 20 ∨ k = 34 → a1 k = ar k) : Inv n1 i cf ca f1 a1 := by
  obtain ⟨-, h2, h3, h4, h5⟩ := h
  refine ⟨hN, ?_, ?_, ?_, ?_⟩
  · rw [hf 21 (by omega), ha 20 (by omega)]; exact h2
  · rw [hf 17 (by omega), ha 13 (by omega)]; exact h3
  · rw [hf 35 (by omega), ha 34 (by omega)]; exact h4
  · rw [ha 0 (by omega)]; exact h5
theorem pk_det {k : Nat} (hk : k < 5) (x : Int32) : (if nI k = 0 then ((sX3_detail (n.2 0 0) (n.2 0 1) (n.2 0 2) (n.2 0 3) (n.2 0 4) (n.2 0 5) x), ca) else if nI k = 1 then ((sX3_detail (n.2 1 0) (n.2 1 1) (n.2 1 2) (n.2 1 3) (n.2 1 4) (n.2 1 5) x), ca) else if nI k = 2 then ((sX3_detail (n.2 2 0) (n.2 2 1) (n.2 2 2) (n.2 2 3) (n.2 2 4) (n.2 2 5) x), ca) else if nI k = 3 then ((sX3_detail (n.2 3 0) (n.2 3 1) (n.2 3 2) (n.2 3 3) (n.2 3 4) (n.2 3 5) x), ca) else ((sX3_detail (n.2 4 0) (n.2 4 1) (n.2 4 2) (n.2 4 3) (n.2 4 4) (n.2 4 5) x), ca)) = ((sX3_detail (n.2 k 0) (n.2 k 1) (n.2 k 2) (n.2 k 3) (n.2 k 4) (n.2 k 5) x), ca) := by
  match k, hk with
  | 0, _ => rfl
  | 1, _ => rfl
  | 2, _ => rfl
  | 3, _ => rfl
  | 4, _ => rfl
  | k + 5, hk => exact absurd hk (by omega)
theorem pk_bot {k : Nat} (hk : k < 5) (x : Int32) : (if nI k = 0 then ((sX3_botheredBy (n.2 0 0) (n.2 0 1) (n.2 0 2) (n.2 0 3) (n.2 0 4) (n.2 0 5) x), ca) else if nI k = 1 then ((sX3_botheredBy (n.2 1 0) (n.2 1 1) (n.2 1 2) (n.2 1 3) (n.2 1 4) (n.2 1 5) x), ca) else if nI k = 2 then ((sX3_botheredBy (n.2 2 0) (n.2 2 1) (n.2 2 2) (n.2 2 3) (n.2 2 4) (n.2 2 5) x), ca) else if nI k = 3 then ((sX3_botheredBy (n.2 3 0) (n.2 3 1) (n.2 3 2) (n.2 3 3) (n.2 3 4) (n.2 3 5) x), ca) else ((sX3_botheredBy (n.2 4 0) (n.2 4 1) (n.2 4 2) (n.2 4 3) (n.2 4 4) (n.2 4 5) x), ca)) = ((sX3_botheredBy (n.2 k 0) (n.2 k 1) (n.2 k 2) (n.2 k 3) (n.2 k 4) (n.2 k 5) x), ca) := by
  match k, hk with
  | 0, _ => rfl
  | 1, _ => rfl
  | 2, _ => rfl
  | 3, _ => rfl
  | 4, _ => rfl
  | k + 5, hk => exact absurd hk (by omega)
set_option maxRecDepth 100000 in
theorem pu_person (hI : Inv n i cf ca f ar) (p : Int32) (w : Int32) : ((sX6_person n m cf ca p w).1) = ((sX7_person f ar p w).1) ∧ Inv n i cf ((sX6_person n m cf ca p w).2) f ((sX7_person f ar p w).2) := by
  unfold sX6_person sX7_person
  rw [has_eq hI]
  by_cases cp : sX7_isPerson f p = true
  · rw [if_pos cp, if_pos cp]
    obtain ⟨k, rfl, hk, hk5⟩ := per_k hI cp
    obtain ⟨p0, p1, p2, p3, p4, p5⟩ := hI.1.2.1 k hk
    rw [pk_det hk5, nI_clamp (by omega)]
    by_cases c1 : w < 0
    · rw [if_pos c1, if_neg (fun e => by rw [e] at c1; exact absurd c1 (by decide)), if_neg (fun e => by rw [e] at c1; exact absurd c1 (by decide)), if_neg (fun e => by rw [e] at c1; exact absurd c1 (by decide)), if_neg (fun e => by rw [e] at c1; exact absurd c1 (by decide)), if_neg (fun e => by rw [e] at c1; exact absurd c1 (by decide)), if_neg (fun e => by rw [e] at c1; exact absurd c1 (by decide))]
      exact hI.no w2
    rw [if_neg c1]
    by_cases c2 : w ≤ 5
    · rw [if_pos c2]
      unfold sX3_detail
      by_cases d0 : w = 0
      · rw [if_pos d0, if_pos d0]; exact ⟨p0, hI⟩
      rw [if_neg d0, if_neg d0]
      by_cases d1 : w = 1
      · rw [if_pos d1, if_pos d1]; exact ⟨p1, hI⟩
      rw [if_neg d1, if_neg d1]
      by_cases d2 : w = 2
      · rw [if_pos d2, if_pos d2]; exact ⟨p2, hI⟩
      rw [if_neg d2, if_neg d2]
      by_cases d3 : w = 3
      · rw [if_pos d3, if_pos d3]; exact ⟨p3, hI⟩
      rw [if_neg d3, if_neg d3]
      by_cases d4 : w = 4
      · rw [if_pos d4, if_pos d4]; exact ⟨p4, hI⟩
      rw [if_neg d4, if_neg d4]
      have d5 : w = 5 := by
        rw [Int32.lt_iff_toInt_lt, i0] at c1
        rw [Int32.le_iff_toInt_le, show (5 : Int32).toInt = 5 by decide] at c2
        have e0 := lv_neT d0 i0
        have e1 := lv_neT d1 (show (1 : Int32).toInt = 1 by decide)
        have e2 := lv_neT d2 (show (2 : Int32).toInt = 2 by decide)
        have e3 := lv_neT d3 (show (3 : Int32).toInt = 3 by decide)
        have e4 := lv_neT d4 (show (4 : Int32).toInt = 4 by decide)
        exact int_ext ((show w.toInt = 5 by omega).trans (by decide))
      rw [if_pos d5]; exact ⟨p5, hI⟩
    · have g : ∀ z : Int32, z.toInt ≤ 5 → ¬ w = z := fun z hz e => by
        rw [e, Int32.le_iff_toInt_le, show (5 : Int32).toInt = 5 by decide] at c2
        omega
      rw [if_neg c2, if_neg (g 0 (by decide)), if_neg (g 1 (by decide)), if_neg (g 2 (by decide)), if_neg (g 3 (by decide)), if_neg (g 4 (by decide)), if_neg (g 5 (by decide))]
      exact hI.no w2
  · rw [if_neg cp, if_neg cp]
    exact hI.no w1
set_option maxRecDepth 100000 in
theorem pu_bothers (hI : Inv n i cf ca f ar) (p : Int32) (x : Int32) : ((sX6_bothers n m cf ca p x).1) = ((sX7_bothers f ar p x).1) ∧ Inv n i cf ((sX6_bothers n m cf ca p x).2) f ((sX7_bothers f ar p x).2) := by
  unfold sX6_bothers sX7_bothers
  rw [has_eq hI]
  by_cases cp : sX7_isPerson f p = true
  · rw [if_pos cp, if_pos cp]
    obtain ⟨k, rfl, hk, hk5⟩ := per_k hI cp
    obtain ⟨p0, p1, p2, p3, p4, p5⟩ := hI.1.2.1 k hk
    rw [pk_bot hk5]
    by_cases c : sX7_bound x 0 199 = 0
    · rw [if_pos (show sX6_outside x 0 199 = 0 from c), if_pos c]
      exact ⟨bo_eq (nI_clamp (by omega)) p0 p1 p2, hI⟩
    · rw [if_neg (show ¬ sX6_outside x 0 199 = 0 from c), if_neg c]
      exact hI.no (bd_w c)
  · rw [if_neg cp, if_neg cp]
    exact hI.no w1
theorem w_k {w : Int32} {hi : Nat} {H : Int32} (hH : H.toInt = hi) (h0 : ¬ w < 0) (h : w ≤ H) : ∃ k : Nat, k ≤ hi ∧ w = nI k := by
  have hlt : (hi : Int) < 2 ^ 31 := by rw [← hH]; exact H.toInt_lt
  refine bt_nI (hi := hi) ⟨?_, ?_⟩ (by omega)
  · rw [Int32.lt_iff_toInt_lt, i0] at h0; omega
  · rw [Int32.le_iff_toInt_le, hH] at h; exact h
set_option maxRecDepth 100000 in
theorem pu_place (hI : Inv n i cf ca f ar) (w : Int32) : ((sX6_place n m cf ca w).1) = ((sX7_place f ar w).1) ∧ Inv n i cf ((sX6_place n m cf ca w).2) f ((sX7_place f ar w).2) := by
  unfold sX6_place sX7_place
  by_cases c1 : w < 0
  · rw [if_pos c1, if_neg (in_neg0 c1)]
    exact hI.lower w2
  rw [if_neg c1]
  by_cases c2 : w ≤ 2
  · rw [if_pos c2, if_pos (in_pos c1 c2)]
    obtain ⟨k, hk, rfl⟩ := w_k (hi := 2) (by decide) c1 c2
    obtain ⟨a0, a1, a2, -⟩ := hI.1.1
    match k, hk with
    | 0, _ => exact ⟨a0, hI⟩
    | 1, _ => exact ⟨a1, hI⟩
    | 2, _ => exact ⟨a2, hI⟩
    | k + 3, hk => exact absurd hk (by omega)
  · rw [if_neg c2, if_neg (in_neg1 c1 c2)]
    exact hI.lower w2
theorem rN.set0 {v : Int32} (h : rN n f ar) (hv : bt v (-99) 99) : rN ((upd n.1 0 v), n.2) f (up2 ar 1 (upd (ar 1) 0 v)) := by
  obtain ⟨⟨a0, a1, a2, a6, a7, a8, a9, a10, a11, a12, a13⟩, hP, ⟨r1, r2, r6, r7, r10, r12, r13, rQ, r9, r11⟩, b0, b8⟩ := h
  exact ⟨⟨rfl, a1, a2, a6, a7, a8, a9, a10, a11, a12, a13⟩, hP, ⟨r1, r2, r6, r7, r10, r12, r13, rQ, r9, r11⟩, (show bt v (-250) 250 from ⟨by have := hv.1; omega, by have := hv.2; omega⟩), b8⟩
theorem rN.set1 {v : Int32} (h : rN n f ar) (hv : bt v (-20) 20) : rN ((upd n.1 1 v), n.2) f (up2 ar 1 (upd (ar 1) 1 v)) := by
  obtain ⟨⟨a0, a1, a2, a6, a7, a8, a9, a10, a11, a12, a13⟩, hP, ⟨r1, r2, r6, r7, r10, r12, r13, rQ, r9, r11⟩, b0, b8⟩ := h
  exact ⟨⟨a0, rfl, a2, a6, a7, a8, a9, a10, a11, a12, a13⟩, hP, ⟨hv, r2, r6, r7, r10, r12, r13, rQ, r9, r11⟩, b0, b8⟩
theorem rN.set2 {v : Int32} (h : rN n f ar) (hv : bt v (-20) 20) : rN ((upd n.1 2 v), n.2) f (up2 ar 1 (upd (ar 1) 2 v)) := by
  obtain ⟨⟨a0, a1, a2, a6, a7, a8, a9, a10, a11, a12, a13⟩, hP, ⟨r1, r2, r6, r7, r10, r12, r13, rQ, r9, r11⟩, b0, b8⟩ := h
  exact ⟨⟨a0, a1, rfl, a6, a7, a8, a9, a10, a11, a12, a13⟩, hP, ⟨r1, hv, r6, r7, r10, r12, r13, rQ, r9, r11⟩, b0, b8⟩
theorem rN.set3 {v : Int32} (h : rN n f ar) (hv : bt v (-9) 9) : rN ((upd n.1 10 v), n.2) f (up2 ar 1 (upd (ar 1) 3 v)) := by
  obtain ⟨⟨a0, a1, a2, a6, a7, a8, a9, a10, a11, a12, a13⟩, hP, ⟨r1, r2, r6, r7, r10, r12, r13, rQ, r9, r11⟩, b0, b8⟩ := h
  exact ⟨⟨a0, a1, a2, a6, a7, a8, a9, rfl, a11, a12, a13⟩, hP, ⟨r1, r2, r6, r7, hv, r12, r13, rQ, r9, r11⟩, b0, b8⟩
theorem rN.set4 {v : Int32} (h : rN n f ar) (hv : bt v (1) 20) : rN ((upd n.1 12 v), n.2) f (up2 ar 1 (upd (ar 1) 4 v)) := by
  obtain ⟨⟨a0, a1, a2, a6, a7, a8, a9, a10, a11, a12, a13⟩, hP, ⟨r1, r2, r6, r7, r10, r12, r13, rQ, r9, r11⟩, b0, b8⟩ := h
  exact ⟨⟨a0, a1, a2, a6, a7, a8, a9, a10, a11, rfl, a13⟩, hP, ⟨r1, r2, r6, r7, r10, hv, r13, rQ, r9, r11⟩, b0, b8⟩
theorem rN.set5 {v : Int32} (h : rN n f ar) (hv : bt v (0) 9) : rN ((upd n.1 13 v), n.2) f (up2 ar 1 (upd (ar 1) 5 v)) := by
  obtain ⟨⟨a0, a1, a2, a6, a7, a8, a9, a10, a11, a12, a13⟩, hP, ⟨r1, r2, r6, r7, r10, r12, r13, rQ, r9, r11⟩, b0, b8⟩ := h
  exact ⟨⟨a0, a1, a2, a6, a7, a8, a9, a10, a11, a12, rfl⟩, hP, ⟨r1, r2, r6, r7, r10, r12, hv, rQ, r9, r11⟩, b0, b8⟩
theorem bd_bt {v lo hi : Int32} (h : sX7_bound v lo hi = 0) : bt v lo.toInt hi.toInt := by
  refine ⟨?_, bd_h h⟩
  unfold sX7_bound at h
  by_cases h1 : lo ≤ v
  · rw [Int32.le_iff_toInt_le] at h1; exact h1
  · rw [if_neg h1] at h; exact absurd h (by decide)
theorem chg_0 {v : Int32} : sX2_change n (nI 0) v = (n.1 0, ((upd n.1 0 v), n.2)) := by
  unfold sX2_change sX2_told
  rw [if_pos (by decide), if_pos (by decide)]
theorem chg_1 {v : Int32} : sX2_change n (nI 1) v = (n.1 1, ((upd n.1 1 v), n.2)) := by
  unfold sX2_change sX2_told
  rw [if_neg (by decide), if_pos (by decide), if_neg (by decide), if_pos (by decide)]
theorem chg_2 {v : Int32} : sX2_change n (nI 2) v = (n.1 2, ((upd n.1 2 v), n.2)) := by
  unfold sX2_change sX2_told
  rw [if_neg (by decide), if_neg (by decide), if_pos (by decide), if_neg (by decide), if_neg (by decide), if_pos (by decide)]
theorem chg_3 {v : Int32} : sX2_change n (nI 3) v = (n.1 10, ((upd n.1 10 v), n.2)) := by
  unfold sX2_change sX2_told
  rw [if_neg (by decide), if_neg (by decide), if_neg (by decide), if_pos (by decide), if_neg (by decide), if_neg (by decide), if_neg (by decide), if_pos (by decide)]
theorem chg_4 {v : Int32} : sX2_change n (nI 4) v = (n.1 12, ((upd n.1 12 v), n.2)) := by
  unfold sX2_change sX2_told
  rw [if_neg (by decide), if_neg (by decide), if_neg (by decide), if_neg (by decide), if_pos (by decide), if_neg (by decide), if_neg (by decide), if_neg (by decide), if_neg (by decide), if_pos (by decide)]
theorem chg_5 {v : Int32} : sX2_change n (nI 5) v = (n.1 13, ((upd n.1 13 v), n.2)) := by
  unfold sX2_change sX2_told
  rw [if_neg (by decide), if_neg (by decide), if_neg (by decide), if_neg (by decide), if_neg (by decide), if_pos (by decide), if_neg (by decide), if_neg (by decide), if_neg (by decide), if_neg (by decide), if_neg (by decide), if_pos (by decide)]
theorem mk3 {R L : Int32 × (Nat → Nat → Int32)} (q : R.1 = L.1 ∧ Inv n i cf R.2 f L.2) : (R.1, n, R.2).1 = (L.1, L.2).1 ∧ Inv (R.1, n, R.2).2.1 i cf (R.1, n, R.2).2.2 f (L.1, L.2).2 := q
set_option maxRecDepth 100000 in
theorem pu_set (hI : Inv n i cf ca f ar) (w : Int32) (v : Int32) : ((sX6_set n m cf ca w v).1) = ((sX7_set f ar w v).1) ∧ Inv ((sX6_set n m cf ca w v).2.1) i cf ((sX6_set n m cf ca w v).2.2) f ((sX7_set f ar w v).2) := by
  unfold sX6_set sX7_set
  by_cases c1 : w < 0
  · rw [if_pos c1, if_neg (in_neg0 c1)]
    obtain ⟨q1, q2⟩ := hI.lower w2
    refine ⟨?_, ?_⟩
    · dsimp only
      exact q1
    · dsimp only
      exact q2
  rw [if_neg c1]
  by_cases c2 : w ≤ 5
  · rw [if_pos c2, if_pos (in_pos c1 c2)]
    obtain ⟨k, hk, rfl⟩ := w_k (hi := 5) (by decide) c1 c2
    have hl : zLe.getD (nI k).toNatClampNeg 0 = sX7_leastOf (nI k) ∧ zGr.getD (nI k).toNatClampNeg 0 = sX7_mostOf (nI k) := by
      match k, hk with
      | 0, _ => exact ⟨by decide, by decide⟩
      | 1, _ => exact ⟨by decide, by decide⟩
      | 2, _ => exact ⟨by decide, by decide⟩
      | 3, _ => exact ⟨by decide, by decide⟩
      | 4, _ => exact ⟨by decide, by decide⟩
      | 5, _ => exact ⟨by decide, by decide⟩
      | k + 6, hk => exact absurd hk (by omega)
    rw [hl.1, hl.2, nI_clamp (by omega), ob_eq]
    by_cases c : sX7_bound v (sX7_leastOf (nI k)) (sX7_mostOf (nI k)) = 0
    · rw [if_pos c, if_pos c]
      have hv := bd_bt c
      obtain ⟨⟨a0, a1, a2, a6, a7, a8, a9, a10, a11, a12, a13⟩, -⟩ := hI.1
      match k, hk with
      | 0, _ =>
        rw [chg_0]
        dsimp only
        refine ⟨a0, ?_⟩
        exact hI.now (hI.1.set0 (show bt v (-99) 99 from ⟨by have := hv.1; rw [show (sX7_leastOf (nI 0)).toInt = -99 by decide] at this; exact this, by have := hv.2; rw [show (sX7_mostOf (nI 0)).toInt = 99 by decide] at this; exact this⟩)) (fun _ _ => rfl) (fun q hq => up2_ne (by omega))
      | 1, _ =>
        rw [chg_1]
        dsimp only
        refine ⟨a1, ?_⟩
        exact hI.now (hI.1.set1 (show bt v (-20) 20 from ⟨by have := hv.1; rw [show (sX7_leastOf (nI 1)).toInt = -20 by decide] at this; exact this, by have := hv.2; rw [show (sX7_mostOf (nI 1)).toInt = 20 by decide] at this; exact this⟩)) (fun _ _ => rfl) (fun q hq => up2_ne (by omega))
      | 2, _ =>
        rw [chg_2]
        dsimp only
        refine ⟨a2, ?_⟩
        exact hI.now (hI.1.set2 (show bt v (-20) 20 from ⟨by have := hv.1; rw [show (sX7_leastOf (nI 2)).toInt = -20 by decide] at this; exact this, by have := hv.2; rw [show (sX7_mostOf (nI 2)).toInt = 20 by decide] at this; exact this⟩)) (fun _ _ => rfl) (fun q hq => up2_ne (by omega))
      | 3, _ =>
        rw [chg_3]
        dsimp only
        refine ⟨a10, ?_⟩
        exact hI.now (hI.1.set3 (show bt v (-9) 9 from ⟨by have := hv.1; rw [show (sX7_leastOf (nI 3)).toInt = -9 by decide] at this; exact this, by have := hv.2; rw [show (sX7_mostOf (nI 3)).toInt = 9 by decide] at this; exact this⟩)) (fun _ _ => rfl) (fun q hq => up2_ne (by omega))
      | 4, _ =>
        rw [chg_4]
        dsimp only
        refine ⟨a12, ?_⟩
        exact hI.now (hI.1.set4 (show bt v (1) 20 from ⟨by have := hv.1; rw [show (sX7_leastOf (nI 4)).toInt = 1 by decide] at this; exact this, by have := hv.2; rw [show (sX7_mostOf (nI 4)).toInt = 20 by decide] at this; exact this⟩)) (fun _ _ => rfl) (fun q hq => up2_ne (by omega))
      | 5, _ =>
        rw [chg_5]
        dsimp only
        refine ⟨a13, ?_⟩
        exact hI.now (hI.1.set5 (show bt v (0) 9 from ⟨by have := hv.1; rw [show (sX7_leastOf (nI 5)).toInt = 0 by decide] at this; exact this, by have := hv.2; rw [show (sX7_mostOf (nI 5)).toInt = 9 by decide] at this; exact this⟩)) (fun _ _ => rfl) (fun q hq => up2_ne (by omega))
      | k + 6, hk => exact absurd hk (by omega)
    · rw [if_neg c, if_neg c]
      exact mk3 (R := sX6_refuseTold ca _) (L := sX7_lower ar _) (hI.lower (bd_w c))
  · rw [if_neg c2, if_neg (in_neg1 c1 c2)]
    obtain ⟨q1, q2⟩ := hI.lower w2
    refine ⟨?_, ?_⟩
    · dsimp only
      exact q1
    · dsimp only
      exact q2
theorem rN.dk {v : Int32} (h : rN n f ar) (hv : bt v 0 4) : rN ((upd n.1 9 v), n.2) (upd f 9 v) ar := by
  obtain ⟨⟨a0, a1, a2, a6, a7, a8, a9, a10, a11, a12, a13⟩, hP, ⟨r1, r2, r6, r7, r10, r12, r13, rQ, r9, r11⟩, b0, b8⟩ := h
  exact ⟨⟨a0, a1, a2, a6, a7, a8, rfl, a10, a11, a12, a13⟩, hP, ⟨r1, r2, r6, r7, r10, r12, r13, rQ, hv, r11⟩, b0, b8⟩
theorem rN.rk {v : Int32} (h : rN n f ar) (hv : bt v 0 4) : rN ((upd n.1 11 v), n.2) (upd f 10 v) ar := by
  obtain ⟨⟨a0, a1, a2, a6, a7, a8, a9, a10, a11, a12, a13⟩, hP, ⟨r1, r2, r6, r7, r10, r12, r13, rQ, r9, r11⟩, b0, b8⟩ := h
  exact ⟨⟨a0, a1, a2, a6, a7, a8, a9, a10, rfl, a12, a13⟩, hP, ⟨r1, r2, r6, r7, r10, r12, r13, rQ, r9, hv⟩, b0, b8⟩
theorem rN.tk {v : Int32} (h : rN n f ar) (hz : ¬ n.1 6 = 0) (hv : 0 ≤ v.toInt ∧ v.toInt < (n.1 6).toInt) : rN ((upd n.1 7 v), n.2) (upd f 11 v) ar := by
  obtain ⟨⟨a0, a1, a2, a6, a7, a8, a9, a10, a11, a12, a13⟩, hP, ⟨r1, r2, r6, r7, r10, r12, r13, rQ, r9, r11⟩, b0, b8⟩ := h
  exact ⟨⟨a0, a1, a2, a6, rfl, a8, a9, a10, a11, a12, a13⟩, hP, ⟨r1, r2, r6, ⟨fun z => absurd z hz, fun _ => hv⟩, r10, r12, r13, rQ, r9, r11⟩, b0, b8⟩
set_option maxRecDepth 100000 in
theorem pu_kind (hI : Inv n i cf ca f ar) (w : Int32) (k : Int32) : ((sX6_kind n m cf ca w k).1) = ((sX7_kind f ar w k).1) ∧ Inv ((sX6_kind n m cf ca w k).2.1) i cf ((sX6_kind n m cf ca w k).2.2) ((sX7_kind f ar w k).2.1) ((sX7_kind f ar w k).2.2) := by
  unfold sX6_kind sX7_kind
  by_cases c1 : w < 0
  · rw [if_pos c1, if_neg (in_neg0 c1)]
    exact hI.no w2
  rw [if_neg c1]
  by_cases c2 : 1 < w
  · rw [if_pos c2, if_neg (in_neg1 c1 (by rw [Int32.lt_iff_toInt_lt] at c2; rw [Int32.le_iff_toInt_le]; omega))]
    exact hI.no w2
  have c2' : w ≤ 1 := by rw [Int32.lt_iff_toInt_lt] at c2; rw [Int32.le_iff_toInt_le]; omega
  rw [if_neg c2, if_pos (in_pos c1 c2')]
  by_cases c3 : k < 0
  · rw [if_pos c3, if_neg (in_neg0 c3)]
    exact hI.no w2
  rw [if_neg c3]
  by_cases c4 : k < 5
  · have c4' : k ≤ 4 := by rw [Int32.lt_iff_toInt_lt, show (5 : Int32).toInt = 5 by decide] at c4; rw [Int32.le_iff_toInt_le, show (4 : Int32).toInt = 4 by decide]; omega
    rw [if_pos c4, if_pos (in_pos c3 c4')]
    have hv : bt k 0 4 := ⟨by rw [Int32.lt_iff_toInt_lt, i0] at c3; omega, by rw [Int32.le_iff_toInt_le, show (4 : Int32).toInt = 4 by decide] at c4'; exact c4'⟩
    obtain ⟨⟨a0, a1, a2, a6, a7, a8, a9, a10, a11, a12, a13⟩, -⟩ := hI.1
    by_cases d : w = 0
    · rw [if_pos d, if_pos d, if_pos d]
      exact ⟨a9, hI.now (hI.1.dk hv) (fun q hq => upd_ne (by omega)) (fun _ _ => rfl)⟩
    · rw [if_neg d, if_neg d, if_neg d]
      exact ⟨a11, hI.now (hI.1.rk hv) (fun q hq => upd_ne (by omega)) (fun _ _ => rfl)⟩
  · have c4' : ¬ k ≤ 4 := by rw [Int32.lt_iff_toInt_lt, show (5 : Int32).toInt = 5 by decide] at c4; rw [Int32.le_iff_toInt_le, show (4 : Int32).toInt = 4 by decide]; omega
    rw [if_neg c4, if_neg (in_neg1 c3 c4')]
    exact hI.no w2
set_option maxRecDepth 100000 in
theorem pu_turn (hI : Inv n i cf ca f ar) (p : Int32) : ((sX6_turn n m cf ca p).1) = ((sX7_turn f ar p).1) ∧ Inv ((sX6_turn n m cf ca p).2.1) i cf ((sX6_turn n m cf ca p).2.2) ((sX7_turn f ar p).2.1) ((sX7_turn f ar p).2.2) := by
  unfold sX6_turn sX7_turn
  rw [has_eq hI]
  by_cases cp : sX7_isPerson f p = true
  · rw [if_pos cp, if_pos cp]
    obtain ⟨k, rfl, hk, hk5⟩ := per_k hI cp
    obtain ⟨⟨a0, a1, a2, a6, a7, a8, a9, a10, a11, a12, a13⟩, -⟩ := hI.1
    refine ⟨a7, hI.now (hI.1.tk (fun z => ?_) ⟨by rw [nI_toInt (by omega)]; omega, by rw [nI_toInt (by omega)]; exact hk⟩) (fun q hq => upd_ne (by omega)) (fun _ _ => rfl)⟩
    rw [z, i0] at hk
    omega
  · rw [if_neg cp, if_neg cp]
    exact hI.no w1
set_option maxRecDepth 100000 in
theorem pu_drifts (hI : Inv n i cf ca f ar) (t : Int32) : ((sX6_drifts n m cf ca t).1) = ((sX7_drifts f ar t).1) ∧ Inv n i cf ((sX6_drifts n m cf ca t).2) f ((sX7_drifts f ar t).2) := by
  unfold sX6_drifts sX7_drifts
  rw [ob_eq]
  by_cases c : sX7_bound t 0 9999 = 0
  · rw [if_pos c, if_pos c]
    have hv := bd_bt c
    have h1 := hv.1
    have h2 := hv.2
    rw [i0] at h1
    rw [show (9999 : Int32).toInt = 9999 by decide +kernel] at h2
    obtain ⟨⟨a0, a1, a2, a6, a7, a8, a9, a10, a11, a12, a13⟩, -, hR, -⟩ := hI.1
    exact ⟨dr_eq a9 a10 hR.2.2.2.2.1.1 hR.2.2.2.2.1.2 h1 (by omega), hI⟩
  · have hw := bd_w c
    rw [if_neg c, if_neg c]
    generalize sX7_bound t 0 9999 = u at hw ⊢
    obtain ⟨q1, q2⟩ := hI.lower hw
    generalize sX6_refuseTold ca u = R at q1 q2 ⊢
    generalize sX7_lower ar u = L at q1 q2 ⊢
    exact ⟨q1, q2⟩
theorem sz_lt {x : Int32} {hi : Nat} {H : Int32} (hH : H.toInt = hi) (h : bt x 0 hi) : (x < H ↔ ¬ x = H) := by
  rw [Int32.lt_iff_toInt_lt]
  constructor
  · intro h1 e
    rw [e] at h1
    omega
  · intro h1
    have h2 : x.toInt ≠ H.toInt := fun e => h1 (int_ext e)
    have := h.2
    omega
set_option maxRecDepth 100000 in
theorem pu_row (hI : Inv n i cf ca f ar) (v : Int32) : ((sX6_row n m cf ca v).1) = ((sX7_row f ar v).1) ∧ Inv n i ((sX6_row n m cf ca v).2.1) ((sX6_row n m cf ca v).2.2) ((sX7_row f ar v).2.1) ((sX7_row f ar v).2.2) := by
  unfold sX6_row sX7_row
  have hx := hI
  obtain ⟨h1, h2, h3, ⟨e35, hb, hn⟩, h5⟩ := hx
  by_cases c : sX7_bound v 0 99 = 0
  · rw [if_pos (show sX6_outside v 0 99 = 0 from c), if_pos c, ← e35]
    by_cases d : cf 1 = 12
    · rw [if_neg (fun z => (sz_lt (hi := 12) (by decide) hb).mp z d), if_pos d]
      exact hI.no w6
    · rw [if_pos ((sz_lt (hi := 12) (by decide) hb).mpr d), if_neg d]
      obtain ⟨k, hk, ek⟩ := bt_nI (hi := 12) hb (by omega)
      have hk12 : k ≠ 12 := fun e => d (by rw [ek, e]; rfl)
      rw [ek, nI_1, nI_clamp (by omega)]
      refine ⟨rfl, h1, h2, h3, ⟨?_, ?_, fun j hj => ?_⟩, h5⟩
      · dsimp only
        rw [upd_eq, upd_eq]
      · dsimp only
        rw [upd_eq]
        exact nI_bt (hi := 12) (by omega) (by omega)
      · dsimp only at hj ⊢
        rw [upd_eq, nI_toInt (by omega)] at hj
        rw [up2_eq, up2_eq]
        by_cases e : j = k
        · subst e; rw [upd_eq, upd_eq]
        · rw [upd_ne e, upd_ne e]
          exact hn j (by rw [ek, nI_toInt (by omega)]; omega)
  · rw [if_neg (show ¬ sX6_outside v 0 99 = 0 from c), if_neg c]
    exact hI.no (bd_w c)
theorem ch_c : ∀ k : Nat, k < 256 → vp_nar .char ((nI k).toUInt32 % 65536).toInt32 = nI k := by decide +kernel
theorem ch_n : ∀ k : Nat, k < 256 → narrow .char (.int (nI k)) = .int (nI k) := by decide +kernel
set_option maxRecDepth 100000 in
theorem pu_letter (hI : Inv n i cf ca f ar) (c : Int32) : ((sX6_letter n m cf ca c).1) = ((sX7_letter f ar c).1) ∧ Inv n i ((sX6_letter n m cf ca c).2.1) ((sX6_letter n m cf ca c).2.2) ((sX7_letter f ar c).2.1) ((sX7_letter f ar c).2.2) := by
  unfold sX6_letter sX7_letter sX5_add
  have hx := hI
  obtain ⟨h1, h2, ⟨e17, hb, hch, hn⟩, h4, h5⟩ := hx
  rw [ob_eq]
  by_cases cb : sX7_bound c 0 255 = 0
  · rw [if_pos cb, if_pos cb, ← e17]
    have hv := bd_bt cb
    by_cases d : cf 2 = 96
    · rw [if_neg (fun z => (sz_lt (hi := 96) (by decide) hb).mp z d), if_pos d]
      exact hI.no w6
    · have dl := (sz_lt (hi := 96) (by decide) hb).mpr d
      rw [if_pos dl, if_neg d, if_neg (by rw [Int32.lt_iff_toInt_lt, i0]; have := hb.1; omega), if_neg (by rw [Int32.lt_iff_toInt_lt] at dl; rw [Int32.le_iff_toInt_le]; omega)]
      obtain ⟨k, hk, ek⟩ := bt_nI (hi := 96) hb (by omega)
      obtain ⟨q, hq, eq⟩ := bt_nI (hi := 255) (show bt c 0 255 from hv) (by omega)
      have hk96 : k ≠ 96 := fun e => d (by rw [ek, e]; rfl)
      rw [eq, ch_c q (by omega), ek, nI_1, nI_clamp (by omega)]
      refine ⟨by dsimp only; rw [upd_eq], h1, h2, ⟨?_, ?_, fun j => ?_, fun j hj => ?_⟩, h4, h5⟩
      · dsimp only
        rw [upd_eq, upd_eq]
      · dsimp only
        rw [upd_eq]
        exact nI_bt (hi := 96) (by omega) (by omega)
      · dsimp only
        rw [up2_eq]
        by_cases e : j = k
        · subst e; rw [upd_eq]; exact ch_n q (by omega)
        · rw [upd_ne e]; exact hch j
      · dsimp only at hj ⊢
        rw [upd_eq, nI_toInt (by omega)] at hj
        rw [up2_eq, up2_eq]
        by_cases e : j = k
        · subst e; rw [upd_eq, upd_eq]; exact ⟨rfl, nI_bt (hi := 255) (by omega) (by omega)⟩
        · rw [upd_ne e, upd_ne e]
          exact hn j (by rw [ek, nI_toInt (by omega)]; omega)
  · rw [if_neg cb, if_neg cb]
    exact hI.no (bd_w cb)
end zPF
