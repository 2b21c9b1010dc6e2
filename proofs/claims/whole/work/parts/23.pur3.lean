theorem Rd_E {f : Nat → Int32} {ar : Nat → Nat → Int32} {r lo hi : Nat} (h : f 18 = nI r) (hr : r < 1000) : Rd [cE] f ar r lo hi (if sX7_next f ar = 59 then (true, upd f 18 (f 18 + 1), ar) else (false, f, ar)) [] := by
  rw [nx_T h (by omega)]
  unfold Rd
  rw [fitL_c]
  by_cases c : tT f ar r = 59
  · rw [if_pos c, if_pos (show cE (tT f ar r) = true from decide_eq_true c)]
    refine ⟨rfl, ?_, fun _ _ => rfl, fun _ _ => rfl, fun _ q hq => absurd hq List.not_mem_nil⟩
    show upd f 18 (f 18 + 1) = _
    rw [h, nI_1]
    rfl
  · rw [if_neg c, if_neg (show ¬ cE (tT f ar r) = true from by show ¬ decide (tT f ar r = 59) = true; rw [decide_eq_false c]; exact Bool.false_ne_true)]
    exact ⟨rfl, (upd_id h).symm, fun _ _ => rfl, fun _ _ => rfl, fun _ q hq => absurd hq List.not_mem_nil⟩
def hdP (b : Int32) : Prop := b = 112 ∨ b = 119 ∨ b = 115 ∨ b = 100 ∨ b = 114 ∨ b = 110
def stB (X : Bool × (Nat → Int32) × (Nat → Nat → Int32)) : Bool × (Nat → Int32) × (Nat → Nat → Int32) := if X.1 = true then (if sX7_next X.2.1 X.2.2 = 59 then (true, upd X.2.1 18 (X.2.1 18 + 1), X.2.2) else (false, X.2.1, X.2.2)) else (false, X.2.1, X.2.2)
def stX (f : Nat → Int32) (ar : Nat → Nat → Int32) : Bool × (Nat → Int32) × (Nat → Nat → Int32) := sX7_readsAll (upd f 18 ((f 18) + 1)) (up2 (up2 ar 14 (upd (ar 14) (f 19).toNatClampNeg (sX7_next f ar))) 15 (upd (ar 15) (f 19).toNatClampNeg (f 18))) (sX7_next f ar) (6 * (f 19))
theorem st_hd {f : Nat → Int32} {ar : Nat → Nat → Int32} (h : hdP (sX7_next f ar)) : sX7_statement f ar = stB (stX f ar) := by
  unfold sX7_statement
  by_cases c1 : sX7_next f ar = 112
  · rw [if_pos c1]; rfl
  rw [if_neg c1]
  by_cases c2 : sX7_next f ar = 119
  · rw [if_pos c2]; rfl
  rw [if_neg c2]
  by_cases c3 : sX7_next f ar = 115
  · rw [if_pos c3]; rfl
  rw [if_neg c3]
  by_cases c4 : sX7_next f ar = 100
  · rw [if_pos c4]; rfl
  rw [if_neg c4]
  by_cases c5 : sX7_next f ar = 114
  · rw [if_pos c5]; rfl
  rw [if_neg c5]
  by_cases c6 : sX7_next f ar = 110
  · rw [if_pos c6]; rfl
  rcases h with h | h | h | h | h | h
  · exact absurd h c1
  · exact absurd h c2
  · exact absurd h c3
  · exact absurd h c4
  · exact absurd h c5
  · exact absurd h c6
theorem st_no {f : Nat → Int32} {ar : Nat → Nat → Int32} (h : ¬ hdP (sX7_next f ar)) : sX7_statement f ar = (false, f, ar) := by
  unfold sX7_statement
  unfold hdP at h
  rw [if_neg (fun c => h (Or.inl c)), if_neg (fun c => h (Or.inr (Or.inl c))), if_neg (fun c => h (Or.inr (Or.inr (Or.inl c)))), if_neg (fun c => h (Or.inr (Or.inr (Or.inr (Or.inl c))))), if_neg (fun c => h (Or.inr (Or.inr (Or.inr (Or.inr (Or.inl c)))))), if_neg (fun c => h (Or.inr (Or.inr (Or.inr (Or.inr (Or.inr c))))))]
def shE (b : Int32) : List (Int32 → Bool) := shA b ++ [cE]
/-- what a statement leaves, its first letter at r, the m-th -/
theorem st_sp {f : Nat → Int32} {ar : Nat → Nat → Int32} {r m : Nat} (h18 : f 18 = nI r) (hr : r < 200) (h19 : f 19 = nI m) (hm : m < 48) (hb : hdP (tT f ar r)) : (sX7_statement f ar).1 = decide (fitL (shE (tT f ar r)) (tT f ar) (r + 1) = (shE (tT f ar r)).length) ∧ (sX7_statement f ar).2.1 = upd f 18 (nI (r + 1 + fitL (shE (tT f ar r)) (tT f ar) (r + 1))) ∧ (∀ k, k ≠ 14 → k ≠ 15 → k ≠ 16 → (sX7_statement f ar).2.2 k = ar k) ∧ (sX7_statement f ar).2.2 14 = upd (ar 14) m (tT f ar r) ∧ (sX7_statement f ar).2.2 15 = upd (ar 15) m (nI r) ∧ (∀ i, i < 6 * m ∨ 6 * m + 6 ≤ i → (sX7_statement f ar).2.2 16 i = ar 16 i) ∧ (fitL (shE (tT f ar r)) (tT f ar) (r + 1) = (shE (tT f ar r)).length → ∀ q ∈ vsA (tT f ar r) (tT f ar) (r + 1) (6 * m), (sX7_statement f ar).2.2 16 q.1 = q.2) := by
  have hn := nx_T (ar := ar) h18 (by omega)
  rw [st_hd (by rw [hn]; exact hb)]
  unfold stX
  rw [hn, s6e h19 hm, h19, nI_clamp (by omega), h18, nI_1]
  generalize hf1 : upd f 18 (nI (r + 1)) = f1
  generalize ha1 : up2 (up2 ar 14 (upd (ar 14) m (tT f ar r))) 15 (upd (ar 15) m (nI r)) = a1
  have h1 : f1 18 = nI (r + 1) := by rw [← hf1]; rfl
  have hT : tT f1 a1 = tT f ar := tT_eq (by rw [← hf1]; rfl) (by rw [← ha1]; rfl)
  have hA := Rd_A (ar := a1) (q := 6 * m) (tT f ar r) h1 (by omega) (by omega)
  have hl := shA_len (tT f ar r)
  have hR : Rd (shE (tT f ar r)) f1 a1 (r + 1) (6 * m) (6 * m + 6) (stB (sX7_readsAll f1 a1 (tT f ar r) (nI (6 * m)))) (vsA (tT f ar r) (tT f1 a1) (r + 1) (6 * m) ++ []) := Rd.app (m := 6 * m + 6) hA (fun h _ => Rd_E h (by omega)) (by omega) (by omega)
  rw [List.append_nil] at hR
  obtain ⟨b1, b2, b3, b4, b5⟩ := hR
  rw [hT] at b1 b2 b5
  refine ⟨b1, by rw [b2, ← hf1, upd_2], fun k h14 h15 h16 => (b3 k h16).trans (by rw [← ha1, up2_ne h15, up2_ne h14]), (b3 14 (by decide)).trans (by rw [← ha1]; rfl), (b3 15 (by decide)).trans (by rw [← ha1]; rfl), fun i hi => (b4 i hi).trans (by rw [← ha1]; rfl), fun hc q hq => (b5 hc q hq).2⟩
/-! where the statements begin -/
def stS (T : Nat → Int32) : Nat → Nat
  | 0 => 0
  | c + 1 => stS T c + 1 + (shE (T (stS T c))).length
def okS (T : Nat → Int32) (ar : Nat → Nat → Int32) (m : Nat) : Prop := ∀ c, c < m → ar 15 c = nI (stS T c) ∧ ar 14 c = T (stS T c) ∧ hdP (T (stS T c)) ∧ fitL (shE (T (stS T c))) T (stS T c + 1) = (shE (T (stS T c))).length ∧ ∀ q ∈ vsA (T (stS T c)) T (stS T c + 1) (6 * c), ar 16 q.1 = q.2
theorem shE_len (b : Int32) : 3 ≤ (shE b).length ∧ (shE b).length ≤ 7 := by
  unfold shE shA
  rw [List.length_append]
  repeat' split
  all_goals decide
theorem vsA_at (b : Int32) (T : Nat → Int32) (r q : Nat) : ∀ p ∈ vsA b T r q, q ≤ p.1 ∧ p.1 < q + 6 := by
  unfold vsA
  repeat' split
  all_goals
    intro p hp
    simp only [List.mem_cons, List.not_mem_nil, or_false] at hp
    first
    | (rcases hp with rfl | rfl | rfl | rfl | rfl | rfl <;> simp)
    | (rcases hp with rfl | rfl | rfl <;> simp)
    | (rcases hp with rfl | rfl <;> simp)
    | (subst hp; simp)
theorem okS_n {T : Nat → Int32} {ar a1 : Nat → Nat → Int32} {r m : Nat} (h : okS T ar m) (h14 : a1 14 = upd (ar 14) m (T r)) (h15 : a1 15 = upd (ar 15) m (nI r)) (h16 : ∀ i, i < 6 * m ∨ 6 * m + 6 ≤ i → a1 16 i = ar 16 i) (hr : r = stS T m) (hb : hdP (T r)) (hf : fitL (shE (T r)) T (r + 1) = (shE (T r)).length) (hv : ∀ q ∈ vsA (T r) T (r + 1) (6 * m), a1 16 q.1 = q.2) : okS T a1 (m + 1) := by
  intro c hc
  rw [h14, h15]
  by_cases e : c = m
  · subst e
    rw [← hr]
    exact ⟨if_pos rfl, if_pos rfl, hb, hf, hv⟩
  · obtain ⟨k1, k2, k3, k4, k5⟩ := h c (by omega)
    rw [upd_ne e, upd_ne e]
    refine ⟨k1, k2, k3, k4, fun q hq => ?_⟩
    have := vsA_at _ _ _ _ q hq
    rw [h16 q.1 (by omega)]
    exact k5 q hq
theorem okS_k {T : Nat → Int32} {ar a1 : Nat → Nat → Int32} {m : Nat} (h : okS T ar m) (h14 : ∀ c, c < m → a1 14 c = ar 14 c) (h15 : ∀ c, c < m → a1 15 c = ar 15 c) (h16 : ∀ i, i < 6 * m → a1 16 i = ar 16 i) : okS T a1 m := by
  intro c hc
  obtain ⟨k1, k2, k3, k4, k5⟩ := h c hc
  refine ⟨(h15 c hc).trans k1, (h14 c hc).trans k2, k3, k4, fun q hq => ?_⟩
  have := vsA_at _ _ _ _ q hq
  exact (h16 q.1 (by omega)).trans (k5 q hq)
/-! digits are not below 0 -/
theorem cD_0 {c : Int32} (h : cD c = true) : 0 ≤ (c - 48).toInt ∧ (c - 48).toInt ≤ 9 := by
  unfold cD sX7_isIn at h
  by_cases h1 : c < 48
  · rw [if_pos h1] at h; cases h
  · rw [if_neg h1] at h
    by_cases h2 : 57 < c
    · rw [decide_eq_true h2] at h; cases h
    · rw [Int32.lt_iff_toInt_lt, show (48 : Int32).toInt = 48 by decide] at h1
      rw [Int32.lt_iff_toInt_lt, show (57 : Int32).toInt = 57 by decide] at h2
      rw [Int32.toInt_sub, show (48 : Int32).toInt = 48 by decide, Int.bmod_eq_of_le (by omega) (by omega)]
      omega
theorem fit_1 {g : Int32 → Bool} {l : List (Int32 → Bool)} {T : Nat → Int32} {r : Nat} (h : fitL (g :: l) T r = (g :: l).length) : g (T r) = true ∧ fitL l T (r + 1) = l.length := by
  rw [fitL_c] at h
  by_cases c : g (T r) = true
  · rw [if_pos c, List.length_cons] at h
    exact ⟨c, by omega⟩
  · rw [if_neg c, List.length_cons] at h
    omega
def tOk (ar : Nat → Nat → Int32) (n : Nat) : Prop := ∀ c, c < n → (ar 14 c = 115 → 0 ≤ (ar 16 (6 * c)).toInt) ∧ (ar 14 c = 112 → 0 ≤ (ar 16 (6 * c + 3)).toInt)
theorem okS_t {T : Nat → Int32} {ar : Nat → Nat → Int32} {n : Nat} (h : okS T ar n) : tOk ar n := by
  intro c hc
  obtain ⟨k1, k2, k3, k4, k5⟩ := h c hc
  refine ⟨fun hb => ?_, fun hb => ?_⟩
  · rw [k2] at hb
    rw [hb] at k4 k5
    have hd := cD_0 (fit_1 (g := cD) (l := [cS, cD, cD, cE]) k4).1
    have hv := k5 (6 * c, T (stS T c + 1) - 48) List.mem_cons_self
    rw [hv]
    exact hd.1
  · rw [k2] at hb
    rw [hb] at k4 k5
    have k4 : fitL [cP, cD, cD, cD, cD, cD, cE] T (stS T c + 1) = 7 := k4
    have hd := cD_0 (fit_1 (fit_1 (fit_1 (fit_1 (g := cP) (l := [cD, cD, cD, cD, cD, cE]) k4).2).2).2).1
    have hv := k5 (6 * c + 3, T (stS T c + 1 + 3) - 48) (List.mem_cons_of_mem _ (List.mem_cons_of_mem _ (List.mem_cons_of_mem _ List.mem_cons_self)))
    rw [hv]
    exact hd.1
/-! TURN is 0 while there is nobody -/
def tZ (f : Nat → Int32) : Prop := f 8 = 0 → f 11 = 0
theorem mU_11 {f : Nat → Int32} {ar : Nat → Nat → Int32} (h : f 8 = 0) : (mU f ar).1 11 = f 11 := by
  unfold mU
  rw [if_pos (by rw [h]; decide)]
theorem g1_tz {f : Nat → Int32} {ar : Nat → Nat → Int32} (h : tZ f) : tZ (sX7_goesOne f ar).1 := by
  intro h8
  have k8 := (kg_1 f ar).1 8 (by decide) (by decide) (by decide)
  rw [k8] at h8
  rw [g1_eq]
  rw [(gi_keep (f 8).toNatClampNeg 0 (mU f ar).1 (mU f ar).2).2.1, mU_11 h8]
  exact h h8
theorem gsi_tz : ∀ (j a : Nat) (f : Nat → Int32) (ar : Nat → Nat → Int32), tZ f → tZ (itX7_goes j a f ar).1
  | 0, _, _, _, h => h
  | j + 1, a, f, ar, h => gsi_tz j (a + 1) (sX7_goesOne f ar).1 (sX7_goesOne f ar).2 (g1_tz h)
theorem gs_tz {f : Nat → Int32} {ar : Nat → Nat → Int32} {x : Int32} (h : tZ f) : tZ (sX7_goes f ar x).1 := gsi_tz x.toNatClampNeg 0 (sX7_begins f ar).1 (sX7_begins f ar).2 h
/-! what comes keeps -/
theorem cs_r {ar : Nat → Nat → Int32} {w v : Int32} : (sX7_comesSet ar w v).2 = (if sX7_isIn v (sX7_leastOf w) (sX7_mostOf w) = true then up2 ar 1 (upd (ar 1) w.toNatClampNeg v) else ar) ∧ (sX7_comesSet ar w v).1 = sX7_isIn v (sX7_leastOf w) (sX7_mostOf w) := by
  unfold sX7_comesSet
  by_cases c : sX7_isIn v (sX7_leastOf w) (sX7_mostOf w) = true
  · rw [if_pos c, if_pos c]; exact ⟨rfl, c.symm⟩
  · rw [if_neg c, if_neg c]
    cases e : sX7_isIn v (sX7_leastOf w) (sX7_mostOf w) with
    | true => exact absurd e c
    | false => exact ⟨rfl, rfl⟩
/-- .. but for the settings, whose limit is not 0 -/
def ks (ar a1 : Nat → Nat → Int32) : Prop := (∀ k, k ≠ 1 → a1 k = ar k) ∧ (¬ ar 1 4 = 0 → ¬ a1 1 4 = 0)
theorem ks.rf {ar : Nat → Nat → Int32} : ks ar ar := ⟨fun _ _ => rfl, fun h => h⟩
theorem ks.tr {ar a1 a2 : Nat → Nat → Int32} (h1 : ks ar a1) (h2 : ks a1 a2) : ks ar a2 := ⟨fun k h => (h2.1 k h).trans (h1.1 k h), fun h => h2.2 (h1.2 h)⟩
theorem isIn_ge {v lo hi : Int32} (h : sX7_isIn v lo hi = true) : lo.toInt ≤ v.toInt ∧ v.toInt ≤ hi.toInt := by
  unfold sX7_isIn at h
  by_cases h1 : v < lo
  · rw [if_pos h1] at h; cases h
  · rw [if_neg h1] at h
    by_cases h2 : hi < v
    · rw [decide_eq_true h2] at h; cases h
    · rw [Int32.lt_iff_toInt_lt] at h1 h2
      omega
theorem cs_ks {ar : Nat → Nat → Int32} {w v : Int32} : ks ar (sX7_comesSet ar w v).2 := by
  rw [cs_r.1]
  by_cases c : sX7_isIn v (sX7_leastOf w) (sX7_mostOf w) = true
  · rw [if_pos c]
    refine ⟨fun k h => up2_ne h, fun h => ?_⟩
    show ¬ upd (ar 1) w.toNatClampNeg v 4 = 0
    by_cases hw : 4 = w.toNatClampNeg
    · rw [← hw, show upd (ar 1) 4 v 4 = v from if_pos rfl]
      have hw4 : w = 4 := by
        apply Int32.toInt_inj.mp
        rw [show (4 : Int32).toInt = 4 by decide]
        unfold Int32.toNatClampNeg at hw
        omega
      subst hw4
      have := (isIn_ge c).1
      intro e
      subst e
      exact absurd this (by decide)
    · rw [upd_ne hw]
      exact h
  · rw [if_neg c]
    exact ks.rf
theorem ks.ok {f f1 : Nat → Int32} {ar a1 : Nat → Nat → Int32} (h : ks ar a1) (h8 : f1 8 = f 8) (h11 : f1 11 = f 11) (hk : mOk f ar) : mOk f1 a1 := by
  unfold mOk at hk ⊢
  rw [h8, h11, h.1 5 (by decide), h.1 6 (by decide)]
  exact ⟨hk.1, hk.2.1, hk.2.2.1, h.2 hk.2.2.2⟩
def kc (f : Nat → Int32) (ar : Nat → Nat → Int32) (X : (Nat → Int32) × (Nat → Nat → Int32)) : Prop := (∀ k, (k < 8 ∨ 12 < k) → (k < 28 ∨ 33 < k) → X.1 k = f k) ∧ (∀ k, (k = 0 ∨ 7 < k) → (k < 24 ∨ 27 < k) → X.2 k = ar k)
theorem kc.rf {f : Nat → Int32} {ar : Nat → Nat → Int32} : kc f ar (f, ar) := ⟨fun _ _ _ => rfl, fun _ _ _ => rfl⟩
theorem kc.tr {f : Nat → Int32} {ar : Nat → Nat → Int32} {x y : (Nat → Int32) × (Nat → Nat → Int32)} (h1 : kc f ar x) (h2 : kc x.1 x.2 y) : kc f ar y := ⟨fun k a b => (h2.1 k a b).trans (h1.1 k a b), fun k a b => (h2.2 k a b).trans (h1.2 k a b)⟩
theorem ks.kc {f : Nat → Int32} {ar a1 : Nat → Nat → Int32} (h : ks ar a1) : kc f ar (f, a1) := ⟨fun _ _ _ => rfl, fun k h1 _ => h.1 k (by omega)⟩
theorem kg.kc {f : Nat → Int32} {ar : Nat → Nat → Int32} {x : (Nat → Int32) × (Nat → Nat → Int32)} (h : kg f ar x) : kc f ar x := ⟨fun k h1 h2 => h.1 k (by omega) (by omega) h2, fun k h1 h2 => h.2.1 k (by omega) h2⟩
theorem cp_ok {f : Nat → Int32} {ar : Nat → Nat → Int32} {q : Nat} (hq : q + 6 ≤ 288) (hk : mOk f ar) (hz : tZ f) (ht : 0 ≤ (ar 16 (q + 3)).toInt) : (mOk (sX7_comesPerson f ar (nI q)).2.1 (sX7_comesPerson f ar (nI q)).2.2 ∧ tZ (sX7_comesPerson f ar (nI q)).2.1) ∧ kc f ar (sX7_comesPerson f ar (nI q)).2 := by
  unfold sX7_comesPerson
  have e3 : (nI q + 3).toNatClampNeg = q + 3 := pa_cl (a := 3) (by omega)
  have e4 : (nI q + 4).toNatClampNeg = q + 4 := pa_cl (a := 4) (by omega)
  by_cases c1 : 1 < ar 16 (nI q + 3).toNatClampNeg
  · rw [if_pos c1]; exact ⟨⟨hk, hz⟩, kc.rf⟩
  rw [if_neg c1]
  by_cases c2 : sX7_isIn (ar 16 (nI q + 4).toNatClampNeg) 1 5 = true
  · rw [if_pos c2]
    by_cases c3 : f 8 = 5
    · rw [if_pos c3]; exact ⟨⟨hk, hz⟩, kc.rf⟩
    rw [if_neg c3]
    have h8 := hk.1
    have h85 : (f 8).toInt ≠ 5 := fun e => c3 (Int32.toInt_inj.mp (e.trans (by decide)))
    have n8 : (f 8 + 1).toInt = (f 8).toInt + 1 := i_s1 (by omega)
    refine ⟨⟨⟨?_, ?_, ?_, hk.2.2.2⟩, ?_⟩, fun k a b => upd_ne (by omega), fun k a b => ?_⟩
    · show 0 ≤ (f 8 + 1).toInt ∧ (f 8 + 1).toInt ≤ 5
      rw [n8]; omega
    · show 0 < (f 8 + 1).toInt → 0 ≤ (f 11).toInt ∧ (f 11).toInt < (f 8 + 1).toInt
      rw [n8]
      intro _
      by_cases c0 : 0 < (f 8).toInt
      · have := hk.2.1 c0; omega
      · have h0 : f 8 = 0 := Int32.toInt_inj.mp (by rw [show (0 : Int32).toInt = 0 by decide]; omega)
        rw [hz h0, show (0 : Int32).toInt = 0 by decide]
        omega
    · show ∀ p : Nat, p < (f 8 + 1).toNatClampNeg → (upd (ar 5) (f 8).toNatClampNeg (ar 16 (nI q + 3).toNatClampNeg) p = 0 ∨ upd (ar 5) (f 8).toNatClampNeg (ar 16 (nI q + 3).toNatClampNeg) p = 1) ∧ ¬ upd (ar 6) (f 8).toNatClampNeg (ar 16 (nI q + 4).toNatClampNeg) p = 0
      intro p hp
      by_cases e : p = (f 8).toNatClampNeg
      · subst e
        rw [show ∀ g w, upd g (f 8).toNatClampNeg w (f 8).toNatClampNeg = w from fun g w => if_pos rfl, show ∀ g w, upd g (f 8).toNatClampNeg w (f 8).toNatClampNeg = w from fun g w => if_pos rfl]
        rw [e3] at c1 ⊢
        rw [Int32.lt_iff_toInt_lt, show (1 : Int32).toInt = 1 by decide] at c1
        refine ⟨?_, fun h0 => ?_⟩
        · by_cases z : (ar 16 (q + 3)).toInt = 0
          · exact Or.inl (Int32.toInt_inj.mp (z.trans (by decide)))
          · exact Or.inr (Int32.toInt_inj.mp ((show (ar 16 (q + 3)).toInt = 1 by omega).trans (by decide)))
        · rw [h0] at c2
          exact absurd c2 (by decide)
      · rw [upd_ne e, upd_ne e]
        refine hk.2.2.1 p ?_
        unfold Int32.toNatClampNeg at hp e ⊢
        rw [n8] at hp
        omega
    · intro h0
      have h0 : f 8 + 1 = 0 := h0
      have := congrArg Int32.toInt h0
      rw [n8, show (0 : Int32).toInt = 0 by decide] at this
      omega
    · show up2 (up2 (up2 (up2 (up2 (up2 ar 2 _) 3 _) 4 _) 5 _) 6 _) 7 _ k = ar k
      rw [up2_ne (by omega), up2_ne (by omega), up2_ne (by omega), up2_ne (by omega), up2_ne (by omega), up2_ne (by omega)]
  · rw [if_neg c2]; exact ⟨⟨hk, hz⟩, kc.rf⟩
theorem co_ok {f : Nat → Int32} {ar : Nat → Nat → Int32} {c : Nat} (hc : c < 48) (hk : mOk f ar) (hz : tZ f) (ht : ar 14 c = 112 → 0 ≤ (ar 16 (6 * c + 3)).toInt) : (mOk (sX7_comes f ar (nI c)).2.1 (sX7_comes f ar (nI c)).2.2 ∧ tZ (sX7_comes f ar (nI c)).2.1) ∧ kc f ar (sX7_comes f ar (nI c)).2 := by
  unfold sX7_comes
  rw [s6e rfl hc, nI_clamp (by omega : c < 2 ^ 31), nI_clamp (by omega : 6 * c < 2 ^ 31)]
  by_cases c1 : ar 14 c = 100
  · rw [if_pos c1]
    refine ⟨⟨cs_ks.ok rfl rfl hk, hz⟩, fun k a b => upd_ne (by omega), (ks.kc (f := f) cs_ks).2⟩
  rw [if_neg c1]
  by_cases c2 : ar 14 c = 112
  · rw [if_pos c2]
    exact cp_ok (by omega) hk hz (ht c2)
  rw [if_neg c2]
  by_cases c3 : ar 14 c = 114
  · rw [if_pos c3]
    by_cases d : (sX7_comesSet ar 4 (ar 16 (nI (6 * c) + 1).toNatClampNeg)).1 = true
    · rw [if_pos d]
      refine ⟨⟨(ks.tr cs_ks cs_ks).ok rfl rfl hk, hz⟩, fun k a b => upd_ne (by omega), (ks.kc (f := f) (ks.tr cs_ks cs_ks)).2⟩
    · rw [if_neg d]
      refine ⟨⟨cs_ks.ok rfl rfl hk, hz⟩, fun k a b => upd_ne (by omega), (ks.kc (f := f) cs_ks).2⟩
  rw [if_neg c3]
  by_cases c4 : ar 14 c = 115
  · rw [if_pos c4]
    by_cases d : 2 ≤ ar 16 (6 * c)
    · rw [if_pos d]; exact ⟨⟨hk, hz⟩, kc.rf⟩
    · rw [if_neg d]; exact ⟨⟨cs_ks.ok rfl rfl hk, hz⟩, ks.kc cs_ks⟩
  rw [if_neg c4]
  by_cases c5 : ar 14 c = 119
  · rw [if_pos c5]; exact ⟨⟨cs_ks.ok rfl rfl hk, hz⟩, ks.kc cs_ks⟩
  rw [if_neg c5]
  by_cases c6 : sX7_isIn (ar 16 (6 * c)) 1 60 = true
  · rw [if_pos c6]
    by_cases c7 : f 12 + ar 16 (6 * c) ≤ 9999
    · rw [if_pos c7]
      have hg := gs_ok hk (in60 c6)
      exact ⟨⟨hg.1, gs_tz hz⟩, hg.2.2.kc⟩
    · rw [if_neg c7]; exact ⟨⟨hk, hz⟩, kc.rf⟩
  · rw [if_neg c6]; exact ⟨⟨hk, hz⟩, kc.rf⟩
