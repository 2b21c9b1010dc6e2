theorem gi_keep : ∀ (j a : Nat) (f : Nat → Int32) (ar : Nat → Nat → Int32), (itX7_goesOne j a f ar).1 8 = f 8 ∧ (itX7_goesOne j a f ar).1 11 = f 11 ∧ (itX7_goesOne j a f ar).1 28 = f 28 ∧ (itX7_goesOne j a f ar).1 33 = f 33 + 1 ∧ (itX7_goesOne j a f ar).2 1 = ar 1 ∧ (itX7_goesOne j a f ar).2 5 = ar 5 ∧ (itX7_goesOne j a f ar).2 6 = ar 6
  | 0, _, _, _ => ⟨rfl, rfl, rfl, rfl, rfl, rfl, rfl⟩
  | j + 1, a, f, ar => gi_keep j (a + 1) f (up2 ar 24 (upd (ar 24) (nI a).toNatClampNeg ((ar 24 (nI a).toNatClampNeg) + (sX7_botherOf ar (nI a) (sX7_size ((ar 1 0) - (sX7_placeOf ar (ar 5 (nI a).toNatClampNeg))))))))
theorem gi_ok {j : Nat} {f : Nat → Int32} {ar : Nat → Nat → Int32} (hk : mOk f ar) : mOk (itX7_goesOne j 0 f ar).1 (itX7_goesOne j 0 f ar).2 := by
  obtain ⟨h8, h11, -, -, h1, h5, h6⟩ := gi_keep j 0 f ar
  unfold mOk at hk ⊢
  rw [h8, h11, h1, h5, h6]
  exact hk
theorem tu_next {t n : Int32} (h0 : 0 ≤ t.toInt) (h1 : t.toInt < n.toInt) (h5 : n.toInt ≤ 5) : 0 ≤ ((t + 1) - (t + 1) / n * n).toInt ∧ ((t + 1) - (t + 1) / n * n).toInt < n.toInt := by
  obtain ⟨a, ha, rfl⟩ := nI_of (x := t) (by rw [Int32.lt_iff_toInt_lt, show (0 : Int32).toInt = 0 by decide]; omega)
  obtain ⟨b, hb, rfl⟩ := nI_of (x := n) (by rw [Int32.lt_iff_toInt_lt, show (0 : Int32).toInt = 0 by decide]; omega)
  rw [nI_toInt ha] at h0 h1
  rw [nI_toInt hb] at h1 h5
  have hr := pk_rem (a := a + 1) (d := b) (by omega) (by omega) hb
  rw [nI_1, hr, nI_toInt hb, nI_toInt (Nat.lt_trans (Nat.mod_lt _ (by omega)) hb)]
  have := Nat.mod_lt (a + 1) (show 0 < b by omega)
  omega
theorem gu_ok {f : Nat → Int32} {ar : Nat → Nat → Int32} (hk : mOk f ar) (c : ¬ f 8 ≤ 0) : mOk (sX7_getsUp f ar).1 (sX7_getsUp f ar).2 := by
  have hp := mo_pos c
  have ht := hk.2.1 hp
  exact ⟨hk.1, fun _ => tu_next ht.1 ht.2 hk.1.2, hk.2.2.1, hk.2.2.2⟩
theorem upd_ne {f : Nat → Int32} {i k : Nat} {v : Int32} (h : k ≠ i) : upd f i v k = f k := if_neg h
theorem up2_ne {α : Type} {f : Nat → α} {i k : Nat} {v : α} (h : k ≠ i) : up2 f i v k = f k := if_neg h
/-! a minute of the reference, as: it drifts, somebody gets up, the rest -/
def mV (f : Nat → Int32) (ar : Nat → Nat → Int32) : Int32 := if (-99) ≤ ((ar 1 0) + (sX7_driftIn f ar (f 12))) then (if ((ar 1 0) + (sX7_driftIn f ar (f 12))) ≤ 99 then (ar 1 0) + (sX7_driftIn f ar (f 12)) else 99) else (-99)
def mA (f : Nat → Int32) (ar : Nat → Nat → Int32) : Nat → Nat → Int32 := up2 ar 1 (upd (ar 1) 0 (mV f ar))
def mU (f : Nat → Int32) (ar : Nat → Nat → Int32) : (Nat → Int32) × (Nat → Nat → Int32) := if f 8 ≤ 0 then (f, mA f ar) else if sX7_isUp f (mA f ar) = true then sX7_getsUp f (mA f ar) else (f, mA f ar)
theorem pe_ {α β : Type} (x : α × β) : (x.1, x.2) = x := rfl
theorem g1_eq (f : Nat → Int32) (ar : Nat → Nat → Int32) : sX7_goesOne f ar = itX7_goesOne (f 8).toNatClampNeg 0 (mU f ar).1 (mU f ar).2 := by
  unfold sX7_goesOne mU mA mV
  by_cases c1 : (-99) ≤ ((ar 1 0) + (sX7_driftIn f ar (f 12)))
  · simp only [if_pos c1]
    generalize (if ((ar 1 0) + (sX7_driftIn f ar (f 12))) ≤ 99 then (ar 1 0) + (sX7_driftIn f ar (f 12)) else 99 : Int32) = v
    by_cases c3 : f 8 ≤ 0
    · simp only [if_pos c3] <;> rfl
    · by_cases c4 : sX7_isUp f (up2 ar 1 (upd (ar 1) 0 v)) = true
      · simp only [if_neg c3, if_pos c4] <;> rfl
      · simp only [if_neg c3, if_neg c4] <;> rfl
  · simp only [if_neg c1]
    by_cases c3 : f 8 ≤ 0
    · simp only [if_pos c3] <;> rfl
    · by_cases c4 : sX7_isUp f (up2 ar 1 (upd (ar 1) 0 (-99))) = true
      · simp only [if_neg c3, if_pos c4] <;> rfl
      · simp only [if_neg c3, if_neg c4] <;> rfl
def gAt (f : Nat → Int32) (a : Nat) : Prop := 0 ≤ (f 28).toInt ∧ (f 28).toInt ≤ a ∧ f 33 = nI a
theorem ga_ok {f : Nat → Int32} {a : Nat} (h : gAt f a) (ha : a < 240) : gOk f := by
  obtain ⟨h1, h2, h3⟩ := h
  unfold gOk
  rw [h3, nI_toInt (by omega)]
  omega
theorem mU_ok {f : Nat → Int32} {ar : Nat → Nat → Int32} {a : Nat} (hk : mOk f ar) (hg : gAt f a) (ha : a < 240) : mOk (mU f ar).1 (mU f ar).2 ∧ (0 ≤ ((mU f ar).1 28).toInt ∧ ((mU f ar).1 28).toInt ≤ a + 1 ∧ (mU f ar).1 33 = nI a) := by
  have hA : mOk f (mA f ar) := hk
  obtain ⟨h1, h2, h3⟩ := hg
  unfold mU
  by_cases c : f 8 ≤ 0
  · rw [if_pos c]
    exact ⟨hA, h1, Int.le_trans h2 (by omega), h3⟩
  · rw [if_neg c]
    by_cases c2 : sX7_isUp f (mA f ar) = true
    · rw [if_pos c2]
      refine ⟨gu_ok hA c, ?_⟩
      have e28 : (sX7_getsUp f (mA f ar)).1 28 = f 28 + 1 := rfl
      have e33 : (sX7_getsUp f (mA f ar)).1 33 = f 33 := rfl
      rw [e28, e33, i_s1 (by omega)]
      exact ⟨by omega, by omega, h3⟩
    · rw [if_neg c2]
      exact ⟨hA, h1, Int.le_trans h2 (by omega), h3⟩
theorem g1_ok {f : Nat → Int32} {ar : Nat → Nat → Int32} {a : Nat} (hk : mOk f ar) (hg : gAt f a) (ha : a < 240) : mOk (sX7_goesOne f ar).1 (sX7_goesOne f ar).2 ∧ gAt (sX7_goesOne f ar).1 (a + 1) := by
  rw [g1_eq]
  obtain ⟨u1, u2, u3, u4⟩ := mU_ok hk hg ha
  obtain ⟨-, -, k28, k33, -, -, -⟩ := gi_keep (f 8).toNatClampNeg 0 (mU f ar).1 (mU f ar).2
  refine ⟨gi_ok u1, ?_⟩
  unfold gAt
  rw [k28, k33, u4, nI_1]
  exact ⟨u2, by omega, rfl⟩
/-! what a minute keeps -/
def kg (f : Nat → Int32) (ar : Nat → Nat → Int32) (x : (Nat → Int32) × (Nat → Nat → Int32)) : Prop := (∀ k, k ≠ 11 → k ≠ 12 → (k < 28 ∨ 33 < k) → x.1 k = f k) ∧ (∀ k, k ≠ 1 → (k < 24 ∨ 27 < k) → x.2 k = ar k) ∧ (∀ j, j ≠ 0 → x.2 1 j = ar 1 j)
theorem kg.rf {f : Nat → Int32} {ar : Nat → Nat → Int32} : kg f ar (f, ar) := ⟨fun _ _ _ _ => rfl, fun _ _ _ => rfl, fun _ _ => rfl⟩
theorem kg.tr {f : Nat → Int32} {ar : Nat → Nat → Int32} {x y : (Nat → Int32) × (Nat → Nat → Int32)} (h1 : kg f ar x) (h2 : kg x.1 x.2 y) : kg f ar y := ⟨fun k a b c => (h2.1 k a b c).trans (h1.1 k a b c), fun k a b => (h2.2.1 k a b).trans (h1.2.1 k a b), fun j a => (h2.2.2 j a).trans (h1.2.2 j a)⟩
theorem kg_A (f : Nat → Int32) (ar : Nat → Nat → Int32) : kg f ar (f, mA f ar) := ⟨fun _ _ _ _ => rfl, fun k h1 _ => up2_ne h1, fun j hj => by show upd (ar 1) 0 _ j = _; exact upd_ne hj⟩
theorem kg_gu (f : Nat → Int32) (ar : Nat → Nat → Int32) : kg f ar (sX7_getsUp f ar) := by
  refine ⟨fun k h11 h12 h => ?_, fun k h1 h => ?_, fun j hj => ?_⟩
  · unfold sX7_getsUp
    show upd (upd (upd (upd f 29 _) 28 _) 32 _) 11 _ k = f k
    rw [upd_ne h11, upd_ne (by omega), upd_ne (by omega), upd_ne (by omega)]
  · unfold sX7_getsUp
    show up2 (up2 _ 25 _) 27 _ k = ar k
    rw [up2_ne (by omega), up2_ne (by omega)]
    unfold sX7_turnsTo
    rw [up2_ne h1]
  · show upd (ar 1) 0 _ j = _
    exact upd_ne hj
theorem kg_U (f : Nat → Int32) (ar : Nat → Nat → Int32) : kg f ar (mU f ar) := by
  unfold mU
  by_cases c : f 8 ≤ 0
  · rw [if_pos c]; exact kg_A f ar
  · rw [if_neg c]
    by_cases c2 : sX7_isUp f (mA f ar) = true
    · rw [if_pos c2]; exact (kg_A f ar).tr (kg_gu f (mA f ar))
    · rw [if_neg c2]; exact kg_A f ar
theorem kg_it : ∀ (j a : Nat) (f : Nat → Int32) (ar : Nat → Nat → Int32), kg f ar (itX7_goesOne j a f ar)
  | 0, a, f, ar => by
    refine ⟨fun k h11 h12 h => ?_, fun k h1 h => ?_, fun j hj => ?_⟩
    · show upd (upd (upd (upd f 30 _) 31 _) 12 _) 33 _ k = f k
      rw [upd_ne (by omega), upd_ne h12, upd_ne (by omega), upd_ne (by omega)]
    · show up2 ar 26 _ k = ar k
      rw [up2_ne (by omega)]
    · rfl
  | j + 1, a, f, ar => by
    have h0 : kg f ar (stX7_goesOne a f ar) := by
      refine ⟨fun k h11 h12 h => rfl, fun k h1 h => ?_, fun j hj => rfl⟩
      show up2 ar 24 _ k = ar k
      rw [up2_ne (by omega)]
    exact h0.tr (kg_it j (a + 1) (stX7_goesOne a f ar).1 (stX7_goesOne a f ar).2)
theorem kg_1 (f : Nat → Int32) (ar : Nat → Nat → Int32) : kg f ar (sX7_goesOne f ar) := by
  rw [g1_eq]
  exact (kg_U f ar).tr (kg_it _ _ _ _)
theorem kg_be (f : Nat → Int32) (ar : Nat → Nat → Int32) : kg f ar (sX7_begins f ar) := by
  refine ⟨fun k h11 h12 h => ?_, fun k h1 h => ?_, fun j hj => rfl⟩
  · show upd (upd (upd (upd (upd (upd f 28 _) 29 _) 30 _) 31 _) 32 _) 33 _ k = f k
    rw [upd_ne (by omega), upd_ne (by omega), upd_ne (by omega), upd_ne (by omega), upd_ne (by omega), upd_ne (by omega)]
  · show up2 (up2 ar 24 _) 25 _ k = ar k
    rw [up2_ne (by omega), up2_ne (by omega)]
def exX7_goes  (a : Nat) (f : Nat → Int32) (ar : Nat → Nat → Int32) : (Nat → Int32) × (Nat → Nat → Int32) := (f, ar)
def stX7_goes  (a : Nat) (f : Nat → Int32) (ar : Nat → Nat → Int32) : (Nat → Int32) × (Nat → Nat → Int32) := (((sX7_goesOne f ar).1), ((sX7_goesOne f ar).2))
def itX7_goes  : Nat → Nat → (Nat → Int32) → (Nat → Nat → Int32) → (Nat → Int32) × (Nat → Nat → Int32)
  | 0, a, f, ar => exX7_goes  a f ar
  | j + 1, a, f, ar => itX7_goes  j (a + 1) ((stX7_goes  a f ar).1) ((stX7_goes  a f ar).2)
theorem itX7_goes_n  {j a : Nat} {f : Nat → Int32} {ar : Nat → Nat → Int32} {s0_ : Nat → Int32} {s1_ : Nat → Nat → Int32} (e : stX7_goes  a f ar = (s0_, s1_)) : (itX7_goes  (j + 1) a f ar) = (itX7_goes  j (a + 1) s0_ s1_) := by simp only [itX7_goes.eq_2, e]
set_option maxRecDepth 20000 in
theorem lpX7_goes {G : zG} {h1 : List va_E} {x : Int32} : ∀ (j a : Nat) (f : Nat → Int32) (ar : Nat → Nat → Int32), (a + j = x.toNatClampNeg ∧ a + j ≤ 240 ∧ mOk f ar ∧ gAt f a) → R G mX7_goes 6 [(0, .ref 100), (1, .int x), (2, .int (nI a))] [] (h1, hM G f ar) (fun r0 h0 => r0 = none ∧ h0 = (h1, hM G ((itX7_goes  j a f ar).1) ((itX7_goes  j a f ar).2))) := by
  intro j
  induction j with
  | zero =>
    intro a f ar hj
    have hx := cl_of x
    have hc : x ≤ nI a := cl_le (by omega) (by omega)
    refine R_iload_n 7 dX7_goes_6 rfl rfl ?_
    refine R_iload_n 8 dX7_goes_7 rfl rfl ?_
    refine R_icmp_ge 11 21 dX7_goes_8 rfl (by decide) (fun _ => ?_) (fun c => absurd hc c)
    refine R_return dX7_goes_21 rfl ?_
    have e : (itX7_goes  0 a f ar) = (f, ar) := rfl
    rw [e]; exact ⟨rfl, rfl⟩
  | succ j ih =>
    intro a f ar hj
    have hc : ¬ x ≤ nI a := cl_gt (by omega)
    refine R_iload_n 7 dX7_goes_6 rfl rfl ?_
    refine R_iload_n 8 dX7_goes_7 rfl rfl ?_
    refine R_icmp_ge 11 21 dX7_goes_8 rfl (by decide) (fun c => absurd c hc) (fun _ => ?_)
    refine R_aload_n 12 dX7_goes_11 rfl rfl ?_
    refine R_callVv 15 (eX7_goesOne hj.2.2.1 (ga_ok hj.2.2.2 (by omega))) dX7_goes_12 rfl kX7_goesOne lX7_229 rfl rfl rfl rfl rfl rfl rfl ?_
    generalize hz1_ : (sX7_goesOne f ar).1 = z1_
    generalize hz2_ : (sX7_goesOne f ar).2 = z2_
    refine R_iinc 18 dX7_goes_15 rfl rfl (v := (nI (a + 1))) (nI_1 a) rfl (by decide) (loc' := [(0, .ref 100), (1, .int x), (2, .int (nI (a + 1)))]) rfl ?_
    refine R_goto 6 dX7_goes_18 (by decide) ?_
    subst hz1_ hz2_
    refine R_pick [0, 1, 2] rfl ?_
    have e : stX7_goes  a f ar = (((sX7_goesOne f ar).1), ((sX7_goesOne f ar).2)) := by rfl
    have e2 : (itX7_goes  (j + 1) a f ar) = (itX7_goes  j (a + 1) ((sX7_goesOne f ar).1) ((sX7_goesOne f ar).2)) := itX7_goes_n e
    rw [e2]; exact ih (a + 1) ((sX7_goesOne f ar).1) ((sX7_goesOne f ar).2) ⟨by omega, by omega, g1_ok hj.2.2.1 hj.2.2.2 (by omega)⟩
theorem be_ok {f : Nat → Int32} {ar : Nat → Nat → Int32} (hk : mOk f ar) : mOk (sX7_begins f ar).1 (sX7_begins f ar).2 ∧ gAt (sX7_begins f ar).1 0 := ⟨hk, by show 0 ≤ (0 : Int32).toInt ∧ (0 : Int32).toInt ≤ (0 : Nat) ∧ (0 : Int32) = nI 0; decide⟩
theorem cl240 {x : Int32} (h : x.toInt ≤ 240) : x.toNatClampNeg ≤ 240 := by
  unfold Int32.toNatClampNeg
  omega
def sX7_goes (f : Nat → Int32) (ar : Nat → Nat → Int32) (x : Int32) : (Nat → Int32) × (Nat → Nat → Int32) := ((itX7_goes  x.toNatClampNeg 0 ((sX7_begins f ar).1) ((sX7_begins f ar).2)).1, (itX7_goes  x.toNatClampNeg 0 ((sX7_begins f ar).1) ((sX7_begins f ar).2)).2)
set_option maxRecDepth 20000 in
theorem eX7_goes {G : zG} {h1 : List va_E} {f : Nat → Int32} {ar : Nat → Nat → Int32} {x : Int32} (hk : mOk f ar) (hx : x.toInt ≤ 240) : EvF G mX7_goes [.ref 100, .int x] (h1, hM G f ar) (none) (h1, hM G ((sX7_goes f ar x).1) ((sX7_goes f ar x).2)) := by
  generalize hs : (sX7_goes f ar x) = zz
  refine EvF.of pnX7 rfl ?_
  refine R_aload_n 1 dX7_goes_0 rfl rfl ?_
  refine R_callVv 4 eX7_begins dX7_goes_1 rfl kX7_begins lX7_226 rfl rfl rfl rfl rfl rfl rfl ?_
  generalize hz1_ : (sX7_begins f ar).1 = z1_
  generalize hz2_ : (sX7_begins f ar).2 = z2_
  refine R_iconst 5 dX7_goes_4 rfl (v := 0) (by decide) ?_
  refine R_istore_n 6 dX7_goes_5 rfl rfl (by decide) (loc' := [(0, .ref 100), (1, .int x), (2, .int 0)]) rfl ?_
  subst hz1_ hz2_
  refine R_pick [0, 1, 2] rfl ?_
  have e : zz = ((itX7_goes  x.toNatClampNeg 0 ((sX7_begins f ar).1) ((sX7_begins f ar).2)).1, (itX7_goes  x.toNatClampNeg 0 ((sX7_begins f ar).1) ((sX7_begins f ar).2)).2) := by rw [← hs]; unfold sX7_goes; rfl
  rw [pr1 e, pr2 e]; exact lpX7_goes x.toNatClampNeg 0 ((sX7_begins f ar).1) ((sX7_begins f ar).2) ⟨Nat.zero_add _, by have := cl240 hx; omega, be_ok hk⟩
theorem gs_it : ∀ (j a : Nat) (f : Nat → Int32) (ar : Nat → Nat → Int32), mOk f ar → gAt f a → a + j ≤ 240 → mOk (itX7_goes j a f ar).1 (itX7_goes j a f ar).2 ∧ gAt (itX7_goes j a f ar).1 (a + j) ∧ kg f ar (itX7_goes j a f ar)
  | 0, a, f, ar, h1, h2, h3 => ⟨h1, h2, kg.rf⟩
  | j + 1, a, f, ar, h1, h2, h3 => by
    obtain ⟨k1, k2⟩ := g1_ok h1 h2 (by omega)
    obtain ⟨i1, i2, i3⟩ := gs_it j (a + 1) (sX7_goesOne f ar).1 (sX7_goesOne f ar).2 k1 k2 (by omega)
    exact ⟨i1, by rw [show a + (j + 1) = a + 1 + j by omega]; exact i2, (kg_1 f ar).tr i3⟩
theorem gs_ok {f : Nat → Int32} {ar : Nat → Nat → Int32} {x : Int32} (hk : mOk f ar) (hx : x.toInt ≤ 240) : mOk (sX7_goes f ar x).1 (sX7_goes f ar x).2 ∧ gAt (sX7_goes f ar x).1 x.toNatClampNeg ∧ kg f ar (sX7_goes f ar x) := by
  have h := gs_it x.toNatClampNeg 0 (sX7_begins f ar).1 (sX7_begins f ar).2 (be_ok hk).1 (be_ok hk).2 (by have := cl240 hx; omega)
  rw [Nat.zero_add] at h
  exact ⟨h.1, h.2.1, (kg_be f ar).tr h.2.2⟩
def exX7_costOf (f : Nat → Int32) (ar : Nat → Nat → Int32) (a : Nat) (v : Int32) : Int32 := v
def stX7_costOf (f : Nat → Int32) (ar : Nat → Nat → Int32) (a : Nat) (v : Int32) : Int32 := v + (ar 24 (nI a).toNatClampNeg)
def itX7_costOf (f : Nat → Int32) (ar : Nat → Nat → Int32) : Nat → Nat → Int32 → Int32
  | 0, a, v => exX7_costOf f ar a v
  | j + 1, a, v => itX7_costOf f ar j (a + 1) (stX7_costOf f ar a v)
theorem itX7_costOf_n {f : Nat → Int32} {ar : Nat → Nat → Int32} {j a : Nat} {v : Int32} {s0_ : Int32} (e : stX7_costOf f ar a v = s0_) : (itX7_costOf f ar (j + 1) a v) = (itX7_costOf f ar j (a + 1) s0_) := by simp only [itX7_costOf.eq_2, e]
set_option maxRecDepth 20000 in
theorem lpX7_costOf {G : zG} {h1 : List va_E} {f : Nat → Int32} {ar : Nat → Nat → Int32} : ∀ (j a : Nat) (v : Int32), (a + j = (f 8).toNatClampNeg ∧ (f 8).toNatClampNeg ≤ 5) → R G mX7_costOf 7 [(0, .ref 100), (1, .int v), (2, .int (nI a))] [] (h1, hM G f ar) (fun r0 h0 => r0 = some (.int (itX7_costOf f ar j a v)) ∧ h0 = (h1, hM G f ar)) := by
  intro j
  induction j with
  | zero =>
    intro a v hj
    have hx := cl_of (f 8)
    have hc : (f 8) ≤ nI a := cl_le (by omega) (by omega)
    refine R_iload_n 8 dX7_costOf_7 rfl rfl ?_
    refine R_aload_n 9 dX7_costOf_8 rfl rfl ?_
    refine R_get 12 dX7_costOf_9 rfl fX7_65 rfl (v := .int (f 8)) rfl ?_
    refine R_icmp_ge 15 30 dX7_costOf_12 rfl (by decide) (fun _ => ?_) (fun c => absurd hc c)
    refine R_iload_n 31 dX7_costOf_30 rfl rfl ?_
    refine R_ireturn dX7_costOf_31 rfl rfl ?_
    have e : (itX7_costOf f ar 0 a v) = v := rfl
    rw [e]; exact ⟨rfl, rfl⟩
  | succ j ih =>
    intro a v hj
    have hc : ¬ (f 8) ≤ nI a := cl_gt (by omega)
    refine R_iload_n 8 dX7_costOf_7 rfl rfl ?_
    refine R_aload_n 9 dX7_costOf_8 rfl rfl ?_
    refine R_get 12 dX7_costOf_9 rfl fX7_65 rfl (v := .int (f 8)) rfl ?_
    refine R_icmp_ge 15 30 dX7_costOf_12 rfl (by decide) (fun c => absurd c hc) (fun _ => ?_)
    refine R_iload_n 16 dX7_costOf_15 rfl rfl ?_
    refine R_aload_n 17 dX7_costOf_16 rfl rfl ?_
    refine R_get 20 dX7_costOf_17 rfl fX7_49 rfl (v := .ref 114) rfl ?_
    refine R_iload_n 21 dX7_costOf_20 rfl rfl ?_
    refine R_iald 22 dX7_costOf_21 rfl rfl rfl (vp_in_nI (by omega) (by omega)) ?_
    refine R_iadd 23 dX7_costOf_22 rfl ?_
    refine R_istore_n 24 dX7_costOf_23 rfl rfl (by decide) (loc' := [(0, .ref 100), (1, .int (v + (ar 24 (nI a).toNatClampNeg))), (2, .int (nI a))]) rfl ?_
    refine R_iinc 27 dX7_costOf_24 rfl rfl (v := (nI (a + 1))) (nI_1 a) rfl (by decide) (loc' := [(0, .ref 100), (1, .int (v + (ar 24 (nI a).toNatClampNeg))), (2, .int (nI (a + 1)))]) rfl ?_
    refine R_goto 7 dX7_costOf_27 (by decide) ?_
    refine R_pick [0, 1, 2] rfl ?_
    have e : stX7_costOf f ar a v = (v + (ar 24 (nI a).toNatClampNeg)) := by rfl
    have e2 : (itX7_costOf f ar (j + 1) a v) = (itX7_costOf f ar j (a + 1) (v + (ar 24 (nI a).toNatClampNeg))) := itX7_costOf_n e
    rw [e2]; exact ih (a + 1) (v + (ar 24 (nI a).toNatClampNeg)) ⟨by omega, hj.2⟩
def sX7_costOf (f : Nat → Int32) (ar : Nat → Nat → Int32) : Int32 := (itX7_costOf f ar (f 8).toNatClampNeg 0 (f 29))
set_option maxRecDepth 20000 in
theorem eX7_costOf {G : zG} {h1 : List va_E} {f : Nat → Int32} {ar : Nat → Nat → Int32} (h5 : (f 8).toNatClampNeg ≤ 5) : EvF G mX7_costOf [.ref 100] (h1, hM G f ar) (some (.int (sX7_costOf f ar))) (h1, hM G f ar) := by
  generalize hs : (sX7_costOf f ar) = zz
  refine EvF.of pnX7 rfl ?_
  refine R_aload_n 1 dX7_costOf_0 rfl rfl ?_
  refine R_get 4 dX7_costOf_1 rfl fX7_194 rfl (v := .int (f 29)) rfl ?_
  refine R_istore_n 5 dX7_costOf_4 rfl rfl (by decide) (loc' := [(0, .ref 100), (1, .int (f 29))]) rfl ?_
  refine R_iconst 6 dX7_costOf_5 rfl (v := 0) (by decide) ?_
  refine R_istore_n 7 dX7_costOf_6 rfl rfl (by decide) (loc' := [(0, .ref 100), (1, .int (f 29)), (2, .int 0)]) rfl ?_
  refine R_pick [0, 1, 2] rfl ?_
  have e : zz = (itX7_costOf f ar (f 8).toNatClampNeg 0 (f 29)) := by rw [← hs]; unfold sX7_costOf; rfl
  subst e; exact lpX7_costOf ((f 8).toNatClampNeg) 0 (f 29) ⟨Nat.zero_add _, h5⟩
def sX7_thinks (f : Nat → Int32) (ar : Nat → Nat → Int32) (x : Int32) : Int32 × (Nat → Int32) × (Nat → Nat → Int32) := ((sX7_costOf (upd (upd ((sX7_goes f ar x).1) 12 (f 12)) 11 (f 11)) (up2 ((sX7_goes f ar x).2) 1 (upd (((sX7_goes f ar x).2) 1) 0 (ar 1 0)))), (upd (upd ((sX7_goes f ar x).1) 12 (f 12)) 11 (f 11)), (up2 ((sX7_goes f ar x).2) 1 (upd (((sX7_goes f ar x).2) 1) 0 (ar 1 0))))
set_option maxRecDepth 20000 in
theorem eX7_thinks {G : zG} {h1 : List va_E} {f : Nat → Int32} {ar : Nat → Nat → Int32} {x : Int32} (hk : mOk f ar) (hx : x.toInt ≤ 240) : EvF G mX7_thinks [.ref 100, .int x] (h1, hM G f ar) (some (.int ((sX7_thinks f ar x).1))) (h1, hM G ((sX7_thinks f ar x).2.1) ((sX7_thinks f ar x).2.2)) := by
  generalize hs : (sX7_thinks f ar x) = zz
  refine EvF.of pnX7 rfl ?_
  refine R_aload_n 1 dX7_thinks_0 rfl rfl ?_
  refine R_get 4 dX7_thinks_1 rfl fX7_13 rfl (v := .ref 102) rfl ?_
  refine R_iconst 5 dX7_thinks_4 rfl (v := 0) (by decide) ?_
  refine R_iald 6 dX7_thinks_5 rfl rfl rfl (vin_d (by decide)) ?_
  refine R_top (y := (ar 1 0)) rfl ?_
  refine R_istore_n 7 dX7_thinks_6 rfl rfl (by decide) (loc' := [(0, .ref 100), (1, .int x), (2, .int (ar 1 0))]) rfl ?_
  refine R_aload_n 8 dX7_thinks_7 rfl rfl ?_
  refine R_get 11 dX7_thinks_8 rfl fX7_138 rfl (v := .int (f 12)) rfl ?_
  refine R_istore_n 12 dX7_thinks_11 rfl rfl (by decide) (loc' := [(0, .ref 100), (1, .int x), (2, .int (ar 1 0)), (3, .int (f 12))]) rfl ?_
  refine R_aload_n 13 dX7_thinks_12 rfl rfl ?_
  refine R_get 16 dX7_thinks_13 rfl fX7_170 rfl (v := .int (f 11)) rfl ?_
  refine R_istore 18 dX7_thinks_16 rfl rfl (by decide) (loc' := [(0, .ref 100), (1, .int x), (2, .int (ar 1 0)), (3, .int (f 12)), (4, .int (f 11))]) rfl ?_
  refine R_aload_n 19 dX7_thinks_18 rfl rfl ?_
  refine R_iload_n 20 dX7_thinks_19 rfl rfl ?_
  refine R_callVv 23 (eX7_goes hk hx) dX7_thinks_20 rfl kX7_goes lX7_141 rfl rfl rfl rfl rfl rfl rfl ?_
  generalize hz1_ : (sX7_goes f ar x).1 = z1_
  generalize hz2_ : (sX7_goes f ar x).2 = z2_
  refine R_aload_n 24 dX7_thinks_23 rfl rfl ?_
  refine R_get 27 dX7_thinks_24 rfl fX7_13 rfl (v := .ref 102) rfl ?_
  refine R_iconst 28 dX7_thinks_27 rfl (v := 0) (by decide) ?_
  refine R_iload_n 29 dX7_thinks_28 rfl rfl ?_
  refine R_iast 30 dX7_thinks_29 rfl rfl rfl (vin_d (by decide)) (h2 := (h1, hM G z1_ (up2 z2_ 1 (upd (z2_ 1) 0 (ar 1 0))))) ms_1 ?_
  refine R_aload_n 31 dX7_thinks_30 rfl rfl ?_
  refine R_iload_n 32 dX7_thinks_31 rfl rfl ?_
  refine R_put 35 dX7_thinks_32 rfl wX7_138 rfl rfl rfl rfl (h2 := (h1, hM G (upd z1_ 12 (f 12)) (up2 z2_ 1 (upd (z2_ 1) 0 (ar 1 0))))) mp_12 ?_
  refine R_aload_n 36 dX7_thinks_35 rfl rfl ?_
  refine R_iload 38 dX7_thinks_36 rfl rfl ?_
  refine R_put 41 dX7_thinks_38 rfl wX7_170 rfl rfl rfl rfl (h2 := (h1, hM G (upd (upd z1_ 12 (f 12)) 11 (f 11)) (up2 z2_ 1 (upd (z2_ 1) 0 (ar 1 0))))) mp_11 ?_
  refine R_aload_n 42 dX7_thinks_41 rfl rfl ?_
  refine R_callVi 45 (eX7_costOf (by have e := mo_n (gs_ok hk hx).1; rw [hz1_] at e; exact e)) dX7_thinks_42 rfl kX7_costOf lX7_232 rfl rfl rfl rfl rfl rfl rfl ?_
  refine R_ireturn dX7_thinks_45 rfl rfl ?_
  subst hz1_ hz2_
  have e : zz = ((sX7_costOf (upd (upd ((sX7_goes f ar x).1) 12 (f 12)) 11 (f 11)) (up2 ((sX7_goes f ar x).2) 1 (upd (((sX7_goes f ar x).2) 1) 0 (ar 1 0)))), (upd (upd ((sX7_goes f ar x).1) 12 (f 12)) 11 (f 11)), (up2 ((sX7_goes f ar x).2) 1 (upd (((sX7_goes f ar x).2) 1) 0 (ar 1 0)))) := by rw [← hs]; unfold sX7_thinks; rfl
  rw [pr1 e, pr1 (pr2 e), pr2 (pr2 e)]; exact ⟨rfl, rfl⟩
/-- all but what was counted is as it was -/
def kt (f : Nat → Int32) (ar : Nat → Nat → Int32) (f1 : Nat → Int32) (a1 : Nat → Nat → Int32) : Prop := (∀ k, (k < 28 ∨ 33 < k) → f1 k = f k) ∧ (∀ k, (k < 24 ∨ 27 < k) → a1 k = ar k)
theorem kt.rf {f : Nat → Int32} {ar : Nat → Nat → Int32} : kt f ar f ar := ⟨fun _ _ => rfl, fun _ _ => rfl⟩
theorem kt.tr {f f1 f2 : Nat → Int32} {ar a1 a2 : Nat → Nat → Int32} (h1 : kt f ar f1 a1) (h2 : kt f1 a1 f2 a2) : kt f ar f2 a2 := ⟨fun k h => (h2.1 k h).trans (h1.1 k h), fun k h => (h2.2 k h).trans (h1.2 k h)⟩
theorem kt.ok {f f1 : Nat → Int32} {ar a1 : Nat → Nat → Int32} (h : kt f ar f1 a1) (hk : mOk f ar) : mOk f1 a1 := by
  unfold mOk at hk ⊢
  rw [h.1 8 (by omega), h.1 11 (by omega), h.2 5 (by omega), h.2 6 (by omega), h.2 1 (by omega)]
  exact hk
theorem th_kt {f : Nat → Int32} {ar : Nat → Nat → Int32} {x : Int32} (hk : mOk f ar) (hx : x.toInt ≤ 240) : kt f ar (sX7_thinks f ar x).2.1 (sX7_thinks f ar x).2.2 := by
  obtain ⟨-, -, k1, k2, k3⟩ := gs_ok hk hx
  refine ⟨fun k h => ?_, fun k h => ?_⟩
  · show upd (upd (sX7_goes f ar x).1 12 (f 12)) 11 (f 11) k = f k
    by_cases h11 : k = 11
    · subst h11; rfl
    · rw [upd_ne h11]
      by_cases h12 : k = 12
      · subst h12; rfl
      · rw [upd_ne h12]; exact k1 k h11 h12 h
  · show up2 (sX7_goes f ar x).2 1 (upd ((sX7_goes f ar x).2 1) 0 (ar 1 0)) k = ar k
    by_cases h1 : k = 1
    · subst h1
      show upd ((sX7_goes f ar x).2 1) 0 (ar 1 0) = ar 1
      funext j
      by_cases hj : j = 0
      · subst hj; rfl
      · rw [upd_ne hj]; exact k3 j hj
    · rw [up2_ne h1]; exact k2 k h1 h
