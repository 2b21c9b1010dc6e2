theorem isUp_5 {f : Nat → Int32} {ar : Nat → Nat → Int32} (h : f 10 = 5) : ¬ sX7_isUp f ar = true := by
  unfold sX7_isUp
  rw [if_neg (by rw [h]; decide), if_neg (by rw [h]; decide), if_pos h]
  exact Bool.false_ne_true
def SB (a : Nat) (m : zP) (ca : Nat → Nat → Int32) : Prop := bt (m.1 0) (-250) 250 ∧ (0 ≤ (m.1 8).toInt ∧ (m.1 8).toInt ≤ 10000 + a) ∧ ∀ p : Nat, p < 5 → bt (ca 29 p) 0 (5000 * a) ∧ bt (ca 31 p) 0 (9 * a)
theorem bt_add {x y : Int32} {a b : Int} (hx : bt x 0 a) (hy : bt y 0 b) (h : a + b ≤ 1000000000) (ha : 0 ≤ a) (hb : 0 ≤ b) : bt (x + y) 0 (a + b) := by
  unfold bt at *
  rw [tadd (by omega) (by omega) (by omega) (by omega)]
  omega
theorem SB.rest {a : Nat} {m : zP} {ca : Nat → Nat → Int32} {cf : Nat → Int32} {mg : Bool} {f : Nat → Int32} {ar : Nat → Nat → Int32} (hS : SR mg m cf ca f ar) (h0 : bt (m.1 0) (-250) 250) (h8 : 0 ≤ (m.1 8).toInt ∧ (m.1 8).toInt ≤ 10000 + a) (ha : a < 240) (hB : ∀ p : Nat, p < 5 → bt (ca 29 p) 0 (5000 * a) ∧ bt (ca 31 p) 0 (9 * (a + 1))) : SB (a + 1) ((upd m.1 8 ((m.1 8) + 1)), m.2) (sX2_botherAll m cf ca).2 := by
  obtain ⟨-, -, -, hR, -⟩ := hS
  obtain ⟨n, hn, e6⟩ := bt_nI (hi := 5) hR.2.2.1 (by omega)
  have e8 : (m.1 8 + 1).toInt = (m.1 8).toInt + 1 := i_s1 (by omega)
  have b29 := ba_29 (cf := cf) (ca := ca) e6 hn
  have b31 : (sX2_botherAll m cf ca).2 31 = ca 31 := bo_ca (by decide)
  generalize m.1 8 + 1 = T at e8
  refine ⟨h0, ?_, fun p hp => ?_⟩
  · show 0 ≤ (upd m.1 8 T 8).toInt ∧ (upd m.1 8 T 8).toInt ≤ _
    rw [upd_eq, e8]
    omega
  · rw [b29 p hp, b31]
    refine ⟨?_, (hB p hp).2⟩
    have h1 := (hB p hp).1
    by_cases c : p < n
    · rw [if_pos c]
      have h2 := bB_bt (p := p) hR h0 (by rw [e6, nI_toInt (by omega)]; omega)
      have h3 := bt_add h1 h2 (by omega) (by omega) (by omega)
      exact ⟨h3.1, by have := h3.2; omega⟩
    · rw [if_neg c]
      exact ⟨h1.1, by have := h1.2; omega⟩
theorem SR.step {mg : Bool} {m : zP} {cf : Nat → Int32} {ca : Nat → Nat → Int32} {f : Nat → Int32} {ar : Nat → Nat → Int32} {a : Nat} (h : SR mg m cf ca f ar) (hB : SB a m ca) (ha : a < 240) :
    SR mg (mstep mg (m, cf, ca)).1 (mstep mg (m, cf, ca)).2.1 (mstep mg (m, cf, ca)).2.2 (sX7_goesOne f ar).1 (sX7_goesOne f ar).2 ∧ SB (a + 1) (mstep mg (m, cf, ca)).1 (mstep mg (m, cf, ca)).2.2 := by
  obtain ⟨b0, b8, bc⟩ := hB
  obtain ⟨hd, hS1, hb⟩ := h.drift b8.1 (by omega)
  have hb2 : bt ((sX2_driftOnce m).2.1 0) (-250) 250 := ⟨by have := hb.1; omega, by have := hb.2; omega⟩
  have hmin : (sX2_driftOnce m).2.1 8 = m.1 8 := by
    unfold sX2_driftOnce
    dsimp only
    rw [upd_ne (by decide)]
  have e8 : (mU f ar).1 8 = f 8 := (kg_U f ar).1 8 (by decide) (by decide) (by decide)
  rw [g1_eq, ← e8]
  cases mg with
  | true =>
    have hd2 : (sX2_driftOnce m).1 = sX7_driftIn f (mA f ar) (f 12) := hd
    obtain ⟨u1, u2, u3, u4, u5⟩ := hS1.up hd2 hb
    rw [← mU_W] at u1
    have er : mstep true (m, cf, ca) = (((upd (sX2_letOneGetUp ((sX2_driftOnce m).2) cf ca ((sX2_driftOnce m).1)).1.1 8 (((sX2_letOneGetUp ((sX2_driftOnce m).2) cf ca ((sX2_driftOnce m).1)).1.1 8) + 1)), (sX2_letOneGetUp ((sX2_driftOnce m).2) cf ca ((sX2_driftOnce m).1)).1.2), (sX2_botherAll ((sX2_letOneGetUp ((sX2_driftOnce m).2) cf ca ((sX2_driftOnce m).1)).1) ((sX2_letOneGetUp ((sX2_driftOnce m).2) cf ca ((sX2_driftOnce m).1)).2.1) ((sX2_letOneGetUp ((sX2_driftOnce m).2) cf ca ((sX2_driftOnce m).1)).2.2)).1, (sX2_botherAll ((sX2_letOneGetUp ((sX2_driftOnce m).2) cf ca ((sX2_driftOnce m).1)).1) ((sX2_letOneGetUp ((sX2_driftOnce m).2) cf ca ((sX2_driftOnce m).1)).2.1) ((sX2_letOneGetUp ((sX2_driftOnce m).2) cf ca ((sX2_driftOnce m).1)).2.2)).2) := by
      unfold mstep mstep0
      rw [if_pos rfl]
    rw [er]
    refine ⟨u1.rest, SB.rest u1 u2 (by rw [u3, hmin]; exact b8) ha (fun p hp => ?_)⟩
    obtain ⟨v1, v2⟩ := u5 p hp
    rw [v1]
    refine ⟨(bc p hp).1, ?_⟩
    have h9 := (bc p hp).2
    rcases v2 with v2 | ⟨x, hx, v2⟩
    · rw [v2]
      exact ⟨h9.1, by have := h9.2; omega⟩
    · rw [v2]
      have h3 := bt_add h9 (nI_bt (k := x) (hi := 9) hx (by omega)) (by omega) (by omega) (by omega)
      exact ⟨h3.1, by have := h3.2; omega⟩
  | false =>
    have n5 : ¬ sX7_isUp f (mA f ar) = true := isUp_5 (h.2.1.2 rfl)
    have eU : mU f ar = (f, mA f ar) := by
      unfold mU
      by_cases c : f 8 ≤ 0
      · rw [if_pos c]
      · rw [if_neg c, if_neg n5]
    have er : mstep false (m, cf, ca) = (((upd (sX2_driftOnce m).2.1 8 (((sX2_driftOnce m).2.1 8) + 1)), (sX2_driftOnce m).2.2), (sX2_botherAll ((sX2_driftOnce m).2) cf ca).1, (sX2_botherAll ((sX2_driftOnce m).2) cf ca).2) := by
      unfold mstep mstep0
      rw [if_neg (by decide)]
    rw [er, eU]
    exact ⟨hS1.rest, SB.rest hS1 hb2 (by rw [hmin]; exact b8) ha (fun p hp => ⟨(bc p hp).1, (bc p hp).2.1, by have := (bc p hp).2.2; omega⟩)⟩
theorem SR.run {mg : Bool} : ∀ (k a b : Nat) (s : zS) (f : Nat → Int32) (ar : Nat → Nat → Int32), SR mg s.1 s.2.1 s.2.2 f ar → SB a s.1 s.2.2 → a + k ≤ 240 → SR mg (mpass mg k s).1 (mpass mg k s).2.1 (mpass mg k s).2.2 (itX7_goes k b f ar).1 (itX7_goes k b f ar).2 ∧ SB (a + k) (mpass mg k s).1 (mpass mg k s).2.2
  | 0, a, b, s, f, ar, h, hB, _ => ⟨h, hB⟩
  | k + 1, a, b, s, f, ar, h, hB, ha => by
    obtain ⟨k1, k2⟩ := h.step hB (by omega)
    have ih := SR.run k (a + 1) (b + 1) (mstep mg s) (sX7_goesOne f ar).1 (sX7_goesOne f ar).2 k1 k2 (by omega)
    rw [show a + (k + 1) = a + 1 + k by omega]
    exact ih
/-! the beginning of a play -/
def rK (mg : Bool) (m : zP) (f : Nat → Int32) (ar : Nat → Nat → Int32) : Prop := rS0 m.1 f ar ∧ rM mg m.1 f ∧ rP m.2 (m.1 6) ar ∧ rR m ∧ bt (m.1 0) (-250) 250 ∧ bt (m.1 8) 0 10000
theorem rN.k {n : zP} {f : Nat → Int32} {ar : Nat → Nat → Int32} (h : rN n f ar) : rK true n f ar := by
  obtain ⟨⟨a0, a1, a2, a6, a7, a8, a9, a10, a11, a12, a13⟩, hP, hR, h0, h8⟩ := h
  exact ⟨⟨a0, a1, a2, a6, a7, a8, a9, a10, a12, a13⟩, ⟨fun _ => a11, fun z => by cases z⟩, hP, hR, h0, ⟨h8.1, by have := h8.2; omega⟩⟩
theorem z5 (g : Nat → Int32) : ∀ p : Nat, p < 5 → upd (upd (upd (upd (upd g 0 0) 1 0) 2 0) 3 0) 4 0 p = 0 := by
  intro p hp
  match p, hp with
  | 0, _ => rfl
  | 1, _ => rfl
  | 2, _ => rfl
  | 3, _ => rfl
  | 4, _ => rfl
  | p + 5, hp => exact absurd hp (by omega)
theorem s5_0 {g : Nat → Int32} (h : ∀ p : Nat, p < 5 → g p = 0) : s5 g = 0 := by
  unfold s5
  rw [h 0 (by omega), h 1 (by omega), h 2 (by omega), h 3 (by omega), h 4 (by omega)]
  decide
theorem rK.begin {mg : Bool} {m : zP} {f : Nat → Int32} {ar : Nat → Nat → Int32} (h : rK mg m f ar) (cf : Nat → Int32) (ca : Nat → Nat → Int32) : SR mg m (sX0_clear cf ca).1 (sX0_clear cf ca).2 (sX7_begins f ar).1 (sX7_begins f ar).2 ∧ SB 0 m (sX0_clear cf ca).2 := by
  obtain ⟨hS, hM, hP, hR, h0, h8⟩ := h
  have c29 : ∀ p : Nat, p < 5 → (sX0_clear cf ca).2 29 p = 0 := z5 (ca 29)
  have c30 : ∀ p : Nat, p < 5 → (sX0_clear cf ca).2 30 p = 0 := z5 (ca 30)
  have c31 : ∀ p : Nat, p < 5 → (sX0_clear cf ca).2 31 p = 0 := z5 (ca 31)
  have d24 : ∀ p : Nat, p < 5 → (sX7_begins f ar).2 24 p = 0 := z5 (ar 24)
  have d25 : ∀ p : Nat, p < 5 → (sX7_begins f ar).2 25 p = 0 := z5 (ar 25)
  refine ⟨⟨hS, hM, hP, hR, ⟨rfl, rfl, rfl⟩, fun p hp => ?_, fun p hp _ => ⟨d24 p hp, d25 p hp⟩, (s5_0 c31).trans rfl, (s5_0 c30).trans rfl⟩, h0, ⟨h8.1, by have := h8.2; omega⟩, fun p hp => ?_⟩
  · rw [c29 p hp, c30 p hp, c31 p hp, d24 p hp, d25 p hp, Int32.zero_mul]
    exact ⟨rfl, rfl, rfl⟩
  · rw [c29 p hp, c31 p hp]
    exact ⟨⟨by decide, by decide⟩, ⟨by decide, by decide⟩⟩
theorem rK.play {mg : Bool} {m : zP} {f : Nat → Int32} {ar : Nat → Nat → Int32} (h : rK mg m f ar) (cf : Nat → Int32) (ca : Nat → Nat → Int32) {k : Nat} (hk : k ≤ 240) (b : Nat) : SR mg (mpass mg k (m, (sX0_clear cf ca).1, (sX0_clear cf ca).2)).1 (mpass mg k (m, (sX0_clear cf ca).1, (sX0_clear cf ca).2)).2.1 (mpass mg k (m, (sX0_clear cf ca).1, (sX0_clear cf ca).2)).2.2 (itX7_goes k b (sX7_begins f ar).1 (sX7_begins f ar).2).1 (itX7_goes k b (sX7_begins f ar).1 (sX7_begins f ar).2).2 ∧ SB k (mpass mg k (m, (sX0_clear cf ca).1, (sX0_clear cf ca).2)).1 (mpass mg k (m, (sX0_clear cf ca).1, (sX0_clear cf ca).2)).2.2 := by
  obtain ⟨h1, h2⟩ := h.begin cf ca
  have := SR.run k 0 b (m, (sX0_clear cf ca).1, (sX0_clear cf ca).2) _ _ h1 h2 (by omega)
  rw [Nat.zero_add] at this
  exact this
/-! the cost -/
theorem co_n {f : Nat → Int32} {ar : Nat → Nat → Int32} {n : Nat} (hn : n ≤ 5) (h8 : (f 8).toNatClampNeg = n) (hz : ∀ p : Nat, p < 5 → n ≤ p → ar 24 p = 0) : sX7_costOf f ar = s5 (ar 24) + f 29 := by
  unfold sX7_costOf
  rw [h8]
  unfold s5
  match n, hn, hz with
  | 0, _, hz =>
    rw [hz 0 (by omega) (by omega), hz 1 (by omega) (by omega), hz 2 (by omega) (by omega), hz 3 (by omega) (by omega), hz 4 (by omega) (by omega)]
    show f 29 = _
    grind
  | 1, _, hz =>
    rw [hz 1 (by omega) (by omega), hz 2 (by omega) (by omega), hz 3 (by omega) (by omega), hz 4 (by omega) (by omega)]
    show f 29 + ar 24 0 = _
    grind
  | 2, _, hz =>
    rw [hz 2 (by omega) (by omega), hz 3 (by omega) (by omega), hz 4 (by omega) (by omega)]
    show f 29 + ar 24 0 + ar 24 1 = _
    grind
  | 3, _, hz =>
    rw [hz 3 (by omega) (by omega), hz 4 (by omega) (by omega)]
    show f 29 + ar 24 0 + ar 24 1 + ar 24 2 = _
    grind
  | 4, _, hz =>
    rw [hz 4 (by omega) (by omega)]
    show f 29 + ar 24 0 + ar 24 1 + ar 24 2 + ar 24 3 = _
    grind
  | 5, _, hz =>
    show f 29 + ar 24 0 + ar 24 1 + ar 24 2 + ar 24 3 + ar 24 4 = _
    grind
  | n + 6, hn, _ => exact absurd hn (by omega)
theorem s5_congr {g h : Nat → Int32} (e : ∀ p : Nat, p < 5 → g p = h p) : s5 g = s5 h := by
  unfold s5
  rw [e 0 (by omega), e 1 (by omega), e 2 (by omega), e 3 (by omega), e 4 (by omega)]
theorem SR.cost {mg : Bool} {m : zP} {cf : Nat → Int32} {ca : Nat → Nat → Int32} {f : Nat → Int32} {ar : Nat → Nat → Int32} (h : SR mg m cf ca f ar) : sX0_allCost ca = sX7_costOf f ar := by
  obtain ⟨hS, -, -, hR, -, hF, hG, hH1, -⟩ := h
  obtain ⟨n, hn, e6⟩ := bt_nI (hi := 5) hR.2.2.1 (by omega)
  have e8 : (f 8).toNatClampNeg = n := by rw [← hS.2.2.2.1, e6, nI_clamp (by omega)]
  rw [co_n hn e8 (fun p hp hge => (hG p hp (by rw [e6, nI_toInt (by omega)]; omega)).1), ← hH1, ← s5_congr (g := ca 29) (fun p hp => (hF p hp).1)]
  rfl
theorem s5_bt {g : Nat → Int32} {b : Int} (h : ∀ p : Nat, p < 5 → bt (g p) 0 b) (hb : b ≤ 100000000) (h0 : 0 ≤ b) : bt (s5 g) 0 (5 * b) := by
  unfold s5
  have z : bt (0 : Int32) 0 0 := ⟨by decide, by decide⟩
  have h1 := bt_add z (h 0 (by omega)) (by omega) (by omega) h0
  have h2 := bt_add h1 (h 1 (by omega)) (by omega) (by omega) h0
  have h3 := bt_add h2 (h 2 (by omega)) (by omega) (by omega) h0
  have h4 := bt_add h3 (h 3 (by omega)) (by omega) (by omega) h0
  have h5 := bt_add h4 (h 4 (by omega)) (by omega) (by omega) h0
  exact ⟨h5.1, by have := h5.2; omega⟩
theorem SB.cost {a : Nat} {m : zP} {ca : Nat → Nat → Int32} (h : SB a m ca) (ha : a ≤ 240) : 0 ≤ (sX0_allCost ca).toInt := by
  have h1 := s5_bt (g := ca 29) (b := 5000 * a) (fun p hp => (h.2.2 p hp).1) (by omega) (by omega)
  have h2 := s5_bt (g := ca 31) (b := 9 * a) (fun p hp => (h.2.2 p hp).2) (by omega) (by omega)
  have := bt_add h1 h2 (by omega) (by omega) (by omega)
  exact this.1
/-! thinks: the cost of a play -/
theorem co_it {f f1 : Nat → Int32} {ar a1 : Nat → Nat → Int32} (h : a1 24 = ar 24) : ∀ (j a : Nat) (v : Int32), itX7_costOf f1 a1 j a v = itX7_costOf f ar j a v
  | 0, a, v => rfl
  | j + 1, a, v => by
    show itX7_costOf f1 a1 j (a + 1) (v + a1 24 (nI a).toNatClampNeg) = itX7_costOf f ar j (a + 1) (v + ar 24 (nI a).toNatClampNeg)
    rw [h]
    exact co_it h j (a + 1) _
theorem co_k {f f1 : Nat → Int32} {ar a1 : Nat → Nat → Int32} (h8 : f1 8 = f 8) (h29 : f1 29 = f 29) (h : a1 24 = ar 24) : sX7_costOf f1 a1 = sX7_costOf f ar := by
  unfold sX7_costOf
  rw [h8, h29]
  exact co_it h _ _ _
theorem th_c (f : Nat → Int32) (ar : Nat → Nat → Int32) (x : Int32) : (sX7_thinks f ar x).1 = sX7_costOf (sX7_goes f ar x).1 (sX7_goes f ar x).2 := co_k rfl rfl rfl
theorem gs_i (f : Nat → Int32) (ar : Nat → Nat → Int32) (x : Int32) : sX7_goes f ar x = itX7_goes x.toNatClampNeg 0 (sX7_begins f ar).1 (sX7_begins f ar).2 := rfl
theorem rK.cost {mg : Bool} {m : zP} {f : Nat → Int32} {ar : Nat → Nat → Int32} (h : rK mg m f ar) (cf : Nat → Int32) (ca : Nat → Nat → Int32) {x : Int32} (hx : x.toInt ≤ 240) : sX0_allCost (mpass mg x.toNatClampNeg (m, (sX0_clear cf ca).1, (sX0_clear cf ca).2)).2.2 = (sX7_thinks f ar x).1 ∧ 0 ≤ (sX7_thinks f ar x).1.toInt := by
  obtain ⟨h1, h2⟩ := h.play cf ca (cl240 hx) 0
  have e := h1.cost
  rw [th_c, gs_i, ← e]
  exact ⟨rfl, h2.cost (cl240 hx)⟩
