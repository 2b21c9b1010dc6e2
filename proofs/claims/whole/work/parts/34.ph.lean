section zPH
variable {n m i : zP} {cf cf1 : Nat → Int32} {ca ca1 : Nat → Nat → Int32} {f f1 : Nat → Int32} {ar a1 : Nat → Nat → Int32}
/-- the least costly of what is left -/
def bL (C : Int32 → Int32) : Nat → Int32 → Int32 → Int32
  | 0, _, be => be
  | j + 1, v, be => bL C j (v + 1) (if C v < C be then v else be)
theorem pim2 {mg : Bool} {x : Int32} : sX6_playInMind m (sX6_think n cf ca).2.1 (sX6_think n cf ca).2.2 x mg = (sX0_allCost (pm mg m cf ca x).2.2, pm mg m cf ca x) := rfl
theorem lc_it {w x : Int32} {lo hi : Int} (hh : hi ≤ 1000) (h0 : -1000 ≤ lo) {C : Int32 → Int32} (H : ∀ v, bt v lo hi → ∀ cf ca, sX0_allCost (pm true (sX2_change n w v).2 cf ca x).2.2 = C v ∧ 0 ≤ (C v).toInt) : ∀ (j a : Nat) (m : zP) (cf1 : Nat → Int32) (ca1 : Nat → Nat → Int32) (be v : Int32), ck cf ca cf1 ca1 → lo ≤ v.toInt → v.toInt + j ≤ hi + 1 → 0 ≤ (C be).toInt → (itX6_leastCostly n x w j a m cf1 ca1 be (C be) v).1 = bL C j v be ∧ ck cf ca (itX6_leastCostly n x w j a m cf1 ca1 be (C be) v).2.2.1 (itX6_leastCostly n x w j a m cf1 ca1 be (C be) v).2.2.2
  | 0, a, m, cf1, ca1, be, v, hk, _, _, _ => ⟨rfl, hk⟩
  | j + 1, a, m, cf1, ca1, be, v, hk, h1, h2, h3 => by
    obtain ⟨c1, c2⟩ := H v ⟨h1, by omega⟩ cf1 ca1
    have hc := pm_ck (mg := true) (n := (sX2_change n w v).2) (cf := cf1) (ca := ca1) (x := x)
    have hv : (v + 1).toInt = v.toInt + 1 := i_s1 (by omega)
    have ih := fun (Z : zS) (be : Int32) (hz : ck cf1 ca1 Z.2.1 Z.2.2) (hb : 0 ≤ (C be).toInt) => lc_it hh h0 H j (a + 1) Z.1 Z.2.1 Z.2.2 be (v + 1) (hk.tr hz) (by omega) (by omega) hb
    have e : stX6_leastCostly n x w a m cf1 ca1 be (C be) v = ((pm true (sX2_change n w v).2 cf1 ca1 x).1, (pm true (sX2_change n w v).2 cf1 ca1 x).2.1, (pm true (sX2_change n w v).2 cf1 ca1 x).2.2, (if C v < C be then v else be), C (if C v < C be then v else be), v + 1) := by
      unfold stX6_leastCostly
      rw [if_neg (show ¬ C be < 0 by rw [Int32.lt_iff_toInt_lt, i0]; omega), show (sX6_think n cf1 ca1).1 = n from rfl, pim2]
      dsimp only
      rw [c1]
      by_cases d : C be ≤ C v
      · rw [if_pos d, if_neg (show ¬ C v < C be by rw [Int32.lt_iff_toInt_lt]; rw [Int32.le_iff_toInt_le] at d; omega)]
      · rw [if_neg d, if_pos (show C v < C be by rw [Int32.lt_iff_toInt_lt]; rw [Int32.le_iff_toInt_le] at d; omega)]
    have hb : 0 ≤ (C (if C v < C be then v else be)).toInt := by
      by_cases d : C v < C be
      · rw [if_pos d]; exact c2
      · rw [if_neg d]; exact h3
    show (itX6_leastCostly n x w j (a + 1) _ _ _ _ _ _).1 = bL C j (v + 1) _ ∧ ck cf ca (itX6_leastCostly n x w j (a + 1) _ _ _ _ _ _).2.2.1 (itX6_leastCostly n x w j (a + 1) _ _ _ _ _ _).2.2.2
    rw [e]
    exact ih (pm true (sX2_change n w v).2 cf1 ca1 x) _ hc hb
theorem lc_eq {w x fi la : Int32} {k : Nat} (hk : la.toInt = fi.toInt + k) (hh : la.toInt ≤ 1000) (h0 : -1000 ≤ fi.toInt) {C : Int32 → Int32} (H : ∀ v, bt v fi.toInt la.toInt → ∀ cf ca, sX0_allCost (pm true (sX2_change n w v).2 cf ca x).2.2 = C v ∧ 0 ≤ (C v).toInt) : (sX6_leastCostly n m cf ca x w fi la).1 = bL C k (fi + 1) fi ∧ ck cf ca (sX6_leastCostly n m cf ca x w fi la).2.2.1 (sX6_leastCostly n m cf ca x w fi la).2.2.2 := by
  obtain ⟨c1, c2⟩ := H fi ⟨by omega, by omega⟩ cf ca
  have hc := pm_ck (mg := true) (n := (sX2_change n w fi).2) (cf := cf) (ca := ca) (x := x)
  have hv : (fi + 1).toInt = fi.toInt + 1 := i_s1 (by omega)
  have ih := lc_it (cf := cf) (ca := ca) hh h0 H k 1 (pm true (sX2_change n w fi).2 cf ca x).1 (pm true (sX2_change n w fi).2 cf ca x).2.1 (pm true (sX2_change n w fi).2 cf ca x).2.2 fi (fi + 1) hc (by omega) (by omega) c2
  have e : stX6_leastCostly n x w 0 m cf ca fi (-1) fi = ((pm true (sX2_change n w fi).2 cf ca x).1, (pm true (sX2_change n w fi).2 cf ca x).2.1, (pm true (sX2_change n w fi).2 cf ca x).2.2, fi, C fi, fi + 1) := by
    unfold stX6_leastCostly
    rw [if_pos (by decide), show (sX6_think n cf ca).1 = n from rfl, pim2]
    dsimp only
    rw [c1]
  unfold sX6_leastCostly
  rw [show (la.toInt + 1 - fi.toInt).toNat = k + 1 by omega]
  show (itX6_leastCostly n x w k 1 _ _ _ _ _ _).1 = _ ∧ ck cf ca (itX6_leastCostly n x w k 1 _ _ _ _ _ _).2.2.1 (itX6_leastCostly n x w k 1 _ _ _ _ _ _).2.2.2
  rw [e]
  exact ih
/-- a thought of the reference -/
def TH (f : Nat → Int32) (ar : Nat → Nat → Int32) (lo hi : Int) (C : Int32 → Int32) (T : (Nat → Int32) → (Nat → Nat → Int32) → Int32 → Int32 × (Nat → Int32) × (Nat → Nat → Int32)) : Prop := ∀ v, bt v lo hi → ∀ f1 a1, kt f ar f1 a1 → (T f1 a1 v).1 = C v ∧ kt f ar (T f1 a1 v).2.1 (T f1 a1 v).2.2
theorem bs_it {w x : Int32} {lo hi : Int} (hh : hi ≤ 1000) (h0 : -1000 ≤ lo) {C : Int32 → Int32} (H : TH f ar lo hi C (fun f1 a1 v => sX7_thinksWith f1 a1 w v x)) : ∀ (j a : Nat) (f1 : Nat → Int32) (a1 : Nat → Nat → Int32) (be v : Int32), kt f ar f1 a1 → lo ≤ v.toInt → v.toInt + j ≤ hi + 1 → (itX7_bestSet w x j a f1 a1 be (C be) v).1 = bL C j v be ∧ kt f ar (itX7_bestSet w x j a f1 a1 be (C be) v).2.1 (itX7_bestSet w x j a f1 a1 be (C be) v).2.2
  | 0, a, f1, a1, be, v, hk, _, _ => ⟨rfl, hk⟩
  | j + 1, a, f1, a1, be, v, hk, h1, h2 => by
    obtain ⟨c1, c2⟩ := H v ⟨h1, by omega⟩ f1 a1 hk
    have hv : (v + 1).toInt = v.toInt + 1 := i_s1 (by omega)
    have e : stX7_bestSet w x a f1 a1 be (C be) v = ((sX7_thinksWith f1 a1 w v x).2.1, (sX7_thinksWith f1 a1 w v x).2.2, (if C v < C be then v else be), C (if C v < C be then v else be), v + 1) := by
      unfold stX7_bestSet
      dsimp only at c1
      rw [c1]
      by_cases d : C v < C be
      · rw [if_pos d, if_pos d]
      · rw [if_neg d, if_neg d]
    show (itX7_bestSet w x j (a + 1) _ _ _ _ _).1 = bL C j (v + 1) _ ∧ kt f ar (itX7_bestSet w x j (a + 1) _ _ _ _ _).2.1 (itX7_bestSet w x j (a + 1) _ _ _ _ _).2.2
    rw [e]
    exact bs_it hh h0 H j (a + 1) _ _ _ (v + 1) c2 (by omega) (by omega)
theorem bs_eq {w x : Int32} {k : Nat} (hk : (sX7_mostOf w).toInt = (sX7_leastOf w).toInt + k) (hh : (sX7_mostOf w).toInt ≤ 1000) (h0 : -1000 ≤ (sX7_leastOf w).toInt) {C : Int32 → Int32} (H : TH f ar (sX7_leastOf w).toInt (sX7_mostOf w).toInt C (fun f1 a1 v => sX7_thinksWith f1 a1 w v x)) : (sX7_bestSet f ar w x).1 = bL C k (sX7_leastOf w + 1) (sX7_leastOf w) ∧ kt f ar (sX7_bestSet f ar w x).2.1 (sX7_bestSet f ar w x).2.2 := by
  obtain ⟨c1, c2⟩ := H (sX7_leastOf w) ⟨by omega, by omega⟩ f ar kt.rf
  have hv : (sX7_leastOf w + 1).toInt = (sX7_leastOf w).toInt + 1 := i_s1 (by omega)
  have ih := bs_it hh h0 H k 0 (sX7_thinksWith f ar w (sX7_leastOf w) x).2.1 (sX7_thinksWith f ar w (sX7_leastOf w) x).2.2 (sX7_leastOf w) (sX7_leastOf w + 1) c2 (by omega) (by omega)
  dsimp only at c1
  unfold sX7_bestSet
  rw [show ((sX7_mostOf w).toInt - (sX7_leastOf w).toInt).toNat = k by omega, c1]
  exact ih
theorem bRule_it {x : Int32} {hi : Nat} (hh : hi ≤ 1000) {C : Int32 → Int32} (H : TH f ar 0 hi C (fun f1 a1 v => sX7_thinksByRule f1 a1 v x)) : ∀ (j a : Nat) (f1 : Nat → Int32) (a1 : Nat → Nat → Int32) (be : Int32), kt f ar f1 a1 → bt be 0 hi → a + j ≤ hi + 1 → (itX7_bestRule x j a f1 a1 be).1 = bL C j (nI a) be ∧ kt f ar (itX7_bestRule x j a f1 a1 be).2.1 (itX7_bestRule x j a f1 a1 be).2.2
  | 0, a, f1, a1, be, hk, _, _ => ⟨rfl, hk⟩
  | j + 1, a, f1, a1, be, hk, hb, h2 => by
    have hba : bt (nI a) 0 hi := nI_bt (by omega) (by omega)
    obtain ⟨c1, c2⟩ := H (nI a) hba f1 a1 hk
    obtain ⟨d1, d2⟩ := H be hb _ _ c2
    dsimp only at c1 c2 d1 d2
    have e : stX7_bestRule x a f1 a1 be = ((sX7_thinksByRule (sX7_thinksByRule f1 a1 (nI a) x).2.1 (sX7_thinksByRule f1 a1 (nI a) x).2.2 be x).2.1, (sX7_thinksByRule (sX7_thinksByRule f1 a1 (nI a) x).2.1 (sX7_thinksByRule f1 a1 (nI a) x).2.2 be x).2.2, (if C (nI a) < C be then nI a else be)) := by
      unfold stX7_bestRule
      rw [c1, d1]
      by_cases d : C be ≤ C (nI a)
      · rw [if_pos d, if_neg (show ¬ C (nI a) < C be by rw [Int32.lt_iff_toInt_lt]; rw [Int32.le_iff_toInt_le] at d; omega)]
      · rw [if_neg d, if_pos (show C (nI a) < C be by rw [Int32.lt_iff_toInt_lt]; rw [Int32.le_iff_toInt_le] at d; omega)]
    have hb2 : bt (if C (nI a) < C be then nI a else be) 0 hi := by
      by_cases d : C (nI a) < C be
      · rw [if_pos d]; exact hba
      · rw [if_neg d]; exact hb
    show (itX7_bestRule x j (a + 1) _ _ _).1 = bL C j (nI a + 1) _ ∧ kt f ar (itX7_bestRule x j (a + 1) _ _ _).2.1 (itX7_bestRule x j (a + 1) _ _ _).2.2
    rw [e, nI_1]
    exact bRule_it hh H j (a + 1) _ _ _ d2 hb2 (by omega)
theorem bFirst_it {x : Int32} {hi : Nat} (hh : hi ≤ 1000) {C : Int32 → Int32} (H : TH f ar 0 hi C (fun f1 a1 v => sX7_thinksFirst f1 a1 v x)) : ∀ (j a : Nat) (f1 : Nat → Int32) (a1 : Nat → Nat → Int32) (be : Int32), kt f ar f1 a1 → bt be 0 hi → a + j ≤ hi + 1 → (itX7_bestFirst x j a f1 a1 be).1 = bL C j (nI a) be ∧ kt f ar (itX7_bestFirst x j a f1 a1 be).2.1 (itX7_bestFirst x j a f1 a1 be).2.2
  | 0, a, f1, a1, be, hk, _, _ => ⟨rfl, hk⟩
  | j + 1, a, f1, a1, be, hk, hb, h2 => by
    have hba : bt (nI a) 0 hi := nI_bt (by omega) (by omega)
    obtain ⟨c1, c2⟩ := H (nI a) hba f1 a1 hk
    obtain ⟨d1, d2⟩ := H be hb _ _ c2
    dsimp only at c1 c2 d1 d2
    have e : stX7_bestFirst x a f1 a1 be = ((sX7_thinksFirst (sX7_thinksFirst f1 a1 (nI a) x).2.1 (sX7_thinksFirst f1 a1 (nI a) x).2.2 be x).2.1, (sX7_thinksFirst (sX7_thinksFirst f1 a1 (nI a) x).2.1 (sX7_thinksFirst f1 a1 (nI a) x).2.2 be x).2.2, (if C (nI a) < C be then nI a else be)) := by
      unfold stX7_bestFirst
      rw [c1, d1]
      by_cases d : C be ≤ C (nI a)
      · rw [if_pos d, if_neg (show ¬ C (nI a) < C be by rw [Int32.lt_iff_toInt_lt]; rw [Int32.le_iff_toInt_le] at d; omega)]
      · rw [if_neg d, if_pos (show C (nI a) < C be by rw [Int32.lt_iff_toInt_lt]; rw [Int32.le_iff_toInt_le] at d; omega)]
    have hb2 : bt (if C (nI a) < C be then nI a else be) 0 hi := by
      by_cases d : C (nI a) < C be
      · rw [if_pos d]; exact hba
      · rw [if_neg d]; exact hb
    show (itX7_bestFirst x j (a + 1) _ _ _).1 = bL C j (nI a + 1) _ ∧ kt f ar (itX7_bestFirst x j (a + 1) _ _ _).2.1 (itX7_bestFirst x j (a + 1) _ _ _).2.2
    rw [e, nI_1]
    exact bFirst_it hh H j (a + 1) _ _ _ d2 hb2 (by omega)
theorem kt_1 (k : kt f ar f1 a1) (q : Nat) (v : Int32) : kt f (up2 ar 1 (upd (ar 1) q v)) f1 (up2 a1 1 (upd (a1 1) q v)) := by
  refine ⟨k.1, fun j hj => ?_⟩
  by_cases c : j = 1
  · subst c; rw [up2_eq, up2_eq, k.2 1 (by omega)]
  · rw [up2_ne c, up2_ne c, k.2 j hj]
theorem kt_f (k : kt f ar f1 a1) (q : Nat) (v : Int32) : kt (upd f q v) ar (upd f1 q v) a1 := by
  refine ⟨fun j hj => ?_, k.2⟩
  by_cases c : j = q
  · subst c; rw [upd_eq, upd_eq]
  · rw [upd_ne c, upd_ne c, k.1 j hj]
theorem tw_TH {q : Nat} (hq : q < 100) {x : Int32} (hx : x.toInt ≤ 240) {lo hi : Int} {M : Int32 → zP} (hN : ∀ v, bt v lo hi → rN (M v) f (up2 ar 1 (upd (ar 1) q v))) : TH f ar lo hi (fun v => (sX7_thinks f (up2 ar 1 (upd (ar 1) q v)) x).1) (fun f1 a1 v => sX7_thinksWith f1 a1 (nI q) v x) := by
  intro v hv f1 a1 k
  have hr := (hN v hv).k
  have k1 := kt_1 k q v
  have hm := k1.ok (hN v hv).mk
  have ht := tw_kt (f := f1) (ar := a1) (w := nI q) (v := v) (x := x) (by rw [nI_clamp (by omega)]; exact hm) hx
  refine ⟨?_, k.tr ht⟩
  show (sX7_thinks f1 (up2 a1 1 (upd (a1 1) (nI q).toNatClampNeg v)) x).1 = _
  rw [nI_clamp (by omega)]
  exact ((hr.kt k1).cost (fun _ => 0) (fun _ _ => 0) hx).1.symm.trans (hr.cost (fun _ => 0) (fun _ _ => 0) hx).1
theorem tr_TH {x : Int32} (hx : x.toInt ≤ 240) (h : rN n f ar) : TH f ar 0 4 (fun v => (sX7_thinks (upd f 10 v) ar x).1) (fun f1 a1 v => sX7_thinksByRule f1 a1 v x) := by
  intro v hv f1 a1 k
  have hr := (h.rk hv).k
  have ht := tr_kt (k := v) (k.ok h.mk) hx
  exact ⟨((hr.kt (kt_f k 10 v)).cost (fun _ => 0) (fun _ _ => 0) hx).1.symm.trans (hr.cost (fun _ => 0) (fun _ _ => 0) hx).1, k.tr ht⟩
theorem tf_TH {x : Int32} {hi : Nat} (hx : x.toInt ≤ 240) (h : rN n f ar) (h6 : n.1 6 = nI (hi + 1)) (hh : hi < 10) : TH f ar 0 hi (fun v => (sX7_thinks (upd f 11 v) ar x).1) (fun f1 a1 v => sX7_thinksFirst f1 a1 v x) := by
  intro v hv f1 a1 k
  have hN := h.tk (v := v) (fun z => by rw [h6] at z; have := congrArg Int32.toInt z; rw [nI_toInt (by omega), i0] at this; omega) ⟨hv.1, by rw [h6, nI_toInt (by omega)]; have := hv.2; omega⟩
  have hr := hN.k
  have ht := tf_kt ((kt_f k 11 v).ok hN.mk) hx
  exact ⟨((hr.kt (kt_f k 11 v)).cost (fun _ => 0) (fun _ _ => 0) hx).1.symm.trans (hr.cost (fun _ => 0) (fun _ _ => 0) hx).1, k.tr ht⟩
theorem chg_7 {v : Int32} : sX2_change n 7 v = (n.1 11, ((upd n.1 11 v), n.2)) := by
  unfold sX2_change sX2_told
  rw [if_neg (by decide), if_neg (by decide), if_neg (by decide), if_neg (by decide), if_neg (by decide), if_neg (by decide), if_neg (by decide), if_pos (by decide), if_neg (by decide), if_neg (by decide), if_neg (by decide), if_neg (by decide), if_neg (by decide), if_neg (by decide), if_neg (by decide), if_pos (by decide)]
theorem chg_8 {v : Int32} : sX2_change n 8 v = (n.1 7, ((upd n.1 7 v), n.2)) := by
  unfold sX2_change sX2_told
  rw [if_neg (by decide), if_neg (by decide), if_neg (by decide), if_neg (by decide), if_neg (by decide), if_neg (by decide), if_neg (by decide), if_neg (by decide), if_neg (by decide), if_neg (by decide), if_neg (by decide), if_neg (by decide), if_neg (by decide), if_neg (by decide), if_neg (by decide), if_neg (by decide)]
theorem lb_1 (hI : Inv n i cf ca f ar) {x : Int32} (hx : x.toInt ≤ 240) : (sX6_leastCostly n m cf ca x 1 (-20) 20).1 = (sX7_bestSet f ar 1 x).1 ∧ ck cf ca (sX6_leastCostly n m cf ca x 1 (-20) 20).2.2.1 (sX6_leastCostly n m cf ca x 1 (-20) 20).2.2.2 ∧ kt f ar (sX7_bestSet f ar 1 x).2.1 (sX7_bestSet f ar 1 x).2.2 := by
  have el : sX7_leastOf 1 = -20 := by decide
  have eg : sX7_mostOf 1 = 20 := by decide
  have il : (-20 : Int32).toInt = -20 := by decide
  have ig : (20 : Int32).toInt = 20 := by decide
  have H := tw_TH (f := f) (ar := ar) (q := 1) (by omega) hx (lo := -20) (hi := 20) (fun v hv => hI.1.set1 hv)
  obtain ⟨p1, p2⟩ := lc_eq (m := m) (n := n) (w := 1) (x := x) (fi := -20) (la := 20) (k := 40) (cf := cf) (ca := ca) (by decide) (by rw [ig]; omega) (by rw [il]; omega) (C := fun v => (sX7_thinks f (up2 ar 1 (upd (ar 1) 1 v)) x).1) (fun v hv cf ca => by
    rw [il, ig] at hv
    have := (hI.1.set1 hv).k.cost cf ca hx
    rw [show (1 : Int32) = nI 1 from rfl, chg_1]
    exact this)
  obtain ⟨q1, q2⟩ := bs_eq (f := f) (ar := ar) (w := 1) (x := x) (k := 40) (by decide) (by rw [eg, ig]; omega) (by rw [el, il]; omega) (by rw [el, eg, il, ig]; exact H)
  rw [p1, q1, el]
  exact ⟨rfl, p2, q2⟩
theorem lb_4 (hI : Inv n i cf ca f ar) {x : Int32} (hx : x.toInt ≤ 240) : (sX6_leastCostly n m cf ca x 4 (1) 20).1 = (sX7_bestSet f ar 4 x).1 ∧ ck cf ca (sX6_leastCostly n m cf ca x 4 (1) 20).2.2.1 (sX6_leastCostly n m cf ca x 4 (1) 20).2.2.2 ∧ kt f ar (sX7_bestSet f ar 4 x).2.1 (sX7_bestSet f ar 4 x).2.2 := by
  have el : sX7_leastOf 4 = 1 := by decide
  have eg : sX7_mostOf 4 = 20 := by decide
  have il : (1 : Int32).toInt = 1 := by decide
  have ig : (20 : Int32).toInt = 20 := by decide
  have H := tw_TH (f := f) (ar := ar) (q := 4) (by omega) hx (lo := 1) (hi := 20) (fun v hv => hI.1.set4 hv)
  obtain ⟨p1, p2⟩ := lc_eq (m := m) (n := n) (w := 4) (x := x) (fi := 1) (la := 20) (k := 19) (cf := cf) (ca := ca) (by decide) (by rw [ig]; omega) (by rw [il]; omega) (C := fun v => (sX7_thinks f (up2 ar 1 (upd (ar 1) 4 v)) x).1) (fun v hv cf ca => by
    rw [il, ig] at hv
    have := (hI.1.set4 hv).k.cost cf ca hx
    rw [show (4 : Int32) = nI 4 from rfl, chg_4]
    exact this)
  obtain ⟨q1, q2⟩ := bs_eq (f := f) (ar := ar) (w := 4) (x := x) (k := 19) (by decide) (by rw [eg, ig]; omega) (by rw [el, il]; omega) (by rw [el, eg, il, ig]; exact H)
  rw [p1, q1, el]
  exact ⟨rfl, p2, q2⟩
theorem lb_5 (hI : Inv n i cf ca f ar) {x : Int32} (hx : x.toInt ≤ 240) : (sX6_leastCostly n m cf ca x 5 (0) 9).1 = (sX7_bestSet f ar 5 x).1 ∧ ck cf ca (sX6_leastCostly n m cf ca x 5 (0) 9).2.2.1 (sX6_leastCostly n m cf ca x 5 (0) 9).2.2.2 ∧ kt f ar (sX7_bestSet f ar 5 x).2.1 (sX7_bestSet f ar 5 x).2.2 := by
  have el : sX7_leastOf 5 = 0 := by decide
  have eg : sX7_mostOf 5 = 9 := by decide
  have il : (0 : Int32).toInt = 0 := by decide
  have ig : (9 : Int32).toInt = 9 := by decide
  have H := tw_TH (f := f) (ar := ar) (q := 5) (by omega) hx (lo := 0) (hi := 9) (fun v hv => hI.1.set5 hv)
  obtain ⟨p1, p2⟩ := lc_eq (m := m) (n := n) (w := 5) (x := x) (fi := 0) (la := 9) (k := 9) (cf := cf) (ca := ca) (by decide) (by rw [ig]; omega) (by rw [il]; omega) (C := fun v => (sX7_thinks f (up2 ar 1 (upd (ar 1) 5 v)) x).1) (fun v hv cf ca => by
    rw [il, ig] at hv
    have := (hI.1.set5 hv).k.cost cf ca hx
    rw [show (5 : Int32) = nI 5 from rfl, chg_5]
    exact this)
  obtain ⟨q1, q2⟩ := bs_eq (f := f) (ar := ar) (w := 5) (x := x) (k := 9) (by decide) (by rw [eg, ig]; omega) (by rw [el, il]; omega) (by rw [el, eg, il, ig]; exact H)
  rw [p1, q1, el]
  exact ⟨rfl, p2, q2⟩
set_option maxRecDepth 100000 in
theorem pu_between (hI : Inv n i cf ca f ar) (x : Int32) : ((sX6_between n m cf ca x).1) = ((sX7_between f ar x).1) ∧ Inv n i ((sX6_between n m cf ca x).2.2.1) ((sX6_between n m cf ca x).2.2.2) ((sX7_between f ar x).2.1) ((sX7_between f ar x).2.2) := by
  unfold sX6_between sX7_between
  by_cases c : sX7_bound x 0 240 = 0
  · rw [if_pos (show sX6_outside x 0 240 = 0 from c), if_pos c]
    obtain ⟨h1, h2, h3⟩ := lb_1 (m := m) hI (bd_hi c)
    generalize sX6_leastCostly n m cf ca x 1 (-20) 20 = L at h1 h2 ⊢
    generalize sX7_bestSet f ar 1 x = B at h1 h3 ⊢
    refine ⟨?_, hI.mind h2 h3⟩
    dsimp only
    rw [h1, Int32.add_comm]
  · rw [if_neg (show ¬ sX6_outside x 0 240 = 0 from c), if_neg c]
    exact hI.no (bd_w c)
theorem lb_7 (hI : Inv n i cf ca f ar) {x : Int32} (hx : x.toInt ≤ 240) : (sX6_leastCostly n m cf ca x 7 0 4).1 = (sX7_bestRule f ar x).1 ∧ ck cf ca (sX6_leastCostly n m cf ca x 7 0 4).2.2.1 (sX6_leastCostly n m cf ca x 7 0 4).2.2.2 ∧ kt f ar (sX7_bestRule f ar x).2.1 (sX7_bestRule f ar x).2.2 := by
  have ig : (4 : Int32).toInt = 4 := by decide
  obtain ⟨p1, p2⟩ := lc_eq (m := m) (n := n) (w := 7) (x := x) (fi := 0) (la := 4) (k := 4) (cf := cf) (ca := ca) (by decide) (by rw [ig]; omega) (by rw [i0]; omega) (C := fun v => (sX7_thinks (upd f 10 v) ar x).1) (fun v hv cf ca => by
    rw [i0, ig] at hv
    have := (hI.1.rk hv).k.cost cf ca hx
    rw [chg_7]
    exact this)
  obtain ⟨q1, q2⟩ := bRule_it (hi := 4) (by omega) (tr_TH hx hI.1) 4 1 f ar 0 kt.rf ⟨by decide, by decide⟩ (by omega)
  rw [p1]
  exact ⟨q1.symm, p2, q2⟩
theorem lb_8 (hI : Inv n i cf ca f ar) {k : Nat} (h6 : n.1 6 = nI (k + 1)) (hk : k < 5) {x : Int32} (hx : x.toInt ≤ 240) : (sX6_leastCostly n m cf ca x 8 0 (n.1 6 - 1)).1 = (sX7_bestFirst f ar x).1 ∧ ck cf ca (sX6_leastCostly n m cf ca x 8 0 (n.1 6 - 1)).2.2.1 (sX6_leastCostly n m cf ca x 8 0 (n.1 6 - 1)).2.2.2 ∧ kt f ar (sX7_bestFirst f ar x).2.1 (sX7_bestFirst f ar x).2.2 := by
  have e1 : n.1 6 - 1 = nI k := by rw [h6, ← nI_1]; generalize nI k = y; grind
  have ig : (nI k).toInt = k := nI_toInt (by omega)
  have e8 : f 8 = nI (k + 1) := by rw [← h6]; exact hI.1.1.2.2.2.1.symm
  rw [e1]
  have hz : ¬ n.1 6 = 0 := fun z => by rw [h6] at z; have := congrArg Int32.toInt z; rw [nI_toInt (by omega), i0] at this; omega
  obtain ⟨p1, p2⟩ := lc_eq (m := m) (n := n) (w := 8) (x := x) (fi := 0) (la := nI k) (k := k) (cf := cf) (ca := ca) (by rw [ig, i0]; omega) (by rw [ig]; omega) (by rw [i0]; omega) (C := fun v => (sX7_thinks (upd f 11 v) ar x).1) (fun v hv cf ca => by
    rw [i0, ig] at hv
    have := (hI.1.tk hz (v := v) ⟨hv.1, by rw [h6, nI_toInt (by omega)]; have := hv.2; omega⟩).k.cost cf ca hx
    rw [chg_8]
    exact this)
  obtain ⟨q1, q2⟩ := bFirst_it (hi := k) (by omega) (tf_TH hx hI.1 h6 (by omega)) k 1 f ar 0 kt.rf ⟨by decide, by rw [i0]; omega⟩ (by omega)
  unfold sX7_bestFirst
  rw [p1, e8, nI_clamp (by omega), if_neg (show ¬ nI (k + 1) = 0 from fun z => by have := congrArg Int32.toInt z; rw [nI_toInt (by omega), i0] at this; omega)]
  exact ⟨q1.symm, p2, q2⟩
set_option maxRecDepth 100000 in
theorem pu_best (hI : Inv n i cf ca f ar) (x : Int32) (w : Int32) : ((sX6_best n m cf ca x w).1) = ((sX7_best f ar x w).1) ∧ Inv n i ((sX6_best n m cf ca x w).2.2.1) ((sX6_best n m cf ca x w).2.2.2) ((sX7_best f ar x w).2.1) ((sX7_best f ar x w).2.2) := by
  unfold sX6_best sX7_best
  by_cases c : sX7_bound x 0 240 = 0
  · rw [if_pos (show sX6_outside x 0 240 = 0 from c), if_pos c]
    have hx := bd_hi c
    by_cases c1 : w < 0
    · rw [if_pos c1, if_neg (in_neg0 c1)]
      exact hI.no w2
    rw [if_neg c1]
    by_cases c2 : w ≤ 3
    · rw [if_pos c2, if_pos (in_pos c1 c2)]
      by_cases d0 : w = 0
      · rw [if_pos d0, if_pos d0]
        obtain ⟨h1, h2, h3⟩ := lb_4 (m := m) hI hx
        generalize sX6_leastCostly n m cf ca x 4 1 20 = L at h1 h2 ⊢
        generalize sX7_bestSet f ar 4 x = B at h1 h3 ⊢
        exact ⟨h1, hI.mind h2 h3⟩
      rw [if_neg d0, if_neg d0]
      by_cases d1 : w = 1
      · rw [if_pos d1, if_pos d1]
        obtain ⟨h1, h2, h3⟩ := lb_5 (m := m) hI hx
        generalize sX6_leastCostly n m cf ca x 5 0 9 = L at h1 h2 ⊢
        generalize sX7_bestSet f ar 5 x = B at h1 h3 ⊢
        exact ⟨h1, hI.mind h2 h3⟩
      rw [if_neg d1, if_neg d1]
      by_cases d2 : w = 2
      · rw [if_pos d2, if_pos d2]
        obtain ⟨h1, h2, h3⟩ := lb_7 (m := m) hI hx
        generalize sX6_leastCostly n m cf ca x 7 0 4 = L at h1 h2 ⊢
        generalize sX7_bestRule f ar x = B at h1 h3 ⊢
        exact ⟨h1, hI.mind h2 h3⟩
      rw [if_neg d2, if_neg d2]
      obtain ⟨k, hk, ek⟩ := bt_nI (hi := 5) (iv_sz hI) (by omega)
      have e8 : n.1 6 = f 8 := hI.1.1.2.2.2.1
      match k, hk, ek with
      | 0, _, ek =>
        have z6 : n.1 6 = 0 := ek
        have z8 : f 8 = 0 := e8.symm.trans z6
        rw [if_pos z6]
        unfold sX7_bestFirst
        rw [z8, if_pos rfl]
        exact ⟨rfl, hI⟩
      | k + 1, hk, ek =>
        rw [if_neg (show ¬ n.1 6 = 0 from fun z => by rw [ek] at z; have := congrArg Int32.toInt z; rw [nI_toInt (by omega), i0] at this; omega)]
        obtain ⟨h1, h2, h3⟩ := lb_8 (m := m) hI ek (by omega) hx
        generalize sX6_leastCostly n m cf ca x 8 0 (n.1 6 - 1) = L at h1 h2 ⊢
        generalize sX7_bestFirst f ar x = B at h1 h3 ⊢
        exact ⟨h1, hI.mind h2 h3⟩
    · rw [if_neg c2, if_neg (in_neg1 c1 c2)]
      exact hI.no w2
  · rw [if_neg (show ¬ sX6_outside x 0 240 = 0 from c), if_neg c]
    exact hI.no (bd_w c)
end zPH
