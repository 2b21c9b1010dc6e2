section zPJ
variable {n m i : zP} {cf cf1 : Nat → Int32} {ca ca1 : Nat → Nat → Int32} {f f1 : Nat → Int32} {ar a1 : Nat → Nat → Int32}
theorem rf_N {fi la : Int32} : ∀ (N : Nat), N ≤ 5 → n.1 6 = nI N → (sX2_refineHands n fi la).1 = n.1 ∧ ∀ p : Nat, p < N → (sX2_refineHands n fi la).2 p = upd (n.2 p) 4 (rh fi la (nI p) (n.2 p 4))
  | 0, _, e6 => by
    unfold sX2_refineHands
    rw [e6, if_pos (by decide)]
    exact ⟨rfl, fun p hp => absurd hp (by omega)⟩
  | 1, _, e6 => by
    unfold sX2_refineHands
    rw [e6, if_neg (by decide), if_pos (by decide)]
    exact ⟨rfl, fun p hp => match p, hp with
      | 0, _ => rfl
      | p + 1, hp => absurd hp (by omega)⟩
  | 2, _, e6 => by
    unfold sX2_refineHands
    rw [e6, if_neg (by decide), if_neg (by decide), if_pos (by decide)]
    exact ⟨rfl, fun p hp => match p, hp with
      | 0, _ => rfl
      | 1, _ => rfl
      | p + 2, hp => absurd hp (by omega)⟩
  | 3, _, e6 => by
    unfold sX2_refineHands
    rw [e6, if_neg (by decide), if_neg (by decide), if_neg (by decide), if_pos (by decide)]
    exact ⟨rfl, fun p hp => match p, hp with
      | 0, _ => rfl
      | 1, _ => rfl
      | 2, _ => rfl
      | p + 3, hp => absurd hp (by omega)⟩
  | 4, _, e6 => by
    unfold sX2_refineHands
    rw [e6, if_neg (by decide), if_neg (by decide), if_neg (by decide), if_neg (by decide), if_pos (by decide)]
    exact ⟨rfl, fun p hp => match p, hp with
      | 0, _ => rfl
      | 1, _ => rfl
      | 2, _ => rfl
      | 3, _ => rfl
      | p + 4, hp => absurd hp (by omega)⟩
  | 5, _, e6 => by
    unfold sX2_refineHands
    rw [e6, if_neg (by decide), if_neg (by decide), if_neg (by decide), if_neg (by decide), if_neg (by decide), if_pos (by decide)]
    exact ⟨rfl, fun p hp => match p, hp with
      | 0, _ => rfl
      | 1, _ => rfl
      | 2, _ => rfl
      | 3, _ => rfl
      | 4, _ => rfl
      | p + 5, hp => absurd hp (by omega)⟩
  | N + 6, h, _ => absurd h (by omega)
theorem rh_bt {fi la k x : Int32} (h : bt x 1 5) : bt (rh fi la k x) 1 5 := by
  unfold rh
  by_cases c : k < fi
  · rw [if_pos c]; exact h
  · rw [if_neg c]
    by_cases d : la < k
    · rw [if_pos d]; exact h
    · rw [if_neg d]; exact ⟨by decide, by decide⟩
theorem rN.fine (h : rN n f ar) {fi la : Int32} {g : Nat → Int32} (hg : ∀ p : Nat, (p : Int) < (n.1 6).toInt → g p = rh fi la (nI p) (ar 6 p)) : rN (sX2_refineHands n fi la) f (up2 ar 6 g) := by
  obtain ⟨hS, hP, ⟨r1, r2, r6, r7, r10, r12, r13, rQ_, r9, r11⟩, b0, b8⟩ := h
  obtain ⟨N, hN, e6⟩ := bt_nI (hi := 5) r6 (by omega)
  obtain ⟨h1, h2⟩ := rf_N (n := n) (fi := fi) (la := la) N hN e6
  have hlt : ∀ p : Nat, (p : Int) < (n.1 6).toInt → p < N := fun p hp => by rw [e6, nI_toInt (by omega)] at hp; omega
  generalize sX2_refineHands n fi la = M at h1 h2 ⊢
  obtain ⟨M1, M2⟩ := M
  dsimp only at h1 h2
  subst h1
  refine ⟨hS, fun p hp => ?_, ⟨r1, r2, r6, r7, r10, r12, r13, fun p hp => ?_, r9, r11⟩, b0, b8⟩
  · obtain ⟨p0, p1, p2, p3, p4, p5⟩ := hP p hp
    have e := h2 p (hlt p hp)
    dsimp only at *
    rw [e]
    refine ⟨?_, ?_, ?_, ?_, ?_, ?_⟩
    · rw [upd_ne (by decide), up2_ne (by decide)]; exact p0
    · rw [upd_ne (by decide), up2_ne (by decide)]; exact p1
    · rw [upd_ne (by decide), up2_ne (by decide)]; exact p2
    · rw [upd_ne (by decide), up2_ne (by decide)]; exact p3
    · rw [upd_eq, up2_eq, hg p hp, p4]
    · rw [upd_ne (by decide), up2_ne (by decide)]; exact p5
  · obtain ⟨q0, q1, q2, q3, q4, q5⟩ := rQ_ p hp
    have e := h2 p (hlt p hp)
    dsimp only at *
    rw [e]
    refine ⟨?_, ?_, ?_, ?_, ?_, ?_⟩
    · rw [upd_ne (by decide)]; exact q0
    · rw [upd_ne (by decide)]; exact q1
    · rw [upd_ne (by decide)]; exact q2
    · rw [upd_ne (by decide)]; exact q3
    · rw [upd_eq]; exact rh_bt q4
    · rw [upd_ne (by decide)]; exact q5
/-- two thoughts of the class: as it is, and with fine hands -/
theorem sv_eq {x fi la : Int32} : sX6_savedByFineHands n m cf ca x fi la = (sX0_allCost (pm true n cf ca x).2.2 - sX0_allCost (pm true (sX2_refineHands n fi la) (pm true n cf ca x).2.1 (pm true n cf ca x).2.2 x).2.2, pm true (sX2_refineHands n fi la) (pm true n cf ca x).2.1 (pm true n cf ca x).2.2 x) := by
  unfold sX6_savedByFineHands
  rw [pim_eq]
  dsimp only
  rw [show ∀ a b, (sX6_think n a b).1 = n from fun _ _ => rfl, pim2]
theorem rh_one {k q : Nat} {x : Int32} (hk : k < 100) (hq : q < 100) (y : Nat → Int32) (hx : y q = x) : upd y k 1 q = rh (nI k) (nI k) (nI q) x := by
  unfold rh
  have hl : ∀ a b : Nat, a < 100 → b < 100 → (nI a < nI b ↔ a < b) := fun a b ha hb => by
    rw [Int32.lt_iff_toInt_lt, nI_toInt (by omega), nI_toInt (by omega)]
    omega
  have l1 := hl q k hq hk
  have l2 := hl k q hk hq
  by_cases c : q = k
  · subst c
    rw [upd_eq, if_neg (fun z => by have := l1.mp z; omega), if_neg (fun z => by have := l1.mp z; omega)]
  · rw [upd_ne c, hx]
    by_cases d : q < k
    · rw [if_pos (l1.mpr d)]
    · rw [if_neg (fun z => d (l1.mp z)), if_pos (l2.mpr (by omega))]
set_option maxRecDepth 100000 in
theorem pu_finer (hI : Inv n i cf ca f ar) (x : Int32) (p : Int32) : ((sX6_finer n m cf ca x p).1) = ((sX7_finer f ar x p).1) ∧ Inv n i ((sX6_finer n m cf ca x p).2.2.1) ((sX6_finer n m cf ca x p).2.2.2) ((sX7_finer f ar x p).2.1) ((sX7_finer f ar x p).2.2) := by
  unfold sX6_finer sX7_finer
  by_cases c : sX7_bound x 0 240 = 0
  · rw [if_pos (show sX6_outside x 0 240 = 0 from c), if_pos c]
    have hx := bd_hi c
    rw [has_eq hI]
    by_cases cp : sX7_isPerson f p = true
    · rw [if_pos cp, if_pos cp]
      obtain ⟨k, rfl, hk, hk5⟩ := per_k hI cp
      have t1 := th_kt (iv_mk hI) hx
      have k1 : sX0_allCost (pm true n cf ca x).2.2 = _ := (hI.1.k.cost cf ca hx).1
      have hc1 := pm_ck (mg := true) (n := n) (cf := cf) (ca := ca) (x := x)
      rw [sv_eq, k1, nI_clamp (by omega)]
      generalize pm true n cf ca x = Z at hc1 ⊢
      generalize sX7_thinks f ar x = Y at t1 ⊢
      have e6 : Y.2.2 6 = ar 6 := t1.2 6 (by omega)
      have hF := hI.1.fine (fi := nI k) (la := nI k) (g := upd (Y.2.2 6) k 1) (fun p hp => rh_one (by omega) (by have := (iv_sz hI).2; omega) _ (by rw [e6]))
      have kF : kt f (up2 ar 6 (upd (Y.2.2 6) k 1)) Y.2.1 (up2 Y.2.2 6 (upd (Y.2.2 6) k 1)) := by
        refine ⟨t1.1, fun j hj => ?_⟩
        by_cases c6 : j = 6
        · subst c6; rw [up2_eq, up2_eq]
        · rw [up2_ne c6, up2_ne c6, t1.2 j hj]
      have k2 : sX0_allCost (pm true (sX2_refineHands n (nI k) (nI k)) Z.2.1 Z.2.2 x).2.2 = _ := ((hF.k.kt kF).cost Z.2.1 Z.2.2 hx).1
      have hc2 := pm_ck (mg := true) (n := sX2_refineHands n (nI k) (nI k)) (cf := Z.2.1) (ca := Z.2.2) (x := x)
      have t2 := th_kt (kF.ok hF.mk) hx
      rw [k2]
      generalize sX7_thinks Y.2.1 (up2 Y.2.2 6 (upd (Y.2.2 6) k 1)) x = W at t2 ⊢
      generalize pm true (sX2_refineHands n (nI k) (nI k)) Z.2.1 Z.2.2 x = V at hc2 ⊢
      refine ⟨rfl, hI.mind (hc1.tr hc2) ⟨fun j hj => (t2.1 j hj).trans (t1.1 j hj), fun j hj => ?_⟩⟩
      dsimp only
      by_cases c6 : j = 6
      · subst c6
        rw [up2_eq, t2.2 6 (by omega), up2_eq, ← e6]
        funext q
        by_cases cq : q = k
        · subst cq; rw [upd_eq]
        · rw [upd_ne cq, upd_ne cq]
      · rw [up2_ne c6, t2.2 j hj, up2_ne c6, t1.2 j hj]
    · rw [if_neg cp, if_neg cp]
      exact mk4 (R := sX6_refuseTold ca _) (L := sX7_lower ar _) (hI.lower w1)
  · rw [if_neg (show ¬ sX6_outside x 0 240 = 0 from c), if_neg c]
    exact mk4 (R := sX6_refuseTold ca _) (L := sX7_lower ar _) (hI.lower (bd_w c))
end zPJ
