section zPX
variable {n m i : zP} {cf cf1 : Nat → Int32} {ca ca1 : Nat → Nat → Int32} {f f1 : Nat → Int32} {ar a1 : Nat → Nat → Int32}
theorem nI_2 (r : Nat) : nI r + 2 = nI (r + 2) := nI_add r 2
theorem nI_3 (r : Nat) : nI r + 3 = nI (r + 3) := nI_add r 3
theorem nI_4 (r : Nat) : nI r + 4 = nI (r + 4) := nI_add r 4
theorem nI_5 (r : Nat) : nI r + 5 = nI (r + 5) := nI_add r 5
theorem nI_6 (r : Nat) : nI r + 6 = nI (r + 6) := nI_add r 6
theorem dgA {T : Nat → Int32} {L j : Nat} (h : tp cf ca T L) (hj : j < L) : sX5_digitAt cf ca (nI j) = T j - 48 := by
  unfold sX5_digitAt
  rw [sg_in h hj]
theorem nuA {T : Nat → Int32} {L j : Nat} (h : tp cf ca T L) (hj : j + 1 < L) : sX5_numberAt cf ca (nI j) = two T j := by
  unfold sX5_numberAt two
  rw [dgA h (by omega), nI_1, dgA h hj]
theorem siA {T : Nat → Int32} {L j : Nat} {v : Int32} (h : tp cf ca T L) (hj : j < L) : sX5_signedAt cf ca (nI j) v = sgn T j v := by
  unfold sX5_signedAt sgn
  rw [sg_in h hj]
theorem kb_a : ∀ k : Nat, k < 256 → (0 ≤ sX7_personOf (nI k) → 0 ≤ (sX7_personOf (nI k)).toInt ∧ (sX7_personOf (nI k)).toInt ≤ 4) ∧ (0 ≤ sX7_driftOf (nI k) → 0 ≤ (sX7_driftOf (nI k)).toInt ∧ (sX7_driftOf (nI k)).toInt ≤ 4) ∧ (0 ≤ sX7_ruleOf (nI k) → 0 ≤ (sX7_ruleOf (nI k)).toInt ∧ (sX7_ruleOf (nI k)).toInt ≤ 4) := by decide +kernel
theorem k1A {T : Nat → Int32} {L j : Nat} (h : tp cf ca T L) (hj : j < L) (hc : cP (T j) = true) : sX5_kindAt_1 cf ca (nI j) = sX7_personOf (T j) ∧ bt (sX7_personOf (T j)) 0 4 := by
  obtain ⟨k, hk, e⟩ := (h.2.2.1 j hj).2
  have hc : 0 ≤ sX7_personOf (T j) := of_decide_eq_true hc
  unfold sX5_kindAt_1
  rw [sg_in h hj]
  rw [e] at hc ⊢
  exact ⟨(kd_a k hk).1 hc, (kb_a k hk).1 hc⟩
theorem k2A {T : Nat → Int32} {L j : Nat} (h : tp cf ca T L) (hj : j < L) (hc : cK (T j) = true) : sX5_kindAt_2 cf ca (nI j) = sX7_driftOf (T j) ∧ bt (sX7_driftOf (T j)) 0 4 := by
  obtain ⟨k, hk, e⟩ := (h.2.2.1 j hj).2
  have hc : 0 ≤ sX7_driftOf (T j) := of_decide_eq_true hc
  unfold sX5_kindAt_2
  rw [sg_in h hj]
  rw [e] at hc ⊢
  exact ⟨(kd_a k hk).2.1 hc, (kb_a k hk).2.1 hc⟩
theorem k3A {T : Nat → Int32} {L j : Nat} (h : tp cf ca T L) (hj : j < L) (hc : cR (T j) = true) : sX5_kindAt_3 cf ca (nI j) = sX7_ruleOf (T j) ∧ bt (sX7_ruleOf (T j)) 0 4 := by
  obtain ⟨k, hk, e⟩ := (h.2.2.1 j hj).2
  have hc : 0 ≤ sX7_ruleOf (T j) := of_decide_eq_true hc
  unfold sX5_kindAt_3
  rw [sg_in h hj]
  rw [e] at hc ⊢
  exact ⟨(kd_a k hk).2.2 hc, (kb_a k hk).2.2 hc⟩
/-! how far what is told reaches -/
theorem cD_b {c : Int32} (h : cD c = true) : bt (c - 48) 0 9 := cD_0 h
theorem two_b {T : Nat → Int32} {r : Nat} (h1 : cD (T r) = true) (h2 : cD (T (r + 1)) = true) : bt (two T r) 0 99 := by
  obtain ⟨a, ha, ea⟩ := bt_nI (hi := 9) (cD_b h1) (by omega)
  obtain ⟨b, hb, eb⟩ := bt_nI (hi := 9) (cD_b h2) (by omega)
  unfold two
  rw [ea, eb, show (10 : Int32) = nI 10 from rfl, nI_mul, nI_add]
  exact nI_bt (hi := 99) (by omega) (by omega)
theorem sgn_b {T : Nat → Int32} {r : Nat} {v : Int32} {b : Int} (h : bt v 0 b) (hb : b ≤ 1000) : bt (sgn T r v) (-b) b := by
  unfold bt at *
  have e := tneg (x := v) (by omega) (by omega)
  unfold sgn
  split
  · rw [e]; omega
  · omega
theorem isIn_to {v lo hi : Int32} (h : lo.toInt ≤ v.toInt ∧ v.toInt ≤ hi.toInt) : sX7_isIn v lo hi = true := by
  unfold sX7_isIn
  rw [if_neg (by rw [Int32.lt_iff_toInt_lt]; omega), decide_eq_false (by rw [Int32.lt_iff_toInt_lt]; omega)]
  rfl
theorem cs_t {w v : Int32} {k : Nat} (hw : w.toNatClampNeg = k) (h : sX7_isIn v (sX7_leastOf w) (sX7_mostOf w) = true) : sX7_comesSet ar w v = (true, up2 ar 1 (upd (ar 1) k v)) := by
  unfold sX7_comesSet
  rw [if_pos h, hw]
theorem cs_f {w v : Int32} (h : ¬ sX7_isIn v (sX7_leastOf w) (sX7_mostOf w) = true) : sX7_comesSet ar w v = (false, ar) := by
  unfold sX7_comesSet
  rw [if_neg h]
/-! one told statement alike -/
def alike (Z : Bool × zP × (Nat → Int32) × (Nat → Nat → Int32)) (Y : Bool × (Nat → Int32) × (Nat → Nat → Int32)) : Prop := Z.1 = Y.1 ∧ (Y.1 = true → rN Z.2.1 Y.2.1 Y.2.2)
theorem al_t {m1 : zP} (h : rN m1 f1 a1) : alike (true, m1, cf, ca) (true, f1, a1) := ⟨rfl, fun _ => h⟩
theorem al_f {m1 : zP} : alike (false, m1, cf, ca) (false, f1, a1) := ⟨rfl, fun z => absurd z Bool.false_ne_true⟩
theorem al_d {T : Nat → Int32} {L r c : Nat} (hT : tp cf ca T L) (h14 : ar 14 c = T r) (hc : c < 48) (hb : T r = 100) (hf : fitL (shE (T r)) T (r + 1) = (shE (T r)).length) (hv : ∀ q ∈ vsA (T r) T (r + 1) (6 * c), ar 16 q.1 = q.2) (hl : r + 1 + (shE (T r)).length ≤ L) (hN : rN m f ar) : alike (sX5_tellTo m cf ca (nI r)) (sX7_comes f ar (nI c)) := by
  rw [hb] at hf hv hl
  have hL := hT.1
  have k4 : fitL [cK, cS, cD, cE] T (r + 1) = [cK, cS, cD, cE].length := hf
  have hl : r + 1 + 4 ≤ L := hl
  have g1 := fit_1 k4
  have g2 := fit_1 g1.2
  have g3 := fit_1 g2.2
  have v0 : ar 16 (6 * c) = sX7_driftOf (T (r + 1)) := hv (6 * c, sX7_driftOf (T (r + 1))) List.mem_cons_self
  have v1 : ar 16 (6 * c + 1) = sgn T (r + 2) (T (r + 3) - 48) := hv (6 * c + 1, sgn T (r + 2) (T (r + 3) - 48)) (List.mem_cons_of_mem _ List.mem_cons_self)
  have e0 : sX5_signAt cf ca (nI r) = 100 := (sg_in hT (by omega)).trans hb
  obtain ⟨e1, b1⟩ := k2A hT (show r + 1 < L by omega) g1.1
  have b2 : bt (sgn T (r + 2) (T (r + 3) - 48)) (-9) 9 := sgn_b (cD_b g3.1) (by omega)
  have hi : sX7_isIn (sgn T (r + 2) (T (r + 3) - 48)) (sX7_leastOf 3) (sX7_mostOf 3) = true := isIn_to (by rw [show (sX7_leastOf 3).toInt = -9 by decide, show (sX7_mostOf 3).toInt = 9 by decide]; exact b2)
  have z : sX5_tellTo m cf ca (nI r) = (true, ((upd (upd m.1 9 (sX7_driftOf (T (r + 1)))) 10 (sgn T (r + 2) (T (r + 3) - 48))), m.2), cf, ca) := by
    unfold sX5_tellTo
    rw [e0, if_pos rfl, nI_1, nI_2, nI_3, e1, dgA hT (by omega), siA hT (by omega)]
  have y : sX7_comes f ar (nI c) = (true, upd f 9 (sX7_driftOf (T (r + 1))), up2 ar 1 (upd (ar 1) 3 (sgn T (r + 2) (T (r + 3) - 48)))) := by
    unfold sX7_comes
    rw [s6e rfl hc, nI_clamp (by omega : c < 2 ^ 31), nI_clamp (by omega : 6 * c < 2 ^ 31), q_1 (by omega), h14, hb, if_pos rfl, v0, v1, cs_t (k := 3) (by decide) hi]
  rw [z, y]
  exact al_t ((hN.dk b1).set3 b2)
theorem al_w {T : Nat → Int32} {L r c : Nat} (hT : tp cf ca T L) (h14 : ar 14 c = T r) (hc : c < 48) (hb : T r = 119) (hf : fitL (shE (T r)) T (r + 1) = (shE (T r)).length) (hv : ∀ q ∈ vsA (T r) T (r + 1) (6 * c), ar 16 q.1 = q.2) (hl : r + 1 + (shE (T r)).length ≤ L) (hN : rN m f ar) : alike (sX5_tellTo m cf ca (nI r)) (sX7_comes f ar (nI c)) := by
  rw [hb] at hf hv hl
  have hL := hT.1
  have k4 : fitL [cS, cD, cD, cE] T (r + 1) = [cS, cD, cD, cE].length := hf
  have hl : r + 1 + 4 ≤ L := hl
  have g1 := fit_1 k4
  have g2 := fit_1 g1.2
  have g3 := fit_1 g2.2
  have v0 : ar 16 (6 * c) = sgn T (r + 1) (two T (r + 2)) := hv (6 * c, sgn T (r + 1) (two T (r + 2))) List.mem_cons_self
  have e0 : sX5_signAt cf ca (nI r) = 119 := (sg_in hT (by omega)).trans hb
  have b2 : bt (sgn T (r + 1) (two T (r + 2))) (-99) 99 := sgn_b (two_b g2.1 g3.1) (by omega)
  have hi : sX7_isIn (sgn T (r + 1) (two T (r + 2))) (sX7_leastOf 0) (sX7_mostOf 0) = true := isIn_to (by rw [show (sX7_leastOf 0).toInt = -99 by decide, show (sX7_mostOf 0).toInt = 99 by decide]; exact b2)
  have z : sX5_tellTo m cf ca (nI r) = (true, ((upd m.1 0 (sgn T (r + 1) (two T (r + 2)))), m.2), cf, ca) := by
    unfold sX5_tellTo
    rw [e0, if_neg (by decide), if_neg (by decide), if_neg (by decide), if_neg (by decide), if_pos rfl, nI_1, nI_2, nuA hT (by omega), siA hT (by omega)]
  have y : sX7_comes f ar (nI c) = (true, f, up2 ar 1 (upd (ar 1) 0 (sgn T (r + 1) (two T (r + 2))))) := by
    unfold sX7_comes
    rw [s6e rfl hc, nI_clamp (by omega : c < 2 ^ 31), nI_clamp (by omega : 6 * c < 2 ^ 31), h14, hb, if_neg (by decide), if_neg (by decide), if_neg (by decide), if_neg (by decide), if_pos rfl, v0, cs_t (k := 0) (by decide) hi]
  rw [z, y]
  exact al_t (hN.set0 b2)
theorem ob_in {v lo hi : Int32} : (sX6_outside v lo hi = 0) ↔ sX7_isIn v lo hi = true := by
  unfold sX6_outside sX7_isIn
  by_cases c1 : lo ≤ v
  · have n1 : ¬ v < lo := by rw [Int32.lt_iff_toInt_lt]; rw [Int32.le_iff_toInt_le] at c1; omega
    rw [if_pos c1, if_neg n1]
    by_cases c2 : v ≤ hi
    · have n2 : ¬ hi < v := by rw [Int32.lt_iff_toInt_lt]; rw [Int32.le_iff_toInt_le] at c2; omega
      rw [if_pos c2, decide_eq_false n2]
      exact ⟨fun _ => rfl, fun _ => rfl⟩
    · have n2 : hi < v := by rw [Int32.lt_iff_toInt_lt]; rw [Int32.le_iff_toInt_le] at c2; omega
      rw [if_neg c2, decide_eq_true n2]
      exact ⟨fun z => absurd z (by decide), fun z => absurd z (by decide)⟩
  · have n1 : v < lo := by rw [Int32.lt_iff_toInt_lt]; rw [Int32.le_iff_toInt_le] at c1; omega
    rw [if_neg c1, if_pos n1]
    exact ⟨fun z => absurd z (by decide), fun z => absurd z (by decide)⟩
theorem al_r {T : Nat → Int32} {L r c : Nat} (hT : tp cf ca T L) (h14 : ar 14 c = T r) (hc : c < 48) (hb : T r = 114) (hf : fitL (shE (T r)) T (r + 1) = (shE (T r)).length) (hv : ∀ q ∈ vsA (T r) T (r + 1) (6 * c), ar 16 q.1 = q.2) (hl : r + 1 + (shE (T r)).length ≤ L) (hN : rN m f ar) : alike (sX5_tellTo m cf ca (nI r)) (sX7_comes f ar (nI c)) := by
  rw [hb] at hf hv hl
  have hL := hT.1
  have k4 : fitL [cR, cD, cD, cD, cE] T (r + 1) = [cR, cD, cD, cD, cE].length := hf
  have hl : r + 1 + 5 ≤ L := hl
  have g1 := fit_1 k4
  have g2 := fit_1 g1.2
  have g3 := fit_1 g2.2
  have g4 := fit_1 g3.2
  have v0 : ar 16 (6 * c) = sX7_ruleOf (T (r + 1)) := hv (6 * c, sX7_ruleOf (T (r + 1))) List.mem_cons_self
  have v1 : ar 16 (6 * c + 1) = two T (r + 2) := hv (6 * c + 1, two T (r + 2)) (List.mem_cons_of_mem _ List.mem_cons_self)
  have v2 : ar 16 (6 * c + 2) = T (r + 4) - 48 := hv (6 * c + 2, T (r + 4) - 48) (List.mem_cons_of_mem _ (List.mem_cons_of_mem _ List.mem_cons_self))
  have e0 : sX5_signAt cf ca (nI r) = 114 := (sg_in hT (by omega)).trans hb
  obtain ⟨e1, b1⟩ := k3A hT (show r + 1 < L by omega) g1.1
  have b3 : bt (T (r + 4) - 48) 0 9 := cD_b g4.1
  have zr : sX5_tellRule m cf ca (nI r) = if sX6_outside (two T (r + 2)) 1 20 = 0 then (true, ((upd (upd (upd m.1 11 (sX7_ruleOf (T (r + 1)))) 12 (two T (r + 2))) 13 (T (r + 4) - 48)), m.2)) else (false, m) := by
    unfold sX5_tellRule
    rw [nI_1, nI_2, nI_4, e1, nuA hT (by omega), dgA hT (by omega)]
  have z : sX5_tellTo m cf ca (nI r) = (((sX5_tellRule m cf ca (nI r)).1), (sX5_tellRule m cf ca (nI r)).2, cf, ca) := by
    unfold sX5_tellTo
    rw [e0, if_neg (by decide), if_neg (by decide), if_pos rfl]
  rw [z, zr]
  have y : sX7_comes f ar (nI c) = (if ((sX7_comesSet ar 4 (two T (r + 2))).1) = true then (((sX7_comesSet ((sX7_comesSet ar 4 (two T (r + 2))).2) 5 (((sX7_comesSet ar 4 (two T (r + 2))).2) 16 (6 * c + 2))).1), (upd f 10 (sX7_ruleOf (T (r + 1)))), ((sX7_comesSet ((sX7_comesSet ar 4 (two T (r + 2))).2) 5 (((sX7_comesSet ar 4 (two T (r + 2))).2) 16 (6 * c + 2))).2)) else (false, (upd f 10 (sX7_ruleOf (T (r + 1)))), ((sX7_comesSet ar 4 (two T (r + 2))).2))) := by
    unfold sX7_comes
    rw [s6e rfl hc, nI_clamp (by omega : c < 2 ^ 31), nI_clamp (by omega : 6 * c < 2 ^ 31), q_1 (by omega), q_2 (by omega), h14, hb, if_neg (by decide), if_neg (by decide), if_pos rfl, v0, v1, dec_b]
  rw [y]
  by_cases d : sX7_isIn (two T (r + 2)) 1 20 = true
  · rw [if_pos (ob_in.mpr d)]
    have hd := isIn_ge d
    have b2 : bt (two T (r + 2)) 1 20 := by rw [show (1 : Int32).toInt = 1 by decide, show (20 : Int32).toInt = 20 by decide] at hd; exact hd
    have d4 : sX7_isIn (two T (r + 2)) (sX7_leastOf 4) (sX7_mostOf 4) = true := by rw [show sX7_leastOf 4 = 1 by decide, show sX7_mostOf 4 = 20 by decide]; exact d
    have d5 : sX7_isIn (T (r + 4) - 48) (sX7_leastOf 5) (sX7_mostOf 5) = true := isIn_to (by rw [show (sX7_leastOf 5).toInt = 0 by decide, show (sX7_mostOf 5).toInt = 9 by decide]; exact b3)
    rw [cs_t (k := 4) (by decide) d4, if_pos rfl]
    dsimp only
    rw [up2_ne (show (16 : Nat) ≠ 1 by decide), v2, cs_t (k := 5) (by decide) d5]
    exact al_t (((hN.rk b1).set4 b2).set5 b3)
  · rw [if_neg (fun z => d (ob_in.mp z))]
    have d4 : ¬ sX7_isIn (two T (r + 2)) (sX7_leastOf 4) (sX7_mostOf 4) = true := by rw [show sX7_leastOf 4 = 1 by decide, show sX7_mostOf 4 = 20 by decide]; exact d
    rw [cs_f d4, if_neg Bool.false_ne_true]
    exact al_f
theorem al_st {T : Nat → Int32} {L r c : Nat} (hT : tp cf ca T L) (h14 : ar 14 c = T r) (hc : c < 48) (hb : T r = 115) (hf : fitL (shE (T r)) T (r + 1) = (shE (T r)).length) (hv : ∀ q ∈ vsA (T r) T (r + 1) (6 * c), ar 16 q.1 = q.2) (hl : r + 1 + (shE (T r)).length ≤ L) (hN : rN m f ar) : alike (sX5_tellTo m cf ca (nI r)) (sX7_comes f ar (nI c)) := by
  rw [hb] at hf hv hl
  have hL := hT.1
  have k4 : fitL [cD, cS, cD, cD, cE] T (r + 1) = [cD, cS, cD, cD, cE].length := hf
  have hl : r + 1 + 5 ≤ L := hl
  have g1 := fit_1 k4
  have g2 := fit_1 g1.2
  have g3 := fit_1 g2.2
  have g4 := fit_1 g3.2
  have v0 : ar 16 (6 * c) = T (r + 1) - 48 := hv (6 * c, T (r + 1) - 48) List.mem_cons_self
  have v1 : ar 16 (6 * c + 1) = sgn T (r + 2) (two T (r + 3)) := hv (6 * c + 1, sgn T (r + 2) (two T (r + 3))) (List.mem_cons_of_mem _ List.mem_cons_self)
  have e0 : sX5_signAt cf ca (nI r) = 115 := (sg_in hT (by omega)).trans hb
  have bw : bt (two T (r + 3)) 0 99 := two_b g3.1 g4.1
  obtain ⟨s, hs, es⟩ := bt_nI (hi := 9) (cD_b g1.1) (by omega)
  have zs : sX5_tellStation m cf ca (nI r) = if 1 < nI s then (false, m) else if two T (r + 3) ≤ 20 then (true, (sX2_change m (if nI s = 0 then 1 else 2) (sgn T (r + 2) (two T (r + 3)))).2) else (false, m) := by
    unfold sX5_tellStation
    rw [nI_1, nI_2, nI_3, nuA hT (by omega), dgA hT (by omega), siA hT (by omega), es]
  have z : sX5_tellTo m cf ca (nI r) = (((sX5_tellStation m cf ca (nI r)).1), (sX5_tellStation m cf ca (nI r)).2, cf, ca) := by
    unfold sX5_tellTo
    rw [e0, if_neg (by decide), if_neg (by decide), if_neg (by decide), if_pos rfl]
  rw [z, zs]
  have y : sX7_comes f ar (nI c) = if 2 ≤ nI s then (false, f, ar) else (decide (((sX7_comesSet ar (1 + nI s) (sgn T (r + 2) (two T (r + 3)))).1) = true), f, ((sX7_comesSet ar (1 + nI s) (sgn T (r + 2) (two T (r + 3)))).2)) := by
    unfold sX7_comes
    rw [s6e rfl hc, nI_clamp (by omega : c < 2 ^ 31), nI_clamp (by omega : 6 * c < 2 ^ 31), q_1 (by omega), h14, hb, if_neg (by decide), if_neg (by decide), if_neg (by decide), if_pos rfl, v0, v1, es]
  rw [y]
  -- out of range on both sides
  have hbig : ¬ two T (r + 3) ≤ 20 → ∀ w : Int32, sX7_leastOf w = -20 → sX7_mostOf w = 20 → ¬ sX7_isIn (sgn T (r + 2) (two T (r + 3))) (sX7_leastOf w) (sX7_mostOf w) = true := by
    intro hn w e1 e2 hi
    rw [e1, e2] at hi
    have hg := isIn_ge hi
    rw [Int32.le_iff_toInt_le] at hn
    unfold bt at bw
    have en := tneg (x := two T (r + 3)) (by omega) (by omega)
    have c20 : (20 : Int32).toInt = 20 := by decide
    have m20 : (-20 : Int32).toInt = -20 := by decide
    unfold sgn at hg
    split at hg
    · omega
    · omega
  have hsm : two T (r + 3) ≤ 20 → bt (sgn T (r + 2) (two T (r + 3))) (-20) 20 := by
    intro hn
    rw [Int32.le_iff_toInt_le, show (20 : Int32).toInt = 20 by decide] at hn
    exact sgn_b (show bt (two T (r + 3)) 0 20 from ⟨bw.1, hn⟩) (by omega)
  have l1 : sX7_leastOf 1 = -20 ∧ sX7_mostOf 1 = 20 ∧ sX7_leastOf 2 = -20 ∧ sX7_mostOf 2 = 20 := by decide
  have hin : ∀ v : Int32, bt v (-20) 20 → sX7_isIn v (-20) 20 = true := fun v hv => isIn_to (by rw [show (-20 : Int32).toInt = -20 by decide, show (20 : Int32).toInt = 20 by decide]; exact hv)
  match s, hs with
  | 0, _ =>
    rw [if_neg (show ¬ 1 < nI 0 by decide), if_neg (show ¬ 2 ≤ nI 0 by decide), if_pos (show nI 0 = 0 from rfl), show 1 + nI 0 = 1 by decide]
    by_cases d : two T (r + 3) ≤ 20
    · rw [if_pos d, cs_t (k := 1) (by decide) (by rw [l1.1, l1.2.1]; exact hin _ (hsm d)), show (1 : Int32) = nI 1 from rfl, chg_1]
      exact al_t (hN.set1 (hsm d))
    · rw [if_neg d, cs_f (hbig d 1 l1.1 l1.2.1)]
      exact al_f
  | 1, _ =>
    rw [if_neg (show ¬ 1 < nI 1 by decide), if_neg (show ¬ 2 ≤ nI 1 by decide), if_neg (show ¬ nI 1 = 0 by decide), show 1 + nI 1 = 2 by decide]
    by_cases d : two T (r + 3) ≤ 20
    · rw [if_pos d, cs_t (k := 2) (by decide) (by rw [l1.2.2.1, l1.2.2.2]; exact hin _ (hsm d)), show (2 : Int32) = nI 2 from rfl, chg_2]
      exact al_t (hN.set2 (hsm d))
    · rw [if_neg d, cs_f (hbig d 2 l1.2.2.1 l1.2.2.2)]
      exact al_f
  | s + 2, hs =>
    rw [if_pos (show 1 < nI (s + 2) by rw [Int32.lt_iff_toInt_lt, nI_toInt (by omega), show (1 : Int32).toInt = 1 by decide]; omega), if_pos (show 2 ≤ nI (s + 2) by rw [Int32.le_iff_toInt_le, nI_toInt (by omega), show (2 : Int32).toInt = 2 by decide]; omega)]
    exact al_f
/-! minutes -/
theorem rN.go {x : Int32} (h : rN m f ar) (h0 : bt x 1 60) (d : f 12 + x ≤ 9999) : rN (pm true m cf ca x).1 (sX7_goes f ar x).1 (sX7_goes f ar x).2 := by
  obtain ⟨k, hk, ek⟩ := bt_nI (x := x) (hi := 60) ⟨by have := h0.1; omega, h0.2⟩ (by omega)
  obtain ⟨hs, hb⟩ := h.k.pm (cf := cf) (ca := ca) (x := x) (by have := h0.2; omega)
  have h12 : (sX7_goes f ar x).1 12 = f 12 + x := by
    have h4 := (at_it k 0 0 (sX7_begins f ar).1 (sX7_begins f ar).2 rfl (by omega)).2.1
    rw [gs_i, ek, nI_clamp (by omega)]
    exact h4
  unfold pm at hs hb ⊢
  generalize mpass true x.toNatClampNeg (m, (sX0_clear cf ca).1, (sX0_clear cf ca).2) = Z at hs hb ⊢
  generalize sX7_goes f ar x = Y at hs h12 ⊢
  obtain ⟨⟨a0, b1, a2, a6, a7, a8, a9, a10, a12, a13⟩, ⟨a11, -⟩, hP, hR, -⟩ := hs
  refine ⟨⟨a0, b1, a2, a6, a7, a8, a9, a10, a11 rfl, a12, a13⟩, hP, hR, hb.1, hb.2.1.1, ?_⟩
  rw [Int32.le_iff_toInt_le, show (9999 : Int32).toInt = 9999 by decide +kernel] at d
  rw [a8, h12]
  exact d
theorem al_n {T : Nat → Int32} {L r c : Nat} (hT : tp cf ca T L) (h14 : ar 14 c = T r) (hc : c < 48) (hb : T r = 110) (hf : fitL (shE (T r)) T (r + 1) = (shE (T r)).length) (hv : ∀ q ∈ vsA (T r) T (r + 1) (6 * c), ar 16 q.1 = q.2) (hl : r + 1 + (shE (T r)).length ≤ L) (hN : rN m f ar) : alike (sX5_tellTo m cf ca (nI r)) (sX7_comes f ar (nI c)) := by
  rw [hb] at hf hv hl
  have hL := hT.1
  have k4 : fitL [cD, cD, cE] T (r + 1) = [cD, cD, cE].length := hf
  have hl : r + 1 + 3 ≤ L := hl
  have g1 := fit_1 k4
  have g2 := fit_1 g1.2
  have v0 : ar 16 (6 * c) = two T (r + 1) := hv (6 * c, two T (r + 1)) List.mem_cons_self
  have e0 : sX5_signAt cf ca (nI r) = 110 := (sg_in hT (by omega)).trans hb
  have bw : bt (two T (r + 1)) 0 99 := two_b g1.1 g2.1
  have zs : sX5_tellMinutes m cf ca (nI r) = if two T (r + 1) < 1 then (false, m, cf, ca) else if 60 < two T (r + 1) then (false, m, cf, ca) else if ((m.1 8) + two T (r + 1)) ≤ 9999 then (true, (mpass true (two T (r + 1)).toNatClampNeg (m, cf, ca)).1, (mpass true (two T (r + 1)).toNatClampNeg (m, cf, ca)).2.1, (mpass true (two T (r + 1)).toNatClampNeg (m, cf, ca)).2.2) else (false, m, cf, ca) := by
    unfold sX5_tellMinutes
    rw [nI_1, nuA hT (by omega)]
  have z : sX5_tellTo m cf ca (nI r) = (((sX5_tellMinutes m cf ca (nI r)).1), (sX5_tellMinutes m cf ca (nI r)).2.1, (sX5_tellMinutes m cf ca (nI r)).2.2.1, (sX5_tellMinutes m cf ca (nI r)).2.2.2) := by
    unfold sX5_tellTo
    rw [e0, if_neg (by decide), if_neg (by decide), if_neg (by decide), if_neg (by decide), if_neg (by decide)]
  rw [z, zs]
  have y : sX7_comes f ar (nI c) = if (sX7_isIn (two T (r + 1)) 1 60) = true then (if ((f 12) + two T (r + 1)) ≤ 9999 then (true, ((sX7_goes f ar (two T (r + 1))).1), ((sX7_goes f ar (two T (r + 1))).2)) else (false, f, ar)) else (false, f, ar) := by
    unfold sX7_comes
    rw [s6e rfl hc, nI_clamp (by omega : c < 2 ^ 31), nI_clamp (by omega : 6 * c < 2 ^ 31), h14, hb, if_neg (by decide), if_neg (by decide), if_neg (by decide), if_neg (by decide), if_neg (by decide), v0]
  rw [y]
  generalize two T (r + 1) = x at bw ⊢
  have t1 : (1 : Int32).toInt = 1 := by decide
  have t60 : (60 : Int32).toInt = 60 := by decide
  by_cases c1 : x < 1
  · rw [if_pos c1, if_neg (fun d => by have := (isIn_ge d).1; rw [Int32.lt_iff_toInt_lt] at c1; omega)]
    exact al_f
  rw [if_neg c1]
  by_cases c2 : 60 < x
  · rw [if_pos c2, if_neg (fun d => by have := (isIn_ge d).2; rw [Int32.lt_iff_toInt_lt] at c2; omega)]
    exact al_f
  rw [if_neg c2]
  have hx : bt x 1 60 := by
    rw [Int32.lt_iff_toInt_lt] at c1 c2
    unfold bt
    omega
  rw [if_pos (isIn_to (by rw [t1, t60]; exact hx)), show m.1 8 = f 12 from hN.1.2.2.2.2.2.1]
  by_cases d : f 12 + x ≤ 9999
  · rw [if_pos d, if_pos d]
    refine al_t ?_
    have e := mpass_ind x.toNatClampNeg (m, cf, ca) (m, (sX0_clear cf ca).1, (sX0_clear cf ca).2) rfl
    have hg := hN.go (cf := cf) (ca := ca) hx d
    unfold pm at hg
    rw [e]
    exact hg
  · rw [if_neg d, if_neg d]
    exact al_f
end zPX
