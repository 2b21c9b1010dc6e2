section zPZ
variable {n m i : zP} {cf cf1 : Nat → Int32} {ca ca1 : Nat → Nat → Int32} {f f1 : Nat → Int32} {ar a1 : Nat → Nat → Int32}
theorem tp.kept {T : Nat → Int32} {L : Nat} (h : tp cf ca T L) (k : ck cf ca cf1 ca1) : tp cf1 ca1 T L := by
  unfold tp at h ⊢
  rw [k.1 2 (by decide) (by decide) (by decide), k.2 33 (by decide) (by decide) (by decide)]
  exact h
theorem st_mono (T : Nat → Int32) : ∀ {a b : Nat}, a ≤ b → stS T a ≤ stS T b
  | a, 0, h => by rw [show a = 0 by omega]; exact Nat.le_refl _
  | a, b + 1, h => by
    by_cases c : a = b + 1
    · rw [c]; exact Nat.le_refl _
    · have := st_mono T (show a ≤ b by omega)
      show stS T a ≤ stS T b + 1 + (shE (T (stS T b))).length
      omega
theorem p15 : (sX7_passesAll_1p f ar).2 15 = ar 15 := by
  unfold sX7_passesAll_1p
  dsimp only
  rw [up2_ne (by decide), up2_ne (by decide), up2_ne (by decide), up2_ne (by decide), up2_ne (by decide), up2_ne (by decide), up2_ne (by decide)]
/-- what the telling of both comes to -/
def TA (A : Int32 × zP × zP × (Nat → Int32) × (Nat → Nat → Int32)) (B : Int32 × (Nat → Int32) × (Nat → Nat → Int32)) (n : zP) (cf : Nat → Int32) (ca : Nat → Nat → Int32) (f : Nat → Int32) (ar : Nat → Nat → Int32) : Prop := A.1 = B.1 ∧ ck cf ca A.2.2.2.1 A.2.2.2.2 ∧ ((A.2.1 = n ∧ ∃ (f1 : Nat → Int32) (a1 : Nat → Nat → Int32), kc f ar (f1, a1) ∧ B.2 = sX7_passesAll_1p f1 a1) ∨ (rN A.2.1 B.2.1 B.2.2 ∧ kc f ar B.2))
theorem TA.up {A : Int32 × zP × zP × (Nat → Int32) × (Nat → Nat → Int32)} {B : Int32 × (Nat → Int32) × (Nat → Nat → Int32)} (h : TA A B n cf1 ca1 f1 a1) (k : ck cf ca cf1 ca1) (q : kc f ar (f1, a1)) : TA A B n cf ca f ar := by
  obtain ⟨h1, h2, h3⟩ := h
  refine ⟨h1, k.tr h2, ?_⟩
  rcases h3 with ⟨h3, g, b, h4, h5⟩ | ⟨h3, h4⟩
  · exact Or.inl ⟨h3, g, b, q.tr h4, h5⟩
  · exact Or.inr ⟨h3, q.tr h4⟩
theorem tl_it {T : Nat → Int32} {M L : Nat} {n : zP} : ∀ (j J a c : Nat) (m : zP) (cf : Nat → Int32) (ca : Nat → Nat → Int32) (f : Nat → Int32) (ar : Nat → Nat → Int32), tp cf ca T L → c + j = M → M ≤ 40 → f 19 = nI M → stS T M = L → L ≤ stS T c + J → okS T ar M → rN m f ar → TA (itX6_tellAll J a n m cf ca (nI c) (nI (stS T c))) (itX7_parlour2 j c f ar) n cf ca f ar
  | 0, J, a, c, m, cf, ca, f, ar, hT, hc, hM, h19, hs, hJ, hk, hN => by
    have ec : c = M := by omega
    have er : stS T c = L := by rw [ec, hs]
    have hL := hT.1
    have e1 : itX6_tellAll J a n m cf ca (nI c) (nI (stS T c)) = (nI c, m, m, cf, ca) := by
      match J with
      | 0 => rfl
      | J + 1 =>
        refine itX6_tellAll_r ?_
        unfold stX6_tellAll
        rw [if_pos (by rw [hT.2.1, er]; exact nI_le (Nat.le_refl _) (by omega))]
    have e2 : itX7_parlour2 0 c f ar = (f 19, f, ar) := rfl
    rw [e1, e2]
    exact ⟨by rw [h19, ec], ck.rf, Or.inr ⟨hN, kc.rf⟩⟩
  | j + 1, J, a, c, m, cf, ca, f, ar, hT, hc, hM, h19, hs, hJ, hk, hN => by
    have hL := hT.1
    have hcM : c < M := by omega
    obtain ⟨k15, k14, khd, kf, kv⟩ := hk c hcM
    have hmo : stS T (c + 1) ≤ stS T M := st_mono T hcM
    have hsn : stS T (c + 1) = stS T c + 1 + (shE (T (stS T c))).length := rfl
    have hmo2 : stS T c + 1 + (shE (T (stS T c))).length ≤ L := by omega
    match J, hJ with
    | 0, hJ => exact absurd hJ (by omega)
    | J + 1, hJ =>
      have hal := al hT k14 (by omega) khd kf kv hmo2 hN
      have hkc := (co_ok (c := c) (by omega) hN.mk hN.tz (fun e => (okS_t hk c hcM).2 e)).2
      have hck : ck cf ca (sX5_tellTo m cf ca (nI (stS T c))).2.2.1 (sX5_tellTo m cf ca (nI (stS T c))).2.2.2 := ⟨fun q h3 h4 h5 => tellTo_cf h3 h4 h5, fun q h3 h4 h5 => tellTo_ca h3 h4 h5⟩
      have s1 : stX6_tellAll a n m cf ca (nI c) (nI (stS T c)) = if ((sX5_tellTo m cf ca (nI (stS T c))).1) = true then .inr (n, (sX5_tellTo m cf ca (nI (stS T c))).2.1, (sX5_tellTo m cf ca (nI (stS T c))).2.2.1, (sX5_tellTo m cf ca (nI (stS T c))).2.2.2, nI c + 1, (nI (stS T c) + (1 + (sJ0_length_8abf5 (sX5_shapeAt ((sX5_tellTo m cf ca (nI (stS T c))).2.2.1) ((sX5_tellTo m cf ca (nI (stS T c))).2.2.2) (nI (stS T c))))))) else .inl ((-2000) - nI (stS T c), n, (sX5_tellTo m cf ca (nI (stS T c))).2.1, (sX5_tellTo m cf ca (nI (stS T c))).2.2.1, (sX5_tellTo m cf ca (nI (stS T c))).2.2.2) := by
        unfold stX6_tellAll
        rw [if_neg (show ¬ cf 2 ≤ nI (stS T c) by rw [hT.2.1]; exact nI_ge (by omega) (by omega))]
      have s2 : stX7_parlour2 c f ar = if ((sX7_comes f ar (nI c)).1) = true then .inr (((sX7_comes f ar (nI c)).2.1), ((sX7_comes f ar (nI c)).2.2)) else .inl ((-2000) - (((sX7_passesAll_1p ((sX7_comes f ar (nI c)).2.1) ((sX7_comes f ar (nI c)).2.2)).2) 15 c), ((sX7_passesAll_1p ((sX7_comes f ar (nI c)).2.1) ((sX7_comes f ar (nI c)).2.2)).1), ((sX7_passesAll_1p ((sX7_comes f ar (nI c)).2.1) ((sX7_comes f ar (nI c)).2.2)).2)) := by
        unfold stX7_parlour2
        rw [nI_clamp (show c < 2 ^ 31 by omega)]
      generalize sX5_tellTo m cf ca (nI (stS T c)) = Z at hal hck s1
      generalize sX7_comes f ar (nI c) = Y at hal hkc s2
      obtain ⟨z1, z2⟩ := hal
      by_cases d : Y.1 = true
      · rw [if_pos (z1.trans d)] at s1
        rw [if_pos d] at s2
        have hT1 : tp Z.2.2.1 Z.2.2.2 T L := hT.kept hck
        have en : nI (stS T c) + (1 + (sJ0_length_8abf5 (sX5_shapeAt Z.2.2.1 Z.2.2.2 (nI (stS T c))))) = nI (stS T (c + 1)) := by
          rw [sc_at, sg_in hT1 (by omega), (shp khd).2.1, show (1 : Int32) = nI 1 from rfl, nI_add, nI_add, hsn]
          congr 1
          omega
        rw [nI_1, en] at s1
        rw [itX6_tellAll_n s1, itX7_parlour2_n s2]
        have ih := tl_it (n := n) j J (a + 1) (c + 1) Z.2.1 Z.2.2.1 Z.2.2.2 Y.2.1 Y.2.2 hT1 (by omega) hM ((hkc.1 19 (by omega) (by omega)).trans h19) hs (by rw [hsn]; omega) (okS_k hk (fun q _ => by rw [hkc.2 14 (by omega) (by omega)]) (fun q _ => by rw [hkc.2 15 (by omega) (by omega)]) (fun q _ => by rw [hkc.2 16 (by omega) (by omega)])) (z2 d)
        exact ih.up hck hkc
      · rw [if_neg (fun z => d (z1.symm.trans z))] at s1
        rw [if_neg d] at s2
        rw [itX6_tellAll_r s1, itX7_parlour2_r s2]
        refine ⟨?_, hck, Or.inl ⟨rfl, Y.2.1, Y.2.2, hkc, rfl⟩⟩
        show (-2000) - nI (stS T c) = (-2000) - ((sX7_passesAll_1p Y.2.1 Y.2.2).2 15 c)
        rw [p15, hkc.2 15 (by omega) (by omega), k15]
/-- the telling ended, no letter is left -/
theorem Inv.tell {n1 : zP} (h : Inv n i cf ca f ar) (hN : rN n1 f1 a1) (k : ck cf ca cf1 ca1) (h17 : f1 17 = 0) (h21 : f1 21 = f 21) (h35 : f1 35 = f 35) (h0 : a1 0 = ar 0) (h34 : a1 34 = ar 34) (h20 : ∀ j : Nat, j < 41 → a1 20 j = ar 20 j) : Inv n1 i (upd cf1 2 0) ca1 f1 a1 := by
  obtain ⟨-, h2, h3, h4, h5⟩ := h
  have c0 : upd cf1 2 0 0 = cf 0 := (upd_ne (by decide)).trans (k.1 0 (by decide) (by decide) (by decide))
  have c1 : upd cf1 2 0 1 = cf 1 := (upd_ne (by decide)).trans (k.1 1 (by decide) (by decide) (by decide))
  have c2 : upd cf1 2 0 2 = 0 := upd_eq
  refine ⟨hN, ⟨?_, fun z => ?_⟩, ⟨?_, ?_, ?_, fun j hj => ?_⟩, ⟨?_, ?_, ?_⟩, fun j hj => ?_⟩
  · rw [c0, h21]; exact h2.1
  · rw [c0] at z
    exact (h2.2 z).im h20
  · rw [c2, h17]
  · rw [c2]; exact ⟨by decide, by decide⟩
  · rw [k.2 33 (by decide) (by decide) (by decide)]; exact h3.2.2.1
  · rw [c2, i0] at hj
    exact absurd hj (by omega)
  · rw [c1, h35]; exact h4.1
  · rw [c1]; exact h4.2.1
  · rw [c1, k.2 34 (by decide) (by decide) (by decide), h34]; exact h4.2.2
  · rw [k.2 35 (by decide) (by decide) (by decide), h0]; exact h5 j hj
/-- what comes back where a statement can't be -/
theorem p_back {F : Nat → Int32} {A : Nat → Nat → Int32} (hN : rN n F A) (h20 : ar 20 = kP F A) : rN n (sX7_passesAll_1p f ar).1 (sX7_passesAll_1p f ar).2 := by
  refine hN.pw ?_ (fun j hj => ?_) (fun k h2 h7 p hp => ?_)
  · unfold sX7_passesAll_1p
    dsimp only
    rw [h20]
    exact ⟨rfl, rfl, rfl, rfl, rfl⟩
  · rw [← kP_1 (f := F) (ar := A) hj, ← h20]
    exact if_pos hj
  · match k, h2, h7 with
    | 0, h2, _ => exact absurd h2 (by omega)
    | 1, h2, _ => exact absurd h2 (by omega)
    | 2, _, _ => rw [← kP_2 (f := F) (ar := A) hp, ← h20]; exact if_pos hp
    | 3, _, _ => rw [← kP_3 (f := F) (ar := A) hp, ← h20]; exact if_pos hp
    | 4, _, _ => rw [← kP_4 (f := F) (ar := A) hp, ← h20]; exact if_pos hp
    | 5, _, _ => rw [← kP_5 (f := F) (ar := A) hp, ← h20]; exact if_pos hp
    | 6, _, _ => rw [← kP_6 (f := F) (ar := A) hp, ← h20]; exact if_pos hp
    | 7, _, _ => rw [← kP_7 (f := F) (ar := A) hp, ← h20]; exact if_pos hp
    | k + 8, _, h7 => exact absurd h7 (by omega)
theorem p_f {k : Nat} (h : k < 8 ∨ (12 < k ∧ k < 22) ∨ 23 < k) : (sX7_passesAll_1p f ar).1 k = f k := by
  unfold sX7_passesAll_1p
  dsimp only
  rw [upd_ne (by omega), upd_ne (by omega), upd_ne (by omega), upd_ne (by omega), upd_ne (by omega), upd_ne (by omega), upd_ne (by omega)]
theorem p_a {k : Nat} (h : k < 1 ∨ 7 < k) : (sX7_passesAll_1p f ar).2 k = ar k := by
  unfold sX7_passesAll_1p
  dsimp only
  rw [up2_ne (by omega), up2_ne (by omega), up2_ne (by omega), up2_ne (by omega), up2_ne (by omega), up2_ne (by omega), up2_ne (by omega)]
theorem eta3 {α β γ : Type} (X : α × β × γ) : (X.1, X.2.1, X.2.2) = X := rfl
theorem eta5 {α β γ δ ε : Type} (X : α × β × γ × δ × ε) : (X.1, X.2.1, X.2.2.1, X.2.2.2.1, X.2.2.2.2) = X := rfl
theorem rd_eq {F : Nat → Int32} {A : Nat → Nat → Int32} : rdT F A = itX7_parlour2 ((sX7_passesAll_1k (upd F 17 0) A).1 19).toNatClampNeg 0 (sX7_passesAll_1k (upd F 17 0) A).1 (sX7_passesAll_1k (upd F 17 0) A).2 := by
  unfold rdT
  exact eta3 _
theorem th_eq : sX6_think n cf ca = (n, (sX0_clear cf ca).1, (sX0_clear cf ca).2) := by
  unfold sX6_think
  rfl
theorem ta_eq : sX6_tellAll n m cf ca = itX6_tellAll 96 0 n n (sX0_clear cf ca).1 (sX0_clear cf ca).2 0 0 := by
  unfold sX6_tellAll
  rw [th_eq]
theorem pa_eq : sX7_parlour f ar = itX7_parlour 300 0 (upd (upd f 18 0) 19 0) ar 1 := by
  unfold sX7_parlour
  exact eta3 _
set_option maxRecDepth 100000 in
theorem pu_parlour {n m i : zP} {cf : Nat → Int32} {ca : Nat → Nat → Int32} {f : Nat → Int32} {ar : Nat → Nat → Int32} (hI : Inv n i cf ca f ar) : ((sX6_parlour n m cf ca).1) = ((sX7_parlour f ar).1) ∧ Inv ((sX6_parlour n m cf ca).2.1) i ((sX6_parlour n m cf ca).2.2.2.1) ((sX6_parlour n m cf ca).2.2.2.2) ((sX7_parlour f ar).2.1) ((sX7_parlour f ar).2.2) := by
  obtain ⟨L, hT, h17⟩ := tp_I hI
  have hL := hT.1
  have hp := pI_i (iv_17 hI) (iv_mk hI) (iv_tz hI)
  have eT : tT (upd (upd f 18 0) 19 0) ar = tT f ar := tT_eq rfl rfl
  have hj := pj_it (cf := cf) (ca := ca) 300 0 0 0 L (upd (upd f 18 0) 19 0) ar 0 0 hp (by rw [eT]; exact hT) h17 rfl rfl (Nat.zero_le _) rfl (by decide)
  rw [eT] at hj
  have e6 : sX5_firstUnfit cf ca = itX5_firstUnfit cf ca (L - 0) 0 0 0 := by
    unfold sX5_firstUnfit
    rw [hT.2.1, nI_clamp (by omega), Nat.sub_zero]
  rw [← e6, ← pa_eq] at hj
  rcases hj with ⟨e, F, A, he, q1, q2, q3⟩ | ⟨M, F, A, q1, q2, q3, q4, q5, q6, q7⟩
  · have s6 : sX6_parlour n m cf ca = ((-1000) - nI e, n, m, upd cf 2 0, ca) := by
      unfold sX6_parlour
      rw [q1, if_neg (show ¬ nI e = -9 from fun z => by have := congrArg Int32.toInt z; rw [nI_toInt (by omega), show (-9 : Int32).toInt = -9 by decide] at this; omega)]
    have f3 : ∀ k : Nat, k ≠ 17 → k ≠ 18 → k ≠ 19 → upd F 17 0 k = f k := fun k h17 h18 h19 => by rw [upd_ne h17, q3.1 k h18 h19, upd_ne h19, upd_ne h18]
    rw [s6, q2]
    refine ⟨rfl, ?_⟩
    dsimp only
    exact hI.tell (hI.1.pw ⟨f3 8 (by decide) (by decide) (by decide), f3 9 (by decide) (by decide) (by decide), f3 10 (by decide) (by decide) (by decide), f3 11 (by decide) (by decide) (by decide), f3 12 (by decide) (by decide) (by decide)⟩ (fun j hj => by rw [q3.2 1 (by decide) (by decide) (by decide)]) (fun k h2 h7 p hp => by rw [q3.2 k (by omega) (by omega) (by omega)])) ck.rf upd_eq (f3 21 (by decide) (by decide) (by decide)) (f3 35 (by decide) (by decide) (by decide)) (q3.2 0 (by decide) (by decide) (by decide)) (q3.2 34 (by decide) (by decide) (by decide)) (fun j hj => by rw [q3.2 20 (by decide) (by decide) (by decide)])
  · have s6 : sX6_parlour n m cf ca = ((sX6_tellAll n m cf ca).1, (sX6_tellAll n m cf ca).2.1, (sX6_tellAll n m cf ca).2.2.1, (upd (sX6_tellAll n m cf ca).2.2.2.1 2 0), (sX6_tellAll n m cf ca).2.2.2.2) := by
      unfold sX6_parlour
      rw [q1, if_pos rfl]
    have f3 : ∀ k : Nat, k ≠ 17 → k ≠ 18 → k ≠ 19 → upd F 17 0 k = f k := fun k h17 h18 h19 => by rw [upd_ne h17, q3.1 k h18 h19, upd_ne h19, upd_ne h18]
    have hN : rN n (upd F 17 0) A := hI.1.pw ⟨f3 8 (by decide) (by decide) (by decide), f3 9 (by decide) (by decide) (by decide), f3 10 (by decide) (by decide) (by decide), f3 11 (by decide) (by decide) (by decide), f3 12 (by decide) (by decide) (by decide)⟩ (fun j hj => by rw [q3.2 1 (by decide) (by decide) (by decide)]) (fun k h2 h7 p hp => by rw [q3.2 k (by omega) (by omega) (by omega)])
    obtain ⟨w1, w2, w3⟩ := pk1 (f := upd F 17 0) (ar := A)
    rw [s6, q2, rd_eq, ta_eq]
    generalize sX7_passesAll_1k (upd F 17 0) A = S at w1 w2 w3 ⊢
    have s19 : S.1 19 = nI M := by rw [w1 19 (by decide) (by decide), upd_ne (by decide)]; exact q4
    have hS : rN n S.1 S.2 := hN.pw ⟨w1 8 (by decide) (by decide), w1 9 (by decide) (by decide), w1 10 (by decide) (by decide), w1 11 (by decide) (by decide), w1 12 (by decide) (by decide)⟩ (fun j hj => by rw [w2 1 (by decide)]) (fun k h2 h7 p hp => by rw [w2 k (by omega)])
    have ta := tl_it (n := n) (T := tT f ar) (M := M) (L := L) M 96 0 0 n (sX0_clear cf ca).1 (sX0_clear cf ca).2 S.1 S.2 (hT.kept ck_clear) (by omega) q5 s19 q6 (by omega) (okS_k q7 (fun q _ => by rw [w2 14 (by decide)]) (fun q _ => by rw [w2 15 (by decide)]) (fun q _ => by rw [w2 16 (by decide)])) hS
    rw [s19, nI_clamp (by omega)]
    have ez : stS (tT f ar) 0 = 0 := rfl
    rw [ez, show nI 0 = (0 : Int32) from rfl] at ta
    generalize itX6_tellAll 96 0 n n (sX0_clear cf ca).1 (sX0_clear cf ca).2 0 0 = V at ta ⊢
    generalize itX7_parlour2 M 0 S.1 S.2 = W at ta ⊢
    obtain ⟨t1, t2, t3⟩ := ta
    have hc := ck_clear.tr t2
    have z20 : ∀ j : Nat, j < 41 → S.2 20 j = ar 20 j := fun j hj => by rw [w3, kP_0 (by omega), q3.2 20 (by decide) (by decide) (by decide)]
    have zf : ∀ k : Nat, k ≠ 17 → k ≠ 18 → k ≠ 19 → k ≠ 22 → k ≠ 23 → S.1 k = f k := fun k h1 h2 h3 h4 h5 => (w1 k h4 h5).trans (f3 k h1 h2 h3)
    have z17 : S.1 17 = 0 := (w1 17 (by decide) (by decide)).trans upd_eq
    have z0 : S.2 0 = ar 0 := (w2 0 (by decide)).trans (q3.2 0 (by decide) (by decide) (by decide))
    have z34 : S.2 34 = ar 34 := (w2 34 (by decide)).trans (q3.2 34 (by decide) (by decide) (by decide))
    have z21 := zf 21 (by decide) (by decide) (by decide) (by decide) (by decide)
    have z35 := zf 35 (by decide) (by decide) (by decide) (by decide) (by decide)
    refine ⟨t1, ?_⟩
    dsimp only
    rcases t3 with ⟨t3, g, b, t4, t5⟩ | ⟨t3, t4⟩
    · obtain ⟨V1, V2, V3, V4, V5⟩ := V
      obtain ⟨W1, W2, W3⟩ := W
      dsimp only at t3 t5 hc ⊢
      have x2 : W2 = (sX7_passesAll_1p g b).1 := congrArg Prod.fst t5
      have x3 : W3 = (sX7_passesAll_1p g b).2 := congrArg Prod.snd t5
      rw [t3, x2, x3]
      have g17 : g 17 = S.1 17 := t4.1 17 (by omega) (by omega)
      have g21 : g 21 = S.1 21 := t4.1 21 (by omega) (by omega)
      have g35 : g 35 = S.1 35 := t4.1 35 (by omega) (by omega)
      have b0 : b 0 = S.2 0 := t4.2 0 (by omega) (by omega)
      have b20 : b 20 = S.2 20 := t4.2 20 (by omega) (by omega)
      have b34 : b 34 = S.2 34 := t4.2 34 (by omega) (by omega)
      exact hI.tell (p_back hN (b20.trans w3)) hc ((p_f (by omega)).trans (g17.trans z17)) ((p_f (by omega)).trans (g21.trans z21)) ((p_f (by omega)).trans (g35.trans z35)) ((p_a (by omega)).trans (b0.trans z0)) ((p_a (by omega)).trans (b34.trans z34)) (fun j hj => by rw [p_a (by omega), b20]; exact z20 j hj)
    · exact hI.tell t3 hc ((t4.1 17 (by omega) (by omega)).trans z17) ((t4.1 21 (by omega) (by omega)).trans z21) ((t4.1 35 (by omega) (by omega)).trans z35) ((t4.2 0 (by omega) (by omega)).trans z0) ((t4.2 34 (by omega) (by omega)).trans z34) (fun j hj => by rw [t4.2 20 (by omega) (by omega)]; exact z20 j hj)
end zPZ
