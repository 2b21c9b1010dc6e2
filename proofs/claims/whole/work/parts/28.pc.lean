theorem nI_mul (a b : Nat) : nI a * nI b = nI (a * b) := (Int32.ofNat_mul a b).symm
theorem nI_sub {a b : Nat} (h : b ≤ a) : nI a - nI b = nI (a - b) := by
  have e : nI a = nI (a - b) + nI b := by rw [nI_add, Nat.sub_add_cancel h]
  rw [e]
  grind
theorem bt_nI {x : Int32} {hi : Nat} (h : bt x 0 hi) (hh : hi < 2 ^ 31) : ∃ k : Nat, k ≤ hi ∧ x = nI k := by
  obtain ⟨k, hk, e⟩ := nI_of (x := x) (by rw [Int32.lt_iff_toInt_lt, i0]; have := h.1; omega)
  refine ⟨k, ?_, e⟩
  have := h.2
  rw [e, nI_toInt hk] at this
  omega
theorem nI_bt {k hi : Nat} (h : k ≤ hi) (hh : hi < 2 ^ 31) : bt (nI k) 0 hi := by
  unfold bt
  rw [nI_toInt (by omega)]
  omega
/-! what one is bothered by is small -/
theorem bo_bt {a b c : Nat} {q0 q3 q4 q5 : Int32} (ha : a ≤ 270) (hb : b ≤ 9) (hc : c ≤ 9) : bt (sX3_botheredBy q0 (nI b) (nI c) q3 q4 q5 (nI a)) 0 5000 := by
  have m1 : a * b ≤ 270 * 9 := Nat.mul_le_mul ha hb
  have e2 : (2 : Int32) = nI 2 := rfl
  have dl : ∀ u : Nat, u ≤ 100 → bt (if nI u ≤ nI a then (nI a - nI u) * nI b else 0) 0 5000 := by
    intro u hu
    by_cases c1 : nI u ≤ nI a
    · have c2 := (nI_leI (by omega) (by omega)).mp c1
      rw [if_pos c1, nI_sub c2, nI_mul]
      have : (a - u) * b ≤ 270 * 9 := Nat.mul_le_mul (by omega) hb
      exact nI_bt (hi := 5000) (by omega) (by omega)
    · rw [if_neg c1]
      exact ⟨by decide, by decide⟩
  have e2x : (2 : Int32) * nI a * nI b = nI (2 * a * b) := by rw [e2, nI_mul, nI_mul]
  have m2 : 2 * a * b ≤ 2 * (270 * 9) := by rw [Nat.mul_assoc]; omega
  unfold sX3_botheredBy
  rw [deaf_eq, deaf_eq, e2x, show (2 : Int32) * nI c = nI (2 * c) by rw [e2, nI_mul], nI_mul]
  split
  · exact dl c (by omega)
  · split
    · exact nI_bt (hi := 5000) (by omega) (by omega)
    · split
      · split
        · exact nI_bt (hi := 5000) (by omega) (by omega)
        · rw [nI_add]
          exact nI_bt (hi := 5000) (by omega) (by omega)
      · split
        · split
          · exact dl (2 * c) (by omega)
          · exact nI_bt (hi := 5000) (by omega) (by omega)
        · exact nI_bt (hi := 5000) (by omega) (by omega)
theorem size_bt {x y : Int32} (hx : bt x (-250) 250) (hy : bt y (-20) 20) : bt (sX7_size (x - y)) 0 270 := by
  unfold bt at hx hy ⊢
  have e := tsub (x := x) (y := y) (by omega) (by omega) (by omega) (by omega)
  have en := tneg (x := x - y) (by rw [e]; omega) (by rw [e]; omega)
  unfold sX7_size
  split
  · rename_i c
    rw [Int32.le_iff_toInt_le, i0] at c
    omega
  · rename_i c
    rw [Int32.le_iff_toInt_le, i0] at c
    omega
theorem bB_bt {m : zP} {p : Nat} (hR : rR m) (h0 : bt (m.1 0) (-250) 250) (hp : (p : Int) < (m.1 6).toInt) : bt (bB m p) 0 5000 := by
  obtain ⟨r1, r2, -, -, -, -, -, hQ, -, -⟩ := hR
  obtain ⟨-, q1, q2, -, -, -⟩ := hQ p hp
  obtain ⟨b, hb, eb⟩ := bt_nI (hi := 9) q1 (by omega)
  obtain ⟨c, hc, ec⟩ := bt_nI (hi := 9) q2 (by omega)
  have ho : bt (if (m.2 p 3) = 0 then o0_ m else o1_ m) 0 270 := by
    unfold o0_ o1_
    rw [off_eq, off_eq]
    split
    · exact size_bt h0 r1
    · exact size_bt h0 r2
  obtain ⟨a, ha, ea⟩ := bt_nI (hi := 270) ho (by omega)
  unfold bB
  rw [eb, ec, ea]
  exact bo_bt ha hb hc
/-! the rest of a minute -/
theorem bB_eq {m : zP} {f : Nat → Int32} {ar : Nat → Nat → Int32} {p : Nat} (hS : rS0 m.1 f ar) (hP : rP m.2 (m.1 6) ar) (hR : rR m) (hp : (p : Int) < (m.1 6).toInt) (h5 : p < 5) : bB m p = bR ar p := by
  obtain ⟨a0, a1, a2, -⟩ := hS
  obtain ⟨p0, p1, p2, p3, p4, p5⟩ := hP p hp
  obtain ⟨-, -, -, q3, -, -⟩ := hR.2.2.2.2.2.2.2.1 p hp
  unfold bB bR o0_ o1_
  rw [off_eq, off_eq, if_pos rfl, if_neg (by decide : ¬ (1 : Int32) = 0), pl_eq (by rw [← p3]; exact q3), ← p3, ← a0, ← a1, ← a2]
  have e : (if m.2 p 3 = 0 then sX7_size (m.1 0 - m.1 1) else sX7_size (m.1 0 - m.1 2)) = sX7_size (m.1 0 - (if m.2 p 3 = 0 then m.1 1 else m.1 2)) := by split <;> rfl
  rw [e]
  exact bo_eq (nI_clamp (by omega)) p0 p1 p2
theorem upd_eq {f : Nat → Int32} {k : Nat} {v : Int32} : upd f k v k = v := if_pos rfl
theorem F1_12 {f : Nat → Int32} {ar : Nat → Nat → Int32} : F1 f ar 12 = f 12 + 1 := by
  unfold F1
  rw [upd_ne (by decide), upd_eq]
theorem F1_30 {f : Nat → Int32} {ar : Nat → Nat → Int32} : F1 f ar 30 = if (sX7_size ((ar 1 0) - (ar 1 1))) ≤ (f 30) then f 30 else (sX7_size ((ar 1 0) - (ar 1 1))) := by
  unfold F1
  rw [upd_ne (by decide), upd_ne (by decide), upd_ne (by decide), upd_eq]
theorem F1_31 {f : Nat → Int32} {ar : Nat → Nat → Int32} : F1 f ar 31 = if (sX7_size ((ar 1 0) - (ar 1 2))) ≤ (f 31) then f 31 else (sX7_size ((ar 1 0) - (ar 1 2))) := by
  unfold F1
  rw [upd_ne (by decide), upd_ne (by decide), upd_eq]
theorem F1_k {f : Nat → Int32} {ar : Nat → Nat → Int32} {k : Nat} (h : k < 12 ∨ (12 < k ∧ k < 30) ∨ k = 32 ∨ 33 < k) : F1 f ar k = f k := by
  unfold F1
  rw [upd_ne (by omega), upd_ne (by omega), upd_ne (by omega), upd_ne (by omega)]
theorem SR.rest {mg : Bool} {m : zP} {cf : Nat → Int32} {ca : Nat → Nat → Int32} {f : Nat → Int32} {ar : Nat → Nat → Int32} (h : SR mg m cf ca f ar) : SR mg ((upd m.1 8 ((m.1 8) + 1)), m.2) (sX2_botherAll m cf ca).1 (sX2_botherAll m cf ca).2 (itX7_goesOne (f 8).toNatClampNeg 0 f ar).1 (itX7_goesOne (f 8).toNatClampNeg 0 f ar).2 := by
  obtain ⟨hS, hM, hP, hR, ⟨hE3, hE4, hE5⟩, hF, hG, hH1, hH2⟩ := h
  obtain ⟨n, hn, e6⟩ := bt_nI (hi := 5) hR.2.2.1 (by omega)
  have hSx := hS
  obtain ⟨a0, a1, a2, a6, a7, a8, a9, a10, a12, a13⟩ := hS
  have en : (f 8).toNatClampNeg = n := by rw [← a6, e6, nI_clamp (by omega)]
  have b29 := ba_29 (cf := cf) (ca := ca) e6 hn
  have k1 := gi_a (f 8).toNatClampNeg 0 f ar 1 (by decide) (by decide)
  have k7 := gi_a (f 8).toNatClampNeg 0 f ar 7 (by decide) (by decide)
  have k25 := gi_a (f 8).toNatClampNeg 0 f ar 25 (by decide) (by decide)
  have b30 : (sX2_botherAll m cf ca).2 30 = ca 30 := bo_ca (by decide)
  have b31 : (sX2_botherAll m cf ca).2 31 = ca 31 := bo_ca (by decide)
  have g24 := gi_24 (f 8).toNatClampNeg 0 f ar (by omega)
  rw [gi_f]
  have eo0 : o0_ m = sX7_size (ar 1 0 - ar 1 1) := by unfold o0_; rw [off_eq, if_pos rfl, a0, a1]
  have eo1 : o1_ m = sX7_size (ar 1 0 - ar 1 2) := by unfold o1_; rw [off_eq, if_neg (by decide : ¬ (1 : Int32) = 0), a0, a2]
  have nt : (nI n).toInt = n := nI_toInt (by omega)
  have eT8 : m.1 8 + 1 = F1 f ar 12 := by rw [F1_12, a8]
  generalize m.1 8 + 1 = T8 at eT8
  refine ⟨?_, ⟨fun z => (hM.1 z).trans (F1_k (by decide)).symm, fun z => (F1_k (by decide)).trans (hM.2 z)⟩, ?_, hR, ?_⟩
  · unfold rS0
    rw [k1, ← eT8, F1_k (k := 8) (by decide), F1_k (k := 11) (by decide), F1_k (k := 9) (by decide)]
    exact ⟨a0, a1, a2, a6, a7, (upd_eq : upd m.1 8 T8 8 = T8), a9, a10, a12, a13⟩
  · intro p hp
    rw [gi_a _ 0 f ar 2 (by decide) (by decide), gi_a _ 0 f ar 3 (by decide) (by decide), gi_a _ 0 f ar 4 (by decide) (by decide), gi_a _ 0 f ar 5 (by decide) (by decide), gi_a _ 0 f ar 6 (by decide) (by decide), k7]
    exact hP p hp
  · refine ⟨⟨?_, ?_, ?_⟩, fun p hp => ?_, fun p hp hge => ?_, ?_, ?_⟩
    · rw [ba_cf, upd_ne (by decide), upd_eq, F1_30, max_eq, eo0, hE3]
    · rw [ba_cf, upd_eq, F1_31, max_eq, eo1, hE4]
    · rw [ba_cf, upd_ne (by decide), upd_ne (by decide), F1_k (by decide)]
      exact hE5
    · rw [b29 p hp, b30, b31, k25, k7, g24 p, en]
      obtain ⟨f1, f2, f3⟩ := hF p hp
      refine ⟨?_, f2, f3⟩
      by_cases c : p < n
      · rw [if_pos c, if_pos (by omega), f1, bB_eq hSx hP hR (by rw [e6, nt]; omega) hp]
      · rw [if_neg c, if_neg (by omega), f1]
    · have hge : (m.1 6).toInt ≤ p := hge
      obtain ⟨g1, g2⟩ := hG p hp hge
      rw [e6, nt] at hge
      rw [k25, g24 p, en, if_neg (by omega)]
      exact ⟨g1, g2⟩
    · rw [b31, F1_k (by decide)]; exact hH1
    · rw [b30, F1_k (by decide)]; exact hH2
/-! somebody gets up -/
theorem half_bt {x : Int32} (h : -40 ≤ x.toInt ∧ x.toInt ≤ 40) : -40 ≤ (x / 2).toInt ∧ (x / 2).toInt ≤ 40 := by
  rw [Int32.toInt_div, show (2 : Int32).toInt = 2 by decide]
  have e : (x.toInt.tdiv 2).natAbs ≤ 20 := by
    rw [Int.natAbs_tdiv]
    show x.toInt.natAbs / 2 ≤ 20
    omega
  generalize x.toInt.tdiv 2 = d at e
  rw [Int.bmod_eq_of_le (by omega) (by omega)]
  omega
theorem aim_bt {rk rl rp own p0 p1 d : Int32} (ho : bt own (-20) 20) (h0 : bt p0 (-20) 20) (h1 : bt p1 (-20) 20) (hp : bt rp 0 9) : bt (sX4_aim rk rl rp own ((p0 + p1) / 2) d) (-40) 40 := by
  unfold bt at *
  have ea := tadd (x := p0) (y := p1) (by omega) (by omega) (by omega) (by omega)
  have eh := half_bt (x := p0 + p1) (by omega)
  have e1 := tadd (x := own) (y := rp) (by omega) (by omega) (by omega) (by omega)
  have e2 := tsub (x := own) (y := rp) (by omega) (by omega) (by omega) (by omega)
  unfold sX4_aim sX4_against
  repeat' split
  all_goals omega
theorem tu_bt {pk pm pf ps pp fr aim : Int32} {h : Nat} (hf : bt fr (-99) 99) (ha : bt aim (-40) 40) (h1 : 1 ≤ h) (h5 : h ≤ 5) : bt (sX3_turned pk pm pf ps (nI h) pp fr aim) (-250) 250 := by
  have hw : bt (sAbs (aim - fr)) 0 139 := by
    rw [abs_eq]
    unfold bt at *
    have e := tsub (x := aim) (y := fr) (by omega) (by omega) (by omega) (by omega)
    have en := tneg (x := aim - fr) (by rw [e]; omega) (by rw [e]; omega)
    unfold sX7_size
    split
    · rename_i c
      rw [Int32.le_iff_toInt_le, i0] at c
      omega
    · rename_i c
      rw [Int32.le_iff_toInt_le, i0] at c
      omega
  obtain ⟨w, hw, ew⟩ := bt_nI (hi := 139) hw (by omega)
  have hd : nI w / nI h = nI (w / h) := pk_div (by omega) (by omega) (by omega)
  have l1 : w / h * h ≤ w := Nat.div_mul_le_self w h
  have l2 : (w / h + 1) * h ≤ w + h := by rw [Nat.add_mul, Nat.one_mul]; omega
  unfold sX3_turned
  rw [ew, hd, nI_1, nI_mul, nI_mul]
  unfold bt at *
  have t1 : (nI (w / h * h)).toInt = (w / h * h : Nat) := nI_toInt (by omega)
  have t2 : (nI ((w / h + 1) * h)).toInt = ((w / h + 1) * h : Nat) := nI_toInt (by omega)
  have s1 := tsub (x := fr) (y := nI (w / h * h)) (by omega) (by omega) (by omega) (by omega)
  have s2 := tsub (x := fr) (y := nI ((w / h + 1) * h)) (by omega) (by omega) (by omega) (by omega)
  have s3 := tadd (x := fr) (y := nI (w / h * h)) (by omega) (by omega) (by omega) (by omega)
  have s4 := tadd (x := fr) (y := nI ((w / h + 1) * h)) (by omega) (by omega) (by omega) (by omega)
  repeat' split
  all_goals omega
def mW (f : Nat → Int32) (ar : Nat → Nat → Int32) : (Nat → Int32) × (Nat → Nat → Int32) := if f 8 ≤ 0 then (f, ar) else if sX7_isUp f ar = true then sX7_getsUp f ar else (f, ar)
theorem mU_W (f : Nat → Int32) (ar : Nat → Nat → Int32) : mU f ar = mW f (mA f ar) := rfl
theorem up2_eq {α : Type} {f : Nat → α} {k : Nat} {v : α} : up2 f k v k = v := if_pos rfl
theorem tt_k {ar : Nat → Nat → Int32} {a b : Int32} {k : Nat} (h : k ≠ 1) : sX7_turnsTo ar a b k = ar k := by
  unfold sX7_turnsTo
  exact up2_ne h
section gu
variable {f : Nat → Int32} {ar : Nat → Nat → Int32}
theorem gu_11 : (sX7_getsUp f ar).1 11 = ((f 11) + 1) - ((f 11) + 1) / (f 8) * (f 8) := by
  unfold sX7_getsUp
  dsimp only
  rw [upd_eq]
theorem gu_32 : (sX7_getsUp f ar).1 32 = f 11 := by
  unfold sX7_getsUp
  dsimp only
  rw [upd_ne (by decide), upd_eq]
theorem gu_28 : (sX7_getsUp f ar).1 28 = f 28 + 1 := by
  unfold sX7_getsUp
  dsimp only
  rw [upd_ne (by decide), upd_ne (by decide), upd_eq]
theorem gu_29 : (sX7_getsUp f ar).1 29 = f 29 + ar 7 (f 11).toNatClampNeg := by
  unfold sX7_getsUp
  dsimp only
  rw [upd_ne (by decide), upd_ne (by decide), upd_ne (by decide), upd_eq, tt_k (by decide)]
theorem gu_k {k : Nat} (h : k ≠ 11) (h2 : k < 28 ∨ 29 < k) (h3 : k ≠ 32) : (sX7_getsUp f ar).1 k = f k := by
  unfold sX7_getsUp
  dsimp only
  rw [upd_ne h, upd_ne h3, upd_ne (by omega), upd_ne (by omega)]
theorem gu_25 : (sX7_getsUp f ar).2 25 = upd (ar 25) (f 11).toNatClampNeg (ar 25 (f 11).toNatClampNeg + 1) := by
  unfold sX7_getsUp
  dsimp only
  rw [up2_ne (by decide), up2_eq, tt_k (k := 25) (by decide)]
theorem gu_a {k : Nat} (h1 : k ≠ 1) (h2 : k ≠ 25) (h3 : k ≠ 27) : (sX7_getsUp f ar).2 k = ar k := by
  unfold sX7_getsUp
  dsimp only
  rw [up2_ne h3, up2_ne h2, tt_k h1]
theorem gu_1 : (sX7_getsUp f ar).2 1 = sX7_turnsTo ar (sX7_shouldBe f ar) (ar 6 (f 11).toNatClampNeg) 1 := by
  unfold sX7_getsUp
  dsimp only
  rw [up2_ne (by decide), up2_ne (by decide)]
end gu
theorem mulS (x y : Int32) : (x + 1) * y = x * y + y := by grind
theorem SR.up {m : zP} {cf : Nat → Int32} {ca : Nat → Nat → Int32} {f : Nat → Int32} {ar : Nat → Nat → Int32} {dr : Int32} (h : SR true m cf ca f ar) (hd : dr = sX7_driftIn f ar (f 12)) (hb : bt (m.1 0) (-99) 99) :
    SR true (sX2_letOneGetUp m cf ca dr).1 (sX2_letOneGetUp m cf ca dr).2.1 (sX2_letOneGetUp m cf ca dr).2.2 (mW f ar).1 (mW f ar).2 ∧ bt ((sX2_letOneGetUp m cf ca dr).1.1 0) (-250) 250 ∧ (sX2_letOneGetUp m cf ca dr).1.1 8 = m.1 8 ∧ (sX2_letOneGetUp m cf ca dr).1.1 6 = m.1 6 ∧ (∀ p : Nat, p < 5 → (sX2_letOneGetUp m cf ca dr).2.2 29 p = ca 29 p ∧ ((sX2_letOneGetUp m cf ca dr).2.2 31 p = ca 31 p ∨ ∃ x : Nat, x ≤ 9 ∧ (sX2_letOneGetUp m cf ca dr).2.2 31 p = ca 31 p + nI x)) := by
  have hfull := h
  obtain ⟨hS, hM, hP, hR, ⟨hE3, hE4, hE5⟩, hF, hG, hH1, hH2⟩ := h
  obtain ⟨a0, a1, a2, a6, a7, a8, a9, a10, a12, a13⟩ := hS
  have hRx := hR
  obtain ⟨r1, r2, r6, ⟨r7, r7'⟩, r10, r12, r13, rQ, r9, r11⟩ := hR
  have hbw : bt (m.1 0) (-250) 250 := ⟨by have := hb.1; omega, by have := hb.2; omega⟩
  by_cases hz : (m.1 6).toInt ≤ 0
  · have e := lgu_0 (cf := cf) (ca := ca) (dr := dr) hz
    have ew : mW f ar = (f, ar) := by
      unfold mW
      rw [if_pos (by rw [← a6, Int32.le_iff_toInt_le, i0]; exact hz)]
    rw [e, ew]
    exact ⟨hfull, hbw, rfl, rfl, fun p _ => ⟨rfl, Or.inl rfl⟩⟩
  · obtain ⟨n, hn, e6⟩ := bt_nI (hi := 5) r6 (by omega)
    have nt : (nI n).toInt = n := nI_toInt (by omega)
    have ht := r7' (by omega)
    obtain ⟨t, htl, e7⟩ := bt_nI (x := m.1 7) (hi := 5) ⟨ht.1, by have := r6.2; omega⟩ (by omega)
    have ht2 := ht.2
    rw [e7, e6, nt, nI_toInt (by omega)] at ht2
    have htn : t < n := by omega
    have htP : (t : Int) < (m.1 6).toInt := by rw [e6, nt]; omega
    obtain ⟨p0, p1, p2, p3, p4, p5⟩ := hP t htP
    obtain ⟨q0, q1, q2, q3, q4, q5⟩ := rQ t htP
    have e11 : f 11 = nI t := by rw [← a7, e7]
    have ec : (f 11).toNatClampNeg = t := by rw [e11, nI_clamp (by omega)]
    have hpl : sX7_placeOf ar (ar 5 (f 11).toNatClampNeg) = if m.2 t 3 = 0 then m.1 1 else m.1 2 := by
      rw [ec, ← p3, pl_eq q3, a1, a2]
    have hup : sX4_rouses (m.1 11) (m.1 12) (m.1 13) (sX2_off (m.1 0) (m.1 1) (m.1 2) (m.1 6) (m.1 7) (m.1 8) (m.2 t 3)) (m.1 8) = sX7_isUp f ar := up_eq (hM.1 rfl) a12 a8 (by rw [off_eq, hpl, a0]) r11.2 r12.1
    have e := lgu_eq (cf := cf) (ca := ca) (dr := dr) e7 htP r6.2
    rw [hup] at e
    have n8 : ¬ f 8 ≤ 0 := by rw [← a6, Int32.le_iff_toInt_le, i0]; exact hz
    by_cases hu : sX7_isUp f ar = true
    · have ew : mW f ar = sX7_getsUp f ar := by unfold mW; rw [if_neg n8, if_pos hu]
      rw [if_pos hu, e7, nu_eq (by omega)] at e
      have haim : sX4_aim (m.1 11) (m.1 12) (m.1 13) (if m.2 t 3 = 0 then m.1 1 else m.1 2) ((m.1 1 + m.1 2) / 2) dr = sX7_shouldBe f ar := aim_eq (hM.1 rfl) a13 hpl.symm (by rw [a1, a2]) hd
      have haB : bt (sX4_aim (m.1 11) (m.1 12) (m.1 13) (if m.2 t 3 = 0 then m.1 1 else m.1 2) ((m.1 1 + m.1 2) / 2) dr) (-40) 40 := aim_bt (by split <;> assumption) r1 r2 r13
      obtain ⟨hh, hh5, eh⟩ := bt_nI (x := m.2 t 4) (hi := 5) ⟨by have := q4.1; omega, q4.2⟩ (by omega)
      have hh1 : 1 ≤ hh := by have := q4.1; rw [eh, nI_toInt (by omega)] at this; omega
      have htB := tu_bt (pk := m.2 t 0) (pm := m.2 t 1) (pf := m.2 t 2) (ps := m.2 t 3) (pp := m.2 t 5) hb haB hh1 hh5
      rw [← eh] at htB
      rw [e, ew]
      generalize hT : sX3_turned (m.2 t 0) (m.2 t 1) (m.2 t 2) (m.2 t 3) (m.2 t 4) (m.2 t 5) (m.1 0) (sX4_aim (m.1 11) (m.1 12) (m.1 13) (if m.2 t 3 = 0 then m.1 1 else m.1 2) ((m.1 1 + m.1 2) / 2) dr) = T at htB ⊢
      have eT : (sX7_getsUp f ar).2 1 = upd (ar 1) 0 T := by
        have h9 := tu_eq (pk := m.2 t 0) (pm := m.2 t 1) (pf := m.2 t 2) (ps := m.2 t 3) (ph := m.2 t 4) (pp := m.2 t 5) (fr := m.1 0) (aim := sX4_aim (m.1 11) (m.1 12) (m.1 13) (if m.2 t 3 = 0 then m.1 1 else m.1 2) ((m.1 1 + m.1 2) / 2) dr) (ar := ar) a0 q4.1
        rw [hT, haim, p4, ← ec] at h9
        exact gu_1.trans h9.symm
      have e25 : (sX7_getsUp f ar).2 25 = upd (ar 25) t (ar 25 t + 1) := by
        rw [gu_25, ec]
      have e29 : (sX7_getsUp f ar).1 29 = f 29 + ar 7 t := by
        rw [gu_29, ec]
      have eF : (sX7_getsUp f ar).1 11 = (nI t + 1) - (nI t + 1) / nI n * nI n := by
        rw [gu_11, e11, ← a6, e6]
      have hturn : (if m.1 6 ≤ nI t + 1 then (0 : Int32) else nI t + 1) = (nI t + 1) - (nI t + 1) / nI n * nI n := by rw [e6]; exact turn_eq htn hn
      have hmod : (nI t + 1) - (nI t + 1) / nI n * nI n = nI ((t + 1) % n) := by rw [nI_1]; exact pk_rem (by omega) (by omega) (by omega)
      have hml := Nat.mod_lt (t + 1) (show 0 < n by omega)
      have hr2 : 0 ≤ ((nI t + 1) - (nI t + 1) / nI n * nI n).toInt ∧ ((nI t + 1) - (nI t + 1) / nI n * nI n).toInt < n := by
        rw [hmod, nI_toInt (by omega)]
        omega
      have eu := s5_up (g := ca 30) (t := t) (x := 1) (by omega)
      have ev := s5_up (g := ca 31) (t := t) (x := m.2 t 5) (by omega)
      have e28 : (sX7_getsUp f ar).1 28 = f 28 + 1 := gu_28
      generalize hNX : (nI t + 1) - (nI t + 1) / nI n * nI n = NX at eF hturn hr2
      generalize hV : (if m.1 6 ≤ nI t + 1 then (0 : Int32) else nI t + 1) = V at hturn ⊢
      generalize hU : ca 30 t + 1 = U at eu ⊢
      generalize hW : ca 31 t + m.2 t 5 = Wv at ev ⊢
      subst hturn
      refine ⟨⟨?_, ⟨fun _ => (hM.1 rfl).trans (gu_k (by decide) (by decide) (by decide)).symm, fun z => by cases z⟩, fun p hp => by rw [gu_a (k := 2) (by decide) (by decide) (by decide), gu_a (k := 3) (by decide) (by decide) (by decide), gu_a (k := 4) (by decide) (by decide) (by decide), gu_a (k := 5) (by decide) (by decide) (by decide), gu_a (k := 6) (by decide) (by decide) (by decide), gu_a (k := 7) (by decide) (by decide) (by decide)]; exact hP p hp, ?_, ⟨?_, ?_, ?_⟩, fun p hp => ?_, fun p hp hge => ?_, ?_, ?_⟩, htB, rfl, rfl, fun p hp => ⟨rfl, ?_⟩⟩
      · unfold rS0
        rw [eT, eF, gu_k (k := 8) (by decide) (by decide) (by decide), gu_k (k := 12) (by decide) (by decide) (by decide), gu_k (k := 9) (by decide) (by decide) (by decide)]
        have hN : ∀ k, k ≠ 0 → k ≠ 7 → upd (upd m.1 0 T) 7 V k = m.1 k := fun k h0 h7 => (upd_ne h7).trans (upd_ne h0)
        have hAr : ∀ k, k ≠ 0 → upd (ar 1) 0 T k = ar 1 k := fun k h0 => upd_ne h0
        have hN0 : upd (upd m.1 0 T) 7 V 0 = upd (ar 1) 0 T 0 := by rw [upd_ne (by decide), upd_eq, upd_eq]
        have hN7 : upd (upd m.1 0 T) 7 V 7 = V := upd_eq
        exact ⟨hN0, (hN 1 (by decide) (by decide)).trans (a1.trans (hAr 1 (by decide)).symm), (hN 2 (by decide) (by decide)).trans (a2.trans (hAr 2 (by decide)).symm), (hN 6 (by decide) (by decide)).trans a6, hN7, (hN 8 (by decide) (by decide)).trans a8, (hN 9 (by decide) (by decide)).trans a9, (hN 10 (by decide) (by decide)).trans (a10.trans (hAr 3 (by decide)).symm), (hN 12 (by decide) (by decide)).trans (a12.trans (hAr 4 (by decide)).symm), (hN 13 (by decide) (by decide)).trans (a13.trans (hAr 5 (by decide)).symm)⟩
      · refine ⟨r1, r2, r6, ⟨fun z => ?_, fun _ => ?_⟩, r10, r12, r13, rQ, r9, r11⟩
        · have z : m.1 6 = 0 := z
          rw [z] at hz
          exact absurd (by decide) hz
        · show 0 ≤ V.toInt ∧ V.toInt < (m.1 6).toInt
          rw [e6, nt]
          exact hr2
      · rw [gu_k (by decide) (by decide) (by decide)]; exact hE3
      · rw [gu_k (by decide) (by decide) (by decide)]; exact hE4
      · rw [gu_32]; exact e11.symm
      · rw [e25, gu_a (k := 24) (by decide) (by decide) (by decide), gu_a (k := 7) (by decide) (by decide) (by decide)]
        show ca 29 p = ar 24 p ∧ upd (ca 30) t U p = _ ∧ upd (ca 31) t Wv p = _ * ar 7 p
        obtain ⟨f1, f2, f3⟩ := hF p hp
        refine ⟨f1, ?_⟩
        by_cases c : p = t
        · subst c
          rw [upd_eq, upd_eq, upd_eq, ← hU, ← hW, f2, f3, p5, mulS]
          exact ⟨rfl, rfl⟩
        · rw [upd_ne c, upd_ne c, upd_ne c]
          exact ⟨f2, f3⟩
      · have hge : (m.1 6).toInt ≤ p := hge
        obtain ⟨g1, g2⟩ := hG p hp hge
        rw [e6, nt] at hge
        rw [e25, upd_ne (by omega), gu_a (k := 24) (by decide) (by decide) (by decide)]
        exact ⟨g1, g2⟩
      · rw [e29]
        show s5 (upd (ca 31) t Wv) = _
        rw [ev, hH1, p5]
      · rw [e28]
        show s5 (upd (ca 30) t U) = _
        rw [eu, hH2]
      · show upd (ca 31) t Wv p = ca 31 p ∨ ∃ x : Nat, x ≤ 9 ∧ upd (ca 31) t Wv p = ca 31 p + nI x
        by_cases c : p = t
        · subst c
          obtain ⟨x, hx, ex⟩ := bt_nI (x := m.2 p 5) (hi := 9) q5 (by omega)
          exact Or.inr ⟨x, hx, by rw [upd_eq, ← hW, ex]⟩
        · exact Or.inl (upd_ne c)
    · have ew : mW f ar = (f, ar) := by unfold mW; rw [if_neg n8, if_neg hu]
      rw [if_neg hu] at e
      rw [e, ew]
      exact ⟨hfull, hbw, rfl, rfl, fun p _ => ⟨rfl, Or.inl rfl⟩⟩
