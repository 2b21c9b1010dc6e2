theorem rB_of {f : Nat → Int32} {r : Nat} {k : Int} (h18 : f 18 = nI r) (hr : r < 200) (h96 : (f 17).toInt ≤ 96) (hk : 200 ≤ k) : rB f k := by
  unfold rB
  rw [h18, nI_toInt (by omega)]
  exact ⟨by omega, by omega, h96⟩
theorem st_rB1 {f : Nat → Int32} {r : Nat} {z : Int32} (h18 : f 18 = nI r) (hr : r < 200) (h96 : (f 17).toInt ≤ 96) (e : f 18 + 1 = z) : rB (upd f 18 z) 800 := (rB_of (k := 200) h18 hr h96 (by decide)).sz e (by decide) (by decide)
theorem s6e {x : Int32} {m : Nat} (h : x = nI m) (hm : m < 48) : 6 * x = nI (6 * m) := by
  subst h
  have e : (6 : Int32) = nI 6 := rfl
  rw [e]
  exact (Int32.ofNat_mul 6 m).symm
theorem s6 {x : Int32} {m : Nat} (h : x = nI m) (hm : m < 48) : 0 ≤ (6 * x).toInt ∧ (6 * x).toInt + 6 ≤ 288 := by
  rw [s6e h hm, nI_toInt (by omega)]
  omega
theorem st_rB2 {f w : Nat → Int32} {ar : Nat → Nat → Int32} {r m : Nat} {z b : Int32} (h18 : f 18 = nI r) (hr : r < 200) (h96 : (f 17).toInt ≤ 96) (h19 : f 19 = nI m) (hm : m < 48) (e : f 18 + 1 = z) (e2 : (sX7_readsAll (upd f 18 z) ar b (6 * f 19)).2.1 = w) : rB w 1000 := by
  have h1 : upd f 18 z 18 = nI (r + 1) := by show z = _; rw [← e, h18, nI_1]
  have h2 := (Rd_A (ar := ar) (q := 6 * m) b h1 (by omega) (by omega)).2.1
  rw [s6e h19 hm, h2] at e2
  have hl := fitL_le (tT (upd f 18 z) ar) (shA b) (r + 1)
  have h6 := shA_len b
  subst e2
  unfold rB
  rw [show upd (upd f 18 z) 18 (nI (r + 1 + fitL (shA b) (tT (upd f 18 z) ar) (r + 1))) 18 = nI (r + 1 + fitL (shA b) (tT (upd f 18 z) ar) (r + 1)) from rfl, nI_toInt (by omega)]
  exact ⟨by omega, by omega, h96⟩
def sX7_statement (f : Nat → Int32) (ar : Nat → Nat → Int32) : Bool × (Nat → Int32) × (Nat → Nat → Int32) := if (sX7_next f ar) = 112 then (if ((sX7_readsAll (upd f 18 ((f 18) + 1)) (up2 (up2 ar 14 (upd (ar 14) (f 19).toNatClampNeg (sX7_next f ar))) 15 (upd (ar 15) (f 19).toNatClampNeg (f 18))) (sX7_next f ar) (6 * (f 19))).1) = true then (if (sX7_next ((sX7_readsAll (upd f 18 ((f 18) + 1)) (up2 (up2 ar 14 (upd (ar 14) (f 19).toNatClampNeg (sX7_next f ar))) 15 (upd (ar 15) (f 19).toNatClampNeg (f 18))) (sX7_next f ar) (6 * (f 19))).2.1) ((sX7_readsAll (upd f 18 ((f 18) + 1)) (up2 (up2 ar 14 (upd (ar 14) (f 19).toNatClampNeg (sX7_next f ar))) 15 (upd (ar 15) (f 19).toNatClampNeg (f 18))) (sX7_next f ar) (6 * (f 19))).2.2)) = 59 then (true, (upd ((sX7_readsAll (upd f 18 ((f 18) + 1)) (up2 (up2 ar 14 (upd (ar 14) (f 19).toNatClampNeg (sX7_next f ar))) 15 (upd (ar 15) (f 19).toNatClampNeg (f 18))) (sX7_next f ar) (6 * (f 19))).2.1) 18 ((((sX7_readsAll (upd f 18 ((f 18) + 1)) (up2 (up2 ar 14 (upd (ar 14) (f 19).toNatClampNeg (sX7_next f ar))) 15 (upd (ar 15) (f 19).toNatClampNeg (f 18))) (sX7_next f ar) (6 * (f 19))).2.1) 18) + 1)), ((sX7_readsAll (upd f 18 ((f 18) + 1)) (up2 (up2 ar 14 (upd (ar 14) (f 19).toNatClampNeg (sX7_next f ar))) 15 (upd (ar 15) (f 19).toNatClampNeg (f 18))) (sX7_next f ar) (6 * (f 19))).2.2)) else (false, ((sX7_readsAll (upd f 18 ((f 18) + 1)) (up2 (up2 ar 14 (upd (ar 14) (f 19).toNatClampNeg (sX7_next f ar))) 15 (upd (ar 15) (f 19).toNatClampNeg (f 18))) (sX7_next f ar) (6 * (f 19))).2.1), ((sX7_readsAll (upd f 18 ((f 18) + 1)) (up2 (up2 ar 14 (upd (ar 14) (f 19).toNatClampNeg (sX7_next f ar))) 15 (upd (ar 15) (f 19).toNatClampNeg (f 18))) (sX7_next f ar) (6 * (f 19))).2.2))) else (false, ((sX7_readsAll (upd f 18 ((f 18) + 1)) (up2 (up2 ar 14 (upd (ar 14) (f 19).toNatClampNeg (sX7_next f ar))) 15 (upd (ar 15) (f 19).toNatClampNeg (f 18))) (sX7_next f ar) (6 * (f 19))).2.1), ((sX7_readsAll (upd f 18 ((f 18) + 1)) (up2 (up2 ar 14 (upd (ar 14) (f 19).toNatClampNeg (sX7_next f ar))) 15 (upd (ar 15) (f 19).toNatClampNeg (f 18))) (sX7_next f ar) (6 * (f 19))).2.2))) else if (sX7_next f ar) = 119 then (if ((sX7_readsAll (upd f 18 ((f 18) + 1)) (up2 (up2 ar 14 (upd (ar 14) (f 19).toNatClampNeg (sX7_next f ar))) 15 (upd (ar 15) (f 19).toNatClampNeg (f 18))) (sX7_next f ar) (6 * (f 19))).1) = true then (if (sX7_next ((sX7_readsAll (upd f 18 ((f 18) + 1)) (up2 (up2 ar 14 (upd (ar 14) (f 19).toNatClampNeg (sX7_next f ar))) 15 (upd (ar 15) (f 19).toNatClampNeg (f 18))) (sX7_next f ar) (6 * (f 19))).2.1) ((sX7_readsAll (upd f 18 ((f 18) + 1)) (up2 (up2 ar 14 (upd (ar 14) (f 19).toNatClampNeg (sX7_next f ar))) 15 (upd (ar 15) (f 19).toNatClampNeg (f 18))) (sX7_next f ar) (6 * (f 19))).2.2)) = 59 then (true, (upd ((sX7_readsAll (upd f 18 ((f 18) + 1)) (up2 (up2 ar 14 (upd (ar 14) (f 19).toNatClampNeg (sX7_next f ar))) 15 (upd (ar 15) (f 19).toNatClampNeg (f 18))) (sX7_next f ar) (6 * (f 19))).2.1) 18 ((((sX7_readsAll (upd f 18 ((f 18) + 1)) (up2 (up2 ar 14 (upd (ar 14) (f 19).toNatClampNeg (sX7_next f ar))) 15 (upd (ar 15) (f 19).toNatClampNeg (f 18))) (sX7_next f ar) (6 * (f 19))).2.1) 18) + 1)), ((sX7_readsAll (upd f 18 ((f 18) + 1)) (up2 (up2 ar 14 (upd (ar 14) (f 19).toNatClampNeg (sX7_next f ar))) 15 (upd (ar 15) (f 19).toNatClampNeg (f 18))) (sX7_next f ar) (6 * (f 19))).2.2)) else (false, ((sX7_readsAll (upd f 18 ((f 18) + 1)) (up2 (up2 ar 14 (upd (ar 14) (f 19).toNatClampNeg (sX7_next f ar))) 15 (upd (ar 15) (f 19).toNatClampNeg (f 18))) (sX7_next f ar) (6 * (f 19))).2.1), ((sX7_readsAll (upd f 18 ((f 18) + 1)) (up2 (up2 ar 14 (upd (ar 14) (f 19).toNatClampNeg (sX7_next f ar))) 15 (upd (ar 15) (f 19).toNatClampNeg (f 18))) (sX7_next f ar) (6 * (f 19))).2.2))) else (false, ((sX7_readsAll (upd f 18 ((f 18) + 1)) (up2 (up2 ar 14 (upd (ar 14) (f 19).toNatClampNeg (sX7_next f ar))) 15 (upd (ar 15) (f 19).toNatClampNeg (f 18))) (sX7_next f ar) (6 * (f 19))).2.1), ((sX7_readsAll (upd f 18 ((f 18) + 1)) (up2 (up2 ar 14 (upd (ar 14) (f 19).toNatClampNeg (sX7_next f ar))) 15 (upd (ar 15) (f 19).toNatClampNeg (f 18))) (sX7_next f ar) (6 * (f 19))).2.2))) else if (sX7_next f ar) = 115 then (if ((sX7_readsAll (upd f 18 ((f 18) + 1)) (up2 (up2 ar 14 (upd (ar 14) (f 19).toNatClampNeg (sX7_next f ar))) 15 (upd (ar 15) (f 19).toNatClampNeg (f 18))) (sX7_next f ar) (6 * (f 19))).1) = true then (if (sX7_next ((sX7_readsAll (upd f 18 ((f 18) + 1)) (up2 (up2 ar 14 (upd (ar 14) (f 19).toNatClampNeg (sX7_next f ar))) 15 (upd (ar 15) (f 19).toNatClampNeg (f 18))) (sX7_next f ar) (6 * (f 19))).2.1) ((sX7_readsAll (upd f 18 ((f 18) + 1)) (up2 (up2 ar 14 (upd (ar 14) (f 19).toNatClampNeg (sX7_next f ar))) 15 (upd (ar 15) (f 19).toNatClampNeg (f 18))) (sX7_next f ar) (6 * (f 19))).2.2)) = 59 then (true, (upd ((sX7_readsAll (upd f 18 ((f 18) + 1)) (up2 (up2 ar 14 (upd (ar 14) (f 19).toNatClampNeg (sX7_next f ar))) 15 (upd (ar 15) (f 19).toNatClampNeg (f 18))) (sX7_next f ar) (6 * (f 19))).2.1) 18 ((((sX7_readsAll (upd f 18 ((f 18) + 1)) (up2 (up2 ar 14 (upd (ar 14) (f 19).toNatClampNeg (sX7_next f ar))) 15 (upd (ar 15) (f 19).toNatClampNeg (f 18))) (sX7_next f ar) (6 * (f 19))).2.1) 18) + 1)), ((sX7_readsAll (upd f 18 ((f 18) + 1)) (up2 (up2 ar 14 (upd (ar 14) (f 19).toNatClampNeg (sX7_next f ar))) 15 (upd (ar 15) (f 19).toNatClampNeg (f 18))) (sX7_next f ar) (6 * (f 19))).2.2)) else (false, ((sX7_readsAll (upd f 18 ((f 18) + 1)) (up2 (up2 ar 14 (upd (ar 14) (f 19).toNatClampNeg (sX7_next f ar))) 15 (upd (ar 15) (f 19).toNatClampNeg (f 18))) (sX7_next f ar) (6 * (f 19))).2.1), ((sX7_readsAll (upd f 18 ((f 18) + 1)) (up2 (up2 ar 14 (upd (ar 14) (f 19).toNatClampNeg (sX7_next f ar))) 15 (upd (ar 15) (f 19).toNatClampNeg (f 18))) (sX7_next f ar) (6 * (f 19))).2.2))) else (false, ((sX7_readsAll (upd f 18 ((f 18) + 1)) (up2 (up2 ar 14 (upd (ar 14) (f 19).toNatClampNeg (sX7_next f ar))) 15 (upd (ar 15) (f 19).toNatClampNeg (f 18))) (sX7_next f ar) (6 * (f 19))).2.1), ((sX7_readsAll (upd f 18 ((f 18) + 1)) (up2 (up2 ar 14 (upd (ar 14) (f 19).toNatClampNeg (sX7_next f ar))) 15 (upd (ar 15) (f 19).toNatClampNeg (f 18))) (sX7_next f ar) (6 * (f 19))).2.2))) else if (sX7_next f ar) = 100 then (if ((sX7_readsAll (upd f 18 ((f 18) + 1)) (up2 (up2 ar 14 (upd (ar 14) (f 19).toNatClampNeg (sX7_next f ar))) 15 (upd (ar 15) (f 19).toNatClampNeg (f 18))) (sX7_next f ar) (6 * (f 19))).1) = true then (if (sX7_next ((sX7_readsAll (upd f 18 ((f 18) + 1)) (up2 (up2 ar 14 (upd (ar 14) (f 19).toNatClampNeg (sX7_next f ar))) 15 (upd (ar 15) (f 19).toNatClampNeg (f 18))) (sX7_next f ar) (6 * (f 19))).2.1) ((sX7_readsAll (upd f 18 ((f 18) + 1)) (up2 (up2 ar 14 (upd (ar 14) (f 19).toNatClampNeg (sX7_next f ar))) 15 (upd (ar 15) (f 19).toNatClampNeg (f 18))) (sX7_next f ar) (6 * (f 19))).2.2)) = 59 then (true, (upd ((sX7_readsAll (upd f 18 ((f 18) + 1)) (up2 (up2 ar 14 (upd (ar 14) (f 19).toNatClampNeg (sX7_next f ar))) 15 (upd (ar 15) (f 19).toNatClampNeg (f 18))) (sX7_next f ar) (6 * (f 19))).2.1) 18 ((((sX7_readsAll (upd f 18 ((f 18) + 1)) (up2 (up2 ar 14 (upd (ar 14) (f 19).toNatClampNeg (sX7_next f ar))) 15 (upd (ar 15) (f 19).toNatClampNeg (f 18))) (sX7_next f ar) (6 * (f 19))).2.1) 18) + 1)), ((sX7_readsAll (upd f 18 ((f 18) + 1)) (up2 (up2 ar 14 (upd (ar 14) (f 19).toNatClampNeg (sX7_next f ar))) 15 (upd (ar 15) (f 19).toNatClampNeg (f 18))) (sX7_next f ar) (6 * (f 19))).2.2)) else (false, ((sX7_readsAll (upd f 18 ((f 18) + 1)) (up2 (up2 ar 14 (upd (ar 14) (f 19).toNatClampNeg (sX7_next f ar))) 15 (upd (ar 15) (f 19).toNatClampNeg (f 18))) (sX7_next f ar) (6 * (f 19))).2.1), ((sX7_readsAll (upd f 18 ((f 18) + 1)) (up2 (up2 ar 14 (upd (ar 14) (f 19).toNatClampNeg (sX7_next f ar))) 15 (upd (ar 15) (f 19).toNatClampNeg (f 18))) (sX7_next f ar) (6 * (f 19))).2.2))) else (false, ((sX7_readsAll (upd f 18 ((f 18) + 1)) (up2 (up2 ar 14 (upd (ar 14) (f 19).toNatClampNeg (sX7_next f ar))) 15 (upd (ar 15) (f 19).toNatClampNeg (f 18))) (sX7_next f ar) (6 * (f 19))).2.1), ((sX7_readsAll (upd f 18 ((f 18) + 1)) (up2 (up2 ar 14 (upd (ar 14) (f 19).toNatClampNeg (sX7_next f ar))) 15 (upd (ar 15) (f 19).toNatClampNeg (f 18))) (sX7_next f ar) (6 * (f 19))).2.2))) else if (sX7_next f ar) = 114 then (if ((sX7_readsAll (upd f 18 ((f 18) + 1)) (up2 (up2 ar 14 (upd (ar 14) (f 19).toNatClampNeg (sX7_next f ar))) 15 (upd (ar 15) (f 19).toNatClampNeg (f 18))) (sX7_next f ar) (6 * (f 19))).1) = true then (if (sX7_next ((sX7_readsAll (upd f 18 ((f 18) + 1)) (up2 (up2 ar 14 (upd (ar 14) (f 19).toNatClampNeg (sX7_next f ar))) 15 (upd (ar 15) (f 19).toNatClampNeg (f 18))) (sX7_next f ar) (6 * (f 19))).2.1) ((sX7_readsAll (upd f 18 ((f 18) + 1)) (up2 (up2 ar 14 (upd (ar 14) (f 19).toNatClampNeg (sX7_next f ar))) 15 (upd (ar 15) (f 19).toNatClampNeg (f 18))) (sX7_next f ar) (6 * (f 19))).2.2)) = 59 then (true, (upd ((sX7_readsAll (upd f 18 ((f 18) + 1)) (up2 (up2 ar 14 (upd (ar 14) (f 19).toNatClampNeg (sX7_next f ar))) 15 (upd (ar 15) (f 19).toNatClampNeg (f 18))) (sX7_next f ar) (6 * (f 19))).2.1) 18 ((((sX7_readsAll (upd f 18 ((f 18) + 1)) (up2 (up2 ar 14 (upd (ar 14) (f 19).toNatClampNeg (sX7_next f ar))) 15 (upd (ar 15) (f 19).toNatClampNeg (f 18))) (sX7_next f ar) (6 * (f 19))).2.1) 18) + 1)), ((sX7_readsAll (upd f 18 ((f 18) + 1)) (up2 (up2 ar 14 (upd (ar 14) (f 19).toNatClampNeg (sX7_next f ar))) 15 (upd (ar 15) (f 19).toNatClampNeg (f 18))) (sX7_next f ar) (6 * (f 19))).2.2)) else (false, ((sX7_readsAll (upd f 18 ((f 18) + 1)) (up2 (up2 ar 14 (upd (ar 14) (f 19).toNatClampNeg (sX7_next f ar))) 15 (upd (ar 15) (f 19).toNatClampNeg (f 18))) (sX7_next f ar) (6 * (f 19))).2.1), ((sX7_readsAll (upd f 18 ((f 18) + 1)) (up2 (up2 ar 14 (upd (ar 14) (f 19).toNatClampNeg (sX7_next f ar))) 15 (upd (ar 15) (f 19).toNatClampNeg (f 18))) (sX7_next f ar) (6 * (f 19))).2.2))) else (false, ((sX7_readsAll (upd f 18 ((f 18) + 1)) (up2 (up2 ar 14 (upd (ar 14) (f 19).toNatClampNeg (sX7_next f ar))) 15 (upd (ar 15) (f 19).toNatClampNeg (f 18))) (sX7_next f ar) (6 * (f 19))).2.1), ((sX7_readsAll (upd f 18 ((f 18) + 1)) (up2 (up2 ar 14 (upd (ar 14) (f 19).toNatClampNeg (sX7_next f ar))) 15 (upd (ar 15) (f 19).toNatClampNeg (f 18))) (sX7_next f ar) (6 * (f 19))).2.2))) else if (sX7_next f ar) = 110 then (if ((sX7_readsAll (upd f 18 ((f 18) + 1)) (up2 (up2 ar 14 (upd (ar 14) (f 19).toNatClampNeg (sX7_next f ar))) 15 (upd (ar 15) (f 19).toNatClampNeg (f 18))) (sX7_next f ar) (6 * (f 19))).1) = true then (if (sX7_next ((sX7_readsAll (upd f 18 ((f 18) + 1)) (up2 (up2 ar 14 (upd (ar 14) (f 19).toNatClampNeg (sX7_next f ar))) 15 (upd (ar 15) (f 19).toNatClampNeg (f 18))) (sX7_next f ar) (6 * (f 19))).2.1) ((sX7_readsAll (upd f 18 ((f 18) + 1)) (up2 (up2 ar 14 (upd (ar 14) (f 19).toNatClampNeg (sX7_next f ar))) 15 (upd (ar 15) (f 19).toNatClampNeg (f 18))) (sX7_next f ar) (6 * (f 19))).2.2)) = 59 then (true, (upd ((sX7_readsAll (upd f 18 ((f 18) + 1)) (up2 (up2 ar 14 (upd (ar 14) (f 19).toNatClampNeg (sX7_next f ar))) 15 (upd (ar 15) (f 19).toNatClampNeg (f 18))) (sX7_next f ar) (6 * (f 19))).2.1) 18 ((((sX7_readsAll (upd f 18 ((f 18) + 1)) (up2 (up2 ar 14 (upd (ar 14) (f 19).toNatClampNeg (sX7_next f ar))) 15 (upd (ar 15) (f 19).toNatClampNeg (f 18))) (sX7_next f ar) (6 * (f 19))).2.1) 18) + 1)), ((sX7_readsAll (upd f 18 ((f 18) + 1)) (up2 (up2 ar 14 (upd (ar 14) (f 19).toNatClampNeg (sX7_next f ar))) 15 (upd (ar 15) (f 19).toNatClampNeg (f 18))) (sX7_next f ar) (6 * (f 19))).2.2)) else (false, ((sX7_readsAll (upd f 18 ((f 18) + 1)) (up2 (up2 ar 14 (upd (ar 14) (f 19).toNatClampNeg (sX7_next f ar))) 15 (upd (ar 15) (f 19).toNatClampNeg (f 18))) (sX7_next f ar) (6 * (f 19))).2.1), ((sX7_readsAll (upd f 18 ((f 18) + 1)) (up2 (up2 ar 14 (upd (ar 14) (f 19).toNatClampNeg (sX7_next f ar))) 15 (upd (ar 15) (f 19).toNatClampNeg (f 18))) (sX7_next f ar) (6 * (f 19))).2.2))) else (false, ((sX7_readsAll (upd f 18 ((f 18) + 1)) (up2 (up2 ar 14 (upd (ar 14) (f 19).toNatClampNeg (sX7_next f ar))) 15 (upd (ar 15) (f 19).toNatClampNeg (f 18))) (sX7_next f ar) (6 * (f 19))).2.1), ((sX7_readsAll (upd f 18 ((f 18) + 1)) (up2 (up2 ar 14 (upd (ar 14) (f 19).toNatClampNeg (sX7_next f ar))) 15 (upd (ar 15) (f 19).toNatClampNeg (f 18))) (sX7_next f ar) (6 * (f 19))).2.2))) else (false, f, ar)
set_option maxRecDepth 20000 in
theorem eX7_statement {G : zG} {h1 : List va_E} {f : Nat → Int32} {ar : Nat → Nat → Int32} {r m : Nat} (h18 : f 18 = nI r) (hr : r < 200) (h96 : (f 17).toInt ≤ 96) (h19 : f 19 = nI m) (hm : m < 48) : EvF G mX7_statement [.ref 100] (h1, hM G f ar) (some (.int (b2i ((sX7_statement f ar).1)))) (h1, hM G ((sX7_statement f ar).2.1) ((sX7_statement f ar).2.2)) := by
  generalize hs : (sX7_statement f ar) = zz
  refine EvF.of pnX7 rfl ?_
  refine R_aload_n 1 dX7_statement_0 rfl rfl ?_
  refine R_callVi 4 (eX7_next (rB_of h18 hr h96 (Int.le_refl _))) dX7_statement_1 rfl kX7_next lX7_83 rfl rfl rfl rfl rfl rfl rfl ?_
  refine R_istore_n 5 dX7_statement_4 rfl rfl (by decide) (loc' := [(0, .ref 100), (1, .int (sX7_next f ar))]) rfl ?_
  refine R_iload_n 6 dX7_statement_5 rfl rfl ?_
  refine R_bipush 8 dX7_statement_6 rfl (v := 112) (by decide) ?_
  refine R_icmp_eq 11 43 dX7_statement_8 rfl (by decide) (fun c1 => ?_) (fun c1 => ?_)
  ·
    refine R_aload_n 44 dX7_statement_43 rfl rfl ?_
    refine R_get 47 dX7_statement_44 rfl fX7_37 rfl (v := .ref 110) rfl ?_
    refine R_aload_n 48 dX7_statement_47 rfl rfl ?_
    refine R_get 51 dX7_statement_48 rfl fX7_114 rfl (v := .int (f 19)) rfl ?_
    refine R_iload_n 52 dX7_statement_51 rfl rfl ?_
    refine R_nm2 (fun z1_ hz1_ => ?_)
    refine R_iast 53 dX7_statement_52 rfl rfl rfl (h19 ▸ vp_in_nI hm (by decide)) (h2 := (h1, hM G f (up2 ar 14 (upd (ar 14) (f 19).toNatClampNeg z1_)))) ms_14 ?_
    refine R_aload_n 54 dX7_statement_53 rfl rfl ?_
    refine R_get 57 dX7_statement_54 rfl fX7_40 rfl (v := .ref 111) rfl ?_
    refine R_aload_n 58 dX7_statement_57 rfl rfl ?_
    refine R_get 61 dX7_statement_58 rfl fX7_114 rfl (v := .int (f 19)) rfl ?_
    refine R_aload_n 62 dX7_statement_61 rfl rfl ?_
    refine R_get 65 dX7_statement_62 rfl fX7_80 rfl (v := .int (f 18)) rfl ?_
    refine R_iast 66 dX7_statement_65 rfl rfl rfl (h19 ▸ vp_in_nI hm (by decide)) (h2 := (h1, hM G f (up2 (up2 ar 14 (upd (ar 14) (f 19).toNatClampNeg z1_)) 15 (upd (ar 15) (f 19).toNatClampNeg (f 18))))) ms_15 ?_
    refine R_aload_n 67 dX7_statement_66 rfl rfl ?_
    refine R_dup 68 dX7_statement_67 rfl rfl ?_
    refine R_get 71 dX7_statement_68 rfl fX7_80 rfl (v := .int (f 18)) rfl ?_
    refine R_iconst 72 dX7_statement_71 rfl (v := 1) (by decide) ?_
    refine R_iadd 73 dX7_statement_72 rfl ?_
    refine R_nm2 (fun z2_ hz2_ => ?_)
    refine R_put 76 dX7_statement_73 rfl wX7_80 rfl rfl rfl rfl (h2 := (h1, hM G (upd f 18 z2_) (up2 (up2 ar 14 (upd (ar 14) (f 19).toNatClampNeg z1_)) 15 (upd (ar 15) (f 19).toNatClampNeg (f 18))))) mp_18 ?_
    refine R_aload_n 77 dX7_statement_76 rfl rfl ?_
    refine R_iload_n 78 dX7_statement_77 rfl rfl ?_
    refine R_bipush 80 dX7_statement_78 rfl (v := 6) (by decide) ?_
    refine R_aload_n 81 dX7_statement_80 rfl rfl ?_
    refine R_get 84 dX7_statement_81 rfl fX7_114 rfl (v := .int (f 19)) rfl ?_
    refine R_imul 85 dX7_statement_84 rfl ?_
    refine R_callVi 88 (eX7_readsAll (s6 h19 hm) (st_rB1 h18 hr h96 hz2_)) dX7_statement_85 rfl kX7_readsAll lX7_117 rfl rfl rfl rfl rfl rfl rfl ?_
    generalize hz3_ : (sX7_readsAll (upd f 18 z2_) (up2 (up2 ar 14 (upd (ar 14) (f 19).toNatClampNeg z1_)) 15 (upd (ar 15) (f 19).toNatClampNeg (f 18))) (sX7_next f ar) (6 * (f 19))).2.1 = z3_
    generalize hz4_ : (sX7_readsAll (upd f 18 z2_) (up2 (up2 ar 14 (upd (ar 14) (f 19).toNatClampNeg z1_)) 15 (upd (ar 15) (f 19).toNatClampNeg (f 18))) (sX7_next f ar) (6 * (f 19))).2.2 = z4_
    refine R_ifb_eq 91 100 dX7_statement_88 rfl (by decide) (fun c2 => ?_) (fun c2 => ?_)
    ·
      refine R_iconst 101 dX7_statement_100 rfl (v := 0) (by decide) ?_
      refine R_ireturn dX7_statement_101 rfl (by decide) ?_
      subst hz1_ hz2_ hz3_ hz4_
      have e : zz = (false, ((sX7_readsAll (upd f 18 ((f 18) + 1)) (up2 (up2 ar 14 (upd (ar 14) (f 19).toNatClampNeg (sX7_next f ar))) 15 (upd (ar 15) (f 19).toNatClampNeg (f 18))) (sX7_next f ar) (6 * (f 19))).2.1), ((sX7_readsAll (upd f 18 ((f 18) + 1)) (up2 (up2 ar 14 (upd (ar 14) (f 19).toNatClampNeg (sX7_next f ar))) 15 (upd (ar 15) (f 19).toNatClampNeg (f 18))) (sX7_next f ar) (6 * (f 19))).2.2)) := by rw [← hs]; unfold sX7_statement; rw [if_pos c1, if_neg c2]
      rw [pr1 e, pr1 (pr2 e), pr2 (pr2 e)]; exact ⟨rfl, rfl⟩
    ·
      refine R_aload_n 92 dX7_statement_91 rfl rfl ?_
      refine R_callVi 95 (eX7_next (st_rB2 h18 hr h96 h19 hm hz2_ hz3_)) dX7_statement_92 rfl kX7_next lX7_83 rfl rfl rfl rfl rfl rfl rfl ?_
      refine R_bipush 97 dX7_statement_95 rfl (v := 59) (by decide) ?_
      refine R_icmp_eq 100 102 dX7_statement_97 rfl (by decide) (fun c3 => ?_) (fun c3 => ?_)
      ·
        refine R_aload_n 103 dX7_statement_102 rfl rfl ?_
        refine R_dup 104 dX7_statement_103 rfl rfl ?_
        refine R_get 107 dX7_statement_104 rfl fX7_80 rfl (v := .int (z3_ 18)) rfl ?_
        refine R_iconst 108 dX7_statement_107 rfl (v := 1) (by decide) ?_
        refine R_iadd 109 dX7_statement_108 rfl ?_
        refine R_nm2 (fun z5_ hz5_ => ?_)
        refine R_put 112 dX7_statement_109 rfl wX7_80 rfl rfl rfl rfl (h2 := (h1, hM G (upd z3_ 18 z5_) z4_)) mp_18 ?_
        refine R_iconst 113 dX7_statement_112 rfl (v := 1) (by decide) ?_
        refine R_ireturn dX7_statement_113 rfl (by decide) ?_
        subst hz1_ hz2_ hz3_ hz4_ hz5_
        have e : zz = (true, (upd ((sX7_readsAll (upd f 18 ((f 18) + 1)) (up2 (up2 ar 14 (upd (ar 14) (f 19).toNatClampNeg (sX7_next f ar))) 15 (upd (ar 15) (f 19).toNatClampNeg (f 18))) (sX7_next f ar) (6 * (f 19))).2.1) 18 ((((sX7_readsAll (upd f 18 ((f 18) + 1)) (up2 (up2 ar 14 (upd (ar 14) (f 19).toNatClampNeg (sX7_next f ar))) 15 (upd (ar 15) (f 19).toNatClampNeg (f 18))) (sX7_next f ar) (6 * (f 19))).2.1) 18) + 1)), ((sX7_readsAll (upd f 18 ((f 18) + 1)) (up2 (up2 ar 14 (upd (ar 14) (f 19).toNatClampNeg (sX7_next f ar))) 15 (upd (ar 15) (f 19).toNatClampNeg (f 18))) (sX7_next f ar) (6 * (f 19))).2.2)) := by rw [← hs]; unfold sX7_statement; rw [if_pos c1, if_pos c2, if_pos c3]
        rw [pr1 e, pr1 (pr2 e), pr2 (pr2 e)]; exact ⟨rfl, rfl⟩
      ·
        refine R_iconst 101 dX7_statement_100 rfl (v := 0) (by decide) ?_
        refine R_ireturn dX7_statement_101 rfl (by decide) ?_
        subst hz1_ hz2_ hz3_ hz4_
        have e : zz = (false, ((sX7_readsAll (upd f 18 ((f 18) + 1)) (up2 (up2 ar 14 (upd (ar 14) (f 19).toNatClampNeg (sX7_next f ar))) 15 (upd (ar 15) (f 19).toNatClampNeg (f 18))) (sX7_next f ar) (6 * (f 19))).2.1), ((sX7_readsAll (upd f 18 ((f 18) + 1)) (up2 (up2 ar 14 (upd (ar 14) (f 19).toNatClampNeg (sX7_next f ar))) 15 (upd (ar 15) (f 19).toNatClampNeg (f 18))) (sX7_next f ar) (6 * (f 19))).2.2)) := by rw [← hs]; unfold sX7_statement; rw [if_pos c1, if_pos c2, if_neg c3]
        rw [pr1 e, pr1 (pr2 e), pr2 (pr2 e)]; exact ⟨rfl, rfl⟩
  ·
    refine R_iload_n 12 dX7_statement_11 rfl rfl ?_
    refine R_bipush 14 dX7_statement_12 rfl (v := 119) (by decide) ?_
    refine R_icmp_eq 17 43 dX7_statement_14 rfl (by decide) (fun c4 => ?_) (fun c4 => ?_)
    ·
      refine R_aload_n 44 dX7_statement_43 rfl rfl ?_
      refine R_get 47 dX7_statement_44 rfl fX7_37 rfl (v := .ref 110) rfl ?_
      refine R_aload_n 48 dX7_statement_47 rfl rfl ?_
      refine R_get 51 dX7_statement_48 rfl fX7_114 rfl (v := .int (f 19)) rfl ?_
      refine R_iload_n 52 dX7_statement_51 rfl rfl ?_
      refine R_nm2 (fun z6_ hz6_ => ?_)
      refine R_iast 53 dX7_statement_52 rfl rfl rfl (h19 ▸ vp_in_nI hm (by decide)) (h2 := (h1, hM G f (up2 ar 14 (upd (ar 14) (f 19).toNatClampNeg z6_)))) ms_14 ?_
      refine R_aload_n 54 dX7_statement_53 rfl rfl ?_
      refine R_get 57 dX7_statement_54 rfl fX7_40 rfl (v := .ref 111) rfl ?_
      refine R_aload_n 58 dX7_statement_57 rfl rfl ?_
      refine R_get 61 dX7_statement_58 rfl fX7_114 rfl (v := .int (f 19)) rfl ?_
      refine R_aload_n 62 dX7_statement_61 rfl rfl ?_
      refine R_get 65 dX7_statement_62 rfl fX7_80 rfl (v := .int (f 18)) rfl ?_
      refine R_iast 66 dX7_statement_65 rfl rfl rfl (h19 ▸ vp_in_nI hm (by decide)) (h2 := (h1, hM G f (up2 (up2 ar 14 (upd (ar 14) (f 19).toNatClampNeg z6_)) 15 (upd (ar 15) (f 19).toNatClampNeg (f 18))))) ms_15 ?_
      refine R_aload_n 67 dX7_statement_66 rfl rfl ?_
      refine R_dup 68 dX7_statement_67 rfl rfl ?_
      refine R_get 71 dX7_statement_68 rfl fX7_80 rfl (v := .int (f 18)) rfl ?_
      refine R_iconst 72 dX7_statement_71 rfl (v := 1) (by decide) ?_
      refine R_iadd 73 dX7_statement_72 rfl ?_
      refine R_nm2 (fun z7_ hz7_ => ?_)
      refine R_put 76 dX7_statement_73 rfl wX7_80 rfl rfl rfl rfl (h2 := (h1, hM G (upd f 18 z7_) (up2 (up2 ar 14 (upd (ar 14) (f 19).toNatClampNeg z6_)) 15 (upd (ar 15) (f 19).toNatClampNeg (f 18))))) mp_18 ?_
      refine R_aload_n 77 dX7_statement_76 rfl rfl ?_
      refine R_iload_n 78 dX7_statement_77 rfl rfl ?_
      refine R_bipush 80 dX7_statement_78 rfl (v := 6) (by decide) ?_
      refine R_aload_n 81 dX7_statement_80 rfl rfl ?_
      refine R_get 84 dX7_statement_81 rfl fX7_114 rfl (v := .int (f 19)) rfl ?_
      refine R_imul 85 dX7_statement_84 rfl ?_
      refine R_callVi 88 (eX7_readsAll (s6 h19 hm) (st_rB1 h18 hr h96 hz7_)) dX7_statement_85 rfl kX7_readsAll lX7_117 rfl rfl rfl rfl rfl rfl rfl ?_
      generalize hz8_ : (sX7_readsAll (upd f 18 z7_) (up2 (up2 ar 14 (upd (ar 14) (f 19).toNatClampNeg z6_)) 15 (upd (ar 15) (f 19).toNatClampNeg (f 18))) (sX7_next f ar) (6 * (f 19))).2.1 = z8_
      generalize hz9_ : (sX7_readsAll (upd f 18 z7_) (up2 (up2 ar 14 (upd (ar 14) (f 19).toNatClampNeg z6_)) 15 (upd (ar 15) (f 19).toNatClampNeg (f 18))) (sX7_next f ar) (6 * (f 19))).2.2 = z9_
      refine R_ifb_eq 91 100 dX7_statement_88 rfl (by decide) (fun c5 => ?_) (fun c5 => ?_)
      ·
        refine R_iconst 101 dX7_statement_100 rfl (v := 0) (by decide) ?_
        refine R_ireturn dX7_statement_101 rfl (by decide) ?_
        subst hz6_ hz7_ hz8_ hz9_
        have e : zz = (false, ((sX7_readsAll (upd f 18 ((f 18) + 1)) (up2 (up2 ar 14 (upd (ar 14) (f 19).toNatClampNeg (sX7_next f ar))) 15 (upd (ar 15) (f 19).toNatClampNeg (f 18))) (sX7_next f ar) (6 * (f 19))).2.1), ((sX7_readsAll (upd f 18 ((f 18) + 1)) (up2 (up2 ar 14 (upd (ar 14) (f 19).toNatClampNeg (sX7_next f ar))) 15 (upd (ar 15) (f 19).toNatClampNeg (f 18))) (sX7_next f ar) (6 * (f 19))).2.2)) := by rw [← hs]; unfold sX7_statement; rw [if_neg c1, if_pos c4, if_neg c5]
        rw [pr1 e, pr1 (pr2 e), pr2 (pr2 e)]; exact ⟨rfl, rfl⟩
      ·
        refine R_aload_n 92 dX7_statement_91 rfl rfl ?_
        refine R_callVi 95 (eX7_next (st_rB2 h18 hr h96 h19 hm hz7_ hz8_)) dX7_statement_92 rfl kX7_next lX7_83 rfl rfl rfl rfl rfl rfl rfl ?_
        refine R_bipush 97 dX7_statement_95 rfl (v := 59) (by decide) ?_
        refine R_icmp_eq 100 102 dX7_statement_97 rfl (by decide) (fun c6 => ?_) (fun c6 => ?_)
        ·
          refine R_aload_n 103 dX7_statement_102 rfl rfl ?_
          refine R_dup 104 dX7_statement_103 rfl rfl ?_
          refine R_get 107 dX7_statement_104 rfl fX7_80 rfl (v := .int (z8_ 18)) rfl ?_
          refine R_iconst 108 dX7_statement_107 rfl (v := 1) (by decide) ?_
          refine R_iadd 109 dX7_statement_108 rfl ?_
          refine R_nm2 (fun z10_ hz10_ => ?_)
          refine R_put 112 dX7_statement_109 rfl wX7_80 rfl rfl rfl rfl (h2 := (h1, hM G (upd z8_ 18 z10_) z9_)) mp_18 ?_
          refine R_iconst 113 dX7_statement_112 rfl (v := 1) (by decide) ?_
          refine R_ireturn dX7_statement_113 rfl (by decide) ?_
          subst hz6_ hz7_ hz8_ hz9_ hz10_
          have e : zz = (true, (upd ((sX7_readsAll (upd f 18 ((f 18) + 1)) (up2 (up2 ar 14 (upd (ar 14) (f 19).toNatClampNeg (sX7_next f ar))) 15 (upd (ar 15) (f 19).toNatClampNeg (f 18))) (sX7_next f ar) (6 * (f 19))).2.1) 18 ((((sX7_readsAll (upd f 18 ((f 18) + 1)) (up2 (up2 ar 14 (upd (ar 14) (f 19).toNatClampNeg (sX7_next f ar))) 15 (upd (ar 15) (f 19).toNatClampNeg (f 18))) (sX7_next f ar) (6 * (f 19))).2.1) 18) + 1)), ((sX7_readsAll (upd f 18 ((f 18) + 1)) (up2 (up2 ar 14 (upd (ar 14) (f 19).toNatClampNeg (sX7_next f ar))) 15 (upd (ar 15) (f 19).toNatClampNeg (f 18))) (sX7_next f ar) (6 * (f 19))).2.2)) := by rw [← hs]; unfold sX7_statement; rw [if_neg c1, if_pos c4, if_pos c5, if_pos c6]
          rw [pr1 e, pr1 (pr2 e), pr2 (pr2 e)]; exact ⟨rfl, rfl⟩
        ·
          refine R_iconst 101 dX7_statement_100 rfl (v := 0) (by decide) ?_
          refine R_ireturn dX7_statement_101 rfl (by decide) ?_
          subst hz6_ hz7_ hz8_ hz9_
          have e : zz = (false, ((sX7_readsAll (upd f 18 ((f 18) + 1)) (up2 (up2 ar 14 (upd (ar 14) (f 19).toNatClampNeg (sX7_next f ar))) 15 (upd (ar 15) (f 19).toNatClampNeg (f 18))) (sX7_next f ar) (6 * (f 19))).2.1), ((sX7_readsAll (upd f 18 ((f 18) + 1)) (up2 (up2 ar 14 (upd (ar 14) (f 19).toNatClampNeg (sX7_next f ar))) 15 (upd (ar 15) (f 19).toNatClampNeg (f 18))) (sX7_next f ar) (6 * (f 19))).2.2)) := by rw [← hs]; unfold sX7_statement; rw [if_neg c1, if_pos c4, if_pos c5, if_neg c6]
          rw [pr1 e, pr1 (pr2 e), pr2 (pr2 e)]; exact ⟨rfl, rfl⟩
    ·
      refine R_iload_n 18 dX7_statement_17 rfl rfl ?_
      refine R_bipush 20 dX7_statement_18 rfl (v := 115) (by decide) ?_
      refine R_icmp_eq 23 43 dX7_statement_20 rfl (by decide) (fun c7 => ?_) (fun c7 => ?_)
      ·
        refine R_aload_n 44 dX7_statement_43 rfl rfl ?_
        refine R_get 47 dX7_statement_44 rfl fX7_37 rfl (v := .ref 110) rfl ?_
        refine R_aload_n 48 dX7_statement_47 rfl rfl ?_
        refine R_get 51 dX7_statement_48 rfl fX7_114 rfl (v := .int (f 19)) rfl ?_
        refine R_iload_n 52 dX7_statement_51 rfl rfl ?_
        refine R_nm2 (fun z11_ hz11_ => ?_)
        refine R_iast 53 dX7_statement_52 rfl rfl rfl (h19 ▸ vp_in_nI hm (by decide)) (h2 := (h1, hM G f (up2 ar 14 (upd (ar 14) (f 19).toNatClampNeg z11_)))) ms_14 ?_
        refine R_aload_n 54 dX7_statement_53 rfl rfl ?_
        refine R_get 57 dX7_statement_54 rfl fX7_40 rfl (v := .ref 111) rfl ?_
        refine R_aload_n 58 dX7_statement_57 rfl rfl ?_
        refine R_get 61 dX7_statement_58 rfl fX7_114 rfl (v := .int (f 19)) rfl ?_
        refine R_aload_n 62 dX7_statement_61 rfl rfl ?_
        refine R_get 65 dX7_statement_62 rfl fX7_80 rfl (v := .int (f 18)) rfl ?_
        refine R_iast 66 dX7_statement_65 rfl rfl rfl (h19 ▸ vp_in_nI hm (by decide)) (h2 := (h1, hM G f (up2 (up2 ar 14 (upd (ar 14) (f 19).toNatClampNeg z11_)) 15 (upd (ar 15) (f 19).toNatClampNeg (f 18))))) ms_15 ?_
        refine R_aload_n 67 dX7_statement_66 rfl rfl ?_
        refine R_dup 68 dX7_statement_67 rfl rfl ?_
        refine R_get 71 dX7_statement_68 rfl fX7_80 rfl (v := .int (f 18)) rfl ?_
        refine R_iconst 72 dX7_statement_71 rfl (v := 1) (by decide) ?_
        refine R_iadd 73 dX7_statement_72 rfl ?_
        refine R_nm2 (fun z12_ hz12_ => ?_)
        refine R_put 76 dX7_statement_73 rfl wX7_80 rfl rfl rfl rfl (h2 := (h1, hM G (upd f 18 z12_) (up2 (up2 ar 14 (upd (ar 14) (f 19).toNatClampNeg z11_)) 15 (upd (ar 15) (f 19).toNatClampNeg (f 18))))) mp_18 ?_
        refine R_aload_n 77 dX7_statement_76 rfl rfl ?_
        refine R_iload_n 78 dX7_statement_77 rfl rfl ?_
        refine R_bipush 80 dX7_statement_78 rfl (v := 6) (by decide) ?_
        refine R_aload_n 81 dX7_statement_80 rfl rfl ?_
        refine R_get 84 dX7_statement_81 rfl fX7_114 rfl (v := .int (f 19)) rfl ?_
        refine R_imul 85 dX7_statement_84 rfl ?_
        refine R_callVi 88 (eX7_readsAll (s6 h19 hm) (st_rB1 h18 hr h96 hz12_)) dX7_statement_85 rfl kX7_readsAll lX7_117 rfl rfl rfl rfl rfl rfl rfl ?_
        generalize hz13_ : (sX7_readsAll (upd f 18 z12_) (up2 (up2 ar 14 (upd (ar 14) (f 19).toNatClampNeg z11_)) 15 (upd (ar 15) (f 19).toNatClampNeg (f 18))) (sX7_next f ar) (6 * (f 19))).2.1 = z13_
        generalize hz14_ : (sX7_readsAll (upd f 18 z12_) (up2 (up2 ar 14 (upd (ar 14) (f 19).toNatClampNeg z11_)) 15 (upd (ar 15) (f 19).toNatClampNeg (f 18))) (sX7_next f ar) (6 * (f 19))).2.2 = z14_
        refine R_ifb_eq 91 100 dX7_statement_88 rfl (by decide) (fun c8 => ?_) (fun c8 => ?_)
        ·
          refine R_iconst 101 dX7_statement_100 rfl (v := 0) (by decide) ?_
          refine R_ireturn dX7_statement_101 rfl (by decide) ?_
          subst hz11_ hz12_ hz13_ hz14_
          have e : zz = (false, ((sX7_readsAll (upd f 18 ((f 18) + 1)) (up2 (up2 ar 14 (upd (ar 14) (f 19).toNatClampNeg (sX7_next f ar))) 15 (upd (ar 15) (f 19).toNatClampNeg (f 18))) (sX7_next f ar) (6 * (f 19))).2.1), ((sX7_readsAll (upd f 18 ((f 18) + 1)) (up2 (up2 ar 14 (upd (ar 14) (f 19).toNatClampNeg (sX7_next f ar))) 15 (upd (ar 15) (f 19).toNatClampNeg (f 18))) (sX7_next f ar) (6 * (f 19))).2.2)) := by rw [← hs]; unfold sX7_statement; rw [if_neg c1, if_neg c4, if_pos c7, if_neg c8]
          rw [pr1 e, pr1 (pr2 e), pr2 (pr2 e)]; exact ⟨rfl, rfl⟩
        ·
          refine R_aload_n 92 dX7_statement_91 rfl rfl ?_
          refine R_callVi 95 (eX7_next (st_rB2 h18 hr h96 h19 hm hz12_ hz13_)) dX7_statement_92 rfl kX7_next lX7_83 rfl rfl rfl rfl rfl rfl rfl ?_
          refine R_bipush 97 dX7_statement_95 rfl (v := 59) (by decide) ?_
          refine R_icmp_eq 100 102 dX7_statement_97 rfl (by decide) (fun c9 => ?_) (fun c9 => ?_)
          ·
            refine R_aload_n 103 dX7_statement_102 rfl rfl ?_
            refine R_dup 104 dX7_statement_103 rfl rfl ?_
            refine R_get 107 dX7_statement_104 rfl fX7_80 rfl (v := .int (z13_ 18)) rfl ?_
            refine R_iconst 108 dX7_statement_107 rfl (v := 1) (by decide) ?_
            refine R_iadd 109 dX7_statement_108 rfl ?_
            refine R_nm2 (fun z15_ hz15_ => ?_)
            refine R_put 112 dX7_statement_109 rfl wX7_80 rfl rfl rfl rfl (h2 := (h1, hM G (upd z13_ 18 z15_) z14_)) mp_18 ?_
            refine R_iconst 113 dX7_statement_112 rfl (v := 1) (by decide) ?_
            refine R_ireturn dX7_statement_113 rfl (by decide) ?_
            subst hz11_ hz12_ hz13_ hz14_ hz15_
            have e : zz = (true, (upd ((sX7_readsAll (upd f 18 ((f 18) + 1)) (up2 (up2 ar 14 (upd (ar 14) (f 19).toNatClampNeg (sX7_next f ar))) 15 (upd (ar 15) (f 19).toNatClampNeg (f 18))) (sX7_next f ar) (6 * (f 19))).2.1) 18 ((((sX7_readsAll (upd f 18 ((f 18) + 1)) (up2 (up2 ar 14 (upd (ar 14) (f 19).toNatClampNeg (sX7_next f ar))) 15 (upd (ar 15) (f 19).toNatClampNeg (f 18))) (sX7_next f ar) (6 * (f 19))).2.1) 18) + 1)), ((sX7_readsAll (upd f 18 ((f 18) + 1)) (up2 (up2 ar 14 (upd (ar 14) (f 19).toNatClampNeg (sX7_next f ar))) 15 (upd (ar 15) (f 19).toNatClampNeg (f 18))) (sX7_next f ar) (6 * (f 19))).2.2)) := by rw [← hs]; unfold sX7_statement; rw [if_neg c1, if_neg c4, if_pos c7, if_pos c8, if_pos c9]
            rw [pr1 e, pr1 (pr2 e), pr2 (pr2 e)]; exact ⟨rfl, rfl⟩
          ·
            refine R_iconst 101 dX7_statement_100 rfl (v := 0) (by decide) ?_
            refine R_ireturn dX7_statement_101 rfl (by decide) ?_
            subst hz11_ hz12_ hz13_ hz14_
            have e : zz = (false, ((sX7_readsAll (upd f 18 ((f 18) + 1)) (up2 (up2 ar 14 (upd (ar 14) (f 19).toNatClampNeg (sX7_next f ar))) 15 (upd (ar 15) (f 19).toNatClampNeg (f 18))) (sX7_next f ar) (6 * (f 19))).2.1), ((sX7_readsAll (upd f 18 ((f 18) + 1)) (up2 (up2 ar 14 (upd (ar 14) (f 19).toNatClampNeg (sX7_next f ar))) 15 (upd (ar 15) (f 19).toNatClampNeg (f 18))) (sX7_next f ar) (6 * (f 19))).2.2)) := by rw [← hs]; unfold sX7_statement; rw [if_neg c1, if_neg c4, if_pos c7, if_pos c8, if_neg c9]
            rw [pr1 e, pr1 (pr2 e), pr2 (pr2 e)]; exact ⟨rfl, rfl⟩
      ·
        refine R_iload_n 24 dX7_statement_23 rfl rfl ?_
        refine R_bipush 26 dX7_statement_24 rfl (v := 100) (by decide) ?_
        refine R_icmp_eq 29 43 dX7_statement_26 rfl (by decide) (fun c10 => ?_) (fun c10 => ?_)
        ·
          refine R_aload_n 44 dX7_statement_43 rfl rfl ?_
          refine R_get 47 dX7_statement_44 rfl fX7_37 rfl (v := .ref 110) rfl ?_
          refine R_aload_n 48 dX7_statement_47 rfl rfl ?_
          refine R_get 51 dX7_statement_48 rfl fX7_114 rfl (v := .int (f 19)) rfl ?_
          refine R_iload_n 52 dX7_statement_51 rfl rfl ?_
          refine R_nm2 (fun z16_ hz16_ => ?_)
          refine R_iast 53 dX7_statement_52 rfl rfl rfl (h19 ▸ vp_in_nI hm (by decide)) (h2 := (h1, hM G f (up2 ar 14 (upd (ar 14) (f 19).toNatClampNeg z16_)))) ms_14 ?_
          refine R_aload_n 54 dX7_statement_53 rfl rfl ?_
          refine R_get 57 dX7_statement_54 rfl fX7_40 rfl (v := .ref 111) rfl ?_
          refine R_aload_n 58 dX7_statement_57 rfl rfl ?_
          refine R_get 61 dX7_statement_58 rfl fX7_114 rfl (v := .int (f 19)) rfl ?_
          refine R_aload_n 62 dX7_statement_61 rfl rfl ?_
          refine R_get 65 dX7_statement_62 rfl fX7_80 rfl (v := .int (f 18)) rfl ?_
          refine R_iast 66 dX7_statement_65 rfl rfl rfl (h19 ▸ vp_in_nI hm (by decide)) (h2 := (h1, hM G f (up2 (up2 ar 14 (upd (ar 14) (f 19).toNatClampNeg z16_)) 15 (upd (ar 15) (f 19).toNatClampNeg (f 18))))) ms_15 ?_
          refine R_aload_n 67 dX7_statement_66 rfl rfl ?_
          refine R_dup 68 dX7_statement_67 rfl rfl ?_
          refine R_get 71 dX7_statement_68 rfl fX7_80 rfl (v := .int (f 18)) rfl ?_
          refine R_iconst 72 dX7_statement_71 rfl (v := 1) (by decide) ?_
          refine R_iadd 73 dX7_statement_72 rfl ?_
          refine R_nm2 (fun z17_ hz17_ => ?_)
          refine R_put 76 dX7_statement_73 rfl wX7_80 rfl rfl rfl rfl (h2 := (h1, hM G (upd f 18 z17_) (up2 (up2 ar 14 (upd (ar 14) (f 19).toNatClampNeg z16_)) 15 (upd (ar 15) (f 19).toNatClampNeg (f 18))))) mp_18 ?_
          refine R_aload_n 77 dX7_statement_76 rfl rfl ?_
          refine R_iload_n 78 dX7_statement_77 rfl rfl ?_
          refine R_bipush 80 dX7_statement_78 rfl (v := 6) (by decide) ?_
          refine R_aload_n 81 dX7_statement_80 rfl rfl ?_
          refine R_get 84 dX7_statement_81 rfl fX7_114 rfl (v := .int (f 19)) rfl ?_
          refine R_imul 85 dX7_statement_84 rfl ?_
          refine R_callVi 88 (eX7_readsAll (s6 h19 hm) (st_rB1 h18 hr h96 hz17_)) dX7_statement_85 rfl kX7_readsAll lX7_117 rfl rfl rfl rfl rfl rfl rfl ?_
          generalize hz18_ : (sX7_readsAll (upd f 18 z17_) (up2 (up2 ar 14 (upd (ar 14) (f 19).toNatClampNeg z16_)) 15 (upd (ar 15) (f 19).toNatClampNeg (f 18))) (sX7_next f ar) (6 * (f 19))).2.1 = z18_
          generalize hz19_ : (sX7_readsAll (upd f 18 z17_) (up2 (up2 ar 14 (upd (ar 14) (f 19).toNatClampNeg z16_)) 15 (upd (ar 15) (f 19).toNatClampNeg (f 18))) (sX7_next f ar) (6 * (f 19))).2.2 = z19_
          refine R_ifb_eq 91 100 dX7_statement_88 rfl (by decide) (fun c11 => ?_) (fun c11 => ?_)
          ·
            refine R_iconst 101 dX7_statement_100 rfl (v := 0) (by decide) ?_
            refine R_ireturn dX7_statement_101 rfl (by decide) ?_
            subst hz16_ hz17_ hz18_ hz19_
            have e : zz = (false, ((sX7_readsAll (upd f 18 ((f 18) + 1)) (up2 (up2 ar 14 (upd (ar 14) (f 19).toNatClampNeg (sX7_next f ar))) 15 (upd (ar 15) (f 19).toNatClampNeg (f 18))) (sX7_next f ar) (6 * (f 19))).2.1), ((sX7_readsAll (upd f 18 ((f 18) + 1)) (up2 (up2 ar 14 (upd (ar 14) (f 19).toNatClampNeg (sX7_next f ar))) 15 (upd (ar 15) (f 19).toNatClampNeg (f 18))) (sX7_next f ar) (6 * (f 19))).2.2)) := by rw [← hs]; unfold sX7_statement; rw [if_neg c1, if_neg c4, if_neg c7, if_pos c10, if_neg c11]
            rw [pr1 e, pr1 (pr2 e), pr2 (pr2 e)]; exact ⟨rfl, rfl⟩
          ·
            refine R_aload_n 92 dX7_statement_91 rfl rfl ?_
            refine R_callVi 95 (eX7_next (st_rB2 h18 hr h96 h19 hm hz17_ hz18_)) dX7_statement_92 rfl kX7_next lX7_83 rfl rfl rfl rfl rfl rfl rfl ?_
            refine R_bipush 97 dX7_statement_95 rfl (v := 59) (by decide) ?_
            refine R_icmp_eq 100 102 dX7_statement_97 rfl (by decide) (fun c12 => ?_) (fun c12 => ?_)
            ·
              refine R_aload_n 103 dX7_statement_102 rfl rfl ?_
              refine R_dup 104 dX7_statement_103 rfl rfl ?_
              refine R_get 107 dX7_statement_104 rfl fX7_80 rfl (v := .int (z18_ 18)) rfl ?_
              refine R_iconst 108 dX7_statement_107 rfl (v := 1) (by decide) ?_
              refine R_iadd 109 dX7_statement_108 rfl ?_
              refine R_nm2 (fun z20_ hz20_ => ?_)
              refine R_put 112 dX7_statement_109 rfl wX7_80 rfl rfl rfl rfl (h2 := (h1, hM G (upd z18_ 18 z20_) z19_)) mp_18 ?_
              refine R_iconst 113 dX7_statement_112 rfl (v := 1) (by decide) ?_
              refine R_ireturn dX7_statement_113 rfl (by decide) ?_
              subst hz16_ hz17_ hz18_ hz19_ hz20_
              have e : zz = (true, (upd ((sX7_readsAll (upd f 18 ((f 18) + 1)) (up2 (up2 ar 14 (upd (ar 14) (f 19).toNatClampNeg (sX7_next f ar))) 15 (upd (ar 15) (f 19).toNatClampNeg (f 18))) (sX7_next f ar) (6 * (f 19))).2.1) 18 ((((sX7_readsAll (upd f 18 ((f 18) + 1)) (up2 (up2 ar 14 (upd (ar 14) (f 19).toNatClampNeg (sX7_next f ar))) 15 (upd (ar 15) (f 19).toNatClampNeg (f 18))) (sX7_next f ar) (6 * (f 19))).2.1) 18) + 1)), ((sX7_readsAll (upd f 18 ((f 18) + 1)) (up2 (up2 ar 14 (upd (ar 14) (f 19).toNatClampNeg (sX7_next f ar))) 15 (upd (ar 15) (f 19).toNatClampNeg (f 18))) (sX7_next f ar) (6 * (f 19))).2.2)) := by rw [← hs]; unfold sX7_statement; rw [if_neg c1, if_neg c4, if_neg c7, if_pos c10, if_pos c11, if_pos c12]
              rw [pr1 e, pr1 (pr2 e), pr2 (pr2 e)]; exact ⟨rfl, rfl⟩
            ·
              refine R_iconst 101 dX7_statement_100 rfl (v := 0) (by decide) ?_
              refine R_ireturn dX7_statement_101 rfl (by decide) ?_
              subst hz16_ hz17_ hz18_ hz19_
              have e : zz = (false, ((sX7_readsAll (upd f 18 ((f 18) + 1)) (up2 (up2 ar 14 (upd (ar 14) (f 19).toNatClampNeg (sX7_next f ar))) 15 (upd (ar 15) (f 19).toNatClampNeg (f 18))) (sX7_next f ar) (6 * (f 19))).2.1), ((sX7_readsAll (upd f 18 ((f 18) + 1)) (up2 (up2 ar 14 (upd (ar 14) (f 19).toNatClampNeg (sX7_next f ar))) 15 (upd (ar 15) (f 19).toNatClampNeg (f 18))) (sX7_next f ar) (6 * (f 19))).2.2)) := by rw [← hs]; unfold sX7_statement; rw [if_neg c1, if_neg c4, if_neg c7, if_pos c10, if_pos c11, if_neg c12]
              rw [pr1 e, pr1 (pr2 e), pr2 (pr2 e)]; exact ⟨rfl, rfl⟩
        ·
          refine R_iload_n 30 dX7_statement_29 rfl rfl ?_
          refine R_bipush 32 dX7_statement_30 rfl (v := 114) (by decide) ?_
          refine R_icmp_eq 35 43 dX7_statement_32 rfl (by decide) (fun c13 => ?_) (fun c13 => ?_)
          ·
            refine R_aload_n 44 dX7_statement_43 rfl rfl ?_
            refine R_get 47 dX7_statement_44 rfl fX7_37 rfl (v := .ref 110) rfl ?_
            refine R_aload_n 48 dX7_statement_47 rfl rfl ?_
            refine R_get 51 dX7_statement_48 rfl fX7_114 rfl (v := .int (f 19)) rfl ?_
            refine R_iload_n 52 dX7_statement_51 rfl rfl ?_
            refine R_nm2 (fun z21_ hz21_ => ?_)
            refine R_iast 53 dX7_statement_52 rfl rfl rfl (h19 ▸ vp_in_nI hm (by decide)) (h2 := (h1, hM G f (up2 ar 14 (upd (ar 14) (f 19).toNatClampNeg z21_)))) ms_14 ?_
            refine R_aload_n 54 dX7_statement_53 rfl rfl ?_
            refine R_get 57 dX7_statement_54 rfl fX7_40 rfl (v := .ref 111) rfl ?_
            refine R_aload_n 58 dX7_statement_57 rfl rfl ?_
            refine R_get 61 dX7_statement_58 rfl fX7_114 rfl (v := .int (f 19)) rfl ?_
            refine R_aload_n 62 dX7_statement_61 rfl rfl ?_
            refine R_get 65 dX7_statement_62 rfl fX7_80 rfl (v := .int (f 18)) rfl ?_
            refine R_iast 66 dX7_statement_65 rfl rfl rfl (h19 ▸ vp_in_nI hm (by decide)) (h2 := (h1, hM G f (up2 (up2 ar 14 (upd (ar 14) (f 19).toNatClampNeg z21_)) 15 (upd (ar 15) (f 19).toNatClampNeg (f 18))))) ms_15 ?_
            refine R_aload_n 67 dX7_statement_66 rfl rfl ?_
            refine R_dup 68 dX7_statement_67 rfl rfl ?_
            refine R_get 71 dX7_statement_68 rfl fX7_80 rfl (v := .int (f 18)) rfl ?_
            refine R_iconst 72 dX7_statement_71 rfl (v := 1) (by decide) ?_
            refine R_iadd 73 dX7_statement_72 rfl ?_
            refine R_nm2 (fun z22_ hz22_ => ?_)
            refine R_put 76 dX7_statement_73 rfl wX7_80 rfl rfl rfl rfl (h2 := (h1, hM G (upd f 18 z22_) (up2 (up2 ar 14 (upd (ar 14) (f 19).toNatClampNeg z21_)) 15 (upd (ar 15) (f 19).toNatClampNeg (f 18))))) mp_18 ?_
            refine R_aload_n 77 dX7_statement_76 rfl rfl ?_
            refine R_iload_n 78 dX7_statement_77 rfl rfl ?_
            refine R_bipush 80 dX7_statement_78 rfl (v := 6) (by decide) ?_
            refine R_aload_n 81 dX7_statement_80 rfl rfl ?_
            refine R_get 84 dX7_statement_81 rfl fX7_114 rfl (v := .int (f 19)) rfl ?_
            refine R_imul 85 dX7_statement_84 rfl ?_
            refine R_callVi 88 (eX7_readsAll (s6 h19 hm) (st_rB1 h18 hr h96 hz22_)) dX7_statement_85 rfl kX7_readsAll lX7_117 rfl rfl rfl rfl rfl rfl rfl ?_
            generalize hz23_ : (sX7_readsAll (upd f 18 z22_) (up2 (up2 ar 14 (upd (ar 14) (f 19).toNatClampNeg z21_)) 15 (upd (ar 15) (f 19).toNatClampNeg (f 18))) (sX7_next f ar) (6 * (f 19))).2.1 = z23_
            generalize hz24_ : (sX7_readsAll (upd f 18 z22_) (up2 (up2 ar 14 (upd (ar 14) (f 19).toNatClampNeg z21_)) 15 (upd (ar 15) (f 19).toNatClampNeg (f 18))) (sX7_next f ar) (6 * (f 19))).2.2 = z24_
            refine R_ifb_eq 91 100 dX7_statement_88 rfl (by decide) (fun c14 => ?_) (fun c14 => ?_)
            ·
              refine R_iconst 101 dX7_statement_100 rfl (v := 0) (by decide) ?_
              refine R_ireturn dX7_statement_101 rfl (by decide) ?_
              subst hz21_ hz22_ hz23_ hz24_
              have e : zz = (false, ((sX7_readsAll (upd f 18 ((f 18) + 1)) (up2 (up2 ar 14 (upd (ar 14) (f 19).toNatClampNeg (sX7_next f ar))) 15 (upd (ar 15) (f 19).toNatClampNeg (f 18))) (sX7_next f ar) (6 * (f 19))).2.1), ((sX7_readsAll (upd f 18 ((f 18) + 1)) (up2 (up2 ar 14 (upd (ar 14) (f 19).toNatClampNeg (sX7_next f ar))) 15 (upd (ar 15) (f 19).toNatClampNeg (f 18))) (sX7_next f ar) (6 * (f 19))).2.2)) := by rw [← hs]; unfold sX7_statement; rw [if_neg c1, if_neg c4, if_neg c7, if_neg c10, if_pos c13, if_neg c14]
              rw [pr1 e, pr1 (pr2 e), pr2 (pr2 e)]; exact ⟨rfl, rfl⟩
            ·
              refine R_aload_n 92 dX7_statement_91 rfl rfl ?_
              refine R_callVi 95 (eX7_next (st_rB2 h18 hr h96 h19 hm hz22_ hz23_)) dX7_statement_92 rfl kX7_next lX7_83 rfl rfl rfl rfl rfl rfl rfl ?_
              refine R_bipush 97 dX7_statement_95 rfl (v := 59) (by decide) ?_
              refine R_icmp_eq 100 102 dX7_statement_97 rfl (by decide) (fun c15 => ?_) (fun c15 => ?_)
              ·
                refine R_aload_n 103 dX7_statement_102 rfl rfl ?_
                refine R_dup 104 dX7_statement_103 rfl rfl ?_
                refine R_get 107 dX7_statement_104 rfl fX7_80 rfl (v := .int (z23_ 18)) rfl ?_
                refine R_iconst 108 dX7_statement_107 rfl (v := 1) (by decide) ?_
                refine R_iadd 109 dX7_statement_108 rfl ?_
                refine R_nm2 (fun z25_ hz25_ => ?_)
                refine R_put 112 dX7_statement_109 rfl wX7_80 rfl rfl rfl rfl (h2 := (h1, hM G (upd z23_ 18 z25_) z24_)) mp_18 ?_
                refine R_iconst 113 dX7_statement_112 rfl (v := 1) (by decide) ?_
                refine R_ireturn dX7_statement_113 rfl (by decide) ?_
                subst hz21_ hz22_ hz23_ hz24_ hz25_
                have e : zz = (true, (upd ((sX7_readsAll (upd f 18 ((f 18) + 1)) (up2 (up2 ar 14 (upd (ar 14) (f 19).toNatClampNeg (sX7_next f ar))) 15 (upd (ar 15) (f 19).toNatClampNeg (f 18))) (sX7_next f ar) (6 * (f 19))).2.1) 18 ((((sX7_readsAll (upd f 18 ((f 18) + 1)) (up2 (up2 ar 14 (upd (ar 14) (f 19).toNatClampNeg (sX7_next f ar))) 15 (upd (ar 15) (f 19).toNatClampNeg (f 18))) (sX7_next f ar) (6 * (f 19))).2.1) 18) + 1)), ((sX7_readsAll (upd f 18 ((f 18) + 1)) (up2 (up2 ar 14 (upd (ar 14) (f 19).toNatClampNeg (sX7_next f ar))) 15 (upd (ar 15) (f 19).toNatClampNeg (f 18))) (sX7_next f ar) (6 * (f 19))).2.2)) := by rw [← hs]; unfold sX7_statement; rw [if_neg c1, if_neg c4, if_neg c7, if_neg c10, if_pos c13, if_pos c14, if_pos c15]
                rw [pr1 e, pr1 (pr2 e), pr2 (pr2 e)]; exact ⟨rfl, rfl⟩
              ·
                refine R_iconst 101 dX7_statement_100 rfl (v := 0) (by decide) ?_
                refine R_ireturn dX7_statement_101 rfl (by decide) ?_
                subst hz21_ hz22_ hz23_ hz24_
                have e : zz = (false, ((sX7_readsAll (upd f 18 ((f 18) + 1)) (up2 (up2 ar 14 (upd (ar 14) (f 19).toNatClampNeg (sX7_next f ar))) 15 (upd (ar 15) (f 19).toNatClampNeg (f 18))) (sX7_next f ar) (6 * (f 19))).2.1), ((sX7_readsAll (upd f 18 ((f 18) + 1)) (up2 (up2 ar 14 (upd (ar 14) (f 19).toNatClampNeg (sX7_next f ar))) 15 (upd (ar 15) (f 19).toNatClampNeg (f 18))) (sX7_next f ar) (6 * (f 19))).2.2)) := by rw [← hs]; unfold sX7_statement; rw [if_neg c1, if_neg c4, if_neg c7, if_neg c10, if_pos c13, if_pos c14, if_neg c15]
                rw [pr1 e, pr1 (pr2 e), pr2 (pr2 e)]; exact ⟨rfl, rfl⟩
          ·
            refine R_iload_n 36 dX7_statement_35 rfl rfl ?_
            refine R_bipush 38 dX7_statement_36 rfl (v := 110) (by decide) ?_
            refine R_icmp_eq 41 43 dX7_statement_38 rfl (by decide) (fun c16 => ?_) (fun c16 => ?_)
            ·
              refine R_aload_n 44 dX7_statement_43 rfl rfl ?_
              refine R_get 47 dX7_statement_44 rfl fX7_37 rfl (v := .ref 110) rfl ?_
              refine R_aload_n 48 dX7_statement_47 rfl rfl ?_
              refine R_get 51 dX7_statement_48 rfl fX7_114 rfl (v := .int (f 19)) rfl ?_
              refine R_iload_n 52 dX7_statement_51 rfl rfl ?_
              refine R_nm2 (fun z26_ hz26_ => ?_)
              refine R_iast 53 dX7_statement_52 rfl rfl rfl (h19 ▸ vp_in_nI hm (by decide)) (h2 := (h1, hM G f (up2 ar 14 (upd (ar 14) (f 19).toNatClampNeg z26_)))) ms_14 ?_
              refine R_aload_n 54 dX7_statement_53 rfl rfl ?_
              refine R_get 57 dX7_statement_54 rfl fX7_40 rfl (v := .ref 111) rfl ?_
              refine R_aload_n 58 dX7_statement_57 rfl rfl ?_
              refine R_get 61 dX7_statement_58 rfl fX7_114 rfl (v := .int (f 19)) rfl ?_
              refine R_aload_n 62 dX7_statement_61 rfl rfl ?_
              refine R_get 65 dX7_statement_62 rfl fX7_80 rfl (v := .int (f 18)) rfl ?_
              refine R_iast 66 dX7_statement_65 rfl rfl rfl (h19 ▸ vp_in_nI hm (by decide)) (h2 := (h1, hM G f (up2 (up2 ar 14 (upd (ar 14) (f 19).toNatClampNeg z26_)) 15 (upd (ar 15) (f 19).toNatClampNeg (f 18))))) ms_15 ?_
              refine R_aload_n 67 dX7_statement_66 rfl rfl ?_
              refine R_dup 68 dX7_statement_67 rfl rfl ?_
              refine R_get 71 dX7_statement_68 rfl fX7_80 rfl (v := .int (f 18)) rfl ?_
              refine R_iconst 72 dX7_statement_71 rfl (v := 1) (by decide) ?_
              refine R_iadd 73 dX7_statement_72 rfl ?_
              refine R_nm2 (fun z27_ hz27_ => ?_)
              refine R_put 76 dX7_statement_73 rfl wX7_80 rfl rfl rfl rfl (h2 := (h1, hM G (upd f 18 z27_) (up2 (up2 ar 14 (upd (ar 14) (f 19).toNatClampNeg z26_)) 15 (upd (ar 15) (f 19).toNatClampNeg (f 18))))) mp_18 ?_
              refine R_aload_n 77 dX7_statement_76 rfl rfl ?_
              refine R_iload_n 78 dX7_statement_77 rfl rfl ?_
              refine R_bipush 80 dX7_statement_78 rfl (v := 6) (by decide) ?_
              refine R_aload_n 81 dX7_statement_80 rfl rfl ?_
              refine R_get 84 dX7_statement_81 rfl fX7_114 rfl (v := .int (f 19)) rfl ?_
              refine R_imul 85 dX7_statement_84 rfl ?_
              refine R_callVi 88 (eX7_readsAll (s6 h19 hm) (st_rB1 h18 hr h96 hz27_)) dX7_statement_85 rfl kX7_readsAll lX7_117 rfl rfl rfl rfl rfl rfl rfl ?_
              generalize hz28_ : (sX7_readsAll (upd f 18 z27_) (up2 (up2 ar 14 (upd (ar 14) (f 19).toNatClampNeg z26_)) 15 (upd (ar 15) (f 19).toNatClampNeg (f 18))) (sX7_next f ar) (6 * (f 19))).2.1 = z28_
              generalize hz29_ : (sX7_readsAll (upd f 18 z27_) (up2 (up2 ar 14 (upd (ar 14) (f 19).toNatClampNeg z26_)) 15 (upd (ar 15) (f 19).toNatClampNeg (f 18))) (sX7_next f ar) (6 * (f 19))).2.2 = z29_
              refine R_ifb_eq 91 100 dX7_statement_88 rfl (by decide) (fun c17 => ?_) (fun c17 => ?_)
              ·
                refine R_iconst 101 dX7_statement_100 rfl (v := 0) (by decide) ?_
                refine R_ireturn dX7_statement_101 rfl (by decide) ?_
                subst hz26_ hz27_ hz28_ hz29_
                have e : zz = (false, ((sX7_readsAll (upd f 18 ((f 18) + 1)) (up2 (up2 ar 14 (upd (ar 14) (f 19).toNatClampNeg (sX7_next f ar))) 15 (upd (ar 15) (f 19).toNatClampNeg (f 18))) (sX7_next f ar) (6 * (f 19))).2.1), ((sX7_readsAll (upd f 18 ((f 18) + 1)) (up2 (up2 ar 14 (upd (ar 14) (f 19).toNatClampNeg (sX7_next f ar))) 15 (upd (ar 15) (f 19).toNatClampNeg (f 18))) (sX7_next f ar) (6 * (f 19))).2.2)) := by rw [← hs]; unfold sX7_statement; rw [if_neg c1, if_neg c4, if_neg c7, if_neg c10, if_neg c13, if_pos c16, if_neg c17]
                rw [pr1 e, pr1 (pr2 e), pr2 (pr2 e)]; exact ⟨rfl, rfl⟩
              ·
                refine R_aload_n 92 dX7_statement_91 rfl rfl ?_
                refine R_callVi 95 (eX7_next (st_rB2 h18 hr h96 h19 hm hz27_ hz28_)) dX7_statement_92 rfl kX7_next lX7_83 rfl rfl rfl rfl rfl rfl rfl ?_
                refine R_bipush 97 dX7_statement_95 rfl (v := 59) (by decide) ?_
                refine R_icmp_eq 100 102 dX7_statement_97 rfl (by decide) (fun c18 => ?_) (fun c18 => ?_)
                ·
                  refine R_aload_n 103 dX7_statement_102 rfl rfl ?_
                  refine R_dup 104 dX7_statement_103 rfl rfl ?_
                  refine R_get 107 dX7_statement_104 rfl fX7_80 rfl (v := .int (z28_ 18)) rfl ?_
                  refine R_iconst 108 dX7_statement_107 rfl (v := 1) (by decide) ?_
                  refine R_iadd 109 dX7_statement_108 rfl ?_
                  refine R_nm2 (fun z30_ hz30_ => ?_)
                  refine R_put 112 dX7_statement_109 rfl wX7_80 rfl rfl rfl rfl (h2 := (h1, hM G (upd z28_ 18 z30_) z29_)) mp_18 ?_
                  refine R_iconst 113 dX7_statement_112 rfl (v := 1) (by decide) ?_
                  refine R_ireturn dX7_statement_113 rfl (by decide) ?_
                  subst hz26_ hz27_ hz28_ hz29_ hz30_
                  have e : zz = (true, (upd ((sX7_readsAll (upd f 18 ((f 18) + 1)) (up2 (up2 ar 14 (upd (ar 14) (f 19).toNatClampNeg (sX7_next f ar))) 15 (upd (ar 15) (f 19).toNatClampNeg (f 18))) (sX7_next f ar) (6 * (f 19))).2.1) 18 ((((sX7_readsAll (upd f 18 ((f 18) + 1)) (up2 (up2 ar 14 (upd (ar 14) (f 19).toNatClampNeg (sX7_next f ar))) 15 (upd (ar 15) (f 19).toNatClampNeg (f 18))) (sX7_next f ar) (6 * (f 19))).2.1) 18) + 1)), ((sX7_readsAll (upd f 18 ((f 18) + 1)) (up2 (up2 ar 14 (upd (ar 14) (f 19).toNatClampNeg (sX7_next f ar))) 15 (upd (ar 15) (f 19).toNatClampNeg (f 18))) (sX7_next f ar) (6 * (f 19))).2.2)) := by rw [← hs]; unfold sX7_statement; rw [if_neg c1, if_neg c4, if_neg c7, if_neg c10, if_neg c13, if_pos c16, if_pos c17, if_pos c18]
                  rw [pr1 e, pr1 (pr2 e), pr2 (pr2 e)]; exact ⟨rfl, rfl⟩
                ·
                  refine R_iconst 101 dX7_statement_100 rfl (v := 0) (by decide) ?_
                  refine R_ireturn dX7_statement_101 rfl (by decide) ?_
                  subst hz26_ hz27_ hz28_ hz29_
                  have e : zz = (false, ((sX7_readsAll (upd f 18 ((f 18) + 1)) (up2 (up2 ar 14 (upd (ar 14) (f 19).toNatClampNeg (sX7_next f ar))) 15 (upd (ar 15) (f 19).toNatClampNeg (f 18))) (sX7_next f ar) (6 * (f 19))).2.1), ((sX7_readsAll (upd f 18 ((f 18) + 1)) (up2 (up2 ar 14 (upd (ar 14) (f 19).toNatClampNeg (sX7_next f ar))) 15 (upd (ar 15) (f 19).toNatClampNeg (f 18))) (sX7_next f ar) (6 * (f 19))).2.2)) := by rw [← hs]; unfold sX7_statement; rw [if_neg c1, if_neg c4, if_neg c7, if_neg c10, if_neg c13, if_pos c16, if_pos c17, if_neg c18]
                  rw [pr1 e, pr1 (pr2 e), pr2 (pr2 e)]; exact ⟨rfl, rfl⟩
            ·
              refine R_iconst 42 dX7_statement_41 rfl (v := 0) (by decide) ?_
              refine R_ireturn dX7_statement_42 rfl (by decide) ?_
              have e : zz = (false, f, ar) := by rw [← hs]; unfold sX7_statement; rw [if_neg c1, if_neg c4, if_neg c7, if_neg c10, if_neg c13, if_neg c16]
              rw [pr1 e, pr1 (pr2 e), pr2 (pr2 e)]; exact ⟨rfl, rfl⟩
def sX7_comesSet (ar : Nat → Nat → Int32) (w : Int32) (v : Int32) : Bool × (Nat → Nat → Int32) := if (sX7_isIn v (sX7_leastOf w) (sX7_mostOf w)) = true then (true, (up2 ar 1 (upd (ar 1) w.toNatClampNeg v))) else (false, ar)
set_option maxRecDepth 20000 in
theorem eX7_comesSet {G : zG} {h1 : List va_E} {f : Nat → Int32} {ar : Nat → Nat → Int32} {w v : Int32} (hw : vp_in w 6) : EvF G mX7_comesSet [.ref 100, .int w, .int v] (h1, hM G f ar) (some (.int (b2i ((sX7_comesSet ar w v).1)))) (h1, hM G f ((sX7_comesSet ar w v).2)) := by
  generalize hs : (sX7_comesSet ar w v) = zz
  refine EvF.of pnX7 rfl ?_
  refine R_iload_n 1 dX7_comesSet_0 rfl rfl ?_
  refine R_iload_n 2 dX7_comesSet_1 rfl rfl ?_
  refine R_callSi 5 eX7_leastOf dX7_comesSet_2 rfl kX7_leastOf lX7_120 rfl rfl rfl rfl rfl ?_
  refine R_iload_n 6 dX7_comesSet_5 rfl rfl ?_
  refine R_callSi 9 eX7_mostOf dX7_comesSet_6 rfl kX7_mostOf lX7_123 rfl rfl rfl rfl rfl ?_
  refine R_callSi 12 eX7_isIn dX7_comesSet_9 rfl kX7_isIn lX7_87 rfl rfl rfl rfl rfl ?_
  refine R_ifb_ne 15 17 dX7_comesSet_12 rfl (by decide) (fun c1 => ?_) (fun c1 => ?_)
  ·
    refine R_aload_n 18 dX7_comesSet_17 rfl rfl ?_
    refine R_get 21 dX7_comesSet_18 rfl fX7_13 rfl (v := .ref 102) rfl ?_
    refine R_iload_n 22 dX7_comesSet_21 rfl rfl ?_
    refine R_iload_n 23 dX7_comesSet_22 rfl rfl ?_
    refine R_iast 24 dX7_comesSet_23 rfl rfl rfl hw (h2 := (h1, hM G f (up2 ar 1 (upd (ar 1) w.toNatClampNeg v)))) ms_1 ?_
    refine R_iconst 25 dX7_comesSet_24 rfl (v := 1) (by decide) ?_
    refine R_ireturn dX7_comesSet_25 rfl (by decide) ?_
    have e : zz = (true, (up2 ar 1 (upd (ar 1) w.toNatClampNeg v))) := by rw [← hs]; unfold sX7_comesSet; rw [if_pos c1]
    rw [pr1 e, pr2 e]; exact ⟨rfl, rfl⟩
  ·
    refine R_iconst 16 dX7_comesSet_15 rfl (v := 0) (by decide) ?_
    refine R_ireturn dX7_comesSet_16 rfl (by decide) ?_
    have e : zz = (false, ar) := by rw [← hs]; unfold sX7_comesSet; rw [if_neg c1]
    rw [pr1 e, pr2 e]; exact ⟨rfl, rfl⟩
def sX7_comesPerson (f : Nat → Int32) (ar : Nat → Nat → Int32) (p : Int32) : Bool × (Nat → Int32) × (Nat → Nat → Int32) := if 1 < (ar 16 (p + 3).toNatClampNeg) then (false, f, ar) else if (sX7_isIn (ar 16 (p + 4).toNatClampNeg) 1 5) = true then (if (f 8) = 5 then (false, f, ar) else (true, (upd f 8 ((f 8) + 1)), (up2 (up2 (up2 (up2 (up2 (up2 ar 2 (upd (ar 2) (f 8).toNatClampNeg (ar 16 p.toNatClampNeg))) 3 (upd (ar 3) (f 8).toNatClampNeg (ar 16 (p + 1).toNatClampNeg))) 4 (upd (ar 4) (f 8).toNatClampNeg (ar 16 (p + 2).toNatClampNeg))) 5 (upd (ar 5) (f 8).toNatClampNeg (ar 16 (p + 3).toNatClampNeg))) 6 (upd (ar 6) (f 8).toNatClampNeg (ar 16 (p + 4).toNatClampNeg))) 7 (upd (ar 7) (f 8).toNatClampNeg (ar 16 (p + 5).toNatClampNeg))))) else (false, f, ar)
set_option maxRecDepth 20000 in
theorem eX7_comesPerson {G : zG} {h1 : List va_E} {f : Nat → Int32} {ar : Nat → Nat → Int32} {p : Int32} (hp : 0 ≤ p.toInt ∧ p.toInt + 6 ≤ 288) (h8 : 0 ≤ (f 8).toInt ∧ (f 8).toInt ≤ 5) : EvF G mX7_comesPerson [.ref 100, .int p] (h1, hM G f ar) (some (.int (b2i ((sX7_comesPerson f ar p).1)))) (h1, hM G ((sX7_comesPerson f ar p).2.1) ((sX7_comesPerson f ar p).2.2)) := by
  generalize hs : (sX7_comesPerson f ar p) = zz
  refine EvF.of pnX7 rfl ?_
  refine R_aload_n 1 dX7_comesPerson_0 rfl rfl ?_
  refine R_get 4 dX7_comesPerson_1 rfl fX7_43 rfl (v := .ref 112) rfl ?_
  refine R_iload_n 5 dX7_comesPerson_4 rfl rfl ?_
  refine R_iconst 6 dX7_comesPerson_5 rfl (v := 3) (by decide) ?_
  refine R_iadd 7 dX7_comesPerson_6 rfl ?_
  refine R_iald 8 dX7_comesPerson_7 rfl rfl rfl (pc_in (c := 3) hp (by decide)) ?_
  refine R_iconst 9 dX7_comesPerson_8 rfl (v := 1) (by decide) ?_
  refine R_icmp_gt 12 36 dX7_comesPerson_9 rfl (by decide) (fun c1 => ?_) (fun c1 => ?_)
  ·
    refine R_iconst 37 dX7_comesPerson_36 rfl (v := 0) (by decide) ?_
    refine R_ireturn dX7_comesPerson_37 rfl (by decide) ?_
    have e : zz = (false, f, ar) := by rw [← hs]; unfold sX7_comesPerson; rw [if_pos c1]
    rw [pr1 e, pr1 (pr2 e), pr2 (pr2 e)]; exact ⟨rfl, rfl⟩
  ·
    refine R_aload_n 13 dX7_comesPerson_12 rfl rfl ?_
    refine R_get 16 dX7_comesPerson_13 rfl fX7_43 rfl (v := .ref 112) rfl ?_
    refine R_iload_n 17 dX7_comesPerson_16 rfl rfl ?_
    refine R_iconst 18 dX7_comesPerson_17 rfl (v := 4) (by decide) ?_
    refine R_iadd 19 dX7_comesPerson_18 rfl ?_
    refine R_iald 20 dX7_comesPerson_19 rfl rfl rfl (pc_in (c := 4) hp (by decide)) ?_
    refine R_iconst 21 dX7_comesPerson_20 rfl (v := 1) (by decide) ?_
    refine R_iconst 22 dX7_comesPerson_21 rfl (v := 5) (by decide) ?_
    refine R_callSi 25 eX7_isIn dX7_comesPerson_22 rfl kX7_isIn lX7_87 rfl rfl rfl rfl rfl ?_
    refine R_ifb_eq 28 36 dX7_comesPerson_25 rfl (by decide) (fun c2 => ?_) (fun c2 => ?_)
    ·
      refine R_iconst 37 dX7_comesPerson_36 rfl (v := 0) (by decide) ?_
      refine R_ireturn dX7_comesPerson_37 rfl (by decide) ?_
      have e : zz = (false, f, ar) := by rw [← hs]; unfold sX7_comesPerson; rw [if_neg c1, if_neg c2]
      rw [pr1 e, pr1 (pr2 e), pr2 (pr2 e)]; exact ⟨rfl, rfl⟩
    ·
      refine R_aload_n 29 dX7_comesPerson_28 rfl rfl ?_
      refine R_get 32 dX7_comesPerson_29 rfl fX7_65 rfl (v := .int (f 8)) rfl ?_
      refine R_iconst 33 dX7_comesPerson_32 rfl (v := 5) (by decide) ?_
      refine R_icmp_ne 36 38 dX7_comesPerson_33 rfl (by decide) (fun c3 => ?_) (fun c3 => ?_)
      ·
        refine R_aload_n 39 dX7_comesPerson_38 rfl rfl ?_
        refine R_get 42 dX7_comesPerson_39 rfl fX7_16 rfl (v := .ref 103) rfl ?_
        refine R_aload_n 43 dX7_comesPerson_42 rfl rfl ?_
        refine R_get 46 dX7_comesPerson_43 rfl fX7_65 rfl (v := .int (f 8)) rfl ?_
        refine R_aload_n 47 dX7_comesPerson_46 rfl rfl ?_
        refine R_get 50 dX7_comesPerson_47 rfl fX7_43 rfl (v := .ref 112) rfl ?_
        refine R_iload_n 51 dX7_comesPerson_50 rfl rfl ?_
        refine R_iald 52 dX7_comesPerson_51 rfl rfl rfl (p0_in hp) ?_
        refine R_nm2 (fun z1_ hz1_ => ?_)
        refine R_iast 53 dX7_comesPerson_52 rfl rfl rfl (sz_in (y := 5) (by decide) h8 c3) (h2 := (h1, hM G f (up2 ar 2 (upd (ar 2) (f 8).toNatClampNeg z1_)))) ms_2 ?_
        refine R_aload_n 54 dX7_comesPerson_53 rfl rfl ?_
        refine R_get 57 dX7_comesPerson_54 rfl fX7_19 rfl (v := .ref 104) rfl ?_
        refine R_aload_n 58 dX7_comesPerson_57 rfl rfl ?_
        refine R_get 61 dX7_comesPerson_58 rfl fX7_65 rfl (v := .int (f 8)) rfl ?_
        refine R_aload_n 62 dX7_comesPerson_61 rfl rfl ?_
        refine R_get 65 dX7_comesPerson_62 rfl fX7_43 rfl (v := .ref 112) rfl ?_
        refine R_iload_n 66 dX7_comesPerson_65 rfl rfl ?_
        refine R_iconst 67 dX7_comesPerson_66 rfl (v := 1) (by decide) ?_
        refine R_iadd 68 dX7_comesPerson_67 rfl ?_
        refine R_iald 69 dX7_comesPerson_68 rfl rfl rfl (pc_in (c := 1) hp (by decide)) ?_
        refine R_top (y := (ar 16 (p + 1).toNatClampNeg)) rfl ?_
        refine R_nm2 (fun z2_ hz2_ => ?_)
        refine R_iast 70 dX7_comesPerson_69 rfl rfl rfl (sz_in (y := 5) (by decide) h8 c3) (h2 := (h1, hM G f (up2 (up2 ar 2 (upd (ar 2) (f 8).toNatClampNeg z1_)) 3 (upd (ar 3) (f 8).toNatClampNeg z2_)))) ms_3 ?_
        refine R_aload_n 71 dX7_comesPerson_70 rfl rfl ?_
        refine R_get 74 dX7_comesPerson_71 rfl fX7_22 rfl (v := .ref 105) rfl ?_
        refine R_aload_n 75 dX7_comesPerson_74 rfl rfl ?_
        refine R_get 78 dX7_comesPerson_75 rfl fX7_65 rfl (v := .int (f 8)) rfl ?_
        refine R_aload_n 79 dX7_comesPerson_78 rfl rfl ?_
        refine R_get 82 dX7_comesPerson_79 rfl fX7_43 rfl (v := .ref 112) rfl ?_
        refine R_iload_n 83 dX7_comesPerson_82 rfl rfl ?_
        refine R_iconst 84 dX7_comesPerson_83 rfl (v := 2) (by decide) ?_
        refine R_iadd 85 dX7_comesPerson_84 rfl ?_
        refine R_iald 86 dX7_comesPerson_85 rfl rfl rfl (pc_in (c := 2) hp (by decide)) ?_
        refine R_top (y := (ar 16 (p + 2).toNatClampNeg)) rfl ?_
        refine R_nm2 (fun z3_ hz3_ => ?_)
        refine R_iast 87 dX7_comesPerson_86 rfl rfl rfl (sz_in (y := 5) (by decide) h8 c3) (h2 := (h1, hM G f (up2 (up2 (up2 ar 2 (upd (ar 2) (f 8).toNatClampNeg z1_)) 3 (upd (ar 3) (f 8).toNatClampNeg z2_)) 4 (upd (ar 4) (f 8).toNatClampNeg z3_)))) ms_4 ?_
        refine R_aload_n 88 dX7_comesPerson_87 rfl rfl ?_
        refine R_get 91 dX7_comesPerson_88 rfl fX7_25 rfl (v := .ref 106) rfl ?_
        refine R_aload_n 92 dX7_comesPerson_91 rfl rfl ?_
        refine R_get 95 dX7_comesPerson_92 rfl fX7_65 rfl (v := .int (f 8)) rfl ?_
        refine R_aload_n 96 dX7_comesPerson_95 rfl rfl ?_
        refine R_get 99 dX7_comesPerson_96 rfl fX7_43 rfl (v := .ref 112) rfl ?_
        refine R_iload_n 100 dX7_comesPerson_99 rfl rfl ?_
        refine R_iconst 101 dX7_comesPerson_100 rfl (v := 3) (by decide) ?_
        refine R_iadd 102 dX7_comesPerson_101 rfl ?_
        refine R_iald 103 dX7_comesPerson_102 rfl rfl rfl (pc_in (c := 3) hp (by decide)) ?_
        refine R_top (y := (ar 16 (p + 3).toNatClampNeg)) rfl ?_
        refine R_nm2 (fun z4_ hz4_ => ?_)
        refine R_iast 104 dX7_comesPerson_103 rfl rfl rfl (sz_in (y := 5) (by decide) h8 c3) (h2 := (h1, hM G f (up2 (up2 (up2 (up2 ar 2 (upd (ar 2) (f 8).toNatClampNeg z1_)) 3 (upd (ar 3) (f 8).toNatClampNeg z2_)) 4 (upd (ar 4) (f 8).toNatClampNeg z3_)) 5 (upd (ar 5) (f 8).toNatClampNeg z4_)))) ms_5 ?_
        refine R_aload_n 105 dX7_comesPerson_104 rfl rfl ?_
        refine R_get 108 dX7_comesPerson_105 rfl fX7_28 rfl (v := .ref 107) rfl ?_
        refine R_aload_n 109 dX7_comesPerson_108 rfl rfl ?_
        refine R_get 112 dX7_comesPerson_109 rfl fX7_65 rfl (v := .int (f 8)) rfl ?_
        refine R_aload_n 113 dX7_comesPerson_112 rfl rfl ?_
        refine R_get 116 dX7_comesPerson_113 rfl fX7_43 rfl (v := .ref 112) rfl ?_
        refine R_iload_n 117 dX7_comesPerson_116 rfl rfl ?_
        refine R_iconst 118 dX7_comesPerson_117 rfl (v := 4) (by decide) ?_
        refine R_iadd 119 dX7_comesPerson_118 rfl ?_
        refine R_iald 120 dX7_comesPerson_119 rfl rfl rfl (pc_in (c := 4) hp (by decide)) ?_
        refine R_top (y := (ar 16 (p + 4).toNatClampNeg)) rfl ?_
        refine R_nm2 (fun z5_ hz5_ => ?_)
        refine R_iast 121 dX7_comesPerson_120 rfl rfl rfl (sz_in (y := 5) (by decide) h8 c3) (h2 := (h1, hM G f (up2 (up2 (up2 (up2 (up2 ar 2 (upd (ar 2) (f 8).toNatClampNeg z1_)) 3 (upd (ar 3) (f 8).toNatClampNeg z2_)) 4 (upd (ar 4) (f 8).toNatClampNeg z3_)) 5 (upd (ar 5) (f 8).toNatClampNeg z4_)) 6 (upd (ar 6) (f 8).toNatClampNeg z5_)))) ms_6 ?_
        refine R_aload_n 122 dX7_comesPerson_121 rfl rfl ?_
        refine R_get 125 dX7_comesPerson_122 rfl fX7_31 rfl (v := .ref 108) rfl ?_
        refine R_aload_n 126 dX7_comesPerson_125 rfl rfl ?_
        refine R_get 129 dX7_comesPerson_126 rfl fX7_65 rfl (v := .int (f 8)) rfl ?_
        refine R_aload_n 130 dX7_comesPerson_129 rfl rfl ?_
        refine R_get 133 dX7_comesPerson_130 rfl fX7_43 rfl (v := .ref 112) rfl ?_
        refine R_iload_n 134 dX7_comesPerson_133 rfl rfl ?_
        refine R_iconst 135 dX7_comesPerson_134 rfl (v := 5) (by decide) ?_
        refine R_iadd 136 dX7_comesPerson_135 rfl ?_
        refine R_iald 137 dX7_comesPerson_136 rfl rfl rfl (pc_in (c := 5) hp (by decide)) ?_
        refine R_top (y := (ar 16 (p + 5).toNatClampNeg)) rfl ?_
        refine R_nm2 (fun z6_ hz6_ => ?_)
        refine R_iast 138 dX7_comesPerson_137 rfl rfl rfl (sz_in (y := 5) (by decide) h8 c3) (h2 := (h1, hM G f (up2 (up2 (up2 (up2 (up2 (up2 ar 2 (upd (ar 2) (f 8).toNatClampNeg z1_)) 3 (upd (ar 3) (f 8).toNatClampNeg z2_)) 4 (upd (ar 4) (f 8).toNatClampNeg z3_)) 5 (upd (ar 5) (f 8).toNatClampNeg z4_)) 6 (upd (ar 6) (f 8).toNatClampNeg z5_)) 7 (upd (ar 7) (f 8).toNatClampNeg z6_)))) ms_7 ?_
        refine R_aload_n 139 dX7_comesPerson_138 rfl rfl ?_
        refine R_dup 140 dX7_comesPerson_139 rfl rfl ?_
        refine R_get 143 dX7_comesPerson_140 rfl fX7_65 rfl (v := .int (f 8)) rfl ?_
        refine R_iconst 144 dX7_comesPerson_143 rfl (v := 1) (by decide) ?_
        refine R_iadd 145 dX7_comesPerson_144 rfl ?_
        refine R_nm2 (fun z7_ hz7_ => ?_)
        refine R_put 148 dX7_comesPerson_145 rfl wX7_65 rfl rfl rfl rfl (h2 := (h1, hM G (upd f 8 z7_) (up2 (up2 (up2 (up2 (up2 (up2 ar 2 (upd (ar 2) (f 8).toNatClampNeg z1_)) 3 (upd (ar 3) (f 8).toNatClampNeg z2_)) 4 (upd (ar 4) (f 8).toNatClampNeg z3_)) 5 (upd (ar 5) (f 8).toNatClampNeg z4_)) 6 (upd (ar 6) (f 8).toNatClampNeg z5_)) 7 (upd (ar 7) (f 8).toNatClampNeg z6_)))) mp_8 ?_
        refine R_iconst 149 dX7_comesPerson_148 rfl (v := 1) (by decide) ?_
        refine R_ireturn dX7_comesPerson_149 rfl (by decide) ?_
        subst hz1_ hz2_ hz3_ hz4_ hz5_ hz6_ hz7_
        have e : zz = (true, (upd f 8 ((f 8) + 1)), (up2 (up2 (up2 (up2 (up2 (up2 ar 2 (upd (ar 2) (f 8).toNatClampNeg (ar 16 p.toNatClampNeg))) 3 (upd (ar 3) (f 8).toNatClampNeg (ar 16 (p + 1).toNatClampNeg))) 4 (upd (ar 4) (f 8).toNatClampNeg (ar 16 (p + 2).toNatClampNeg))) 5 (upd (ar 5) (f 8).toNatClampNeg (ar 16 (p + 3).toNatClampNeg))) 6 (upd (ar 6) (f 8).toNatClampNeg (ar 16 (p + 4).toNatClampNeg))) 7 (upd (ar 7) (f 8).toNatClampNeg (ar 16 (p + 5).toNatClampNeg)))) := by rw [← hs]; unfold sX7_comesPerson; rw [if_neg c1, if_pos c2, if_neg c3]
        rw [pr1 e, pr1 (pr2 e), pr2 (pr2 e)]; exact ⟨rfl, rfl⟩
      ·
        refine R_iconst 37 dX7_comesPerson_36 rfl (v := 0) (by decide) ?_
        refine R_ireturn dX7_comesPerson_37 rfl (by decide) ?_
        have e : zz = (false, f, ar) := by rw [← hs]; unfold sX7_comesPerson; rw [if_neg c1, if_pos c2, if_pos c3]
        rw [pr1 e, pr1 (pr2 e), pr2 (pr2 e)]; exact ⟨rfl, rfl⟩
theorem h48 {k : Int32} (h : 0 ≤ k.toInt ∧ k.toInt < 48) : vp_in k 48 := by
  rw [vp_in_iff]
  omega
theorem s6k {k : Int32} (h : 0 ≤ k.toInt ∧ k.toInt < 48) : 0 ≤ (6 * k).toInt ∧ (6 * k).toInt + 6 ≤ 288 := by
  obtain ⟨m, hm, e⟩ := nI_of (x := k) (by rw [Int32.lt_iff_toInt_lt, show (0 : Int32).toInt = 0 by decide]; omega)
  have h1 := h.2
  rw [e, nI_toInt hm] at h1
  exact s6 e (by omega)
theorem one_in {x : Int32} (h0 : 0 ≤ x.toInt) (h1 : ¬ 2 ≤ x) : vp_in (1 + x) 6 := by
  rw [Int32.le_iff_toInt_le, show (2 : Int32).toInt = 2 by decide] at h1
  rw [vp_in_iff, Int32.toInt_add, show (1 : Int32).toInt = 1 by decide, Int.bmod_eq_of_le (by omega) (by omega)]
  omega
theorem in60 {x : Int32} (h : sX7_isIn x 1 60 = true) : x.toInt ≤ 240 := by
  unfold sX7_isIn at h
  by_cases h1 : x < 1
  · rw [if_pos h1] at h; cases h
  · rw [if_neg h1] at h
    by_cases h2 : 60 < x
    · rw [decide_eq_true h2] at h; cases h
    · rw [Int32.lt_iff_toInt_lt, show (60 : Int32).toInt = 60 by decide] at h2
      omega
def sX7_comes (f : Nat → Int32) (ar : Nat → Nat → Int32) (k : Int32) : Bool × (Nat → Int32) × (Nat → Nat → Int32) := if (ar 14 k.toNatClampNeg) = 100 then (((sX7_comesSet ar 3 (ar 16 ((6 * k) + 1).toNatClampNeg)).1), (upd f 9 (ar 16 (6 * k).toNatClampNeg)), ((sX7_comesSet ar 3 (ar 16 ((6 * k) + 1).toNatClampNeg)).2)) else if (ar 14 k.toNatClampNeg) = 112 then (((sX7_comesPerson f ar (6 * k)).1), ((sX7_comesPerson f ar (6 * k)).2.1), ((sX7_comesPerson f ar (6 * k)).2.2)) else if (ar 14 k.toNatClampNeg) = 114 then (if ((sX7_comesSet ar 4 (ar 16 ((6 * k) + 1).toNatClampNeg)).1) = true then (decide (((sX7_comesSet ((sX7_comesSet ar 4 (ar 16 ((6 * k) + 1).toNatClampNeg)).2) 5 (((sX7_comesSet ar 4 (ar 16 ((6 * k) + 1).toNatClampNeg)).2) 16 ((6 * k) + 2).toNatClampNeg)).1) = true), (upd f 10 (ar 16 (6 * k).toNatClampNeg)), ((sX7_comesSet ((sX7_comesSet ar 4 (ar 16 ((6 * k) + 1).toNatClampNeg)).2) 5 (((sX7_comesSet ar 4 (ar 16 ((6 * k) + 1).toNatClampNeg)).2) 16 ((6 * k) + 2).toNatClampNeg)).2)) else (false, (upd f 10 (ar 16 (6 * k).toNatClampNeg)), ((sX7_comesSet ar 4 (ar 16 ((6 * k) + 1).toNatClampNeg)).2))) else if (ar 14 k.toNatClampNeg) = 115 then (if 2 ≤ (ar 16 (6 * k).toNatClampNeg) then (false, f, ar) else (decide (((sX7_comesSet ar (1 + (ar 16 (6 * k).toNatClampNeg)) (ar 16 ((6 * k) + 1).toNatClampNeg)).1) = true), f, ((sX7_comesSet ar (1 + (ar 16 (6 * k).toNatClampNeg)) (ar 16 ((6 * k) + 1).toNatClampNeg)).2))) else if (ar 14 k.toNatClampNeg) = 119 then (((sX7_comesSet ar 0 (ar 16 (6 * k).toNatClampNeg)).1), f, ((sX7_comesSet ar 0 (ar 16 (6 * k).toNatClampNeg)).2)) else if (sX7_isIn (ar 16 (6 * k).toNatClampNeg) 1 60) = true then (if ((f 12) + (ar 16 (6 * k).toNatClampNeg)) ≤ 9999 then (true, ((sX7_goes f ar (ar 16 (6 * k).toNatClampNeg)).1), ((sX7_goes f ar (ar 16 (6 * k).toNatClampNeg)).2)) else (false, f, ar)) else (false, f, ar)
set_option maxRecDepth 20000 in
theorem eX7_comes {G : zG} {h1 : List va_E} {f : Nat → Int32} {ar : Nat → Nat → Int32} {k : Int32} (h0 : 0 ≤ k.toInt ∧ k.toInt < 48) (hk : mOk f ar) (hS : ar 14 k.toNatClampNeg = 115 → 0 ≤ (ar 16 (6 * k).toNatClampNeg).toInt) : EvF G mX7_comes [.ref 100, .int k] (h1, hM G f ar) (some (.int (b2i ((sX7_comes f ar k).1)))) (h1, hM G ((sX7_comes f ar k).2.1) ((sX7_comes f ar k).2.2)) := by
  generalize hs : (sX7_comes f ar k) = zz
  refine EvF.of pnX7 rfl ?_
  refine R_bipush 2 dX7_comes_0 rfl (v := 6) (by decide) ?_
  refine R_iload_n 3 dX7_comes_2 rfl rfl ?_
  refine R_imul 4 dX7_comes_3 rfl ?_
  refine R_istore_n 5 dX7_comes_4 rfl rfl (by decide) (loc' := [(0, .ref 100), (1, .int k), (2, .int (6 * k))]) rfl ?_
  refine R_aload_n 6 dX7_comes_5 rfl rfl ?_
  refine R_get 9 dX7_comes_6 rfl fX7_43 rfl (v := .ref 112) rfl ?_
  refine R_iload_n 10 dX7_comes_9 rfl rfl ?_
  refine R_iald 11 dX7_comes_10 rfl rfl rfl (p0_in (s6k h0)) ?_
  refine R_istore_n 12 dX7_comes_11 rfl rfl (by decide) (loc' := [(0, .ref 100), (1, .int k), (2, .int (6 * k)), (3, .int (ar 16 (6 * k).toNatClampNeg))]) rfl ?_
  refine R_aload_n 13 dX7_comes_12 rfl rfl ?_
  refine R_get 16 dX7_comes_13 rfl fX7_37 rfl (v := .ref 110) rfl ?_
  refine R_iload_n 17 dX7_comes_16 rfl rfl ?_
  refine R_iald 18 dX7_comes_17 rfl rfl rfl (h48 h0) ?_
  by_cases c1 : (ar 14 k.toNatClampNeg) = 100
  ·
    refine R_lookAt 110 (off := 92) 100 c1 dX7_comes_18 (by decide) (by decide) ?_
    refine R_aload_n 111 dX7_comes_110 rfl rfl ?_
    refine R_iload_n 112 dX7_comes_111 rfl rfl ?_
    refine R_nm2 (fun z1_ hz1_ => ?_)
    refine R_put 115 dX7_comes_112 rfl wX7_132 rfl rfl rfl rfl (h2 := (h1, hM G (upd f 9 z1_) ar)) mp_9 ?_
    refine R_aload_n 116 dX7_comes_115 rfl rfl ?_
    refine R_iconst 117 dX7_comes_116 rfl (v := 3) (by decide) ?_
    refine R_aload_n 118 dX7_comes_117 rfl rfl ?_
    refine R_get 121 dX7_comes_118 rfl fX7_43 rfl (v := .ref 112) rfl ?_
    refine R_iload_n 122 dX7_comes_121 rfl rfl ?_
    refine R_iconst 123 dX7_comes_122 rfl (v := 1) (by decide) ?_
    refine R_iadd 124 dX7_comes_123 rfl ?_
    refine R_iald 125 dX7_comes_124 rfl rfl rfl (pc_in (c := 1) (s6k h0) (by decide)) ?_
    refine R_callVi 128 (eX7_comesSet (vin_d (by decide))) dX7_comes_125 rfl kX7_comesSet lX7_129 rfl rfl rfl rfl rfl rfl rfl ?_
    generalize hz2_ : (sX7_comesSet ar 3 (ar 16 ((6 * k) + 1).toNatClampNeg)).2 = z2_
    refine R_ireturn dX7_comes_128 rfl (nar_b _) ?_
    subst hz1_ hz2_
    have e : zz = (((sX7_comesSet ar 3 (ar 16 ((6 * k) + 1).toNatClampNeg)).1), (upd f 9 (ar 16 (6 * k).toNatClampNeg)), ((sX7_comesSet ar 3 (ar 16 ((6 * k) + 1).toNatClampNeg)).2)) := by rw [← hs]; unfold sX7_comes; rw [if_pos c1]
    rw [pr1 e, pr1 (pr2 e), pr2 (pr2 e)]; exact ⟨rfl, rfl⟩
  by_cases c2 : (ar 14 k.toNatClampNeg) = 112
  ·
    refine R_lookAt 68 (off := 50) 112 c2 dX7_comes_18 (by decide) (by decide) ?_
    refine R_aload_n 69 dX7_comes_68 rfl rfl ?_
    refine R_iload_n 70 dX7_comes_69 rfl rfl ?_
    refine R_callVi 73 (eX7_comesPerson (s6k h0) hk.1) dX7_comes_70 rfl kX7_comesPerson lX7_126 rfl rfl rfl rfl rfl rfl rfl ?_
    generalize hz3_ : (sX7_comesPerson f ar (6 * k)).2.1 = z3_
    generalize hz4_ : (sX7_comesPerson f ar (6 * k)).2.2 = z4_
    refine R_ireturn dX7_comes_73 rfl (nar_b _) ?_
    subst hz3_ hz4_
    have e : zz = (((sX7_comesPerson f ar (6 * k)).1), ((sX7_comesPerson f ar (6 * k)).2.1), ((sX7_comesPerson f ar (6 * k)).2.2)) := by rw [← hs]; unfold sX7_comes; rw [if_neg c1, if_pos c2]
    rw [pr1 e, pr1 (pr2 e), pr2 (pr2 e)]; exact ⟨rfl, rfl⟩
  by_cases c3 : (ar 14 k.toNatClampNeg) = 114
  ·
    refine R_lookAt 129 (off := 111) 114 c3 dX7_comes_18 (by decide) (by decide) ?_
    refine R_aload_n 130 dX7_comes_129 rfl rfl ?_
    refine R_iload_n 131 dX7_comes_130 rfl rfl ?_
    refine R_nm2 (fun z5_ hz5_ => ?_)
    refine R_put 134 dX7_comes_131 rfl wX7_135 rfl rfl rfl rfl (h2 := (h1, hM G (upd f 10 z5_) ar)) mp_10 ?_
    refine R_aload_n 135 dX7_comes_134 rfl rfl ?_
    refine R_iconst 136 dX7_comes_135 rfl (v := 4) (by decide) ?_
    refine R_aload_n 137 dX7_comes_136 rfl rfl ?_
    refine R_get 140 dX7_comes_137 rfl fX7_43 rfl (v := .ref 112) rfl ?_
    refine R_iload_n 141 dX7_comes_140 rfl rfl ?_
    refine R_iconst 142 dX7_comes_141 rfl (v := 1) (by decide) ?_
    refine R_iadd 143 dX7_comes_142 rfl ?_
    refine R_iald 144 dX7_comes_143 rfl rfl rfl (pc_in (c := 1) (s6k h0) (by decide)) ?_
    refine R_callVi 147 (eX7_comesSet (vin_d (by decide))) dX7_comes_144 rfl kX7_comesSet lX7_129 rfl rfl rfl rfl rfl rfl rfl ?_
    generalize hz6_ : (sX7_comesSet ar 4 (ar 16 ((6 * k) + 1).toNatClampNeg)).2 = z6_
    refine R_ifb_eq 150 170 dX7_comes_147 rfl (by decide) (fun c4 => ?_) (fun c4 => ?_)
    ·
      refine R_iconst 171 dX7_comes_170 rfl (v := 0) (by decide) ?_
      refine R_ireturn dX7_comes_171 rfl (by decide) ?_
      subst hz5_ hz6_
      have e : zz = (false, (upd f 10 (ar 16 (6 * k).toNatClampNeg)), ((sX7_comesSet ar 4 (ar 16 ((6 * k) + 1).toNatClampNeg)).2)) := by rw [← hs]; unfold sX7_comes; rw [if_neg c1, if_neg c2, if_pos c3, if_neg c4]
      rw [pr1 e, pr1 (pr2 e), pr2 (pr2 e)]; exact ⟨rfl, rfl⟩
    ·
      refine R_aload_n 151 dX7_comes_150 rfl rfl ?_
      refine R_iconst 152 dX7_comes_151 rfl (v := 5) (by decide) ?_
      refine R_aload_n 153 dX7_comes_152 rfl rfl ?_
      refine R_get 156 dX7_comes_153 rfl fX7_43 rfl (v := .ref 112) rfl ?_
      refine R_iload_n 157 dX7_comes_156 rfl rfl ?_
      refine R_iconst 158 dX7_comes_157 rfl (v := 2) (by decide) ?_
      refine R_iadd 159 dX7_comes_158 rfl ?_
      refine R_iald 160 dX7_comes_159 rfl rfl rfl (pc_in (c := 2) (s6k h0) (by decide)) ?_
      refine R_callVi 163 (eX7_comesSet (vin_d (by decide))) dX7_comes_160 rfl kX7_comesSet lX7_129 rfl rfl rfl rfl rfl rfl rfl ?_
      generalize hz7_ : (sX7_comesSet z6_ 5 (z6_ 16 ((6 * k) + 2).toNatClampNeg)).2 = z7_
      refine R_cut 171 [(0, .ref 100), (1, .int k), (2, .int (6 * k)), (3, .int (ar 16 (6 * k).toNatClampNeg))] (.int (b2i (decide (((sX7_comesSet z6_ 5 (z6_ 16 ((6 * k) + 2).toNatClampNeg)).1) = true))) :: []) (h1, hM G (upd f 10 z5_) z7_) ?_ (fun kj => ?_)
      ·
        refine R_ireturn dX7_comes_171 rfl (nar_b _) ?_
        subst hz5_ hz6_ hz7_
        have e : zz = (decide (((sX7_comesSet ((sX7_comesSet ar 4 (ar 16 ((6 * k) + 1).toNatClampNeg)).2) 5 (((sX7_comesSet ar 4 (ar 16 ((6 * k) + 1).toNatClampNeg)).2) 16 ((6 * k) + 2).toNatClampNeg)).1) = true), (upd f 10 (ar 16 (6 * k).toNatClampNeg)), ((sX7_comesSet ((sX7_comesSet ar 4 (ar 16 ((6 * k) + 1).toNatClampNeg)).2) 5 (((sX7_comesSet ar 4 (ar 16 ((6 * k) + 1).toNatClampNeg)).2) 16 ((6 * k) + 2).toNatClampNeg)).2)) := by rw [← hs]; unfold sX7_comes; rw [if_neg c1, if_neg c2, if_pos c3, if_pos c4]
        rw [pr1 e, pr1 (pr2 e), pr2 (pr2 e)]; exact ⟨rfl, rfl⟩
      refine R_ifb_eq 166 170 dX7_comes_163 rfl (by decide) (fun c5 => ?_) (fun c5 => ?_)
      · refine R_iconst 171 dX7_comes_170 rfl (v := 0) (by decide) ?_
        rw [b2i_n c5] at kj; exact kj
      · refine R_iconst 167 dX7_comes_166 rfl (v := 1) (by decide) ?_
        refine R_goto 171 dX7_comes_167 (by decide) ?_
        rw [b2i_p c5] at kj; exact kj
  by_cases c6 : (ar 14 k.toNatClampNeg) = 115
  ·
    refine R_lookAt 81 (off := 63) 115 c6 dX7_comes_18 (by decide) (by decide) ?_
    refine R_iload_n 82 dX7_comes_81 rfl rfl ?_
    refine R_iconst 83 dX7_comes_82 rfl (v := 2) (by decide) ?_
    refine R_icmp_ge 86 108 dX7_comes_83 rfl (by decide) (fun c7 => ?_) (fun c7 => ?_)
    ·
      refine R_iconst 109 dX7_comes_108 rfl (v := 0) (by decide) ?_
      refine R_ireturn dX7_comes_109 rfl (by decide) ?_
      have e : zz = (false, f, ar) := by rw [← hs]; unfold sX7_comes; rw [if_neg c1, if_neg c2, if_neg c3, if_pos c6, if_pos c7]
      rw [pr1 e, pr1 (pr2 e), pr2 (pr2 e)]; exact ⟨rfl, rfl⟩
    ·
      refine R_aload_n 87 dX7_comes_86 rfl rfl ?_
      refine R_iconst 88 dX7_comes_87 rfl (v := 1) (by decide) ?_
      refine R_iload_n 89 dX7_comes_88 rfl rfl ?_
      refine R_iadd 90 dX7_comes_89 rfl ?_
      refine R_aload_n 91 dX7_comes_90 rfl rfl ?_
      refine R_get 94 dX7_comes_91 rfl fX7_43 rfl (v := .ref 112) rfl ?_
      refine R_iload_n 95 dX7_comes_94 rfl rfl ?_
      refine R_iconst 96 dX7_comes_95 rfl (v := 1) (by decide) ?_
      refine R_iadd 97 dX7_comes_96 rfl ?_
      refine R_iald 98 dX7_comes_97 rfl rfl rfl (pc_in (c := 1) (s6k h0) (by decide)) ?_
      refine R_callVi 101 (eX7_comesSet (one_in (hS c6) c7)) dX7_comes_98 rfl kX7_comesSet lX7_129 rfl rfl rfl rfl rfl rfl rfl ?_
      generalize hz8_ : (sX7_comesSet ar (1 + (ar 16 (6 * k).toNatClampNeg)) (ar 16 ((6 * k) + 1).toNatClampNeg)).2 = z8_
      refine R_cut 109 [(0, .ref 100), (1, .int k), (2, .int (6 * k)), (3, .int (ar 16 (6 * k).toNatClampNeg))] (.int (b2i (decide (((sX7_comesSet ar (1 + (ar 16 (6 * k).toNatClampNeg)) (ar 16 ((6 * k) + 1).toNatClampNeg)).1) = true))) :: []) (h1, hM G f z8_) ?_ (fun kj => ?_)
      ·
        refine R_ireturn dX7_comes_109 rfl (nar_b _) ?_
        subst hz8_
        have e : zz = (decide (((sX7_comesSet ar (1 + (ar 16 (6 * k).toNatClampNeg)) (ar 16 ((6 * k) + 1).toNatClampNeg)).1) = true), f, ((sX7_comesSet ar (1 + (ar 16 (6 * k).toNatClampNeg)) (ar 16 ((6 * k) + 1).toNatClampNeg)).2)) := by rw [← hs]; unfold sX7_comes; rw [if_neg c1, if_neg c2, if_neg c3, if_pos c6, if_neg c7]
        rw [pr1 e, pr1 (pr2 e), pr2 (pr2 e)]; exact ⟨rfl, rfl⟩
      refine R_ifb_eq 104 108 dX7_comes_101 rfl (by decide) (fun c8 => ?_) (fun c8 => ?_)
      · refine R_iconst 109 dX7_comes_108 rfl (v := 0) (by decide) ?_
        rw [b2i_n c8] at kj; exact kj
      · refine R_iconst 105 dX7_comes_104 rfl (v := 1) (by decide) ?_
        refine R_goto 109 dX7_comes_105 (by decide) ?_
        rw [b2i_p c8] at kj; exact kj
  by_cases c9 : (ar 14 k.toNatClampNeg) = 119
  ·
    refine R_lookAt 74 (off := 56) 119 c9 dX7_comes_18 (by decide) (by decide) ?_
    refine R_aload_n 75 dX7_comes_74 rfl rfl ?_
    refine R_iconst 76 dX7_comes_75 rfl (v := 0) (by decide) ?_
    refine R_iload_n 77 dX7_comes_76 rfl rfl ?_
    refine R_callVi 80 (eX7_comesSet (vin_d (by decide))) dX7_comes_77 rfl kX7_comesSet lX7_129 rfl rfl rfl rfl rfl rfl rfl ?_
    generalize hz9_ : (sX7_comesSet ar 0 (ar 16 (6 * k).toNatClampNeg)).2 = z9_
    refine R_ireturn dX7_comes_80 rfl (nar_b _) ?_
    subst hz9_
    have e : zz = (((sX7_comesSet ar 0 (ar 16 (6 * k).toNatClampNeg)).1), f, ((sX7_comesSet ar 0 (ar 16 (6 * k).toNatClampNeg)).2)) := by rw [← hs]; unfold sX7_comes; rw [if_neg c1, if_neg c2, if_neg c3, if_neg c6, if_pos c9]
    rw [pr1 e, pr1 (pr2 e), pr2 (pr2 e)]; exact ⟨rfl, rfl⟩
  refine R_lookup 172 (off := 154) dX7_comes_18 (by decide) (by rw [lv_osw c1 (show (100 : Int32).toInt = 100 by decide), lv_osw c2 (show (112 : Int32).toInt = 112 by decide), lv_osw c3 (show (114 : Int32).toInt = 114 by decide), lv_osw c6 (show (115 : Int32).toInt = 115 by decide), lv_osw c9 (show (119 : Int32).toInt = 119 by decide)]; rfl) (by decide) ?_
  refine R_iload_n 173 dX7_comes_172 rfl rfl ?_
  refine R_iconst 174 dX7_comes_173 rfl (v := 1) (by decide) ?_
  refine R_bipush 176 dX7_comes_174 rfl (v := 60) (by decide) ?_
  refine R_callSi 179 eX7_isIn dX7_comes_176 rfl kX7_isIn lX7_87 rfl rfl rfl rfl rfl ?_
  refine R_ifb_eq 182 194 dX7_comes_179 rfl (by decide) (fun c10 => ?_) (fun c10 => ?_)
  ·
    refine R_iconst 195 dX7_comes_194 rfl (v := 0) (by decide) ?_
    refine R_ireturn dX7_comes_195 rfl (by decide) ?_
    have e : zz = (false, f, ar) := by rw [← hs]; unfold sX7_comes; rw [if_neg c1, if_neg c2, if_neg c3, if_neg c6, if_neg c9, if_neg c10]
    rw [pr1 e, pr1 (pr2 e), pr2 (pr2 e)]; exact ⟨rfl, rfl⟩
  ·
    refine R_aload_n 183 dX7_comes_182 rfl rfl ?_
    refine R_get 186 dX7_comes_183 rfl fX7_138 rfl (v := .int (f 12)) rfl ?_
    refine R_iload_n 187 dX7_comes_186 rfl rfl ?_
    refine R_iadd 188 dX7_comes_187 rfl ?_
    refine R_sipush 191 dX7_comes_188 rfl (v := 9999) (by decide) ?_
    refine R_icmp_le 194 196 dX7_comes_191 rfl (by decide) (fun c11 => ?_) (fun c11 => ?_)
    ·
      refine R_aload_n 197 dX7_comes_196 rfl rfl ?_
      refine R_iload_n 198 dX7_comes_197 rfl rfl ?_
      refine R_callVv 201 (eX7_goes hk (in60 c10)) dX7_comes_198 rfl kX7_goes lX7_141 rfl rfl rfl rfl rfl rfl rfl ?_
      generalize hz10_ : (sX7_goes f ar (ar 16 (6 * k).toNatClampNeg)).1 = z10_
      generalize hz11_ : (sX7_goes f ar (ar 16 (6 * k).toNatClampNeg)).2 = z11_
      refine R_iconst 202 dX7_comes_201 rfl (v := 1) (by decide) ?_
      refine R_ireturn dX7_comes_202 rfl (by decide) ?_
      subst hz10_ hz11_
      have e : zz = (true, ((sX7_goes f ar (ar 16 (6 * k).toNatClampNeg)).1), ((sX7_goes f ar (ar 16 (6 * k).toNatClampNeg)).2)) := by rw [← hs]; unfold sX7_comes; rw [if_neg c1, if_neg c2, if_neg c3, if_neg c6, if_neg c9, if_pos c10, if_pos c11]
      rw [pr1 e, pr1 (pr2 e), pr2 (pr2 e)]; exact ⟨rfl, rfl⟩
    ·
      refine R_iconst 195 dX7_comes_194 rfl (v := 0) (by decide) ?_
      refine R_ireturn dX7_comes_195 rfl (by decide) ?_
      have e : zz = (false, f, ar) := by rw [← hs]; unfold sX7_comes; rw [if_neg c1, if_neg c2, if_neg c3, if_neg c6, if_neg c9, if_pos c10, if_neg c11]
      rw [pr1 e, pr1 (pr2 e), pr2 (pr2 e)]; exact ⟨rfl, rfl⟩
