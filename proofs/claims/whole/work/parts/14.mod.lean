theorem ms_0 {G : zG} {h1 : List va_E} {f F : Nat → Int32} {ar : Nat → Nat → Int32} : zs (h1, hM G f ar) 101 (.inl (G.1, 7, .inl F)) = (h1, hM G f (up2 ar 0 F)) := rfl
theorem ms_1 {G : zG} {h1 : List va_E} {f F : Nat → Int32} {ar : Nat → Nat → Int32} : zs (h1, hM G f ar) 102 (.inl (G.1, 6, .inl F)) = (h1, hM G f (up2 ar 1 F)) := rfl
theorem ms_2 {G : zG} {h1 : List va_E} {f F : Nat → Int32} {ar : Nat → Nat → Int32} : zs (h1, hM G f ar) 103 (.inl (G.1, 5, .inl F)) = (h1, hM G f (up2 ar 2 F)) := rfl
theorem ms_3 {G : zG} {h1 : List va_E} {f F : Nat → Int32} {ar : Nat → Nat → Int32} : zs (h1, hM G f ar) 104 (.inl (G.1, 5, .inl F)) = (h1, hM G f (up2 ar 3 F)) := rfl
theorem ms_4 {G : zG} {h1 : List va_E} {f F : Nat → Int32} {ar : Nat → Nat → Int32} : zs (h1, hM G f ar) 105 (.inl (G.1, 5, .inl F)) = (h1, hM G f (up2 ar 4 F)) := rfl
theorem ms_5 {G : zG} {h1 : List va_E} {f F : Nat → Int32} {ar : Nat → Nat → Int32} : zs (h1, hM G f ar) 106 (.inl (G.1, 5, .inl F)) = (h1, hM G f (up2 ar 5 F)) := rfl
theorem ms_6 {G : zG} {h1 : List va_E} {f F : Nat → Int32} {ar : Nat → Nat → Int32} : zs (h1, hM G f ar) 107 (.inl (G.1, 5, .inl F)) = (h1, hM G f (up2 ar 6 F)) := rfl
theorem ms_7 {G : zG} {h1 : List va_E} {f F : Nat → Int32} {ar : Nat → Nat → Int32} : zs (h1, hM G f ar) 108 (.inl (G.1, 5, .inl F)) = (h1, hM G f (up2 ar 7 F)) := rfl
theorem mp_8 {G : zG} {h1 : List va_E} {f : Nat → Int32} {ar : Nat → Nat → Int32} {v : Int32} : zs (h1, hM G f ar) 100 (.inr (7, ([.ref 101, .ref 102, .ref 103, .ref 104, .ref 105, .ref 106, .ref 107, .ref 108, .int (f 8), .int (f 9), .int (f 10), .int (f 11), .int (f 12), .ref 109, .ref 110, .ref 111, .ref 112, .int (f 17), .int (f 18), .int (f 19), .ref 113, .int (f 21), .int (f 22), .int (f 23), .ref 114, .ref 115, .ref 116, .ref 117, .int (f 28), .int (f 29), .int (f 30), .int (f 31), .int (f 32), .int (f 33), .ref 118, .int (f 35)] : List Value).set 8 (.int v))) = (h1, hM G (upd f 8 v) ar) := rfl
theorem mp_9 {G : zG} {h1 : List va_E} {f : Nat → Int32} {ar : Nat → Nat → Int32} {v : Int32} : zs (h1, hM G f ar) 100 (.inr (7, ([.ref 101, .ref 102, .ref 103, .ref 104, .ref 105, .ref 106, .ref 107, .ref 108, .int (f 8), .int (f 9), .int (f 10), .int (f 11), .int (f 12), .ref 109, .ref 110, .ref 111, .ref 112, .int (f 17), .int (f 18), .int (f 19), .ref 113, .int (f 21), .int (f 22), .int (f 23), .ref 114, .ref 115, .ref 116, .ref 117, .int (f 28), .int (f 29), .int (f 30), .int (f 31), .int (f 32), .int (f 33), .ref 118, .int (f 35)] : List Value).set 9 (.int v))) = (h1, hM G (upd f 9 v) ar) := rfl
theorem mp_10 {G : zG} {h1 : List va_E} {f : Nat → Int32} {ar : Nat → Nat → Int32} {v : Int32} : zs (h1, hM G f ar) 100 (.inr (7, ([.ref 101, .ref 102, .ref 103, .ref 104, .ref 105, .ref 106, .ref 107, .ref 108, .int (f 8), .int (f 9), .int (f 10), .int (f 11), .int (f 12), .ref 109, .ref 110, .ref 111, .ref 112, .int (f 17), .int (f 18), .int (f 19), .ref 113, .int (f 21), .int (f 22), .int (f 23), .ref 114, .ref 115, .ref 116, .ref 117, .int (f 28), .int (f 29), .int (f 30), .int (f 31), .int (f 32), .int (f 33), .ref 118, .int (f 35)] : List Value).set 10 (.int v))) = (h1, hM G (upd f 10 v) ar) := rfl
theorem mp_11 {G : zG} {h1 : List va_E} {f : Nat → Int32} {ar : Nat → Nat → Int32} {v : Int32} : zs (h1, hM G f ar) 100 (.inr (7, ([.ref 101, .ref 102, .ref 103, .ref 104, .ref 105, .ref 106, .ref 107, .ref 108, .int (f 8), .int (f 9), .int (f 10), .int (f 11), .int (f 12), .ref 109, .ref 110, .ref 111, .ref 112, .int (f 17), .int (f 18), .int (f 19), .ref 113, .int (f 21), .int (f 22), .int (f 23), .ref 114, .ref 115, .ref 116, .ref 117, .int (f 28), .int (f 29), .int (f 30), .int (f 31), .int (f 32), .int (f 33), .ref 118, .int (f 35)] : List Value).set 11 (.int v))) = (h1, hM G (upd f 11 v) ar) := rfl
theorem mp_12 {G : zG} {h1 : List va_E} {f : Nat → Int32} {ar : Nat → Nat → Int32} {v : Int32} : zs (h1, hM G f ar) 100 (.inr (7, ([.ref 101, .ref 102, .ref 103, .ref 104, .ref 105, .ref 106, .ref 107, .ref 108, .int (f 8), .int (f 9), .int (f 10), .int (f 11), .int (f 12), .ref 109, .ref 110, .ref 111, .ref 112, .int (f 17), .int (f 18), .int (f 19), .ref 113, .int (f 21), .int (f 22), .int (f 23), .ref 114, .ref 115, .ref 116, .ref 117, .int (f 28), .int (f 29), .int (f 30), .int (f 31), .int (f 32), .int (f 33), .ref 118, .int (f 35)] : List Value).set 12 (.int v))) = (h1, hM G (upd f 12 v) ar) := rfl
theorem ms_13 {G : zG} {h1 : List va_E} {f F : Nat → Int32} {ar : Nat → Nat → Int32} : zs (h1, hM G f ar) 109 (.inl (G.1, 96, .inl F)) = (h1, hM G f (up2 ar 13 F)) := rfl
theorem ms_14 {G : zG} {h1 : List va_E} {f F : Nat → Int32} {ar : Nat → Nat → Int32} : zs (h1, hM G f ar) 110 (.inl (G.1, 48, .inl F)) = (h1, hM G f (up2 ar 14 F)) := rfl
theorem ms_15 {G : zG} {h1 : List va_E} {f F : Nat → Int32} {ar : Nat → Nat → Int32} : zs (h1, hM G f ar) 111 (.inl (G.1, 48, .inl F)) = (h1, hM G f (up2 ar 15 F)) := rfl
theorem ms_16 {G : zG} {h1 : List va_E} {f F : Nat → Int32} {ar : Nat → Nat → Int32} : zs (h1, hM G f ar) 112 (.inl (G.1, 288, .inl F)) = (h1, hM G f (up2 ar 16 F)) := rfl
theorem mp_17 {G : zG} {h1 : List va_E} {f : Nat → Int32} {ar : Nat → Nat → Int32} {v : Int32} : zs (h1, hM G f ar) 100 (.inr (7, ([.ref 101, .ref 102, .ref 103, .ref 104, .ref 105, .ref 106, .ref 107, .ref 108, .int (f 8), .int (f 9), .int (f 10), .int (f 11), .int (f 12), .ref 109, .ref 110, .ref 111, .ref 112, .int (f 17), .int (f 18), .int (f 19), .ref 113, .int (f 21), .int (f 22), .int (f 23), .ref 114, .ref 115, .ref 116, .ref 117, .int (f 28), .int (f 29), .int (f 30), .int (f 31), .int (f 32), .int (f 33), .ref 118, .int (f 35)] : List Value).set 17 (.int v))) = (h1, hM G (upd f 17 v) ar) := rfl
theorem mp_18 {G : zG} {h1 : List va_E} {f : Nat → Int32} {ar : Nat → Nat → Int32} {v : Int32} : zs (h1, hM G f ar) 100 (.inr (7, ([.ref 101, .ref 102, .ref 103, .ref 104, .ref 105, .ref 106, .ref 107, .ref 108, .int (f 8), .int (f 9), .int (f 10), .int (f 11), .int (f 12), .ref 109, .ref 110, .ref 111, .ref 112, .int (f 17), .int (f 18), .int (f 19), .ref 113, .int (f 21), .int (f 22), .int (f 23), .ref 114, .ref 115, .ref 116, .ref 117, .int (f 28), .int (f 29), .int (f 30), .int (f 31), .int (f 32), .int (f 33), .ref 118, .int (f 35)] : List Value).set 18 (.int v))) = (h1, hM G (upd f 18 v) ar) := rfl
theorem mp_19 {G : zG} {h1 : List va_E} {f : Nat → Int32} {ar : Nat → Nat → Int32} {v : Int32} : zs (h1, hM G f ar) 100 (.inr (7, ([.ref 101, .ref 102, .ref 103, .ref 104, .ref 105, .ref 106, .ref 107, .ref 108, .int (f 8), .int (f 9), .int (f 10), .int (f 11), .int (f 12), .ref 109, .ref 110, .ref 111, .ref 112, .int (f 17), .int (f 18), .int (f 19), .ref 113, .int (f 21), .int (f 22), .int (f 23), .ref 114, .ref 115, .ref 116, .ref 117, .int (f 28), .int (f 29), .int (f 30), .int (f 31), .int (f 32), .int (f 33), .ref 118, .int (f 35)] : List Value).set 19 (.int v))) = (h1, hM G (upd f 19 v) ar) := rfl
theorem ms_20 {G : zG} {h1 : List va_E} {f F : Nat → Int32} {ar : Nat → Nat → Int32} : zs (h1, hM G f ar) 113 (.inl (G.1, 150, .inl F)) = (h1, hM G f (up2 ar 20 F)) := rfl
theorem mp_21 {G : zG} {h1 : List va_E} {f : Nat → Int32} {ar : Nat → Nat → Int32} {v : Int32} : zs (h1, hM G f ar) 100 (.inr (7, ([.ref 101, .ref 102, .ref 103, .ref 104, .ref 105, .ref 106, .ref 107, .ref 108, .int (f 8), .int (f 9), .int (f 10), .int (f 11), .int (f 12), .ref 109, .ref 110, .ref 111, .ref 112, .int (f 17), .int (f 18), .int (f 19), .ref 113, .int (f 21), .int (f 22), .int (f 23), .ref 114, .ref 115, .ref 116, .ref 117, .int (f 28), .int (f 29), .int (f 30), .int (f 31), .int (f 32), .int (f 33), .ref 118, .int (f 35)] : List Value).set 21 (.int v))) = (h1, hM G (upd f 21 v) ar) := rfl
theorem mp_22 {G : zG} {h1 : List va_E} {f : Nat → Int32} {ar : Nat → Nat → Int32} {v : Int32} : zs (h1, hM G f ar) 100 (.inr (7, ([.ref 101, .ref 102, .ref 103, .ref 104, .ref 105, .ref 106, .ref 107, .ref 108, .int (f 8), .int (f 9), .int (f 10), .int (f 11), .int (f 12), .ref 109, .ref 110, .ref 111, .ref 112, .int (f 17), .int (f 18), .int (f 19), .ref 113, .int (f 21), .int (f 22), .int (f 23), .ref 114, .ref 115, .ref 116, .ref 117, .int (f 28), .int (f 29), .int (f 30), .int (f 31), .int (f 32), .int (f 33), .ref 118, .int (f 35)] : List Value).set 22 (.int v))) = (h1, hM G (upd f 22 v) ar) := rfl
theorem mp_23 {G : zG} {h1 : List va_E} {f : Nat → Int32} {ar : Nat → Nat → Int32} {v : Int32} : zs (h1, hM G f ar) 100 (.inr (7, ([.ref 101, .ref 102, .ref 103, .ref 104, .ref 105, .ref 106, .ref 107, .ref 108, .int (f 8), .int (f 9), .int (f 10), .int (f 11), .int (f 12), .ref 109, .ref 110, .ref 111, .ref 112, .int (f 17), .int (f 18), .int (f 19), .ref 113, .int (f 21), .int (f 22), .int (f 23), .ref 114, .ref 115, .ref 116, .ref 117, .int (f 28), .int (f 29), .int (f 30), .int (f 31), .int (f 32), .int (f 33), .ref 118, .int (f 35)] : List Value).set 23 (.int v))) = (h1, hM G (upd f 23 v) ar) := rfl
theorem ms_24 {G : zG} {h1 : List va_E} {f F : Nat → Int32} {ar : Nat → Nat → Int32} : zs (h1, hM G f ar) 114 (.inl (G.1, 5, .inl F)) = (h1, hM G f (up2 ar 24 F)) := rfl
theorem ms_25 {G : zG} {h1 : List va_E} {f F : Nat → Int32} {ar : Nat → Nat → Int32} : zs (h1, hM G f ar) 115 (.inl (G.1, 5, .inl F)) = (h1, hM G f (up2 ar 25 F)) := rfl
theorem ms_26 {G : zG} {h1 : List va_E} {f F : Nat → Int32} {ar : Nat → Nat → Int32} : zs (h1, hM G f ar) 116 (.inl (G.1, 240, .inl F)) = (h1, hM G f (up2 ar 26 F)) := rfl
theorem ms_27 {G : zG} {h1 : List va_E} {f F : Nat → Int32} {ar : Nat → Nat → Int32} : zs (h1, hM G f ar) 117 (.inl (G.1, 240, .inl F)) = (h1, hM G f (up2 ar 27 F)) := rfl
theorem mp_28 {G : zG} {h1 : List va_E} {f : Nat → Int32} {ar : Nat → Nat → Int32} {v : Int32} : zs (h1, hM G f ar) 100 (.inr (7, ([.ref 101, .ref 102, .ref 103, .ref 104, .ref 105, .ref 106, .ref 107, .ref 108, .int (f 8), .int (f 9), .int (f 10), .int (f 11), .int (f 12), .ref 109, .ref 110, .ref 111, .ref 112, .int (f 17), .int (f 18), .int (f 19), .ref 113, .int (f 21), .int (f 22), .int (f 23), .ref 114, .ref 115, .ref 116, .ref 117, .int (f 28), .int (f 29), .int (f 30), .int (f 31), .int (f 32), .int (f 33), .ref 118, .int (f 35)] : List Value).set 28 (.int v))) = (h1, hM G (upd f 28 v) ar) := rfl
theorem mp_29 {G : zG} {h1 : List va_E} {f : Nat → Int32} {ar : Nat → Nat → Int32} {v : Int32} : zs (h1, hM G f ar) 100 (.inr (7, ([.ref 101, .ref 102, .ref 103, .ref 104, .ref 105, .ref 106, .ref 107, .ref 108, .int (f 8), .int (f 9), .int (f 10), .int (f 11), .int (f 12), .ref 109, .ref 110, .ref 111, .ref 112, .int (f 17), .int (f 18), .int (f 19), .ref 113, .int (f 21), .int (f 22), .int (f 23), .ref 114, .ref 115, .ref 116, .ref 117, .int (f 28), .int (f 29), .int (f 30), .int (f 31), .int (f 32), .int (f 33), .ref 118, .int (f 35)] : List Value).set 29 (.int v))) = (h1, hM G (upd f 29 v) ar) := rfl
theorem mp_30 {G : zG} {h1 : List va_E} {f : Nat → Int32} {ar : Nat → Nat → Int32} {v : Int32} : zs (h1, hM G f ar) 100 (.inr (7, ([.ref 101, .ref 102, .ref 103, .ref 104, .ref 105, .ref 106, .ref 107, .ref 108, .int (f 8), .int (f 9), .int (f 10), .int (f 11), .int (f 12), .ref 109, .ref 110, .ref 111, .ref 112, .int (f 17), .int (f 18), .int (f 19), .ref 113, .int (f 21), .int (f 22), .int (f 23), .ref 114, .ref 115, .ref 116, .ref 117, .int (f 28), .int (f 29), .int (f 30), .int (f 31), .int (f 32), .int (f 33), .ref 118, .int (f 35)] : List Value).set 30 (.int v))) = (h1, hM G (upd f 30 v) ar) := rfl
theorem mp_31 {G : zG} {h1 : List va_E} {f : Nat → Int32} {ar : Nat → Nat → Int32} {v : Int32} : zs (h1, hM G f ar) 100 (.inr (7, ([.ref 101, .ref 102, .ref 103, .ref 104, .ref 105, .ref 106, .ref 107, .ref 108, .int (f 8), .int (f 9), .int (f 10), .int (f 11), .int (f 12), .ref 109, .ref 110, .ref 111, .ref 112, .int (f 17), .int (f 18), .int (f 19), .ref 113, .int (f 21), .int (f 22), .int (f 23), .ref 114, .ref 115, .ref 116, .ref 117, .int (f 28), .int (f 29), .int (f 30), .int (f 31), .int (f 32), .int (f 33), .ref 118, .int (f 35)] : List Value).set 31 (.int v))) = (h1, hM G (upd f 31 v) ar) := rfl
theorem mp_32 {G : zG} {h1 : List va_E} {f : Nat → Int32} {ar : Nat → Nat → Int32} {v : Int32} : zs (h1, hM G f ar) 100 (.inr (7, ([.ref 101, .ref 102, .ref 103, .ref 104, .ref 105, .ref 106, .ref 107, .ref 108, .int (f 8), .int (f 9), .int (f 10), .int (f 11), .int (f 12), .ref 109, .ref 110, .ref 111, .ref 112, .int (f 17), .int (f 18), .int (f 19), .ref 113, .int (f 21), .int (f 22), .int (f 23), .ref 114, .ref 115, .ref 116, .ref 117, .int (f 28), .int (f 29), .int (f 30), .int (f 31), .int (f 32), .int (f 33), .ref 118, .int (f 35)] : List Value).set 32 (.int v))) = (h1, hM G (upd f 32 v) ar) := rfl
theorem mp_33 {G : zG} {h1 : List va_E} {f : Nat → Int32} {ar : Nat → Nat → Int32} {v : Int32} : zs (h1, hM G f ar) 100 (.inr (7, ([.ref 101, .ref 102, .ref 103, .ref 104, .ref 105, .ref 106, .ref 107, .ref 108, .int (f 8), .int (f 9), .int (f 10), .int (f 11), .int (f 12), .ref 109, .ref 110, .ref 111, .ref 112, .int (f 17), .int (f 18), .int (f 19), .ref 113, .int (f 21), .int (f 22), .int (f 23), .ref 114, .ref 115, .ref 116, .ref 117, .int (f 28), .int (f 29), .int (f 30), .int (f 31), .int (f 32), .int (f 33), .ref 118, .int (f 35)] : List Value).set 33 (.int v))) = (h1, hM G (upd f 33 v) ar) := rfl
theorem ms_34 {G : zG} {h1 : List va_E} {f F : Nat → Int32} {ar : Nat → Nat → Int32} : zs (h1, hM G f ar) 118 (.inl (G.1, 12, .inl F)) = (h1, hM G f (up2 ar 34 F)) := rfl
theorem mp_35 {G : zG} {h1 : List va_E} {f : Nat → Int32} {ar : Nat → Nat → Int32} {v : Int32} : zs (h1, hM G f ar) 100 (.inr (7, ([.ref 101, .ref 102, .ref 103, .ref 104, .ref 105, .ref 106, .ref 107, .ref 108, .int (f 8), .int (f 9), .int (f 10), .int (f 11), .int (f 12), .ref 109, .ref 110, .ref 111, .ref 112, .int (f 17), .int (f 18), .int (f 19), .ref 113, .int (f 21), .int (f 22), .int (f 23), .ref 114, .ref 115, .ref 116, .ref 117, .int (f 28), .int (f 29), .int (f 30), .int (f 31), .int (f 32), .int (f 33), .ref 118, .int (f 35)] : List Value).set 35 (.int v))) = (h1, hM G (upd f 35 v) ar) := rfl
theorem bd_in {v lo hi : Int32} (h : ¬ sX7_bound v lo hi = 0) : vp_in (-(sX7_bound v lo hi)) 7 := by
  unfold sX7_bound at h ⊢
  by_cases h1 : lo ≤ v
  · by_cases h2 : v ≤ hi
    · rw [if_pos h1, if_pos h2] at h; exact absurd rfl h
    · rw [if_pos h1, if_neg h2]; exact vin_d (by decide)
  · rw [if_neg h1]; exact vin_d (by decide)
def sX7_no (ar : Nat → Nat → Int32) (why : Int32) : Int32 × (Nat → Nat → Int32) := (why, (up2 ar 0 (upd (ar 0) (-why).toNatClampNeg ((ar 0 (-why).toNatClampNeg) + 1))))
set_option maxRecDepth 20000 in
theorem eX7_no {G : zG} {h1 : List va_E} {f : Nat → Int32} {ar : Nat → Nat → Int32} {why : Int32} (hw : vp_in (-why) 7) : EvF G mX7_no [.ref 100, .int why] (h1, hM G f ar) (some (.int ((sX7_no ar why).1))) (h1, hM G f ((sX7_no ar why).2)) := by
  generalize hs : (sX7_no ar why) = zz
  refine EvF.of pnX7 rfl ?_
  refine R_aload_n 1 dX7_no_0 rfl rfl ?_
  refine R_get 4 dX7_no_1 rfl fX7_7 rfl (v := .ref 101) rfl ?_
  refine R_iload_n 5 dX7_no_4 rfl rfl ?_
  refine R_ineg 6 dX7_no_5 rfl ?_
  refine R_dup2 7 dX7_no_6 rfl rfl rfl ?_
  refine R_iald 8 dX7_no_7 rfl rfl rfl hw ?_
  refine R_iconst 9 dX7_no_8 rfl (v := 1) (by decide) ?_
  refine R_iadd 10 dX7_no_9 rfl ?_
  refine R_nm (fun z1_ hz1_ => ?_)
  refine R_iast 11 dX7_no_10 rfl rfl rfl hw (h2 := (h1, hM G f (up2 ar 0 (upd (ar 0) (-why).toNatClampNeg z1_)))) ms_0 ?_
  refine R_iload_n 12 dX7_no_11 rfl rfl ?_
  refine R_ireturn dX7_no_12 rfl rfl ?_
  subst hz1_
  have e : zz = (why, (up2 ar 0 (upd (ar 0) (-why).toNatClampNeg ((ar 0 (-why).toNatClampNeg) + 1)))) := by rw [← hs]; unfold sX7_no; rfl
  rw [pr1 e, pr2 e]; exact ⟨rfl, rfl⟩
def sX7_lower (ar : Nat → Nat → Int32) (why : Int32) : Int32 × (Nat → Nat → Int32) := (1000000000 - why, (up2 ar 0 (upd (ar 0) (-why).toNatClampNeg ((ar 0 (-why).toNatClampNeg) + 1))))
set_option maxRecDepth 20000 in
theorem eX7_lower {G : zG} {h1 : List va_E} {f : Nat → Int32} {ar : Nat → Nat → Int32} {why : Int32} (hw : vp_in (-why) 7) : EvF G mX7_lower [.ref 100, .int why] (h1, hM G f ar) (some (.int ((sX7_lower ar why).1))) (h1, hM G f ((sX7_lower ar why).2)) := by
  generalize hs : (sX7_lower ar why) = zz
  refine EvF.of pnX7 rfl ?_
  refine R_aload_n 1 dX7_lower_0 rfl rfl ?_
  refine R_get 4 dX7_lower_1 rfl fX7_7 rfl (v := .ref 101) rfl ?_
  refine R_iload_n 5 dX7_lower_4 rfl rfl ?_
  refine R_ineg 6 dX7_lower_5 rfl ?_
  refine R_dup2 7 dX7_lower_6 rfl rfl rfl ?_
  refine R_iald 8 dX7_lower_7 rfl rfl rfl hw ?_
  refine R_iconst 9 dX7_lower_8 rfl (v := 1) (by decide) ?_
  refine R_iadd 10 dX7_lower_9 rfl ?_
  refine R_nm (fun z1_ hz1_ => ?_)
  refine R_iast 11 dX7_lower_10 rfl rfl rfl hw (h2 := (h1, hM G f (up2 ar 0 (upd (ar 0) (-why).toNatClampNeg z1_)))) ms_0 ?_
  refine R_ldc 13 dX7_lower_11 rfl qX7_64 ?_
  refine R_iload_n 14 dX7_lower_13 rfl rfl ?_
  refine R_isub 15 dX7_lower_14 rfl ?_
  refine R_ireturn dX7_lower_15 rfl rfl ?_
  subst hz1_
  have e : zz = (1000000000 - why, (up2 ar 0 (upd (ar 0) (-why).toNatClampNeg ((ar 0 (-why).toNatClampNeg) + 1)))) := by rw [← hs]; unfold sX7_lower; rfl
  rw [pr1 e, pr2 e]; exact ⟨rfl, rfl⟩
def sX7_isPerson (f : Nat → Int32) (p : Int32) : Bool := if p < 0 then false else (!decide ((f 8) ≤ p))
set_option maxRecDepth 20000 in
theorem eX7_isPerson {G : zG} {h1 : List va_E} {f : Nat → Int32} {ar : Nat → Nat → Int32} {p : Int32} : EvF G mX7_isPerson [.ref 100, .int p] (h1, hM G f ar) (some (.int (b2i (sX7_isPerson f p)))) (h1, hM G f ar) := by
  generalize hs : (sX7_isPerson f p) = zz
  refine EvF.of pnX7 rfl ?_
  refine R_iload_n 1 dX7_isPerson_0 rfl rfl ?_
  refine R_if_lt 4 16 dX7_isPerson_1 rfl (by decide) (fun c1 => ?_) (fun c1 => ?_)
  ·
    refine R_iconst 17 dX7_isPerson_16 rfl (v := 0) (by decide) ?_
    refine R_ireturn dX7_isPerson_17 rfl (by decide) ?_
    have e : zz = false := by rw [← hs]; unfold sX7_isPerson; rw [if_pos c1]
    subst e; exact ⟨rfl, rfl⟩
  ·
    refine R_iload_n 5 dX7_isPerson_4 rfl rfl ?_
    refine R_aload_n 6 dX7_isPerson_5 rfl rfl ?_
    refine R_get 9 dX7_isPerson_6 rfl fX7_65 rfl (v := .int (f 8)) rfl ?_
    refine R_cut 17 [(0, .ref 100), (1, .int p)] (.int (b2i (!decide ((f 8) ≤ p))) :: []) (h1, hM G f ar) ?_ (fun kj => ?_)
    ·
      refine R_ireturn dX7_isPerson_17 rfl (nar_b _) ?_
      have e : zz = (!decide ((f 8) ≤ p)) := by rw [← hs]; unfold sX7_isPerson; rw [if_neg c1]
      subst e; exact ⟨rfl, rfl⟩
    refine R_icmp_ge 12 16 dX7_isPerson_9 rfl (by decide) (fun c2 => ?_) (fun c2 => ?_)
    · refine R_iconst 17 dX7_isPerson_16 rfl (v := 0) (by decide) ?_
      rw [b2i_np c2] at kj; exact kj
    · refine R_iconst 13 dX7_isPerson_12 rfl (v := 1) (by decide) ?_
      refine R_goto 17 dX7_isPerson_13 (by decide) ?_
      rw [b2i_nn c2] at kj; exact kj
def sX7_swinging (ar : Nat → Nat → Int32) (t : Int32) : Int32 := if ((t / 10) - (t / 10) / 2 * 2) = 0 then ar 1 3 else -(ar 1 3)
set_option maxRecDepth 20000 in
theorem eX7_swinging {G : zG} {h1 : List va_E} {f : Nat → Int32} {ar : Nat → Nat → Int32} {t : Int32} : EvF G mX7_swinging [.ref 100, .int t] (h1, hM G f ar) (some (.int (sX7_swinging ar t))) (h1, hM G f ar) := by
  generalize hs : (sX7_swinging ar t) = zz
  refine EvF.of pnX7 rfl ?_
  refine R_iload_n 1 dX7_swinging_0 rfl rfl ?_
  refine R_bipush 3 dX7_swinging_1 rfl (v := 10) (by decide) ?_
  refine R_idiv 4 dX7_swinging_3 rfl (by decide) ?_
  refine R_iconst 5 dX7_swinging_4 rfl (v := 2) (by decide) ?_
  refine R_irem 6 dX7_swinging_5 rfl (by decide) ?_
  refine R_cut 25 [(0, .ref 100), (1, .int t)] (.int (if ((t / 10) - (t / 10) / 2 * 2) = 0 then ar 1 3 else -(ar 1 3)) :: []) (h1, hM G f ar) ?_ (fun kj => ?_)
  ·
    refine R_ireturn dX7_swinging_25 rfl rfl ?_
    have e : zz = if ((t / 10) - (t / 10) / 2 * 2) = 0 then ar 1 3 else -(ar 1 3) := by rw [← hs]; unfold sX7_swinging; rfl
    subst e; exact ⟨rfl, rfl⟩
  refine R_if_ne 9 18 dX7_swinging_6 rfl (by decide) (fun c1 => ?_) (fun c1 => ?_)
  · refine R_aload_n 19 dX7_swinging_18 rfl rfl ?_
    refine R_get 22 dX7_swinging_19 rfl fX7_13 rfl (v := .ref 102) rfl ?_
    refine R_iconst 23 dX7_swinging_22 rfl (v := 3) (by decide) ?_
    refine R_iald 24 dX7_swinging_23 rfl rfl rfl (vin_d (by decide)) ?_
    refine R_top (y := (ar 1 3)) rfl ?_
    refine R_ineg 25 dX7_swinging_24 rfl ?_
    rw [if_neg c1] at kj; exact kj
  · refine R_aload_n 10 dX7_swinging_9 rfl rfl ?_
    refine R_get 13 dX7_swinging_10 rfl fX7_13 rfl (v := .ref 102) rfl ?_
    refine R_iconst 14 dX7_swinging_13 rfl (v := 3) (by decide) ?_
    refine R_iald 15 dX7_swinging_14 rfl rfl rfl (vin_d (by decide)) ?_
    refine R_top (y := (ar 1 3)) rfl ?_
    refine R_goto 25 dX7_swinging_15 (by decide) ?_
    rw [if_pos c1] at kj; exact kj
def sX7_cooling (ar : Nat → Nat → Int32) (t : Int32) : Int32 := if 0 < ((sX7_size (ar 1 3)) - (t / 20)) then (if 0 ≤ (ar 1 3) then (sX7_size (ar 1 3)) - (t / 20) else -((sX7_size (ar 1 3)) - (t / 20))) else 0
set_option maxRecDepth 20000 in
theorem eX7_cooling {G : zG} {h1 : List va_E} {f : Nat → Int32} {ar : Nat → Nat → Int32} {t : Int32} : EvF G mX7_cooling [.ref 100, .int t] (h1, hM G f ar) (some (.int (sX7_cooling ar t))) (h1, hM G f ar) := by
  generalize hs : (sX7_cooling ar t) = zz
  refine EvF.of pnX7 rfl ?_
  refine R_aload_n 1 dX7_cooling_0 rfl rfl ?_
  refine R_get 4 dX7_cooling_1 rfl fX7_13 rfl (v := .ref 102) rfl ?_
  refine R_iconst 5 dX7_cooling_4 rfl (v := 3) (by decide) ?_
  refine R_iald 6 dX7_cooling_5 rfl rfl rfl (vin_d (by decide)) ?_
  refine R_top (y := (ar 1 3)) rfl ?_
  refine R_callSi 9 eX7_size dX7_cooling_6 rfl kX7_size lX7_176 rfl rfl rfl rfl rfl ?_
  refine R_iload_n 10 dX7_cooling_9 rfl rfl ?_
  refine R_bipush 12 dX7_cooling_10 rfl (v := 20) (by decide) ?_
  refine R_idiv 13 dX7_cooling_12 rfl (by decide) ?_
  refine R_isub 14 dX7_cooling_13 rfl ?_
  refine R_istore_n 15 dX7_cooling_14 rfl rfl (by decide) (loc' := [(0, .ref 100), (1, .int t), (2, .int ((sX7_size (ar 1 3)) - (t / 20)))]) rfl ?_
  refine R_iload_n 16 dX7_cooling_15 rfl rfl ?_
  refine R_if_gt 19 23 dX7_cooling_16 rfl (by decide) (fun c1 => ?_) (fun c1 => ?_)
  ·
    refine R_aload_n 24 dX7_cooling_23 rfl rfl ?_
    refine R_get 27 dX7_cooling_24 rfl fX7_13 rfl (v := .ref 102) rfl ?_
    refine R_iconst 28 dX7_cooling_27 rfl (v := 3) (by decide) ?_
    refine R_iald 29 dX7_cooling_28 rfl rfl rfl (vin_d (by decide)) ?_
    refine R_top (y := (ar 1 3)) rfl ?_
    refine R_cut 38 [(0, .ref 100), (1, .int t), (2, .int ((sX7_size (ar 1 3)) - (t / 20)))] (.int (if 0 ≤ (ar 1 3) then (sX7_size (ar 1 3)) - (t / 20) else -((sX7_size (ar 1 3)) - (t / 20))) :: []) (h1, hM G f ar) ?_ (fun kj => ?_)
    ·
      refine R_ireturn dX7_cooling_38 rfl rfl ?_
      have e : zz = if 0 ≤ (ar 1 3) then (sX7_size (ar 1 3)) - (t / 20) else -((sX7_size (ar 1 3)) - (t / 20)) := by rw [← hs]; unfold sX7_cooling; rw [if_pos c1]
      subst e; exact ⟨rfl, rfl⟩
    refine R_if_ge 32 37 dX7_cooling_29 rfl (by decide) (fun c2 => ?_) (fun c2 => ?_)
    · refine R_iload_n 38 dX7_cooling_37 rfl rfl ?_
      rw [if_pos c2] at kj; exact kj
    · refine R_iload_n 33 dX7_cooling_32 rfl rfl ?_
      refine R_ineg 34 dX7_cooling_33 rfl ?_
      refine R_goto 38 dX7_cooling_34 (by decide) ?_
      rw [if_neg c2] at kj; exact kj
  ·
    refine R_iconst 20 dX7_cooling_19 rfl (v := 0) (by decide) ?_
    refine R_goto 38 dX7_cooling_20 (by decide) ?_
    refine R_ireturn dX7_cooling_38 rfl rfl ?_
    have e : zz = 0 := by rw [← hs]; unfold sX7_cooling; rw [if_neg c1]
    subst e; exact ⟨rfl, rfl⟩
def sX7_driftIn (f : Nat → Int32) (ar : Nat → Nat → Int32) (t : Int32) : Int32 := if (f 9) = 1 then (sX7_swinging ar t) else if (f 9) = 2 then (sX7_cooling ar t) else if (f 9) = 3 then (if (t - t / 3 * 3) = 0 then 3 * (ar 1 3) else 0) else if (f 9) = 4 then (sX7_swinging ar t) + (b2i (decide ((t - t / 2 * 2) = 0))) else ar 1 3
set_option maxRecDepth 20000 in
theorem eX7_driftIn {G : zG} {h1 : List va_E} {f : Nat → Int32} {ar : Nat → Nat → Int32} {t : Int32} : EvF G mX7_driftIn [.ref 100, .int t] (h1, hM G f ar) (some (.int (sX7_driftIn f ar t))) (h1, hM G f ar) := by
  generalize hs : (sX7_driftIn f ar t) = zz
  refine EvF.of pnX7 rfl ?_
  refine R_aload_n 1 dX7_driftIn_0 rfl rfl ?_
  refine R_get 4 dX7_driftIn_1 rfl fX7_132 rfl (v := .int (f 9)) rfl ?_
  by_cases c1 : (f 9) = 1
  ·
    refine R_tableAt 36 (off := 32) 1 c1 dX7_driftIn_4 (by decide) (by decide) ?_
    refine R_aload_n 37 dX7_driftIn_36 rfl rfl ?_
    refine R_iload_n 38 dX7_driftIn_37 rfl rfl ?_
    refine R_callVi 41 eX7_swinging dX7_driftIn_38 rfl kX7_swinging lX7_179 rfl rfl rfl rfl rfl rfl rfl ?_
    refine R_ireturn dX7_driftIn_41 rfl rfl ?_
    have e : zz = (sX7_swinging ar t) := by rw [← hs]; unfold sX7_driftIn; rw [if_pos c1]
    subst e; exact ⟨rfl, rfl⟩
  by_cases c2 : (f 9) = 2
  ·
    refine R_tableAt 42 (off := 38) 2 c2 dX7_driftIn_4 (by decide) (by decide) ?_
    refine R_aload_n 43 dX7_driftIn_42 rfl rfl ?_
    refine R_iload_n 44 dX7_driftIn_43 rfl rfl ?_
    refine R_callVi 47 eX7_cooling dX7_driftIn_44 rfl kX7_cooling lX7_182 rfl rfl rfl rfl rfl rfl rfl ?_
    refine R_ireturn dX7_driftIn_47 rfl rfl ?_
    have e : zz = (sX7_cooling ar t) := by rw [← hs]; unfold sX7_driftIn; rw [if_neg c1, if_pos c2]
    subst e; exact ⟨rfl, rfl⟩
  by_cases c3 : (f 9) = 3
  ·
    refine R_tableAt 48 (off := 44) 3 c3 dX7_driftIn_4 (by decide) (by decide) ?_
    refine R_iload_n 49 dX7_driftIn_48 rfl rfl ?_
    refine R_iconst 50 dX7_driftIn_49 rfl (v := 3) (by decide) ?_
    refine R_irem 51 dX7_driftIn_50 rfl (by decide) ?_
    refine R_cut 66 [(0, .ref 100), (1, .int t)] (.int (if (t - t / 3 * 3) = 0 then 3 * (ar 1 3) else 0) :: []) (h1, hM G f ar) ?_ (fun kj => ?_)
    ·
      refine R_ireturn dX7_driftIn_66 rfl rfl ?_
      have e : zz = if (t - t / 3 * 3) = 0 then 3 * (ar 1 3) else 0 := by rw [← hs]; unfold sX7_driftIn; rw [if_neg c1, if_neg c2, if_pos c3]
      subst e; exact ⟨rfl, rfl⟩
    refine R_if_ne 54 65 dX7_driftIn_51 rfl (by decide) (fun c4 => ?_) (fun c4 => ?_)
    · refine R_iconst 66 dX7_driftIn_65 rfl (v := 0) (by decide) ?_
      rw [if_neg c4] at kj; exact kj
    · refine R_iconst 55 dX7_driftIn_54 rfl (v := 3) (by decide) ?_
      refine R_aload_n 56 dX7_driftIn_55 rfl rfl ?_
      refine R_get 59 dX7_driftIn_56 rfl fX7_13 rfl (v := .ref 102) rfl ?_
      refine R_iconst 60 dX7_driftIn_59 rfl (v := 3) (by decide) ?_
      refine R_iald 61 dX7_driftIn_60 rfl rfl rfl (vin_d (by decide)) ?_
      refine R_top (y := (ar 1 3)) rfl ?_
      refine R_imul 62 dX7_driftIn_61 rfl ?_
      refine R_goto 66 dX7_driftIn_62 (by decide) ?_
      rw [if_pos c4] at kj; exact kj
  by_cases c5 : (f 9) = 4
  ·
    refine R_tableAt 67 (off := 63) 4 c5 dX7_driftIn_4 (by decide) (by decide) ?_
    refine R_aload_n 68 dX7_driftIn_67 rfl rfl ?_
    refine R_iload_n 69 dX7_driftIn_68 rfl rfl ?_
    refine R_callVi 72 eX7_swinging dX7_driftIn_69 rfl kX7_swinging lX7_179 rfl rfl rfl rfl rfl rfl rfl ?_
    refine R_iload_n 73 dX7_driftIn_72 rfl rfl ?_
    refine R_iconst 74 dX7_driftIn_73 rfl (v := 2) (by decide) ?_
    refine R_irem 75 dX7_driftIn_74 rfl (by decide) ?_
    refine R_cut 83 [(0, .ref 100), (1, .int t)] (.int (b2i (decide ((t - t / 2 * 2) = 0))) :: [.int (sX7_swinging ar t)]) (h1, hM G f ar) ?_ (fun kj => ?_)
    ·
      refine R_iadd 84 dX7_driftIn_83 rfl ?_
      refine R_ireturn dX7_driftIn_84 rfl rfl ?_
      have e : zz = (sX7_swinging ar t) + (b2i (decide ((t - t / 2 * 2) = 0))) := by rw [← hs]; unfold sX7_driftIn; rw [if_neg c1, if_neg c2, if_neg c3, if_pos c5]
      subst e; exact ⟨rfl, rfl⟩
    refine R_if_ne 78 82 dX7_driftIn_75 rfl (by decide) (fun c6 => ?_) (fun c6 => ?_)
    · refine R_iconst 83 dX7_driftIn_82 rfl (v := 0) (by decide) ?_
      rw [b2i_n c6] at kj; exact kj
    · refine R_iconst 79 dX7_driftIn_78 rfl (v := 1) (by decide) ?_
      refine R_goto 83 dX7_driftIn_79 (by decide) ?_
      rw [b2i_p c6] at kj; exact kj
  refine R_tableD 85 [1, 2, 3, 4] dX7_driftIn_4 (List.forall_mem_cons.mpr ⟨lv_neT c1 (show (1 : Int32).toInt = 1 by decide), List.forall_mem_cons.mpr ⟨lv_neT c2 (show (2 : Int32).toInt = 2 by decide), List.forall_mem_cons.mpr ⟨lv_neT c3 (show (3 : Int32).toInt = 3 by decide), List.forall_mem_cons.mpr ⟨lv_neT c5 (show (4 : Int32).toInt = 4 by decide), fun _ h => absurd h List.not_mem_nil⟩⟩⟩⟩) (by decide) (by decide) ?_
  refine R_aload_n 86 dX7_driftIn_85 rfl rfl ?_
  refine R_get 89 dX7_driftIn_86 rfl fX7_13 rfl (v := .ref 102) rfl ?_
  refine R_iconst 90 dX7_driftIn_89 rfl (v := 3) (by decide) ?_
  refine R_iald 91 dX7_driftIn_90 rfl rfl rfl (vin_d (by decide)) ?_
  refine R_top (y := (ar 1 3)) rfl ?_
  refine R_ireturn dX7_driftIn_91 rfl rfl ?_
  have e : zz = ar 1 3 := by rw [← hs]; unfold sX7_driftIn; rw [if_neg c1, if_neg c2, if_neg c3, if_neg c5]
  subst e; exact ⟨rfl, rfl⟩
def sX7_botherOf (ar : Nat → Nat → Int32) (p : Int32) (x : Int32) : Int32 := if (ar 2 p.toNatClampNeg) = 1 then (if (ar 4 p.toNatClampNeg) ≤ x then (x - (ar 4 p.toNatClampNeg)) * (ar 3 p.toNatClampNeg) else 0) else if (ar 2 p.toNatClampNeg) = 2 then 2 * (x * (ar 3 p.toNatClampNeg)) else if (ar 2 p.toNatClampNeg) = 3 then (2 * (x * (ar 3 p.toNatClampNeg))) + (if x ≤ 2 then 0 else ar 4 p.toNatClampNeg) else if (ar 2 p.toNatClampNeg) = 4 then (if x < 20 then (if (2 * (ar 4 p.toNatClampNeg)) ≤ x then (x - (2 * (ar 4 p.toNatClampNeg))) * (ar 3 p.toNatClampNeg) else 0) else x * (ar 3 p.toNatClampNeg)) else x * (ar 3 p.toNatClampNeg)
set_option maxRecDepth 20000 in
theorem eX7_botherOf {G : zG} {h1 : List va_E} {f : Nat → Int32} {ar : Nat → Nat → Int32} {p x : Int32} (hp : vp_in p 5) : EvF G mX7_botherOf [.ref 100, .int p, .int x] (h1, hM G f ar) (some (.int (sX7_botherOf ar p x))) (h1, hM G f ar) := by
  generalize hs : (sX7_botherOf ar p x) = zz
  refine EvF.of pnX7 rfl ?_
  refine R_iload_n 1 dX7_botherOf_0 rfl rfl ?_
  refine R_aload_n 2 dX7_botherOf_1 rfl rfl ?_
  refine R_get 5 dX7_botherOf_2 rfl fX7_19 rfl (v := .ref 104) rfl ?_
  refine R_iload_n 6 dX7_botherOf_5 rfl rfl ?_
  refine R_iald 7 dX7_botherOf_6 rfl rfl rfl hp ?_
  refine R_imul 8 dX7_botherOf_7 rfl ?_
  refine R_istore_n 9 dX7_botherOf_8 rfl rfl (by decide) (loc' := [(0, .ref 100), (1, .int p), (2, .int x), (3, .int (x * (ar 3 p.toNatClampNeg)))]) rfl ?_
  refine R_aload_n 10 dX7_botherOf_9 rfl rfl ?_
  refine R_get 13 dX7_botherOf_10 rfl fX7_16 rfl (v := .ref 103) rfl ?_
  refine R_iload_n 14 dX7_botherOf_13 rfl rfl ?_
  refine R_iald 15 dX7_botherOf_14 rfl rfl rfl hp ?_
  by_cases c1 : (ar 2 p.toNatClampNeg) = 1
  ·
    refine R_tableAt 44 (off := 29) 1 c1 dX7_botherOf_15 (by decide) (by decide) ?_
    refine R_iload_n 45 dX7_botherOf_44 rfl rfl ?_
    refine R_aload_n 46 dX7_botherOf_45 rfl rfl ?_
    refine R_get 49 dX7_botherOf_46 rfl fX7_22 rfl (v := .ref 105) rfl ?_
    refine R_iload_n 50 dX7_botherOf_49 rfl rfl ?_
    refine R_iald 51 dX7_botherOf_50 rfl rfl rfl hp ?_
    refine R_cut 73 [(0, .ref 100), (1, .int p), (2, .int x), (3, .int (x * (ar 3 p.toNatClampNeg)))] (.int (if (ar 4 p.toNatClampNeg) ≤ x then (x - (ar 4 p.toNatClampNeg)) * (ar 3 p.toNatClampNeg) else 0) :: []) (h1, hM G f ar) ?_ (fun kj => ?_)
    ·
      refine R_ireturn dX7_botherOf_73 rfl rfl ?_
      have e : zz = if (ar 4 p.toNatClampNeg) ≤ x then (x - (ar 4 p.toNatClampNeg)) * (ar 3 p.toNatClampNeg) else 0 := by rw [← hs]; unfold sX7_botherOf; rw [if_pos c1]
      subst e; exact ⟨rfl, rfl⟩
    refine R_icmp_ge 54 58 dX7_botherOf_51 rfl (by decide) (fun c2 => ?_) (fun c2 => ?_)
    · refine R_iload_n 59 dX7_botherOf_58 rfl rfl ?_
      refine R_aload_n 60 dX7_botherOf_59 rfl rfl ?_
      refine R_get 63 dX7_botherOf_60 rfl fX7_22 rfl (v := .ref 105) rfl ?_
      refine R_iload_n 64 dX7_botherOf_63 rfl rfl ?_
      refine R_iald 65 dX7_botherOf_64 rfl rfl rfl hp ?_
      refine R_isub 66 dX7_botherOf_65 rfl ?_
      refine R_aload_n 67 dX7_botherOf_66 rfl rfl ?_
      refine R_get 70 dX7_botherOf_67 rfl fX7_19 rfl (v := .ref 104) rfl ?_
      refine R_iload_n 71 dX7_botherOf_70 rfl rfl ?_
      refine R_iald 72 dX7_botherOf_71 rfl rfl rfl hp ?_
      refine R_imul 73 dX7_botherOf_72 rfl ?_
      rw [if_pos c2] at kj; exact kj
    · refine R_iconst 55 dX7_botherOf_54 rfl (v := 0) (by decide) ?_
      refine R_goto 73 dX7_botherOf_55 (by decide) ?_
      rw [if_neg c2] at kj; exact kj
  by_cases c3 : (ar 2 p.toNatClampNeg) = 2
  ·
    refine R_tableAt 74 (off := 59) 2 c3 dX7_botherOf_15 (by decide) (by decide) ?_
    refine R_iconst 75 dX7_botherOf_74 rfl (v := 2) (by decide) ?_
    refine R_iload_n 76 dX7_botherOf_75 rfl rfl ?_
    refine R_imul 77 dX7_botherOf_76 rfl ?_
    refine R_ireturn dX7_botherOf_77 rfl rfl ?_
    have e : zz = 2 * (x * (ar 3 p.toNatClampNeg)) := by rw [← hs]; unfold sX7_botherOf; rw [if_neg c1, if_pos c3]
    subst e; exact ⟨rfl, rfl⟩
  by_cases c4 : (ar 2 p.toNatClampNeg) = 3
  ·
    refine R_tableAt 78 (off := 63) 3 c4 dX7_botherOf_15 (by decide) (by decide) ?_
    refine R_iconst 79 dX7_botherOf_78 rfl (v := 2) (by decide) ?_
    refine R_iload_n 80 dX7_botherOf_79 rfl rfl ?_
    refine R_imul 81 dX7_botherOf_80 rfl ?_
    refine R_iload_n 82 dX7_botherOf_81 rfl rfl ?_
    refine R_iconst 83 dX7_botherOf_82 rfl (v := 2) (by decide) ?_
    refine R_cut 96 [(0, .ref 100), (1, .int p), (2, .int x), (3, .int (x * (ar 3 p.toNatClampNeg)))] (.int (if x ≤ 2 then 0 else ar 4 p.toNatClampNeg) :: [.int (2 * (x * (ar 3 p.toNatClampNeg)))]) (h1, hM G f ar) ?_ (fun kj => ?_)
    ·
      refine R_iadd 97 dX7_botherOf_96 rfl ?_
      refine R_ireturn dX7_botherOf_97 rfl rfl ?_
      have e : zz = (2 * (x * (ar 3 p.toNatClampNeg))) + (if x ≤ 2 then 0 else ar 4 p.toNatClampNeg) := by rw [← hs]; unfold sX7_botherOf; rw [if_neg c1, if_neg c3, if_pos c4]
      subst e; exact ⟨rfl, rfl⟩
    refine R_icmp_le 86 95 dX7_botherOf_83 rfl (by decide) (fun c5 => ?_) (fun c5 => ?_)
    · refine R_iconst 96 dX7_botherOf_95 rfl (v := 0) (by decide) ?_
      rw [if_pos c5] at kj; exact kj
    · refine R_aload_n 87 dX7_botherOf_86 rfl rfl ?_
      refine R_get 90 dX7_botherOf_87 rfl fX7_22 rfl (v := .ref 105) rfl ?_
      refine R_iload_n 91 dX7_botherOf_90 rfl rfl ?_
      refine R_iald 92 dX7_botherOf_91 rfl rfl rfl hp ?_
      refine R_goto 96 dX7_botherOf_92 (by decide) ?_
      rw [if_neg c5] at kj; exact kj
  by_cases c6 : (ar 2 p.toNatClampNeg) = 4
  ·
    refine R_tableAt 98 (off := 83) 4 c6 dX7_botherOf_15 (by decide) (by decide) ?_
    refine R_iload_n 99 dX7_botherOf_98 rfl rfl ?_
    refine R_bipush 101 dX7_botherOf_99 rfl (v := 20) (by decide) ?_
    refine R_icmp_lt 104 108 dX7_botherOf_101 rfl (by decide) (fun c7 => ?_) (fun c7 => ?_)
    ·
      refine R_iload_n 109 dX7_botherOf_108 rfl rfl ?_
      refine R_iconst 110 dX7_botherOf_109 rfl (v := 2) (by decide) ?_
      refine R_aload_n 111 dX7_botherOf_110 rfl rfl ?_
      refine R_get 114 dX7_botherOf_111 rfl fX7_22 rfl (v := .ref 105) rfl ?_
      refine R_iload_n 115 dX7_botherOf_114 rfl rfl ?_
      refine R_iald 116 dX7_botherOf_115 rfl rfl rfl hp ?_
      refine R_imul 117 dX7_botherOf_116 rfl ?_
      refine R_icmp_ge 120 124 dX7_botherOf_117 rfl (by decide) (fun c8 => ?_) (fun c8 => ?_)
      ·
        refine R_iload_n 125 dX7_botherOf_124 rfl rfl ?_
        refine R_iconst 126 dX7_botherOf_125 rfl (v := 2) (by decide) ?_
        refine R_aload_n 127 dX7_botherOf_126 rfl rfl ?_
        refine R_get 130 dX7_botherOf_127 rfl fX7_22 rfl (v := .ref 105) rfl ?_
        refine R_iload_n 131 dX7_botherOf_130 rfl rfl ?_
        refine R_iald 132 dX7_botherOf_131 rfl rfl rfl hp ?_
        refine R_imul 133 dX7_botherOf_132 rfl ?_
        refine R_isub 134 dX7_botherOf_133 rfl ?_
        refine R_aload_n 135 dX7_botherOf_134 rfl rfl ?_
        refine R_get 138 dX7_botherOf_135 rfl fX7_19 rfl (v := .ref 104) rfl ?_
        refine R_iload_n 139 dX7_botherOf_138 rfl rfl ?_
        refine R_iald 140 dX7_botherOf_139 rfl rfl rfl hp ?_
        refine R_imul 141 dX7_botherOf_140 rfl ?_
        refine R_ireturn dX7_botherOf_141 rfl rfl ?_
        have e : zz = (x - (2 * (ar 4 p.toNatClampNeg))) * (ar 3 p.toNatClampNeg) := by rw [← hs]; unfold sX7_botherOf; rw [if_neg c1, if_neg c3, if_neg c4, if_pos c6, if_pos c7, if_pos c8]
        subst e; exact ⟨rfl, rfl⟩
      ·
        refine R_iconst 121 dX7_botherOf_120 rfl (v := 0) (by decide) ?_
        refine R_goto 141 dX7_botherOf_121 (by decide) ?_
        refine R_ireturn dX7_botherOf_141 rfl rfl ?_
        have e : zz = 0 := by rw [← hs]; unfold sX7_botherOf; rw [if_neg c1, if_neg c3, if_neg c4, if_pos c6, if_pos c7, if_neg c8]
        subst e; exact ⟨rfl, rfl⟩
    ·
      refine R_iload_n 105 dX7_botherOf_104 rfl rfl ?_
      refine R_goto 141 dX7_botherOf_105 (by decide) ?_
      refine R_ireturn dX7_botherOf_141 rfl rfl ?_
      have e : zz = x * (ar 3 p.toNatClampNeg) := by rw [← hs]; unfold sX7_botherOf; rw [if_neg c1, if_neg c3, if_neg c4, if_pos c6, if_neg c7]
      subst e; exact ⟨rfl, rfl⟩
  refine R_tableD 142 [1, 2, 3, 4] dX7_botherOf_15 (List.forall_mem_cons.mpr ⟨lv_neT c1 (show (1 : Int32).toInt = 1 by decide), List.forall_mem_cons.mpr ⟨lv_neT c3 (show (2 : Int32).toInt = 2 by decide), List.forall_mem_cons.mpr ⟨lv_neT c4 (show (3 : Int32).toInt = 3 by decide), List.forall_mem_cons.mpr ⟨lv_neT c6 (show (4 : Int32).toInt = 4 by decide), fun _ h => absurd h List.not_mem_nil⟩⟩⟩⟩) (by decide) (by decide) ?_
  refine R_iload_n 143 dX7_botherOf_142 rfl rfl ?_
  refine R_ireturn dX7_botherOf_143 rfl rfl ?_
  have e : zz = x * (ar 3 p.toNatClampNeg) := by rw [← hs]; unfold sX7_botherOf; rw [if_neg c1, if_neg c3, if_neg c4, if_neg c6]
  subst e; exact ⟨rfl, rfl⟩
def sX7_placeOf (ar : Nat → Nat → Int32) (s : Int32) : Int32 := ar 1 (1 + s).toNatClampNeg
set_option maxRecDepth 20000 in
theorem eX7_placeOf {G : zG} {h1 : List va_E} {f : Nat → Int32} {ar : Nat → Nat → Int32} {s : Int32} (hst : vp_in (1 + s) 6) : EvF G mX7_placeOf [.ref 100, .int s] (h1, hM G f ar) (some (.int (sX7_placeOf ar s))) (h1, hM G f ar) := by
  generalize hs : (sX7_placeOf ar s) = zz
  refine EvF.of pnX7 rfl ?_
  refine R_aload_n 1 dX7_placeOf_0 rfl rfl ?_
  refine R_get 4 dX7_placeOf_1 rfl fX7_13 rfl (v := .ref 102) rfl ?_
  refine R_iconst 5 dX7_placeOf_4 rfl (v := 1) (by decide) ?_
  refine R_iload_n 6 dX7_placeOf_5 rfl rfl ?_
  refine R_iadd 7 dX7_placeOf_6 rfl ?_
  refine R_iald 8 dX7_placeOf_7 rfl rfl rfl hst ?_
  refine R_ireturn dX7_placeOf_8 rfl rfl ?_
  have e : zz = ar 1 (1 + s).toNatClampNeg := by rw [← hs]; unfold sX7_placeOf; rfl
  subst e; exact ⟨rfl, rfl⟩
/-- what a minute of the reference needs: how many people, whose turn, their stations and hands, the limit -/
def mOk (f : Nat → Int32) (ar : Nat → Nat → Int32) : Prop := (0 ≤ (f 8).toInt ∧ (f 8).toInt ≤ 5) ∧ (0 < (f 8).toInt → 0 ≤ (f 11).toInt ∧ (f 11).toInt < (f 8).toInt) ∧ (∀ p : Nat, p < (f 8).toNatClampNeg → (ar 5 p = 0 ∨ ar 5 p = 1) ∧ ¬ ar 6 p = 0) ∧ ¬ ar 1 4 = 0
def gOk (f : Nat → Int32) : Prop := 0 ≤ (f 28).toInt ∧ (f 28).toInt ≤ (f 33).toInt ∧ (f 33).toInt < 240
theorem mo_pos {f : Nat → Int32} (c : ¬ f 8 ≤ 0) : 0 < (f 8).toInt := by
  rw [Int32.le_iff_toInt_le, show (0 : Int32).toInt = 0 by decide] at c
  omega
theorem mo_t {f : Nat → Int32} {ar : Nat → Nat → Int32} (hk : mOk f ar) (c : ¬ f 8 ≤ 0) : vp_in (f 11) 5 := by
  have h1 := hk.2.1 (mo_pos c)
  have h2 := hk.1
  rw [vp_in_iff]
  omega
theorem mo_c {f : Nat → Int32} {ar : Nat → Nat → Int32} (hk : mOk f ar) (c : ¬ f 8 ≤ 0) : (f 11).toNatClampNeg < (f 8).toNatClampNeg := by
  have h1 := hk.2.1 (mo_pos c)
  unfold Int32.toNatClampNeg
  omega
theorem st_in {x : Int32} (h : x = 0 ∨ x = 1) : vp_in (1 + x) 6 := by
  rcases h with rfl | rfl <;> exact vin_d (by decide)
theorem mo_s {f : Nat → Int32} {ar : Nat → Nat → Int32} (hk : mOk f ar) (c : ¬ f 8 ≤ 0) : vp_in (1 + ar 5 (f 11).toNatClampNeg) 6 := st_in (hk.2.2.1 _ (mo_c hk c)).1
theorem mo_h {f : Nat → Int32} {ar : Nat → Nat → Int32} (hk : mOk f ar) (c : ¬ f 8 ≤ 0) : ¬ ar 6 (f 11).toNatClampNeg = 0 := (hk.2.2.1 _ (mo_c hk c)).2
theorem go_u {f : Nat → Int32} (hg : gOk f) : vp_in (f 28) 240 := by
  rw [vp_in_iff]; obtain ⟨h1, h2, h3⟩ := hg; omega
theorem go_g {f : Nat → Int32} (hg : gOk f) : vp_in (f 33) 240 := by
  rw [vp_in_iff]; obtain ⟨h1, h2, h3⟩ := hg; omega
theorem mo_8 {f : Nat → Int32} (c : ¬ f 8 ≤ 0) : ¬ f 8 = 0 := ne0_le c
def sX7_isUp (f : Nat → Int32) (ar : Nat → Nat → Int32) : Bool := if (f 10) = 2 then decide (((f 12) - (f 12) / (ar 1 4) * (ar 1 4)) = 0) else if (f 10) = 4 then (!decide ((sX7_size ((ar 1 0) - (sX7_placeOf ar (ar 5 (f 11).toNatClampNeg)))) ≤ (2 * (ar 1 4)))) else if (f 10) = 5 then false else (!decide ((sX7_size ((ar 1 0) - (sX7_placeOf ar (ar 5 (f 11).toNatClampNeg)))) ≤ (ar 1 4)))
set_option maxRecDepth 20000 in
theorem eX7_isUp {G : zG} {h1 : List va_E} {f : Nat → Int32} {ar : Nat → Nat → Int32} (ht : vp_in (f 11) 5) (hst : vp_in (1 + ar 5 (f 11).toNatClampNeg) 6) (hl : ¬ ar 1 4 = 0) : EvF G mX7_isUp [.ref 100] (h1, hM G f ar) (some (.int (b2i (sX7_isUp f ar)))) (h1, hM G f ar) := by
  generalize hs : (sX7_isUp f ar) = zz
  refine EvF.of pnX7 rfl ?_
  refine R_aload_n 1 dX7_isUp_0 rfl rfl ?_
  refine R_get 4 dX7_isUp_1 rfl fX7_13 rfl (v := .ref 102) rfl ?_
  refine R_iconst 5 dX7_isUp_4 rfl (v := 0) (by decide) ?_
  refine R_iald 6 dX7_isUp_5 rfl rfl rfl (vin_d (by decide)) ?_
  refine R_top (y := (ar 1 0)) rfl ?_
  refine R_aload_n 7 dX7_isUp_6 rfl rfl ?_
  refine R_aload_n 8 dX7_isUp_7 rfl rfl ?_
  refine R_get 11 dX7_isUp_8 rfl fX7_25 rfl (v := .ref 106) rfl ?_
  refine R_aload_n 12 dX7_isUp_11 rfl rfl ?_
  refine R_get 15 dX7_isUp_12 rfl fX7_170 rfl (v := .int (f 11)) rfl ?_
  refine R_iald 16 dX7_isUp_15 rfl rfl rfl ht ?_
  refine R_callVi 19 (eX7_placeOf hst) dX7_isUp_16 rfl kX7_placeOf lX7_185 rfl rfl rfl rfl rfl rfl rfl ?_
  refine R_isub 20 dX7_isUp_19 rfl ?_
  refine R_callSi 23 eX7_size dX7_isUp_20 rfl kX7_size lX7_176 rfl rfl rfl rfl rfl ?_
  refine R_nm (fun z1_ hz1_ => ?_)
  refine R_istore_n 24 dX7_isUp_23 rfl rfl (by decide) (loc' := [(0, .ref 100), (1, .int z1_)]) rfl ?_
  refine R_aload_n 25 dX7_isUp_24 rfl rfl ?_
  refine R_get 28 dX7_isUp_25 rfl fX7_135 rfl (v := .int (f 10)) rfl ?_
  by_cases c1 : (f 10) = 2
  ·
    refine R_tableAt 60 (off := 32) 2 c1 dX7_isUp_28 (by decide) (by decide) ?_
    refine R_aload_n 61 dX7_isUp_60 rfl rfl ?_
    refine R_get 64 dX7_isUp_61 rfl fX7_138 rfl (v := .int (f 12)) rfl ?_
    refine R_aload_n 65 dX7_isUp_64 rfl rfl ?_
    refine R_get 68 dX7_isUp_65 rfl fX7_13 rfl (v := .ref 102) rfl ?_
    refine R_iconst 69 dX7_isUp_68 rfl (v := 4) (by decide) ?_
    refine R_iald 70 dX7_isUp_69 rfl rfl rfl (vin_d (by decide)) ?_
    refine R_top (y := (ar 1 4)) rfl ?_
    refine R_irem 71 dX7_isUp_70 rfl hl ?_
    refine R_cut 79 [(0, .ref 100), (1, .int z1_)] (.int (b2i (decide (((f 12) - (f 12) / (ar 1 4) * (ar 1 4)) = 0))) :: []) (h1, hM G f ar) ?_ (fun kj => ?_)
    ·
      refine R_ireturn dX7_isUp_79 rfl (nar_b _) ?_
      subst hz1_
      have e : zz = decide (((f 12) - (f 12) / (ar 1 4) * (ar 1 4)) = 0) := by rw [← hs]; unfold sX7_isUp; rw [if_pos c1]
      subst e; exact ⟨rfl, rfl⟩
    refine R_if_ne 74 78 dX7_isUp_71 rfl (by decide) (fun c2 => ?_) (fun c2 => ?_)
    · refine R_iconst 79 dX7_isUp_78 rfl (v := 0) (by decide) ?_
      rw [b2i_n c2] at kj; exact kj
    · refine R_iconst 75 dX7_isUp_74 rfl (v := 1) (by decide) ?_
      refine R_goto 79 dX7_isUp_75 (by decide) ?_
      rw [b2i_p c2] at kj; exact kj
  by_cases c3 : (f 10) = 4
  ·
    refine R_tableAt 80 (off := 52) 4 c3 dX7_isUp_28 (by decide) (by decide) ?_
    refine R_iload_n 81 dX7_isUp_80 rfl rfl ?_
    refine R_iconst 82 dX7_isUp_81 rfl (v := 2) (by decide) ?_
    refine R_aload_n 83 dX7_isUp_82 rfl rfl ?_
    refine R_get 86 dX7_isUp_83 rfl fX7_13 rfl (v := .ref 102) rfl ?_
    refine R_iconst 87 dX7_isUp_86 rfl (v := 4) (by decide) ?_
    refine R_iald 88 dX7_isUp_87 rfl rfl rfl (vin_d (by decide)) ?_
    refine R_top (y := (ar 1 4)) rfl ?_
    refine R_imul 89 dX7_isUp_88 rfl ?_
    refine R_cut 97 [(0, .ref 100), (1, .int z1_)] (.int (b2i (!decide (z1_ ≤ (2 * (ar 1 4))))) :: []) (h1, hM G f ar) ?_ (fun kj => ?_)
    ·
      refine R_ireturn dX7_isUp_97 rfl (nar_b _) ?_
      subst hz1_
      have e : zz = (!decide ((sX7_size ((ar 1 0) - (sX7_placeOf ar (ar 5 (f 11).toNatClampNeg)))) ≤ (2 * (ar 1 4)))) := by rw [← hs]; unfold sX7_isUp; rw [if_neg c1, if_pos c3]
      subst e; exact ⟨rfl, rfl⟩
    refine R_icmp_le 92 96 dX7_isUp_89 rfl (by decide) (fun c4 => ?_) (fun c4 => ?_)
    · refine R_iconst 97 dX7_isUp_96 rfl (v := 0) (by decide) ?_
      rw [b2i_np c4] at kj; exact kj
    · refine R_iconst 93 dX7_isUp_92 rfl (v := 1) (by decide) ?_
      refine R_goto 97 dX7_isUp_93 (by decide) ?_
      rw [b2i_nn c4] at kj; exact kj
  by_cases c5 : (f 10) = 5
  ·
    refine R_tableAt 98 (off := 70) 5 c5 dX7_isUp_28 (by decide) (by decide) ?_
    refine R_iconst 99 dX7_isUp_98 rfl (v := 0) (by decide) ?_
    refine R_ireturn dX7_isUp_99 rfl (by decide) ?_
    subst hz1_
    have e : zz = false := by rw [← hs]; unfold sX7_isUp; rw [if_neg c1, if_neg c3, if_pos c5]
    subst e; exact ⟨rfl, rfl⟩
  refine R_tableD 100 [2, 4, 5] dX7_isUp_28 (List.forall_mem_cons.mpr ⟨lv_neT c1 (show (2 : Int32).toInt = 2 by decide), List.forall_mem_cons.mpr ⟨lv_neT c3 (show (4 : Int32).toInt = 4 by decide), List.forall_mem_cons.mpr ⟨lv_neT c5 (show (5 : Int32).toInt = 5 by decide), fun _ h => absurd h List.not_mem_nil⟩⟩⟩) (by decide) (by decide) ?_
  refine R_iload_n 101 dX7_isUp_100 rfl rfl ?_
  refine R_aload_n 102 dX7_isUp_101 rfl rfl ?_
  refine R_get 105 dX7_isUp_102 rfl fX7_13 rfl (v := .ref 102) rfl ?_
  refine R_iconst 106 dX7_isUp_105 rfl (v := 4) (by decide) ?_
  refine R_iald 107 dX7_isUp_106 rfl rfl rfl (vin_d (by decide)) ?_
  refine R_top (y := (ar 1 4)) rfl ?_
  refine R_cut 115 [(0, .ref 100), (1, .int z1_)] (.int (b2i (!decide (z1_ ≤ (ar 1 4)))) :: []) (h1, hM G f ar) ?_ (fun kj => ?_)
  ·
    refine R_ireturn dX7_isUp_115 rfl (nar_b _) ?_
    subst hz1_
    have e : zz = (!decide ((sX7_size ((ar 1 0) - (sX7_placeOf ar (ar 5 (f 11).toNatClampNeg)))) ≤ (ar 1 4))) := by rw [← hs]; unfold sX7_isUp; rw [if_neg c1, if_neg c3, if_neg c5]
    subst e; exact ⟨rfl, rfl⟩
  refine R_icmp_le 110 114 dX7_isUp_107 rfl (by decide) (fun c6 => ?_) (fun c6 => ?_)
  · refine R_iconst 115 dX7_isUp_114 rfl (v := 0) (by decide) ?_
    rw [b2i_np c6] at kj; exact kj
  · refine R_iconst 111 dX7_isUp_110 rfl (v := 1) (by decide) ?_
    refine R_goto 115 dX7_isUp_111 (by decide) ?_
    rw [b2i_nn c6] at kj; exact kj
def sX7_shouldBe (f : Nat → Int32) (ar : Nat → Nat → Int32) : Int32 := if (f 10) = 3 then ((ar 1 1) + (ar 1 2)) / 2 else if (f 10) = 1 then (if (sX7_driftIn f ar (f 12)) ≤ 0 then (if 0 ≤ (sX7_driftIn f ar (f 12)) then (sX7_placeOf ar (ar 5 (f 11).toNatClampNeg)) else (sX7_placeOf ar (ar 5 (f 11).toNatClampNeg)) + (ar 1 5)) else (sX7_placeOf ar (ar 5 (f 11).toNatClampNeg)) - (ar 1 5)) else if (f 10) = 4 then (if (sX7_driftIn f ar (f 12)) ≤ 0 then (if 0 ≤ (sX7_driftIn f ar (f 12)) then (sX7_placeOf ar (ar 5 (f 11).toNatClampNeg)) else (sX7_placeOf ar (ar 5 (f 11).toNatClampNeg)) + (ar 1 5)) else (sX7_placeOf ar (ar 5 (f 11).toNatClampNeg)) - (ar 1 5)) else (sX7_placeOf ar (ar 5 (f 11).toNatClampNeg))
set_option maxRecDepth 20000 in
theorem eX7_shouldBe {G : zG} {h1 : List va_E} {f : Nat → Int32} {ar : Nat → Nat → Int32} (ht : vp_in (f 11) 5) (hst : vp_in (1 + ar 5 (f 11).toNatClampNeg) 6) : EvF G mX7_shouldBe [.ref 100] (h1, hM G f ar) (some (.int (sX7_shouldBe f ar))) (h1, hM G f ar) := by
  generalize hs : (sX7_shouldBe f ar) = zz
  refine EvF.of pnX7 rfl ?_
  refine R_aload_n 1 dX7_shouldBe_0 rfl rfl ?_
  refine R_aload_n 2 dX7_shouldBe_1 rfl rfl ?_
  refine R_get 5 dX7_shouldBe_2 rfl fX7_25 rfl (v := .ref 106) rfl ?_
  refine R_aload_n 6 dX7_shouldBe_5 rfl rfl ?_
  refine R_get 9 dX7_shouldBe_6 rfl fX7_170 rfl (v := .int (f 11)) rfl ?_
  refine R_iald 10 dX7_shouldBe_9 rfl rfl rfl ht ?_
  refine R_callVi 13 (eX7_placeOf hst) dX7_shouldBe_10 rfl kX7_placeOf lX7_185 rfl rfl rfl rfl rfl rfl rfl ?_
  refine R_nm (fun z1_ hz1_ => ?_)
  refine R_istore_n 14 dX7_shouldBe_13 rfl rfl (by decide) (loc' := [(0, .ref 100), (1, .int z1_)]) rfl ?_
  refine R_aload_n 15 dX7_shouldBe_14 rfl rfl ?_
  refine R_aload_n 16 dX7_shouldBe_15 rfl rfl ?_
  refine R_get 19 dX7_shouldBe_16 rfl fX7_138 rfl (v := .int (f 12)) rfl ?_
  refine R_callVi 22 eX7_driftIn dX7_shouldBe_19 rfl kX7_driftIn lX7_188 rfl rfl rfl rfl rfl rfl rfl ?_
  refine R_istore_n 23 dX7_shouldBe_22 rfl rfl (by decide) (loc' := [(0, .ref 100), (1, .int z1_), (2, .int (sX7_driftIn f ar (f 12)))]) rfl ?_
  refine R_aload_n 24 dX7_shouldBe_23 rfl rfl ?_
  refine R_get 27 dX7_shouldBe_24 rfl fX7_135 rfl (v := .int (f 10)) rfl ?_
  refine R_iconst 28 dX7_shouldBe_27 rfl (v := 3) (by decide) ?_
  refine R_icmp_ne 31 47 dX7_shouldBe_28 rfl (by decide) (fun c1 => ?_) (fun c1 => ?_)
  ·
    refine R_aload_n 48 dX7_shouldBe_47 rfl rfl ?_
    refine R_get 51 dX7_shouldBe_48 rfl fX7_135 rfl (v := .int (f 10)) rfl ?_
    refine R_iconst 52 dX7_shouldBe_51 rfl (v := 1) (by decide) ?_
    refine R_icmp_eq 55 65 dX7_shouldBe_52 rfl (by decide) (fun c2 => ?_) (fun c2 => ?_)
    ·
      refine R_iload_n 66 dX7_shouldBe_65 rfl rfl ?_
      refine R_if_le 69 80 dX7_shouldBe_66 rfl (by decide) (fun c3 => ?_) (fun c3 => ?_)
      ·
        refine R_iload_n 81 dX7_shouldBe_80 rfl rfl ?_
        refine R_cut 96 [(0, .ref 100), (1, .int z1_), (2, .int (sX7_driftIn f ar (f 12)))] (.int (if 0 ≤ (sX7_driftIn f ar (f 12)) then z1_ else z1_ + (ar 1 5)) :: []) (h1, hM G f ar) ?_ (fun kj => ?_)
        ·
          refine R_ireturn dX7_shouldBe_96 rfl rfl ?_
          subst hz1_
          have e : zz = if 0 ≤ (sX7_driftIn f ar (f 12)) then (sX7_placeOf ar (ar 5 (f 11).toNatClampNeg)) else (sX7_placeOf ar (ar 5 (f 11).toNatClampNeg)) + (ar 1 5) := by rw [← hs]; unfold sX7_shouldBe; rw [if_neg c1, if_pos c2, if_pos c3]
          subst e; exact ⟨rfl, rfl⟩
        refine R_if_ge 84 95 dX7_shouldBe_81 rfl (by decide) (fun c4 => ?_) (fun c4 => ?_)
        · refine R_iload_n 96 dX7_shouldBe_95 rfl rfl ?_
          rw [if_pos c4] at kj; exact kj
        · refine R_iload_n 85 dX7_shouldBe_84 rfl rfl ?_
          refine R_aload_n 86 dX7_shouldBe_85 rfl rfl ?_
          refine R_get 89 dX7_shouldBe_86 rfl fX7_13 rfl (v := .ref 102) rfl ?_
          refine R_iconst 90 dX7_shouldBe_89 rfl (v := 5) (by decide) ?_
          refine R_iald 91 dX7_shouldBe_90 rfl rfl rfl (vin_d (by decide)) ?_
          refine R_top (y := (ar 1 5)) rfl ?_
          refine R_iadd 92 dX7_shouldBe_91 rfl ?_
          refine R_goto 96 dX7_shouldBe_92 (by decide) ?_
          rw [if_neg c4] at kj; exact kj
      ·
        refine R_iload_n 70 dX7_shouldBe_69 rfl rfl ?_
        refine R_aload_n 71 dX7_shouldBe_70 rfl rfl ?_
        refine R_get 74 dX7_shouldBe_71 rfl fX7_13 rfl (v := .ref 102) rfl ?_
        refine R_iconst 75 dX7_shouldBe_74 rfl (v := 5) (by decide) ?_
        refine R_iald 76 dX7_shouldBe_75 rfl rfl rfl (vin_d (by decide)) ?_
        refine R_top (y := (ar 1 5)) rfl ?_
        refine R_isub 77 dX7_shouldBe_76 rfl ?_
        refine R_goto 96 dX7_shouldBe_77 (by decide) ?_
        refine R_ireturn dX7_shouldBe_96 rfl rfl ?_
        subst hz1_
        have e : zz = (sX7_placeOf ar (ar 5 (f 11).toNatClampNeg)) - (ar 1 5) := by rw [← hs]; unfold sX7_shouldBe; rw [if_neg c1, if_pos c2, if_neg c3]
        subst e; exact ⟨rfl, rfl⟩
    ·
      refine R_aload_n 56 dX7_shouldBe_55 rfl rfl ?_
      refine R_get 59 dX7_shouldBe_56 rfl fX7_135 rfl (v := .int (f 10)) rfl ?_
      refine R_iconst 60 dX7_shouldBe_59 rfl (v := 4) (by decide) ?_
      refine R_icmp_eq 63 65 dX7_shouldBe_60 rfl (by decide) (fun c5 => ?_) (fun c5 => ?_)
      ·
        refine R_iload_n 66 dX7_shouldBe_65 rfl rfl ?_
        refine R_if_le 69 80 dX7_shouldBe_66 rfl (by decide) (fun c6 => ?_) (fun c6 => ?_)
        ·
          refine R_iload_n 81 dX7_shouldBe_80 rfl rfl ?_
          refine R_cut 96 [(0, .ref 100), (1, .int z1_), (2, .int (sX7_driftIn f ar (f 12)))] (.int (if 0 ≤ (sX7_driftIn f ar (f 12)) then z1_ else z1_ + (ar 1 5)) :: []) (h1, hM G f ar) ?_ (fun kj => ?_)
          ·
            refine R_ireturn dX7_shouldBe_96 rfl rfl ?_
            subst hz1_
            have e : zz = if 0 ≤ (sX7_driftIn f ar (f 12)) then (sX7_placeOf ar (ar 5 (f 11).toNatClampNeg)) else (sX7_placeOf ar (ar 5 (f 11).toNatClampNeg)) + (ar 1 5) := by rw [← hs]; unfold sX7_shouldBe; rw [if_neg c1, if_neg c2, if_pos c5, if_pos c6]
            subst e; exact ⟨rfl, rfl⟩
          refine R_if_ge 84 95 dX7_shouldBe_81 rfl (by decide) (fun c7 => ?_) (fun c7 => ?_)
          · refine R_iload_n 96 dX7_shouldBe_95 rfl rfl ?_
            rw [if_pos c7] at kj; exact kj
          · refine R_iload_n 85 dX7_shouldBe_84 rfl rfl ?_
            refine R_aload_n 86 dX7_shouldBe_85 rfl rfl ?_
            refine R_get 89 dX7_shouldBe_86 rfl fX7_13 rfl (v := .ref 102) rfl ?_
            refine R_iconst 90 dX7_shouldBe_89 rfl (v := 5) (by decide) ?_
            refine R_iald 91 dX7_shouldBe_90 rfl rfl rfl (vin_d (by decide)) ?_
            refine R_top (y := (ar 1 5)) rfl ?_
            refine R_iadd 92 dX7_shouldBe_91 rfl ?_
            refine R_goto 96 dX7_shouldBe_92 (by decide) ?_
            rw [if_neg c7] at kj; exact kj
        ·
          refine R_iload_n 70 dX7_shouldBe_69 rfl rfl ?_
          refine R_aload_n 71 dX7_shouldBe_70 rfl rfl ?_
          refine R_get 74 dX7_shouldBe_71 rfl fX7_13 rfl (v := .ref 102) rfl ?_
          refine R_iconst 75 dX7_shouldBe_74 rfl (v := 5) (by decide) ?_
          refine R_iald 76 dX7_shouldBe_75 rfl rfl rfl (vin_d (by decide)) ?_
          refine R_top (y := (ar 1 5)) rfl ?_
          refine R_isub 77 dX7_shouldBe_76 rfl ?_
          refine R_goto 96 dX7_shouldBe_77 (by decide) ?_
          refine R_ireturn dX7_shouldBe_96 rfl rfl ?_
          subst hz1_
          have e : zz = (sX7_placeOf ar (ar 5 (f 11).toNatClampNeg)) - (ar 1 5) := by rw [← hs]; unfold sX7_shouldBe; rw [if_neg c1, if_neg c2, if_pos c5, if_neg c6]
          subst e; exact ⟨rfl, rfl⟩
      ·
        refine R_iload_n 64 dX7_shouldBe_63 rfl rfl ?_
        refine R_ireturn dX7_shouldBe_64 rfl rfl ?_
        subst hz1_
        have e : zz = (sX7_placeOf ar (ar 5 (f 11).toNatClampNeg)) := by rw [← hs]; unfold sX7_shouldBe; rw [if_neg c1, if_neg c2, if_neg c5]
        subst e; exact ⟨rfl, rfl⟩
  ·
    refine R_aload_n 32 dX7_shouldBe_31 rfl rfl ?_
    refine R_get 35 dX7_shouldBe_32 rfl fX7_13 rfl (v := .ref 102) rfl ?_
    refine R_iconst 36 dX7_shouldBe_35 rfl (v := 1) (by decide) ?_
    refine R_iald 37 dX7_shouldBe_36 rfl rfl rfl (vin_d (by decide)) ?_
    refine R_top (y := (ar 1 1)) rfl ?_
    refine R_aload_n 38 dX7_shouldBe_37 rfl rfl ?_
    refine R_get 41 dX7_shouldBe_38 rfl fX7_13 rfl (v := .ref 102) rfl ?_
    refine R_iconst 42 dX7_shouldBe_41 rfl (v := 2) (by decide) ?_
    refine R_iald 43 dX7_shouldBe_42 rfl rfl rfl (vin_d (by decide)) ?_
    refine R_top (y := (ar 1 2)) rfl ?_
    refine R_iadd 44 dX7_shouldBe_43 rfl ?_
    refine R_iconst 45 dX7_shouldBe_44 rfl (v := 2) (by decide) ?_
    refine R_idiv 46 dX7_shouldBe_45 rfl (by decide) ?_
    refine R_ireturn dX7_shouldBe_46 rfl rfl ?_
    subst hz1_
    have e : zz = ((ar 1 1) + (ar 1 2)) / 2 := by rw [← hs]; unfold sX7_shouldBe; rw [if_pos c1]
    subst e; exact ⟨rfl, rfl⟩
def sX7_turnsTo (ar : Nat → Nat → Int32) (to : Int32) (st : Int32) : (Nat → Nat → Int32) := (up2 ar 1 (upd (ar 1) 0 ((ar 1 0) + (if (ar 1 0) ≤ to then (((sX7_size (to - (ar 1 0))) / st) + (b2i (!decide ((2 * ((sX7_size (to - (ar 1 0))) - (sX7_size (to - (ar 1 0))) / st * st)) ≤ st)))) * st else (-(((sX7_size (to - (ar 1 0))) / st) + (b2i (!decide ((2 * ((sX7_size (to - (ar 1 0))) - (sX7_size (to - (ar 1 0))) / st * st)) ≤ st))))) * st))))
set_option maxRecDepth 20000 in
theorem eX7_turnsTo {G : zG} {h1 : List va_E} {f : Nat → Int32} {ar : Nat → Nat → Int32} {to st : Int32} (hb : ¬ st = 0) : EvF G mX7_turnsTo [.ref 100, .int to, .int st] (h1, hM G f ar) (none) (h1, hM G f (sX7_turnsTo ar to st)) := by
  generalize hs : (sX7_turnsTo ar to st) = zz
  refine EvF.of pnX7 rfl ?_
  refine R_iload_n 1 dX7_turnsTo_0 rfl rfl ?_
  refine R_aload_n 2 dX7_turnsTo_1 rfl rfl ?_
  refine R_get 5 dX7_turnsTo_2 rfl fX7_13 rfl (v := .ref 102) rfl ?_
  refine R_iconst 6 dX7_turnsTo_5 rfl (v := 0) (by decide) ?_
  refine R_iald 7 dX7_turnsTo_6 rfl rfl rfl (vin_d (by decide)) ?_
  refine R_top (y := (ar 1 0)) rfl ?_
  refine R_isub 8 dX7_turnsTo_7 rfl ?_
  refine R_callSi 11 eX7_size dX7_turnsTo_8 rfl kX7_size lX7_176 rfl rfl rfl rfl rfl ?_
  refine R_istore_n 12 dX7_turnsTo_11 rfl rfl (by decide) (loc' := [(0, .ref 100), (1, .int to), (2, .int st), (3, .int (sX7_size (to - (ar 1 0))))]) rfl ?_
  refine R_iload_n 13 dX7_turnsTo_12 rfl rfl ?_
  refine R_iload_n 14 dX7_turnsTo_13 rfl rfl ?_
  refine R_idiv 15 dX7_turnsTo_14 rfl hb ?_
  refine R_iconst 16 dX7_turnsTo_15 rfl (v := 2) (by decide) ?_
  refine R_iload_n 17 dX7_turnsTo_16 rfl rfl ?_
  refine R_iload_n 18 dX7_turnsTo_17 rfl rfl ?_
  refine R_irem 19 dX7_turnsTo_18 rfl hb ?_
  refine R_imul 20 dX7_turnsTo_19 rfl ?_
  refine R_iload_n 21 dX7_turnsTo_20 rfl rfl ?_
  refine R_cut 29 [(0, .ref 100), (1, .int to), (2, .int st), (3, .int (sX7_size (to - (ar 1 0))))] (.int (b2i (!decide ((2 * ((sX7_size (to - (ar 1 0))) - (sX7_size (to - (ar 1 0))) / st * st)) ≤ st))) :: [.int ((sX7_size (to - (ar 1 0))) / st)]) (h1, hM G f ar) ?_ (fun kj => ?_)
  ·
    refine R_iadd 30 dX7_turnsTo_29 rfl ?_
    refine R_nm (fun z1_ hz1_ => ?_)
    refine R_istore 32 dX7_turnsTo_30 rfl rfl (by decide) (loc' := [(0, .ref 100), (1, .int to), (2, .int st), (3, .int (sX7_size (to - (ar 1 0)))), (4, .int z1_)]) rfl ?_
    refine R_aload_n 33 dX7_turnsTo_32 rfl rfl ?_
    refine R_get 36 dX7_turnsTo_33 rfl fX7_13 rfl (v := .ref 102) rfl ?_
    refine R_iconst 37 dX7_turnsTo_36 rfl (v := 0) (by decide) ?_
    refine R_dup2 38 dX7_turnsTo_37 rfl rfl rfl ?_
    refine R_iald 39 dX7_turnsTo_38 rfl rfl rfl (vin_d (by decide)) ?_
    refine R_top (y := (ar 1 0)) rfl ?_
    refine R_iload_n 40 dX7_turnsTo_39 rfl rfl ?_
    refine R_aload_n 41 dX7_turnsTo_40 rfl rfl ?_
    refine R_get 44 dX7_turnsTo_41 rfl fX7_13 rfl (v := .ref 102) rfl ?_
    refine R_iconst 45 dX7_turnsTo_44 rfl (v := 0) (by decide) ?_
    refine R_iald 46 dX7_turnsTo_45 rfl rfl rfl (vin_d (by decide)) ?_
    refine R_top (y := (ar 1 0)) rfl ?_
    refine R_cut 61 [(0, .ref 100), (1, .int to), (2, .int st), (3, .int (sX7_size (to - (ar 1 0)))), (4, .int z1_)] (.int (if (ar 1 0) ≤ to then z1_ * st else (-z1_) * st) :: [.int (ar 1 0), .int 0, .ref 102]) (h1, hM G f ar) ?_ (fun kj => ?_)
    ·
      refine R_iadd 62 dX7_turnsTo_61 rfl ?_
      refine R_nm (fun z2_ hz2_ => ?_)
      refine R_iast 63 dX7_turnsTo_62 rfl rfl rfl (vin_d (by decide)) (h2 := (h1, hM G f (up2 ar 1 (upd (ar 1) 0 z2_)))) ms_1 ?_
      refine R_return dX7_turnsTo_63 rfl ?_
      subst hz1_ hz2_
      have e : zz = (up2 ar 1 (upd (ar 1) 0 ((ar 1 0) + (if (ar 1 0) ≤ to then (((sX7_size (to - (ar 1 0))) / st) + (b2i (!decide ((2 * ((sX7_size (to - (ar 1 0))) - (sX7_size (to - (ar 1 0))) / st * st)) ≤ st)))) * st else (-(((sX7_size (to - (ar 1 0))) / st) + (b2i (!decide ((2 * ((sX7_size (to - (ar 1 0))) - (sX7_size (to - (ar 1 0))) / st * st)) ≤ st))))) * st)))) := by rw [← hs]; unfold sX7_turnsTo; rfl
      subst e; exact ⟨rfl, rfl⟩
    refine R_icmp_ge 49 57 dX7_turnsTo_46 rfl (by decide) (fun c2 => ?_) (fun c2 => ?_)
    · refine R_iload 59 dX7_turnsTo_57 rfl rfl ?_
      refine R_iload_n 60 dX7_turnsTo_59 rfl rfl ?_
      refine R_imul 61 dX7_turnsTo_60 rfl ?_
      rw [if_pos c2] at kj; exact kj
    · refine R_iload 51 dX7_turnsTo_49 rfl rfl ?_
      refine R_ineg 52 dX7_turnsTo_51 rfl ?_
      refine R_iload_n 53 dX7_turnsTo_52 rfl rfl ?_
      refine R_imul 54 dX7_turnsTo_53 rfl ?_
      refine R_goto 61 dX7_turnsTo_54 (by decide) ?_
      rw [if_neg c2] at kj; exact kj
  refine R_icmp_le 24 28 dX7_turnsTo_21 rfl (by decide) (fun c1 => ?_) (fun c1 => ?_)
  · refine R_iconst 29 dX7_turnsTo_28 rfl (v := 0) (by decide) ?_
    rw [b2i_np c1] at kj; exact kj
  · refine R_iconst 25 dX7_turnsTo_24 rfl (v := 1) (by decide) ?_
    refine R_goto 29 dX7_turnsTo_25 (by decide) ?_
    rw [b2i_nn c1] at kj; exact kj
def sX7_begins (f : Nat → Int32) (ar : Nat → Nat → Int32) : (Nat → Int32) × (Nat → Nat → Int32) := ((upd (upd (upd (upd (upd (upd f 28 0) 29 0) 30 0) 31 0) 32 (-9)) 33 0), (up2 (up2 ar 24 (upd (upd (upd (upd (upd (ar 24) 0 0) 1 0) 2 0) 3 0) 4 0)) 25 (upd (upd (upd (upd (upd (ar 25) 0 0) 1 0) 2 0) 3 0) 4 0)))
set_option maxRecDepth 20000 in
theorem eX7_begins {G : zG} {h1 : List va_E} {f : Nat → Int32} {ar : Nat → Nat → Int32} : EvF G mX7_begins [.ref 100] (h1, hM G f ar) (none) (h1, hM G ((sX7_begins f ar).1) ((sX7_begins f ar).2)) := by
  generalize hs : (sX7_begins f ar) = zz
  refine EvF.of pnX7 rfl ?_
  refine R_iconst 1 dX7_begins_0 rfl (v := 0) (by decide) ?_
  refine R_istore_n 2 dX7_begins_1 rfl rfl (by decide) (loc' := [(0, .ref 100), (1, .int 0)]) rfl ?_
  refine R_iload_n 3 dX7_begins_2 rfl rfl ?_
  refine R_iconst 4 dX7_begins_3 rfl (v := 5) (by decide) ?_
  refine R_icmp_ge 7 27 dX7_begins_4 rfl (by decide) (fun c => absurd c (by decide)) (fun _ => ?_)
  refine R_aload_n 8 dX7_begins_7 rfl rfl ?_
  refine R_get 11 dX7_begins_8 rfl fX7_49 rfl (v := .ref 114) rfl ?_
  refine R_iload_n 12 dX7_begins_11 rfl rfl ?_
  refine R_iconst 13 dX7_begins_12 rfl (v := 0) (by decide) ?_
  refine R_iast 14 dX7_begins_13 rfl rfl rfl (vin_d (by decide)) (h2 := (h1, hM G f (up2 ar 24 (upd (ar 24) 0 0)))) ms_24 ?_
  refine R_aload_n 15 dX7_begins_14 rfl rfl ?_
  refine R_get 18 dX7_begins_15 rfl fX7_52 rfl (v := .ref 115) rfl ?_
  refine R_iload_n 19 dX7_begins_18 rfl rfl ?_
  refine R_iconst 20 dX7_begins_19 rfl (v := 0) (by decide) ?_
  refine R_iast 21 dX7_begins_20 rfl rfl rfl (vin_d (by decide)) (h2 := (h1, hM G f (up2 (up2 ar 24 (upd (ar 24) 0 0)) 25 (upd (ar 25) 0 0)))) ms_25 ?_
  refine R_iinc 24 dX7_begins_21 rfl rfl (v := 1) (by decide) rfl (by decide) (loc' := [(0, .ref 100), (1, .int 1)]) rfl ?_
  refine R_goto 2 dX7_begins_24 (by decide) ?_
  refine R_iload_n 3 dX7_begins_2 rfl rfl ?_
  refine R_iconst 4 dX7_begins_3 rfl (v := 5) (by decide) ?_
  refine R_icmp_ge 7 27 dX7_begins_4 rfl (by decide) (fun c => absurd c (by decide)) (fun _ => ?_)
  refine R_aload_n 8 dX7_begins_7 rfl rfl ?_
  refine R_get 11 dX7_begins_8 rfl fX7_49 rfl (v := .ref 114) rfl ?_
  refine R_iload_n 12 dX7_begins_11 rfl rfl ?_
  refine R_iconst 13 dX7_begins_12 rfl (v := 0) (by decide) ?_
  refine R_iast 14 dX7_begins_13 rfl rfl rfl (vin_d (by decide)) (h2 := (h1, hM G f (up2 (up2 ar 25 (upd (ar 25) 0 0)) 24 (upd (upd (ar 24) 0 0) 1 0)))) rfl ?_
  refine R_aload_n 15 dX7_begins_14 rfl rfl ?_
  refine R_get 18 dX7_begins_15 rfl fX7_52 rfl (v := .ref 115) rfl ?_
  refine R_iload_n 19 dX7_begins_18 rfl rfl ?_
  refine R_iconst 20 dX7_begins_19 rfl (v := 0) (by decide) ?_
  refine R_iast 21 dX7_begins_20 rfl rfl rfl (vin_d (by decide)) (h2 := (h1, hM G f (up2 (up2 ar 24 (upd (upd (ar 24) 0 0) 1 0)) 25 (upd (upd (ar 25) 0 0) 1 0)))) rfl ?_
  refine R_iinc 24 dX7_begins_21 rfl rfl (v := 2) (by decide) rfl (by decide) (loc' := [(0, .ref 100), (1, .int 2)]) rfl ?_
  refine R_goto 2 dX7_begins_24 (by decide) ?_
  refine R_iload_n 3 dX7_begins_2 rfl rfl ?_
  refine R_iconst 4 dX7_begins_3 rfl (v := 5) (by decide) ?_
  refine R_icmp_ge 7 27 dX7_begins_4 rfl (by decide) (fun c => absurd c (by decide)) (fun _ => ?_)
  refine R_aload_n 8 dX7_begins_7 rfl rfl ?_
  refine R_get 11 dX7_begins_8 rfl fX7_49 rfl (v := .ref 114) rfl ?_
  refine R_iload_n 12 dX7_begins_11 rfl rfl ?_
  refine R_iconst 13 dX7_begins_12 rfl (v := 0) (by decide) ?_
  refine R_iast 14 dX7_begins_13 rfl rfl rfl (vin_d (by decide)) (h2 := (h1, hM G f (up2 (up2 ar 25 (upd (upd (ar 25) 0 0) 1 0)) 24 (upd (upd (upd (ar 24) 0 0) 1 0) 2 0)))) rfl ?_
  refine R_aload_n 15 dX7_begins_14 rfl rfl ?_
  refine R_get 18 dX7_begins_15 rfl fX7_52 rfl (v := .ref 115) rfl ?_
  refine R_iload_n 19 dX7_begins_18 rfl rfl ?_
  refine R_iconst 20 dX7_begins_19 rfl (v := 0) (by decide) ?_
  refine R_iast 21 dX7_begins_20 rfl rfl rfl (vin_d (by decide)) (h2 := (h1, hM G f (up2 (up2 ar 24 (upd (upd (upd (ar 24) 0 0) 1 0) 2 0)) 25 (upd (upd (upd (ar 25) 0 0) 1 0) 2 0)))) rfl ?_
  refine R_iinc 24 dX7_begins_21 rfl rfl (v := 3) (by decide) rfl (by decide) (loc' := [(0, .ref 100), (1, .int 3)]) rfl ?_
  refine R_goto 2 dX7_begins_24 (by decide) ?_
  refine R_iload_n 3 dX7_begins_2 rfl rfl ?_
  refine R_iconst 4 dX7_begins_3 rfl (v := 5) (by decide) ?_
  refine R_icmp_ge 7 27 dX7_begins_4 rfl (by decide) (fun c => absurd c (by decide)) (fun _ => ?_)
  refine R_aload_n 8 dX7_begins_7 rfl rfl ?_
  refine R_get 11 dX7_begins_8 rfl fX7_49 rfl (v := .ref 114) rfl ?_
  refine R_iload_n 12 dX7_begins_11 rfl rfl ?_
  refine R_iconst 13 dX7_begins_12 rfl (v := 0) (by decide) ?_
  refine R_iast 14 dX7_begins_13 rfl rfl rfl (vin_d (by decide)) (h2 := (h1, hM G f (up2 (up2 ar 25 (upd (upd (upd (ar 25) 0 0) 1 0) 2 0)) 24 (upd (upd (upd (upd (ar 24) 0 0) 1 0) 2 0) 3 0)))) rfl ?_
  refine R_aload_n 15 dX7_begins_14 rfl rfl ?_
  refine R_get 18 dX7_begins_15 rfl fX7_52 rfl (v := .ref 115) rfl ?_
  refine R_iload_n 19 dX7_begins_18 rfl rfl ?_
  refine R_iconst 20 dX7_begins_19 rfl (v := 0) (by decide) ?_
  refine R_iast 21 dX7_begins_20 rfl rfl rfl (vin_d (by decide)) (h2 := (h1, hM G f (up2 (up2 ar 24 (upd (upd (upd (upd (ar 24) 0 0) 1 0) 2 0) 3 0)) 25 (upd (upd (upd (upd (ar 25) 0 0) 1 0) 2 0) 3 0)))) rfl ?_
  refine R_iinc 24 dX7_begins_21 rfl rfl (v := 4) (by decide) rfl (by decide) (loc' := [(0, .ref 100), (1, .int 4)]) rfl ?_
  refine R_goto 2 dX7_begins_24 (by decide) ?_
  refine R_iload_n 3 dX7_begins_2 rfl rfl ?_
  refine R_iconst 4 dX7_begins_3 rfl (v := 5) (by decide) ?_
  refine R_icmp_ge 7 27 dX7_begins_4 rfl (by decide) (fun c => absurd c (by decide)) (fun _ => ?_)
  refine R_aload_n 8 dX7_begins_7 rfl rfl ?_
  refine R_get 11 dX7_begins_8 rfl fX7_49 rfl (v := .ref 114) rfl ?_
  refine R_iload_n 12 dX7_begins_11 rfl rfl ?_
  refine R_iconst 13 dX7_begins_12 rfl (v := 0) (by decide) ?_
  refine R_iast 14 dX7_begins_13 rfl rfl rfl (vin_d (by decide)) (h2 := (h1, hM G f (up2 (up2 ar 25 (upd (upd (upd (upd (ar 25) 0 0) 1 0) 2 0) 3 0)) 24 (upd (upd (upd (upd (upd (ar 24) 0 0) 1 0) 2 0) 3 0) 4 0)))) rfl ?_
  refine R_aload_n 15 dX7_begins_14 rfl rfl ?_
  refine R_get 18 dX7_begins_15 rfl fX7_52 rfl (v := .ref 115) rfl ?_
  refine R_iload_n 19 dX7_begins_18 rfl rfl ?_
  refine R_iconst 20 dX7_begins_19 rfl (v := 0) (by decide) ?_
  refine R_iast 21 dX7_begins_20 rfl rfl rfl (vin_d (by decide)) (h2 := (h1, hM G f (up2 (up2 ar 24 (upd (upd (upd (upd (upd (ar 24) 0 0) 1 0) 2 0) 3 0) 4 0)) 25 (upd (upd (upd (upd (upd (ar 25) 0 0) 1 0) 2 0) 3 0) 4 0)))) rfl ?_
  refine R_iinc 24 dX7_begins_21 rfl rfl (v := 5) (by decide) rfl (by decide) (loc' := [(0, .ref 100), (1, .int 5)]) rfl ?_
  refine R_goto 2 dX7_begins_24 (by decide) ?_
  refine R_iload_n 3 dX7_begins_2 rfl rfl ?_
  refine R_iconst 4 dX7_begins_3 rfl (v := 5) (by decide) ?_
  refine R_icmp_ge 7 27 dX7_begins_4 rfl (by decide) (fun _ => ?_) (fun c => absurd c (by decide))
  refine R_aload_n 28 dX7_begins_27 rfl rfl ?_
  refine R_iconst 29 dX7_begins_28 rfl (v := 0) (by decide) ?_
  refine R_put 32 dX7_begins_29 rfl wX7_191 rfl rfl rfl rfl (h2 := (h1, hM G (upd f 28 0) (up2 (up2 ar 24 (upd (upd (upd (upd (upd (ar 24) 0 0) 1 0) 2 0) 3 0) 4 0)) 25 (upd (upd (upd (upd (upd (ar 25) 0 0) 1 0) 2 0) 3 0) 4 0)))) mp_28 ?_
  refine R_aload_n 33 dX7_begins_32 rfl rfl ?_
  refine R_iconst 34 dX7_begins_33 rfl (v := 0) (by decide) ?_
  refine R_put 37 dX7_begins_34 rfl wX7_194 rfl rfl rfl rfl (h2 := (h1, hM G (upd (upd f 28 0) 29 0) (up2 (up2 ar 24 (upd (upd (upd (upd (upd (ar 24) 0 0) 1 0) 2 0) 3 0) 4 0)) 25 (upd (upd (upd (upd (upd (ar 25) 0 0) 1 0) 2 0) 3 0) 4 0)))) mp_29 ?_
  refine R_aload_n 38 dX7_begins_37 rfl rfl ?_
  refine R_iconst 39 dX7_begins_38 rfl (v := 0) (by decide) ?_
  refine R_put 42 dX7_begins_39 rfl wX7_197 rfl rfl rfl rfl (h2 := (h1, hM G (upd (upd (upd f 28 0) 29 0) 30 0) (up2 (up2 ar 24 (upd (upd (upd (upd (upd (ar 24) 0 0) 1 0) 2 0) 3 0) 4 0)) 25 (upd (upd (upd (upd (upd (ar 25) 0 0) 1 0) 2 0) 3 0) 4 0)))) mp_30 ?_
  refine R_aload_n 43 dX7_begins_42 rfl rfl ?_
  refine R_iconst 44 dX7_begins_43 rfl (v := 0) (by decide) ?_
  refine R_put 47 dX7_begins_44 rfl wX7_200 rfl rfl rfl rfl (h2 := (h1, hM G (upd (upd (upd (upd f 28 0) 29 0) 30 0) 31 0) (up2 (up2 ar 24 (upd (upd (upd (upd (upd (ar 24) 0 0) 1 0) 2 0) 3 0) 4 0)) 25 (upd (upd (upd (upd (upd (ar 25) 0 0) 1 0) 2 0) 3 0) 4 0)))) mp_31 ?_
  refine R_aload_n 48 dX7_begins_47 rfl rfl ?_
  refine R_bipush 50 dX7_begins_48 rfl (v := (-9)) (by decide) ?_
  refine R_put 53 dX7_begins_50 rfl wX7_203 rfl rfl rfl rfl (h2 := (h1, hM G (upd (upd (upd (upd (upd f 28 0) 29 0) 30 0) 31 0) 32 (-9)) (up2 (up2 ar 24 (upd (upd (upd (upd (upd (ar 24) 0 0) 1 0) 2 0) 3 0) 4 0)) 25 (upd (upd (upd (upd (upd (ar 25) 0 0) 1 0) 2 0) 3 0) 4 0)))) mp_32 ?_
  refine R_aload_n 54 dX7_begins_53 rfl rfl ?_
  refine R_iconst 55 dX7_begins_54 rfl (v := 0) (by decide) ?_
  refine R_put 58 dX7_begins_55 rfl wX7_206 rfl rfl rfl rfl (h2 := (h1, hM G (upd (upd (upd (upd (upd (upd f 28 0) 29 0) 30 0) 31 0) 32 (-9)) 33 0) (up2 (up2 ar 24 (upd (upd (upd (upd (upd (ar 24) 0 0) 1 0) 2 0) 3 0) 4 0)) 25 (upd (upd (upd (upd (upd (ar 25) 0 0) 1 0) 2 0) 3 0) 4 0)))) mp_33 ?_
  refine R_return dX7_begins_58 rfl ?_
  have e : zz = ((upd (upd (upd (upd (upd (upd f 28 0) 29 0) 30 0) 31 0) 32 (-9)) 33 0), (up2 (up2 ar 24 (upd (upd (upd (upd (upd (ar 24) 0 0) 1 0) 2 0) 3 0) 4 0)) 25 (upd (upd (upd (upd (upd (ar 25) 0 0) 1 0) 2 0) 3 0) 4 0))) := by rw [← hs]; unfold sX7_begins; rfl
  rw [pr1 e, pr2 e]; exact ⟨rfl, rfl⟩
def sX7_getsUp (f : Nat → Int32) (ar : Nat → Nat → Int32) : (Nat → Int32) × (Nat → Nat → Int32) := ((upd (upd (upd (upd f 29 ((f 29) + ((sX7_turnsTo ar (sX7_shouldBe f ar) (ar 6 (f 11).toNatClampNeg)) 7 (f 11).toNatClampNeg))) 28 ((f 28) + 1)) 32 (f 11)) 11 (((f 11) + 1) - ((f 11) + 1) / (f 8) * (f 8))), (up2 (up2 (sX7_turnsTo ar (sX7_shouldBe f ar) (ar 6 (f 11).toNatClampNeg)) 25 (upd ((sX7_turnsTo ar (sX7_shouldBe f ar) (ar 6 (f 11).toNatClampNeg)) 25) (f 11).toNatClampNeg (((sX7_turnsTo ar (sX7_shouldBe f ar) (ar 6 (f 11).toNatClampNeg)) 25 (f 11).toNatClampNeg) + 1))) 27 (upd ((sX7_turnsTo ar (sX7_shouldBe f ar) (ar 6 (f 11).toNatClampNeg)) 27) (f 28).toNatClampNeg (f 33))))
set_option maxRecDepth 20000 in
theorem eX7_getsUp {G : zG} {h1 : List va_E} {f : Nat → Int32} {ar : Nat → Nat → Int32} (ht : vp_in (f 11) 5) (hst : vp_in (1 + ar 5 (f 11).toNatClampNeg) 6) (hh : ¬ ar 6 (f 11).toNatClampNeg = 0) (hu : vp_in (f 28) 240) (h8 : ¬ f 8 = 0) : EvF G mX7_getsUp [.ref 100] (h1, hM G f ar) (none) (h1, hM G ((sX7_getsUp f ar).1) ((sX7_getsUp f ar).2)) := by
  generalize hs : (sX7_getsUp f ar) = zz
  refine EvF.of pnX7 rfl ?_
  refine R_aload_n 1 dX7_getsUp_0 rfl rfl ?_
  refine R_aload_n 2 dX7_getsUp_1 rfl rfl ?_
  refine R_callVi 5 (eX7_shouldBe ht hst) dX7_getsUp_2 rfl kX7_shouldBe lX7_209 rfl rfl rfl rfl rfl rfl rfl ?_
  refine R_aload_n 6 dX7_getsUp_5 rfl rfl ?_
  refine R_get 9 dX7_getsUp_6 rfl fX7_28 rfl (v := .ref 107) rfl ?_
  refine R_aload_n 10 dX7_getsUp_9 rfl rfl ?_
  refine R_get 13 dX7_getsUp_10 rfl fX7_170 rfl (v := .int (f 11)) rfl ?_
  refine R_iald 14 dX7_getsUp_13 rfl rfl rfl ht ?_
  refine R_callVv 17 (eX7_turnsTo hh) dX7_getsUp_14 rfl kX7_turnsTo lX7_212 rfl rfl rfl rfl rfl rfl rfl ?_
  generalize hz1_ : (sX7_turnsTo ar (sX7_shouldBe f ar) (ar 6 (f 11).toNatClampNeg)) = z1_
  refine R_aload_n 18 dX7_getsUp_17 rfl rfl ?_
  refine R_get 21 dX7_getsUp_18 rfl fX7_52 rfl (v := .ref 115) rfl ?_
  refine R_aload_n 22 dX7_getsUp_21 rfl rfl ?_
  refine R_get 25 dX7_getsUp_22 rfl fX7_170 rfl (v := .int (f 11)) rfl ?_
  refine R_dup2 26 dX7_getsUp_25 rfl rfl rfl ?_
  refine R_iald 27 dX7_getsUp_26 rfl rfl rfl ht ?_
  refine R_iconst 28 dX7_getsUp_27 rfl (v := 1) (by decide) ?_
  refine R_iadd 29 dX7_getsUp_28 rfl ?_
  refine R_nm (fun z2_ hz2_ => ?_)
  refine R_iast 30 dX7_getsUp_29 rfl rfl rfl ht (h2 := (h1, hM G f (up2 z1_ 25 (upd (z1_ 25) (f 11).toNatClampNeg z2_)))) ms_25 ?_
  refine R_aload_n 31 dX7_getsUp_30 rfl rfl ?_
  refine R_dup 32 dX7_getsUp_31 rfl rfl ?_
  refine R_get 35 dX7_getsUp_32 rfl fX7_194 rfl (v := .int (f 29)) rfl ?_
  refine R_aload_n 36 dX7_getsUp_35 rfl rfl ?_
  refine R_get 39 dX7_getsUp_36 rfl fX7_31 rfl (v := .ref 108) rfl ?_
  refine R_aload_n 40 dX7_getsUp_39 rfl rfl ?_
  refine R_get 43 dX7_getsUp_40 rfl fX7_170 rfl (v := .int (f 11)) rfl ?_
  refine R_iald 44 dX7_getsUp_43 rfl rfl rfl ht ?_
  refine R_top (y := (z1_ 7 (f 11).toNatClampNeg)) rfl ?_
  refine R_iadd 45 dX7_getsUp_44 rfl ?_
  refine R_nm (fun z3_ hz3_ => ?_)
  refine R_put 48 dX7_getsUp_45 rfl wX7_194 rfl rfl rfl rfl (h2 := (h1, hM G (upd f 29 z3_) (up2 z1_ 25 (upd (z1_ 25) (f 11).toNatClampNeg z2_)))) mp_29 ?_
  refine R_aload_n 49 dX7_getsUp_48 rfl rfl ?_
  refine R_get 52 dX7_getsUp_49 rfl fX7_58 rfl (v := .ref 117) rfl ?_
  refine R_aload_n 53 dX7_getsUp_52 rfl rfl ?_
  refine R_get 56 dX7_getsUp_53 rfl fX7_191 rfl (v := .int (f 28)) rfl ?_
  refine R_aload_n 57 dX7_getsUp_56 rfl rfl ?_
  refine R_get 60 dX7_getsUp_57 rfl fX7_206 rfl (v := .int (f 33)) rfl ?_
  refine R_iast 61 dX7_getsUp_60 rfl rfl rfl hu (h2 := (h1, hM G (upd f 29 z3_) (up2 (up2 z1_ 25 (upd (z1_ 25) (f 11).toNatClampNeg z2_)) 27 (upd (z1_ 27) (f 28).toNatClampNeg (f 33))))) ms_27 ?_
  refine R_aload_n 62 dX7_getsUp_61 rfl rfl ?_
  refine R_dup 63 dX7_getsUp_62 rfl rfl ?_
  refine R_get 66 dX7_getsUp_63 rfl fX7_191 rfl (v := .int (f 28)) rfl ?_
  refine R_iconst 67 dX7_getsUp_66 rfl (v := 1) (by decide) ?_
  refine R_iadd 68 dX7_getsUp_67 rfl ?_
  refine R_nm (fun z4_ hz4_ => ?_)
  refine R_put 71 dX7_getsUp_68 rfl wX7_191 rfl rfl rfl rfl (h2 := (h1, hM G (upd (upd f 29 z3_) 28 z4_) (up2 (up2 z1_ 25 (upd (z1_ 25) (f 11).toNatClampNeg z2_)) 27 (upd (z1_ 27) (f 28).toNatClampNeg (f 33))))) mp_28 ?_
  refine R_aload_n 72 dX7_getsUp_71 rfl rfl ?_
  refine R_aload_n 73 dX7_getsUp_72 rfl rfl ?_
  refine R_get 76 dX7_getsUp_73 rfl fX7_170 rfl (v := .int (f 11)) rfl ?_
  refine R_put 79 dX7_getsUp_76 rfl wX7_203 rfl rfl rfl rfl (h2 := (h1, hM G (upd (upd (upd f 29 z3_) 28 z4_) 32 (f 11)) (up2 (up2 z1_ 25 (upd (z1_ 25) (f 11).toNatClampNeg z2_)) 27 (upd (z1_ 27) (f 28).toNatClampNeg (f 33))))) mp_32 ?_
  refine R_aload_n 80 dX7_getsUp_79 rfl rfl ?_
  refine R_aload_n 81 dX7_getsUp_80 rfl rfl ?_
  refine R_get 84 dX7_getsUp_81 rfl fX7_170 rfl (v := .int (f 11)) rfl ?_
  refine R_iconst 85 dX7_getsUp_84 rfl (v := 1) (by decide) ?_
  refine R_iadd 86 dX7_getsUp_85 rfl ?_
  refine R_aload_n 87 dX7_getsUp_86 rfl rfl ?_
  refine R_get 90 dX7_getsUp_87 rfl fX7_65 rfl (v := .int (f 8)) rfl ?_
  refine R_irem 91 dX7_getsUp_90 rfl h8 ?_
  refine R_nm (fun z5_ hz5_ => ?_)
  refine R_put 94 dX7_getsUp_91 rfl wX7_170 rfl rfl rfl rfl (h2 := (h1, hM G (upd (upd (upd (upd f 29 z3_) 28 z4_) 32 (f 11)) 11 z5_) (up2 (up2 z1_ 25 (upd (z1_ 25) (f 11).toNatClampNeg z2_)) 27 (upd (z1_ 27) (f 28).toNatClampNeg (f 33))))) mp_11 ?_
  refine R_return dX7_getsUp_94 rfl ?_
  subst hz1_ hz2_ hz3_ hz4_ hz5_
  have e : zz = ((upd (upd (upd (upd f 29 ((f 29) + ((sX7_turnsTo ar (sX7_shouldBe f ar) (ar 6 (f 11).toNatClampNeg)) 7 (f 11).toNatClampNeg))) 28 ((f 28) + 1)) 32 (f 11)) 11 (((f 11) + 1) - ((f 11) + 1) / (f 8) * (f 8))), (up2 (up2 (sX7_turnsTo ar (sX7_shouldBe f ar) (ar 6 (f 11).toNatClampNeg)) 25 (upd ((sX7_turnsTo ar (sX7_shouldBe f ar) (ar 6 (f 11).toNatClampNeg)) 25) (f 11).toNatClampNeg (((sX7_turnsTo ar (sX7_shouldBe f ar) (ar 6 (f 11).toNatClampNeg)) 25 (f 11).toNatClampNeg) + 1))) 27 (upd ((sX7_turnsTo ar (sX7_shouldBe f ar) (ar 6 (f 11).toNatClampNeg)) 27) (f 28).toNatClampNeg (f 33)))) := by rw [← hs]; unfold sX7_getsUp; rfl
  rw [pr1 e, pr2 e]; exact ⟨rfl, rfl⟩
def exX7_goesOne  (a : Nat) (f : Nat → Int32) (ar : Nat → Nat → Int32) : (Nat → Int32) × (Nat → Nat → Int32) := ((upd (upd (upd (upd f 30 (if (sX7_size ((ar 1 0) - (ar 1 1))) ≤ (f 30) then f 30 else (sX7_size ((ar 1 0) - (ar 1 1))))) 31 (if (sX7_size ((ar 1 0) - (ar 1 2))) ≤ (f 31) then f 31 else (sX7_size ((ar 1 0) - (ar 1 2))))) 12 ((f 12) + 1)) 33 ((f 33) + 1)), (up2 ar 26 (upd (ar 26) (f 33).toNatClampNeg (ar 1 0))))
def stX7_goesOne  (a : Nat) (f : Nat → Int32) (ar : Nat → Nat → Int32) : (Nat → Int32) × (Nat → Nat → Int32) := (f, (up2 ar 24 (upd (ar 24) (nI a).toNatClampNeg ((ar 24 (nI a).toNatClampNeg) + (sX7_botherOf ar (nI a) (sX7_size ((ar 1 0) - (sX7_placeOf ar (ar 5 (nI a).toNatClampNeg)))))))))
def itX7_goesOne  : Nat → Nat → (Nat → Int32) → (Nat → Nat → Int32) → (Nat → Int32) × (Nat → Nat → Int32)
  | 0, a, f, ar => exX7_goesOne  a f ar
  | j + 1, a, f, ar => itX7_goesOne  j (a + 1) ((stX7_goesOne  a f ar).1) ((stX7_goesOne  a f ar).2)
theorem itX7_goesOne_n  {j a : Nat} {f : Nat → Int32} {ar : Nat → Nat → Int32} {s0_ : Nat → Int32} {s1_ : Nat → Nat → Int32} (e : stX7_goesOne  a f ar = (s0_, s1_)) : (itX7_goesOne  (j + 1) a f ar) = (itX7_goesOne  j (a + 1) s0_ s1_) := by simp only [itX7_goesOne.eq_2, e]
set_option maxRecDepth 20000 in
theorem lpX7_goesOne {G : zG} {h1 : List va_E} {v : Int32} : ∀ (j a : Nat) (f : Nat → Int32) (ar : Nat → Nat → Int32), (a + j = (f 8).toNatClampNeg ∧ (f 8).toNatClampNeg ≤ 5 ∧ (∀ p : Nat, p < (f 8).toNatClampNeg → vp_in (1 + ar 5 p) 6) ∧ vp_in (f 33) 240) → R G mX7_goesOne 65 [(0, .ref 100), (1, .int v), (2, .int (nI a))] [] (h1, hM G f ar) (fun r0 h0 => r0 = none ∧ h0 = (h1, hM G ((itX7_goesOne  j a f ar).1) ((itX7_goesOne  j a f ar).2))) := by
  intro j
  induction j with
  | zero =>
    intro a f ar hj
    have hx := cl_of (f 8)
    have hc : f 8 ≤ nI a := cl_le (by omega) (by omega)
    refine R_iload_n 66 dX7_goesOne_65 rfl rfl ?_
    refine R_aload_n 67 dX7_goesOne_66 rfl rfl ?_
    refine R_get 70 dX7_goesOne_67 rfl fX7_65 rfl (v := .int (f 8)) rfl ?_
    refine R_icmp_ge 73 113 dX7_goesOne_70 rfl (by decide) (fun _ => ?_) (fun c => absurd hc c)
    refine R_aload_n 114 dX7_goesOne_113 rfl rfl ?_
    refine R_get 117 dX7_goesOne_114 rfl fX7_13 rfl (v := .ref 102) rfl ?_
    refine R_iconst 118 dX7_goesOne_117 rfl (v := 0) (by decide) ?_
    refine R_iald 119 dX7_goesOne_118 rfl rfl rfl (vin_d (by decide)) ?_
    refine R_top (y := (ar 1 0)) rfl ?_
    refine R_aload_n 120 dX7_goesOne_119 rfl rfl ?_
    refine R_get 123 dX7_goesOne_120 rfl fX7_13 rfl (v := .ref 102) rfl ?_
    refine R_iconst 124 dX7_goesOne_123 rfl (v := 1) (by decide) ?_
    refine R_iald 125 dX7_goesOne_124 rfl rfl rfl (vin_d (by decide)) ?_
    refine R_top (y := (ar 1 1)) rfl ?_
    refine R_isub 126 dX7_goesOne_125 rfl ?_
    refine R_callSi 129 eX7_size dX7_goesOne_126 rfl kX7_size lX7_176 rfl rfl rfl rfl rfl ?_
    refine R_istore_n 130 dX7_goesOne_129 rfl rfl (by decide) (loc' := [(0, .ref 100), (1, .int v), (2, .int (sX7_size ((ar 1 0) - (ar 1 1))))]) rfl ?_
    refine R_aload_n 131 dX7_goesOne_130 rfl rfl ?_
    refine R_get 134 dX7_goesOne_131 rfl fX7_13 rfl (v := .ref 102) rfl ?_
    refine R_iconst 135 dX7_goesOne_134 rfl (v := 0) (by decide) ?_
    refine R_iald 136 dX7_goesOne_135 rfl rfl rfl (vin_d (by decide)) ?_
    refine R_top (y := (ar 1 0)) rfl ?_
    refine R_aload_n 137 dX7_goesOne_136 rfl rfl ?_
    refine R_get 140 dX7_goesOne_137 rfl fX7_13 rfl (v := .ref 102) rfl ?_
    refine R_iconst 141 dX7_goesOne_140 rfl (v := 2) (by decide) ?_
    refine R_iald 142 dX7_goesOne_141 rfl rfl rfl (vin_d (by decide)) ?_
    refine R_top (y := (ar 1 2)) rfl ?_
    refine R_isub 143 dX7_goesOne_142 rfl ?_
    refine R_callSi 146 eX7_size dX7_goesOne_143 rfl kX7_size lX7_176 rfl rfl rfl rfl rfl ?_
    refine R_istore_n 147 dX7_goesOne_146 rfl rfl (by decide) (loc' := [(0, .ref 100), (1, .int v), (2, .int (sX7_size ((ar 1 0) - (ar 1 1)))), (3, .int (sX7_size ((ar 1 0) - (ar 1 2))))]) rfl ?_
    refine R_aload_n 148 dX7_goesOne_147 rfl rfl ?_
    refine R_iload_n 149 dX7_goesOne_148 rfl rfl ?_
    refine R_aload_n 150 dX7_goesOne_149 rfl rfl ?_
    refine R_get 153 dX7_goesOne_150 rfl fX7_197 rfl (v := .int (f 30)) rfl ?_
    refine R_cut 164 [(0, .ref 100), (1, .int v), (2, .int (sX7_size ((ar 1 0) - (ar 1 1)))), (3, .int (sX7_size ((ar 1 0) - (ar 1 2))))] (.int (if (sX7_size ((ar 1 0) - (ar 1 1))) ≤ (f 30) then f 30 else (sX7_size ((ar 1 0) - (ar 1 1)))) :: [.ref 100]) (h1, hM G f ar) ?_ (fun kj => ?_)
    ·
      refine R_nm (fun z1_ hz1_ => ?_)
      refine R_put 167 dX7_goesOne_164 rfl wX7_197 rfl rfl rfl rfl (h2 := (h1, hM G (upd f 30 z1_) ar)) mp_30 ?_
      refine R_aload_n 168 dX7_goesOne_167 rfl rfl ?_
      refine R_iload_n 169 dX7_goesOne_168 rfl rfl ?_
      refine R_aload_n 170 dX7_goesOne_169 rfl rfl ?_
      refine R_get 173 dX7_goesOne_170 rfl fX7_200 rfl (v := .int (f 31)) rfl ?_
      refine R_cut 184 [(0, .ref 100), (1, .int v), (2, .int (sX7_size ((ar 1 0) - (ar 1 1)))), (3, .int (sX7_size ((ar 1 0) - (ar 1 2))))] (.int (if (sX7_size ((ar 1 0) - (ar 1 2))) ≤ (f 31) then f 31 else (sX7_size ((ar 1 0) - (ar 1 2)))) :: [.ref 100]) (h1, hM G (upd f 30 z1_) ar) ?_ (fun kj => ?_)
      ·
        refine R_nm (fun z2_ hz2_ => ?_)
        refine R_put 187 dX7_goesOne_184 rfl wX7_200 rfl rfl rfl rfl (h2 := (h1, hM G (upd (upd f 30 z1_) 31 z2_) ar)) mp_31 ?_
        refine R_aload_n 188 dX7_goesOne_187 rfl rfl ?_
        refine R_get 191 dX7_goesOne_188 rfl fX7_55 rfl (v := .ref 116) rfl ?_
        refine R_aload_n 192 dX7_goesOne_191 rfl rfl ?_
        refine R_get 195 dX7_goesOne_192 rfl fX7_206 rfl (v := .int (f 33)) rfl ?_
        refine R_aload_n 196 dX7_goesOne_195 rfl rfl ?_
        refine R_get 199 dX7_goesOne_196 rfl fX7_13 rfl (v := .ref 102) rfl ?_
        refine R_iconst 200 dX7_goesOne_199 rfl (v := 0) (by decide) ?_
        refine R_iald 201 dX7_goesOne_200 rfl rfl rfl (vin_d (by decide)) ?_
        refine R_top (y := (ar 1 0)) rfl ?_
        refine R_iast 202 dX7_goesOne_201 rfl rfl rfl hj.2.2.2 (h2 := (h1, hM G (upd (upd f 30 z1_) 31 z2_) (up2 ar 26 (upd (ar 26) (f 33).toNatClampNeg (ar 1 0))))) ms_26 ?_
        refine R_aload_n 203 dX7_goesOne_202 rfl rfl ?_
        refine R_dup 204 dX7_goesOne_203 rfl rfl ?_
        refine R_get 207 dX7_goesOne_204 rfl fX7_138 rfl (v := .int (f 12)) rfl ?_
        refine R_iconst 208 dX7_goesOne_207 rfl (v := 1) (by decide) ?_
        refine R_iadd 209 dX7_goesOne_208 rfl ?_
        refine R_nm (fun z3_ hz3_ => ?_)
        refine R_put 212 dX7_goesOne_209 rfl wX7_138 rfl rfl rfl rfl (h2 := (h1, hM G (upd (upd (upd f 30 z1_) 31 z2_) 12 z3_) (up2 ar 26 (upd (ar 26) (f 33).toNatClampNeg (ar 1 0))))) mp_12 ?_
        refine R_aload_n 213 dX7_goesOne_212 rfl rfl ?_
        refine R_dup 214 dX7_goesOne_213 rfl rfl ?_
        refine R_get 217 dX7_goesOne_214 rfl fX7_206 rfl (v := .int (f 33)) rfl ?_
        refine R_iconst 218 dX7_goesOne_217 rfl (v := 1) (by decide) ?_
        refine R_iadd 219 dX7_goesOne_218 rfl ?_
        refine R_nm (fun z4_ hz4_ => ?_)
        refine R_put 222 dX7_goesOne_219 rfl wX7_206 rfl rfl rfl rfl (h2 := (h1, hM G (upd (upd (upd (upd f 30 z1_) 31 z2_) 12 z3_) 33 z4_) (up2 ar 26 (upd (ar 26) (f 33).toNatClampNeg (ar 1 0))))) mp_33 ?_
        refine R_return dX7_goesOne_222 rfl ?_
        subst hz1_ hz2_ hz3_ hz4_
        have e : (itX7_goesOne  0 a f ar) = ((upd (upd (upd (upd f 30 (if (sX7_size ((ar 1 0) - (ar 1 1))) ≤ (f 30) then f 30 else (sX7_size ((ar 1 0) - (ar 1 1))))) 31 (if (sX7_size ((ar 1 0) - (ar 1 2))) ≤ (f 31) then f 31 else (sX7_size ((ar 1 0) - (ar 1 2))))) 12 ((f 12) + 1)) 33 ((f 33) + 1)), (up2 ar 26 (upd (ar 26) (f 33).toNatClampNeg (ar 1 0)))) := rfl
        rw [e]; exact ⟨rfl, rfl⟩
      refine R_icmp_le 176 180 dX7_goesOne_173 rfl (by decide) (fun c2 => ?_) (fun c2 => ?_)
      · refine R_aload_n 181 dX7_goesOne_180 rfl rfl ?_
        refine R_get 184 dX7_goesOne_181 rfl fX7_200 rfl (v := .int (f 31)) rfl ?_
        rw [if_pos c2] at kj; exact kj
      · refine R_iload_n 177 dX7_goesOne_176 rfl rfl ?_
        refine R_goto 184 dX7_goesOne_177 (by decide) ?_
        rw [if_neg c2] at kj; exact kj
    refine R_icmp_le 156 160 dX7_goesOne_153 rfl (by decide) (fun c1 => ?_) (fun c1 => ?_)
    · refine R_aload_n 161 dX7_goesOne_160 rfl rfl ?_
      refine R_get 164 dX7_goesOne_161 rfl fX7_197 rfl (v := .int (f 30)) rfl ?_
      rw [if_pos c1] at kj; exact kj
    · refine R_iload_n 157 dX7_goesOne_156 rfl rfl ?_
      refine R_goto 164 dX7_goesOne_157 (by decide) ?_
      rw [if_neg c1] at kj; exact kj
  | succ j ih =>
    intro a f ar hj
    have hc : ¬ f 8 ≤ nI a := cl_gt (by omega)
    refine R_iload_n 66 dX7_goesOne_65 rfl rfl ?_
    refine R_aload_n 67 dX7_goesOne_66 rfl rfl ?_
    refine R_get 70 dX7_goesOne_67 rfl fX7_65 rfl (v := .int (f 8)) rfl ?_
    refine R_icmp_ge 73 113 dX7_goesOne_70 rfl (by decide) (fun c => absurd c hc) (fun _ => ?_)
    refine R_aload_n 74 dX7_goesOne_73 rfl rfl ?_
    refine R_get 77 dX7_goesOne_74 rfl fX7_49 rfl (v := .ref 114) rfl ?_
    refine R_iload_n 78 dX7_goesOne_77 rfl rfl ?_
    refine R_dup2 79 dX7_goesOne_78 rfl rfl rfl ?_
    refine R_iald 80 dX7_goesOne_79 rfl rfl rfl (vp_in_nI (by omega) (by omega)) ?_
    refine R_aload_n 81 dX7_goesOne_80 rfl rfl ?_
    refine R_iload_n 82 dX7_goesOne_81 rfl rfl ?_
    refine R_aload_n 83 dX7_goesOne_82 rfl rfl ?_
    refine R_get 86 dX7_goesOne_83 rfl fX7_13 rfl (v := .ref 102) rfl ?_
    refine R_iconst 87 dX7_goesOne_86 rfl (v := 0) (by decide) ?_
    refine R_iald 88 dX7_goesOne_87 rfl rfl rfl (vin_d (by decide)) ?_
    refine R_top (y := (ar 1 0)) rfl ?_
    refine R_aload_n 89 dX7_goesOne_88 rfl rfl ?_
    refine R_aload_n 90 dX7_goesOne_89 rfl rfl ?_
    refine R_get 93 dX7_goesOne_90 rfl fX7_25 rfl (v := .ref 106) rfl ?_
    refine R_iload_n 94 dX7_goesOne_93 rfl rfl ?_
    refine R_iald 95 dX7_goesOne_94 rfl rfl rfl (vp_in_nI (by omega) (by omega)) ?_
    refine R_callVi 98 (eX7_placeOf (hj.2.2.1 _ (by rw [nI_clamp (by omega)]; omega))) dX7_goesOne_95 rfl kX7_placeOf lX7_185 rfl rfl rfl rfl rfl rfl rfl ?_
    refine R_isub 99 dX7_goesOne_98 rfl ?_
    refine R_callSi 102 eX7_size dX7_goesOne_99 rfl kX7_size lX7_176 rfl rfl rfl rfl rfl ?_
    refine R_callVi 105 (eX7_botherOf (vp_in_nI (by omega) (by omega))) dX7_goesOne_102 rfl kX7_botherOf lX7_222 rfl rfl rfl rfl rfl rfl rfl ?_
    refine R_iadd 106 dX7_goesOne_105 rfl ?_
    refine R_nm (fun z1_ hz1_ => ?_)
    refine R_iast 107 dX7_goesOne_106 rfl rfl rfl (vp_in_nI (by omega) (by omega)) (h2 := (h1, hM G f (up2 ar 24 (upd (ar 24) (nI a).toNatClampNeg z1_)))) ms_24 ?_
    refine R_iinc 110 dX7_goesOne_107 rfl rfl (v := (nI (a + 1))) (nI_1 a) rfl (by decide) (loc' := [(0, .ref 100), (1, .int v), (2, .int (nI (a + 1)))]) rfl ?_
    refine R_goto 65 dX7_goesOne_110 (by decide) ?_
    subst hz1_
    refine R_pick [0, 1, 2] rfl ?_
    have e : stX7_goesOne  a f ar = (f, (up2 ar 24 (upd (ar 24) (nI a).toNatClampNeg ((ar 24 (nI a).toNatClampNeg) + (sX7_botherOf ar (nI a) (sX7_size ((ar 1 0) - (sX7_placeOf ar (ar 5 (nI a).toNatClampNeg))))))))) := by rfl
    have e2 : (itX7_goesOne  (j + 1) a f ar) = (itX7_goesOne  j (a + 1) f (up2 ar 24 (upd (ar 24) (nI a).toNatClampNeg ((ar 24 (nI a).toNatClampNeg) + (sX7_botherOf ar (nI a) (sX7_size ((ar 1 0) - (sX7_placeOf ar (ar 5 (nI a).toNatClampNeg))))))))) := itX7_goesOne_n e
    rw [e2]; exact ih (a + 1) f (up2 ar 24 (upd (ar 24) (nI a).toNatClampNeg ((ar 24 (nI a).toNatClampNeg) + (sX7_botherOf ar (nI a) (sX7_size ((ar 1 0) - (sX7_placeOf ar (ar 5 (nI a).toNatClampNeg)))))))) ⟨by omega, hj.2.1, hj.2.2.1, hj.2.2.2⟩
theorem mo_st {f : Nat → Int32} {ar : Nat → Nat → Int32} (hk : mOk f ar) : ∀ p : Nat, p < (f 8).toNatClampNeg → vp_in (1 + ar 5 p) 6 := fun p hp => st_in (hk.2.2.1 p hp).1
theorem mo_n {f : Nat → Int32} {ar : Nat → Nat → Int32} (hk : mOk f ar) : (f 8).toNatClampNeg ≤ 5 := by
  have := hk.1
  unfold Int32.toNatClampNeg
  omega
def sX7_goesOne (f : Nat → Int32) (ar : Nat → Nat → Int32) : (Nat → Int32) × (Nat → Nat → Int32) := if (-99) ≤ ((ar 1 0) + (sX7_driftIn f ar (f 12))) then (if (f 8) ≤ 0 then ((itX7_goesOne  (f 8).toNatClampNeg 0 f (up2 ar 1 (upd (ar 1) 0 (if ((ar 1 0) + (sX7_driftIn f ar (f 12))) ≤ 99 then (ar 1 0) + (sX7_driftIn f ar (f 12)) else 99)))).1, (itX7_goesOne  (f 8).toNatClampNeg 0 f (up2 ar 1 (upd (ar 1) 0 (if ((ar 1 0) + (sX7_driftIn f ar (f 12))) ≤ 99 then (ar 1 0) + (sX7_driftIn f ar (f 12)) else 99)))).2) else if (sX7_isUp f (up2 ar 1 (upd (ar 1) 0 (if ((ar 1 0) + (sX7_driftIn f ar (f 12))) ≤ 99 then (ar 1 0) + (sX7_driftIn f ar (f 12)) else 99)))) = true then ((itX7_goesOne  (f 8).toNatClampNeg 0 ((sX7_getsUp f (up2 ar 1 (upd (ar 1) 0 (if ((ar 1 0) + (sX7_driftIn f ar (f 12))) ≤ 99 then (ar 1 0) + (sX7_driftIn f ar (f 12)) else 99)))).1) ((sX7_getsUp f (up2 ar 1 (upd (ar 1) 0 (if ((ar 1 0) + (sX7_driftIn f ar (f 12))) ≤ 99 then (ar 1 0) + (sX7_driftIn f ar (f 12)) else 99)))).2)).1, (itX7_goesOne  (f 8).toNatClampNeg 0 ((sX7_getsUp f (up2 ar 1 (upd (ar 1) 0 (if ((ar 1 0) + (sX7_driftIn f ar (f 12))) ≤ 99 then (ar 1 0) + (sX7_driftIn f ar (f 12)) else 99)))).1) ((sX7_getsUp f (up2 ar 1 (upd (ar 1) 0 (if ((ar 1 0) + (sX7_driftIn f ar (f 12))) ≤ 99 then (ar 1 0) + (sX7_driftIn f ar (f 12)) else 99)))).2)).2) else ((itX7_goesOne  (f 8).toNatClampNeg 0 f (up2 ar 1 (upd (ar 1) 0 (if ((ar 1 0) + (sX7_driftIn f ar (f 12))) ≤ 99 then (ar 1 0) + (sX7_driftIn f ar (f 12)) else 99)))).1, (itX7_goesOne  (f 8).toNatClampNeg 0 f (up2 ar 1 (upd (ar 1) 0 (if ((ar 1 0) + (sX7_driftIn f ar (f 12))) ≤ 99 then (ar 1 0) + (sX7_driftIn f ar (f 12)) else 99)))).2)) else if (f 8) ≤ 0 then ((itX7_goesOne  (f 8).toNatClampNeg 0 f (up2 ar 1 (upd (ar 1) 0 (-99)))).1, (itX7_goesOne  (f 8).toNatClampNeg 0 f (up2 ar 1 (upd (ar 1) 0 (-99)))).2) else if (sX7_isUp f (up2 ar 1 (upd (ar 1) 0 (-99)))) = true then ((itX7_goesOne  (f 8).toNatClampNeg 0 ((sX7_getsUp f (up2 ar 1 (upd (ar 1) 0 (-99)))).1) ((sX7_getsUp f (up2 ar 1 (upd (ar 1) 0 (-99)))).2)).1, (itX7_goesOne  (f 8).toNatClampNeg 0 ((sX7_getsUp f (up2 ar 1 (upd (ar 1) 0 (-99)))).1) ((sX7_getsUp f (up2 ar 1 (upd (ar 1) 0 (-99)))).2)).2) else ((itX7_goesOne  (f 8).toNatClampNeg 0 f (up2 ar 1 (upd (ar 1) 0 (-99)))).1, (itX7_goesOne  (f 8).toNatClampNeg 0 f (up2 ar 1 (upd (ar 1) 0 (-99)))).2)
set_option maxRecDepth 20000 in
theorem eX7_goesOne {G : zG} {h1 : List va_E} {f : Nat → Int32} {ar : Nat → Nat → Int32} (hk : mOk f ar) (hg : gOk f) : EvF G mX7_goesOne [.ref 100] (h1, hM G f ar) (none) (h1, hM G ((sX7_goesOne f ar).1) ((sX7_goesOne f ar).2)) := by
  generalize hs : (sX7_goesOne f ar) = zz
  refine EvF.of pnX7 rfl ?_
  refine R_aload_n 1 dX7_goesOne_0 rfl rfl ?_
  refine R_get 4 dX7_goesOne_1 rfl fX7_13 rfl (v := .ref 102) rfl ?_
  refine R_iconst 5 dX7_goesOne_4 rfl (v := 0) (by decide) ?_
  refine R_iald 6 dX7_goesOne_5 rfl rfl rfl (vin_d (by decide)) ?_
  refine R_top (y := (ar 1 0)) rfl ?_
  refine R_aload_n 7 dX7_goesOne_6 rfl rfl ?_
  refine R_aload_n 8 dX7_goesOne_7 rfl rfl ?_
  refine R_get 11 dX7_goesOne_8 rfl fX7_138 rfl (v := .int (f 12)) rfl ?_
  refine R_callVi 14 eX7_driftIn dX7_goesOne_11 rfl kX7_driftIn lX7_188 rfl rfl rfl rfl rfl rfl rfl ?_
  refine R_iadd 15 dX7_goesOne_14 rfl ?_
  refine R_istore_n 16 dX7_goesOne_15 rfl rfl (by decide) (loc' := [(0, .ref 100), (1, .int ((ar 1 0) + (sX7_driftIn f ar (f 12))))]) rfl ?_
  refine R_aload_n 17 dX7_goesOne_16 rfl rfl ?_
  refine R_get 20 dX7_goesOne_17 rfl fX7_13 rfl (v := .ref 102) rfl ?_
  refine R_iconst 21 dX7_goesOne_20 rfl (v := 0) (by decide) ?_
  refine R_iload_n 22 dX7_goesOne_21 rfl rfl ?_
  refine R_bipush 24 dX7_goesOne_22 rfl (v := (-99)) (by decide) ?_
  refine R_icmp_ge 27 32 dX7_goesOne_24 rfl (by decide) (fun c1 => ?_) (fun c1 => ?_)
  ·
    refine R_iload_n 33 dX7_goesOne_32 rfl rfl ?_
    refine R_bipush 35 dX7_goesOne_33 rfl (v := 99) (by decide) ?_
    refine R_cut 44 [(0, .ref 100), (1, .int ((ar 1 0) + (sX7_driftIn f ar (f 12))))] (.int (if ((ar 1 0) + (sX7_driftIn f ar (f 12))) ≤ 99 then (ar 1 0) + (sX7_driftIn f ar (f 12)) else 99) :: [.int 0, .ref 102]) (h1, hM G f ar) ?_ (fun kj => ?_)
    ·
      refine R_nm (fun z1_ hz1_ => ?_)
      refine R_iast 45 dX7_goesOne_44 rfl rfl rfl (vin_d (by decide)) (h2 := (h1, hM G f (up2 ar 1 (upd (ar 1) 0 z1_)))) ms_1 ?_
      refine R_aload_n 46 dX7_goesOne_45 rfl rfl ?_
      refine R_get 49 dX7_goesOne_46 rfl fX7_65 rfl (v := .int (f 8)) rfl ?_
      refine R_if_le 52 63 dX7_goesOne_49 rfl (by decide) (fun c3 => ?_) (fun c3 => ?_)
      ·
        refine R_iconst 64 dX7_goesOne_63 rfl (v := 0) (by decide) ?_
        refine R_istore_n 65 dX7_goesOne_64 rfl rfl (by decide) (loc' := [(0, .ref 100), (1, .int ((ar 1 0) + (sX7_driftIn f ar (f 12)))), (2, .int 0)]) rfl ?_
        subst hz1_
        refine R_pick [0, 1, 2] rfl ?_
        have e : zz = ((itX7_goesOne  (f 8).toNatClampNeg 0 f (up2 ar 1 (upd (ar 1) 0 (if ((ar 1 0) + (sX7_driftIn f ar (f 12))) ≤ 99 then (ar 1 0) + (sX7_driftIn f ar (f 12)) else 99)))).1, (itX7_goesOne  (f 8).toNatClampNeg 0 f (up2 ar 1 (upd (ar 1) 0 (if ((ar 1 0) + (sX7_driftIn f ar (f 12))) ≤ 99 then (ar 1 0) + (sX7_driftIn f ar (f 12)) else 99)))).2) := by rw [← hs]; unfold sX7_goesOne; rw [if_pos c1, if_pos c3]
        rw [pr1 e, pr2 e]; exact lpX7_goesOne ((f 8).toNatClampNeg) 0 f (up2 ar 1 (upd (ar 1) 0 (if ((ar 1 0) + (sX7_driftIn f ar (f 12))) ≤ 99 then (ar 1 0) + (sX7_driftIn f ar (f 12)) else 99))) ⟨Nat.zero_add _, mo_n (f := f) (ar := ar) hk, mo_st (f := f) (ar := ar) hk, go_g (f := f) hg⟩
      ·
        refine R_aload_n 53 dX7_goesOne_52 rfl rfl ?_
        refine R_callVi 56 (eX7_isUp (mo_t hk c3) (mo_s hk c3) hk.2.2.2) dX7_goesOne_53 rfl kX7_isUp lX7_216 rfl rfl rfl rfl rfl rfl rfl ?_
        refine R_ifb_eq 59 63 dX7_goesOne_56 rfl (by decide) (fun c4 => ?_) (fun c4 => ?_)
        ·
          refine R_iconst 64 dX7_goesOne_63 rfl (v := 0) (by decide) ?_
          refine R_istore_n 65 dX7_goesOne_64 rfl rfl (by decide) (loc' := [(0, .ref 100), (1, .int ((ar 1 0) + (sX7_driftIn f ar (f 12)))), (2, .int 0)]) rfl ?_
          subst hz1_
          refine R_pick [0, 1, 2] rfl ?_
          have e : zz = ((itX7_goesOne  (f 8).toNatClampNeg 0 f (up2 ar 1 (upd (ar 1) 0 (if ((ar 1 0) + (sX7_driftIn f ar (f 12))) ≤ 99 then (ar 1 0) + (sX7_driftIn f ar (f 12)) else 99)))).1, (itX7_goesOne  (f 8).toNatClampNeg 0 f (up2 ar 1 (upd (ar 1) 0 (if ((ar 1 0) + (sX7_driftIn f ar (f 12))) ≤ 99 then (ar 1 0) + (sX7_driftIn f ar (f 12)) else 99)))).2) := by rw [← hs]; unfold sX7_goesOne; rw [if_pos c1, if_neg c3, if_neg c4]
          rw [pr1 e, pr2 e]; exact lpX7_goesOne ((f 8).toNatClampNeg) 0 f (up2 ar 1 (upd (ar 1) 0 (if ((ar 1 0) + (sX7_driftIn f ar (f 12))) ≤ 99 then (ar 1 0) + (sX7_driftIn f ar (f 12)) else 99))) ⟨Nat.zero_add _, mo_n (f := f) (ar := ar) hk, mo_st (f := f) (ar := ar) hk, go_g (f := f) hg⟩
        ·
          refine R_aload_n 60 dX7_goesOne_59 rfl rfl ?_
          refine R_callVv 63 (eX7_getsUp (mo_t hk c3) (mo_s hk c3) (mo_h hk c3) (go_u hg) (mo_8 c3)) dX7_goesOne_60 rfl kX7_getsUp lX7_219 rfl rfl rfl rfl rfl rfl rfl ?_
          generalize hz2_ : (sX7_getsUp f (up2 ar 1 (upd (ar 1) 0 z1_))).1 = z2_
          generalize hz3_ : (sX7_getsUp f (up2 ar 1 (upd (ar 1) 0 z1_))).2 = z3_
          refine R_iconst 64 dX7_goesOne_63 rfl (v := 0) (by decide) ?_
          refine R_istore_n 65 dX7_goesOne_64 rfl rfl (by decide) (loc' := [(0, .ref 100), (1, .int ((ar 1 0) + (sX7_driftIn f ar (f 12)))), (2, .int 0)]) rfl ?_
          subst hz1_ hz2_ hz3_
          refine R_pick [0, 1, 2] rfl ?_
          have e : zz = ((itX7_goesOne  (f 8).toNatClampNeg 0 ((sX7_getsUp f (up2 ar 1 (upd (ar 1) 0 (if ((ar 1 0) + (sX7_driftIn f ar (f 12))) ≤ 99 then (ar 1 0) + (sX7_driftIn f ar (f 12)) else 99)))).1) ((sX7_getsUp f (up2 ar 1 (upd (ar 1) 0 (if ((ar 1 0) + (sX7_driftIn f ar (f 12))) ≤ 99 then (ar 1 0) + (sX7_driftIn f ar (f 12)) else 99)))).2)).1, (itX7_goesOne  (f 8).toNatClampNeg 0 ((sX7_getsUp f (up2 ar 1 (upd (ar 1) 0 (if ((ar 1 0) + (sX7_driftIn f ar (f 12))) ≤ 99 then (ar 1 0) + (sX7_driftIn f ar (f 12)) else 99)))).1) ((sX7_getsUp f (up2 ar 1 (upd (ar 1) 0 (if ((ar 1 0) + (sX7_driftIn f ar (f 12))) ≤ 99 then (ar 1 0) + (sX7_driftIn f ar (f 12)) else 99)))).2)).2) := by rw [← hs]; unfold sX7_goesOne; rw [if_pos c1, if_neg c3, if_pos c4]
          rw [pr1 e, pr2 e]; exact lpX7_goesOne ((f 8).toNatClampNeg) 0 ((sX7_getsUp f (up2 ar 1 (upd (ar 1) 0 (if ((ar 1 0) + (sX7_driftIn f ar (f 12))) ≤ 99 then (ar 1 0) + (sX7_driftIn f ar (f 12)) else 99)))).1) ((sX7_getsUp f (up2 ar 1 (upd (ar 1) 0 (if ((ar 1 0) + (sX7_driftIn f ar (f 12))) ≤ 99 then (ar 1 0) + (sX7_driftIn f ar (f 12)) else 99)))).2) ⟨Nat.zero_add _, mo_n (f := f) (ar := ar) hk, mo_st (f := f) (ar := ar) hk, go_g (f := f) hg⟩
    refine R_icmp_le 38 43 dX7_goesOne_35 rfl (by decide) (fun c2 => ?_) (fun c2 => ?_)
    · refine R_iload_n 44 dX7_goesOne_43 rfl rfl ?_
      rw [if_pos c2] at kj; exact kj
    · refine R_bipush 40 dX7_goesOne_38 rfl (v := 99) (by decide) ?_
      refine R_goto 44 dX7_goesOne_40 (by decide) ?_
      rw [if_neg c2] at kj; exact kj
  ·
    refine R_bipush 29 dX7_goesOne_27 rfl (v := (-99)) (by decide) ?_
    refine R_goto 44 dX7_goesOne_29 (by decide) ?_
    refine R_iast 45 dX7_goesOne_44 rfl rfl rfl (vin_d (by decide)) (h2 := (h1, hM G f (up2 ar 1 (upd (ar 1) 0 (-99))))) ms_1 ?_
    refine R_aload_n 46 dX7_goesOne_45 rfl rfl ?_
    refine R_get 49 dX7_goesOne_46 rfl fX7_65 rfl (v := .int (f 8)) rfl ?_
    refine R_if_le 52 63 dX7_goesOne_49 rfl (by decide) (fun c5 => ?_) (fun c5 => ?_)
    ·
      refine R_iconst 64 dX7_goesOne_63 rfl (v := 0) (by decide) ?_
      refine R_istore_n 65 dX7_goesOne_64 rfl rfl (by decide) (loc' := [(0, .ref 100), (1, .int ((ar 1 0) + (sX7_driftIn f ar (f 12)))), (2, .int 0)]) rfl ?_
      refine R_pick [0, 1, 2] rfl ?_
      have e : zz = ((itX7_goesOne  (f 8).toNatClampNeg 0 f (up2 ar 1 (upd (ar 1) 0 (-99)))).1, (itX7_goesOne  (f 8).toNatClampNeg 0 f (up2 ar 1 (upd (ar 1) 0 (-99)))).2) := by rw [← hs]; unfold sX7_goesOne; rw [if_neg c1, if_pos c5]
      rw [pr1 e, pr2 e]; exact lpX7_goesOne ((f 8).toNatClampNeg) 0 f (up2 ar 1 (upd (ar 1) 0 (-99))) ⟨Nat.zero_add _, mo_n (f := f) (ar := ar) hk, mo_st (f := f) (ar := ar) hk, go_g (f := f) hg⟩
    ·
      refine R_aload_n 53 dX7_goesOne_52 rfl rfl ?_
      refine R_callVi 56 (eX7_isUp (mo_t hk c5) (mo_s hk c5) hk.2.2.2) dX7_goesOne_53 rfl kX7_isUp lX7_216 rfl rfl rfl rfl rfl rfl rfl ?_
      refine R_ifb_eq 59 63 dX7_goesOne_56 rfl (by decide) (fun c6 => ?_) (fun c6 => ?_)
      ·
        refine R_iconst 64 dX7_goesOne_63 rfl (v := 0) (by decide) ?_
        refine R_istore_n 65 dX7_goesOne_64 rfl rfl (by decide) (loc' := [(0, .ref 100), (1, .int ((ar 1 0) + (sX7_driftIn f ar (f 12)))), (2, .int 0)]) rfl ?_
        refine R_pick [0, 1, 2] rfl ?_
        have e : zz = ((itX7_goesOne  (f 8).toNatClampNeg 0 f (up2 ar 1 (upd (ar 1) 0 (-99)))).1, (itX7_goesOne  (f 8).toNatClampNeg 0 f (up2 ar 1 (upd (ar 1) 0 (-99)))).2) := by rw [← hs]; unfold sX7_goesOne; rw [if_neg c1, if_neg c5, if_neg c6]
        rw [pr1 e, pr2 e]; exact lpX7_goesOne ((f 8).toNatClampNeg) 0 f (up2 ar 1 (upd (ar 1) 0 (-99))) ⟨Nat.zero_add _, mo_n (f := f) (ar := ar) hk, mo_st (f := f) (ar := ar) hk, go_g (f := f) hg⟩
      ·
        refine R_aload_n 60 dX7_goesOne_59 rfl rfl ?_
        refine R_callVv 63 (eX7_getsUp (mo_t hk c5) (mo_s hk c5) (mo_h hk c5) (go_u hg) (mo_8 c5)) dX7_goesOne_60 rfl kX7_getsUp lX7_219 rfl rfl rfl rfl rfl rfl rfl ?_
        generalize hz4_ : (sX7_getsUp f (up2 ar 1 (upd (ar 1) 0 (-99)))).1 = z4_
        generalize hz5_ : (sX7_getsUp f (up2 ar 1 (upd (ar 1) 0 (-99)))).2 = z5_
        refine R_iconst 64 dX7_goesOne_63 rfl (v := 0) (by decide) ?_
        refine R_istore_n 65 dX7_goesOne_64 rfl rfl (by decide) (loc' := [(0, .ref 100), (1, .int ((ar 1 0) + (sX7_driftIn f ar (f 12)))), (2, .int 0)]) rfl ?_
        subst hz4_ hz5_
        refine R_pick [0, 1, 2] rfl ?_
        have e : zz = ((itX7_goesOne  (f 8).toNatClampNeg 0 ((sX7_getsUp f (up2 ar 1 (upd (ar 1) 0 (-99)))).1) ((sX7_getsUp f (up2 ar 1 (upd (ar 1) 0 (-99)))).2)).1, (itX7_goesOne  (f 8).toNatClampNeg 0 ((sX7_getsUp f (up2 ar 1 (upd (ar 1) 0 (-99)))).1) ((sX7_getsUp f (up2 ar 1 (upd (ar 1) 0 (-99)))).2)).2) := by rw [← hs]; unfold sX7_goesOne; rw [if_neg c1, if_neg c5, if_pos c6]
        rw [pr1 e, pr2 e]; exact lpX7_goesOne ((f 8).toNatClampNeg) 0 ((sX7_getsUp f (up2 ar 1 (upd (ar 1) 0 (-99)))).1) ((sX7_getsUp f (up2 ar 1 (upd (ar 1) 0 (-99)))).2) ⟨Nat.zero_add _, mo_n (f := f) (ar := ar) hk, mo_st (f := f) (ar := ar) hk, go_g (f := f) hg⟩
