def lwQ (G : zG) (b : Nat) : zQN := fun pc loc st ws cells slots => (∃ (q1_ q2_ q3_ qm_ : Nat → Nat) (x0_ b0_ b1_ b2_ b3_ b4_ b5_ b6_ b7_ : Nat), pc = 18 ∧ loc = [(0, .ref b), (1, .ref x0_), (2, .ref (qm_ 100)), (3, .int 0)] ∧ st = [] ∧ ws = ([(x0_, .inr (6, [.ref (q1_ 0), .ref (q2_ 0), .ref (q3_ 0), .int 0, .ref b0_, .ref b4_, .ref b6_, .int 0, .ref b7_])), ((q1_ 0), .inr (2, [.int 0, .int 0, .int 6, .ref (q1_ 1), .ref (q1_ 2), .ref (q1_ 3), .int 0, .int 0, .int 0])), ((q1_ 1), .inr (1, [.int 0, .int 1])), ((q1_ 2), .inr (4, [.int 0, .int 3, .int 2])), ((q1_ 3), .inl (G.2.2.1, 5, .inr (.inr (.inr (.inr (fun j => (some (0 + 4 + j)).map q1_)))))), ((q1_ 4), .inr (3, [.int 0, .int 0, .int 0, .int 0, .int 1, .int 0])), ((q1_ 5), .inr (3, [.int 0, .int 0, .int 0, .int 0, .int 1, .int 0])), ((q1_ 6), .inr (3, [.int 0, .int 0, .int 0, .int 0, .int 1, .int 0])), ((q1_ 7), .inr (3, [.int 0, .int 0, .int 0, .int 0, .int 1, .int 0])), ((q1_ 8), .inr (3, [.int 0, .int 0, .int 0, .int 0, .int 1, .int 0])), ((q2_ 0), .inr (2, [.int 0, .int 0, .int 6, .ref (q2_ 1), .ref (q2_ 2), .ref (q2_ 3), .int 0, .int 0, .int 0])), ((q2_ 1), .inr (1, [.int 0, .int 1])), ((q2_ 2), .inr (4, [.int 0, .int 3, .int 2])), ((q2_ 3), .inl (G.2.2.1, 5, .inr (.inr (.inr (.inr (fun j => (some (0 + 4 + j)).map q2_)))))), ((q2_ 4), .inr (3, [.int 0, .int 0, .int 0, .int 0, .int 1, .int 0])), ((q2_ 5), .inr (3, [.int 0, .int 0, .int 0, .int 0, .int 1, .int 0])), ((q2_ 6), .inr (3, [.int 0, .int 0, .int 0, .int 0, .int 1, .int 0])), ((q2_ 7), .inr (3, [.int 0, .int 0, .int 0, .int 0, .int 1, .int 0])), ((q2_ 8), .inr (3, [.int 0, .int 0, .int 0, .int 0, .int 1, .int 0])), ((q3_ 0), .inr (2, [.int 0, .int 0, .int 6, .ref (q3_ 1), .ref (q3_ 2), .ref (q3_ 3), .int 0, .int 0, .int 0])), ((q3_ 1), .inr (1, [.int 0, .int 1])), ((q3_ 2), .inr (4, [.int 0, .int 3, .int 2])), ((q3_ 3), .inl (G.2.2.1, 5, .inr (.inr (.inr (.inr (fun j => (some (0 + 4 + j)).map q3_)))))), ((q3_ 4), .inr (3, [.int 0, .int 0, .int 0, .int 0, .int 1, .int 0])), ((q3_ 5), .inr (3, [.int 0, .int 0, .int 0, .int 0, .int 1, .int 0])), ((q3_ 6), .inr (3, [.int 0, .int 0, .int 0, .int 0, .int 1, .int 0])), ((q3_ 7), .inr (3, [.int 0, .int 0, .int 0, .int 0, .int 1, .int 0])), ((q3_ 8), .inr (3, [.int 0, .int 0, .int 0, .int 0, .int 1, .int 0])), (b0_, .inr (0, [.ref b1_, .ref b2_, .ref b3_, .int 0, .int 0, .int (-9)])), (b1_, .inl (G.1, 5, .inl (fun _ => 0))), (b2_, .inl (G.1, 5, .inl (fun _ => 0))), (b3_, .inl (G.1, 5, .inl (fun _ => 0))), (b4_, .inr (5, [.ref b5_, .int 0])), (b5_, .inl (G.2.1, 96, .inl (fun _ => 0))), (b6_, .inl (G.1, 12, .inl (fun _ => 0))), (b7_, .inl (G.1, 7, .inl (fun _ => 0)))] ++ zl qm_ 100 (hM G f0_ ar0_)) ∧ cells ≤ 600000 ∧ slots ≤ 7302250)
set_option maxRecDepth 20000 in
theorem law_head {G : zG} {b : Nat} : RN G mL_law 0 [(0, .ref b)] [] [] 0 0 (lwQ G b) := by
  refine RN_new 3 dL_law_0 rfl nwL_7 rfl rfl (fun a1_ => ?_)
  refine RN_ws (w2 := [(a1_, .inr (6, [.null, .null, .null, .int 0, .null, .null, .null, .int 0, .null]))]) (c2 := 1) (s2 := 9) rfl rfl rfl ?_
  refine RN_dup 4 dL_law_3 rfl rfl ?_
  refine RN_init 7 (kp := 0) (wr := []) [] (cX6_init_ok (G := G)) dL_law_4 rfl ki6 liL_9 rfl rfl rfl rfl rfl rfl rfl (by decide) rfl rfl (fun w1 hw => ?_)
  obtain ⟨q1_, q2_, q3_, b0_, b1_, b2_, b3_, b4_, b5_, b6_, b7_, rfl⟩ := hw
  refine RN_ws (w2 := [(a1_, .inr (6, [.ref (q1_ 0), .ref (q2_ 0), .ref (q3_ 0), .int 0, .ref b0_, .ref b4_, .ref b6_, .int 0, .ref b7_])), ((q1_ 0), .inr (2, [.int 0, .int 0, .int 6, .ref (q1_ 1), .ref (q1_ 2), .ref (q1_ 3), .int 0, .int 0, .int 0])), ((q1_ 1), .inr (1, [.int 0, .int 1])), ((q1_ 2), .inr (4, [.int 0, .int 3, .int 2])), ((q1_ 3), .inl (G.2.2.1, 5, .inr (.inr (.inr (.inr (fun j => (some (0 + 4 + j)).map q1_)))))), ((q1_ 4), .inr (3, [.int 0, .int 0, .int 0, .int 0, .int 1, .int 0])), ((q1_ 5), .inr (3, [.int 0, .int 0, .int 0, .int 0, .int 1, .int 0])), ((q1_ 6), .inr (3, [.int 0, .int 0, .int 0, .int 0, .int 1, .int 0])), ((q1_ 7), .inr (3, [.int 0, .int 0, .int 0, .int 0, .int 1, .int 0])), ((q1_ 8), .inr (3, [.int 0, .int 0, .int 0, .int 0, .int 1, .int 0])), ((q2_ 0), .inr (2, [.int 0, .int 0, .int 6, .ref (q2_ 1), .ref (q2_ 2), .ref (q2_ 3), .int 0, .int 0, .int 0])), ((q2_ 1), .inr (1, [.int 0, .int 1])), ((q2_ 2), .inr (4, [.int 0, .int 3, .int 2])), ((q2_ 3), .inl (G.2.2.1, 5, .inr (.inr (.inr (.inr (fun j => (some (0 + 4 + j)).map q2_)))))), ((q2_ 4), .inr (3, [.int 0, .int 0, .int 0, .int 0, .int 1, .int 0])), ((q2_ 5), .inr (3, [.int 0, .int 0, .int 0, .int 0, .int 1, .int 0])), ((q2_ 6), .inr (3, [.int 0, .int 0, .int 0, .int 0, .int 1, .int 0])), ((q2_ 7), .inr (3, [.int 0, .int 0, .int 0, .int 0, .int 1, .int 0])), ((q2_ 8), .inr (3, [.int 0, .int 0, .int 0, .int 0, .int 1, .int 0])), ((q3_ 0), .inr (2, [.int 0, .int 0, .int 6, .ref (q3_ 1), .ref (q3_ 2), .ref (q3_ 3), .int 0, .int 0, .int 0])), ((q3_ 1), .inr (1, [.int 0, .int 1])), ((q3_ 2), .inr (4, [.int 0, .int 3, .int 2])), ((q3_ 3), .inl (G.2.2.1, 5, .inr (.inr (.inr (.inr (fun j => (some (0 + 4 + j)).map q3_)))))), ((q3_ 4), .inr (3, [.int 0, .int 0, .int 0, .int 0, .int 1, .int 0])), ((q3_ 5), .inr (3, [.int 0, .int 0, .int 0, .int 0, .int 1, .int 0])), ((q3_ 6), .inr (3, [.int 0, .int 0, .int 0, .int 0, .int 1, .int 0])), ((q3_ 7), .inr (3, [.int 0, .int 0, .int 0, .int 0, .int 1, .int 0])), ((q3_ 8), .inr (3, [.int 0, .int 0, .int 0, .int 0, .int 1, .int 0])), (b0_, .inr (0, [.ref b1_, .ref b2_, .ref b3_, .int 0, .int 0, .int (-9)])), (b1_, .inl (G.1, 5, .inl (fun _ => 0))), (b2_, .inl (G.1, 5, .inl (fun _ => 0))), (b3_, .inl (G.1, 5, .inl (fun _ => 0))), (b4_, .inr (5, [.ref b5_, .int 0])), (b5_, .inl (G.2.1, 96, .inl (fun _ => 0))), (b6_, .inl (G.1, 12, .inl (fun _ => 0))), (b7_, .inl (G.1, 7, .inl (fun _ => 0)))]) (c2 := 36) (s2 := 294) rfl rfl rfl ?_
  refine RN_astore_n 8 dL_law_7 rfl rfl (by decide) (loc' := [(0, .ref b), (1, .ref a1_)]) rfl ?_
  refine RN_new 11 dL_law_8 rfl nwL_10 rfl rfl (fun a3_ => ?_)
  refine RN_ws (w2 := [(a1_, .inr (6, [.ref (q1_ 0), .ref (q2_ 0), .ref (q3_ 0), .int 0, .ref b0_, .ref b4_, .ref b6_, .int 0, .ref b7_])), ((q1_ 0), .inr (2, [.int 0, .int 0, .int 6, .ref (q1_ 1), .ref (q1_ 2), .ref (q1_ 3), .int 0, .int 0, .int 0])), ((q1_ 1), .inr (1, [.int 0, .int 1])), ((q1_ 2), .inr (4, [.int 0, .int 3, .int 2])), ((q1_ 3), .inl (G.2.2.1, 5, .inr (.inr (.inr (.inr (fun j => (some (0 + 4 + j)).map q1_)))))), ((q1_ 4), .inr (3, [.int 0, .int 0, .int 0, .int 0, .int 1, .int 0])), ((q1_ 5), .inr (3, [.int 0, .int 0, .int 0, .int 0, .int 1, .int 0])), ((q1_ 6), .inr (3, [.int 0, .int 0, .int 0, .int 0, .int 1, .int 0])), ((q1_ 7), .inr (3, [.int 0, .int 0, .int 0, .int 0, .int 1, .int 0])), ((q1_ 8), .inr (3, [.int 0, .int 0, .int 0, .int 0, .int 1, .int 0])), ((q2_ 0), .inr (2, [.int 0, .int 0, .int 6, .ref (q2_ 1), .ref (q2_ 2), .ref (q2_ 3), .int 0, .int 0, .int 0])), ((q2_ 1), .inr (1, [.int 0, .int 1])), ((q2_ 2), .inr (4, [.int 0, .int 3, .int 2])), ((q2_ 3), .inl (G.2.2.1, 5, .inr (.inr (.inr (.inr (fun j => (some (0 + 4 + j)).map q2_)))))), ((q2_ 4), .inr (3, [.int 0, .int 0, .int 0, .int 0, .int 1, .int 0])), ((q2_ 5), .inr (3, [.int 0, .int 0, .int 0, .int 0, .int 1, .int 0])), ((q2_ 6), .inr (3, [.int 0, .int 0, .int 0, .int 0, .int 1, .int 0])), ((q2_ 7), .inr (3, [.int 0, .int 0, .int 0, .int 0, .int 1, .int 0])), ((q2_ 8), .inr (3, [.int 0, .int 0, .int 0, .int 0, .int 1, .int 0])), ((q3_ 0), .inr (2, [.int 0, .int 0, .int 6, .ref (q3_ 1), .ref (q3_ 2), .ref (q3_ 3), .int 0, .int 0, .int 0])), ((q3_ 1), .inr (1, [.int 0, .int 1])), ((q3_ 2), .inr (4, [.int 0, .int 3, .int 2])), ((q3_ 3), .inl (G.2.2.1, 5, .inr (.inr (.inr (.inr (fun j => (some (0 + 4 + j)).map q3_)))))), ((q3_ 4), .inr (3, [.int 0, .int 0, .int 0, .int 0, .int 1, .int 0])), ((q3_ 5), .inr (3, [.int 0, .int 0, .int 0, .int 0, .int 1, .int 0])), ((q3_ 6), .inr (3, [.int 0, .int 0, .int 0, .int 0, .int 1, .int 0])), ((q3_ 7), .inr (3, [.int 0, .int 0, .int 0, .int 0, .int 1, .int 0])), ((q3_ 8), .inr (3, [.int 0, .int 0, .int 0, .int 0, .int 1, .int 0])), (b0_, .inr (0, [.ref b1_, .ref b2_, .ref b3_, .int 0, .int 0, .int (-9)])), (b1_, .inl (G.1, 5, .inl (fun _ => 0))), (b2_, .inl (G.1, 5, .inl (fun _ => 0))), (b3_, .inl (G.1, 5, .inl (fun _ => 0))), (b4_, .inr (5, [.ref b5_, .int 0])), (b5_, .inl (G.2.1, 96, .inl (fun _ => 0))), (b6_, .inl (G.1, 12, .inl (fun _ => 0))), (b7_, .inl (G.1, 7, .inl (fun _ => 0))), (a3_, .inr (7, [.null, .null, .null, .null, .null, .null, .null, .null, .int 0, .int 0, .int 0, .int 0, .int 0, .null, .null, .null, .null, .int 0, .int 0, .int 0, .null, .int 0, .int 0, .int 0, .null, .null, .null, .null, .int 0, .int 0, .int 0, .int 0, .int 0, .int 0, .null, .int 0]))]) (c2 := 37) (s2 := 330) rfl rfl rfl ?_
  refine RN_dup 12 dL_law_11 rfl rfl ?_
  refine RN_init 15 (kp := 36) (wr := [(a1_, .inr (6, [.ref (q1_ 0), .ref (q2_ 0), .ref (q3_ 0), .int 0, .ref b0_, .ref b4_, .ref b6_, .int 0, .ref b7_])), ((q1_ 0), .inr (2, [.int 0, .int 0, .int 6, .ref (q1_ 1), .ref (q1_ 2), .ref (q1_ 3), .int 0, .int 0, .int 0])), ((q1_ 1), .inr (1, [.int 0, .int 1])), ((q1_ 2), .inr (4, [.int 0, .int 3, .int 2])), ((q1_ 3), .inl (G.2.2.1, 5, .inr (.inr (.inr (.inr (fun j => (some (0 + 4 + j)).map q1_)))))), ((q1_ 4), .inr (3, [.int 0, .int 0, .int 0, .int 0, .int 1, .int 0])), ((q1_ 5), .inr (3, [.int 0, .int 0, .int 0, .int 0, .int 1, .int 0])), ((q1_ 6), .inr (3, [.int 0, .int 0, .int 0, .int 0, .int 1, .int 0])), ((q1_ 7), .inr (3, [.int 0, .int 0, .int 0, .int 0, .int 1, .int 0])), ((q1_ 8), .inr (3, [.int 0, .int 0, .int 0, .int 0, .int 1, .int 0])), ((q2_ 0), .inr (2, [.int 0, .int 0, .int 6, .ref (q2_ 1), .ref (q2_ 2), .ref (q2_ 3), .int 0, .int 0, .int 0])), ((q2_ 1), .inr (1, [.int 0, .int 1])), ((q2_ 2), .inr (4, [.int 0, .int 3, .int 2])), ((q2_ 3), .inl (G.2.2.1, 5, .inr (.inr (.inr (.inr (fun j => (some (0 + 4 + j)).map q2_)))))), ((q2_ 4), .inr (3, [.int 0, .int 0, .int 0, .int 0, .int 1, .int 0])), ((q2_ 5), .inr (3, [.int 0, .int 0, .int 0, .int 0, .int 1, .int 0])), ((q2_ 6), .inr (3, [.int 0, .int 0, .int 0, .int 0, .int 1, .int 0])), ((q2_ 7), .inr (3, [.int 0, .int 0, .int 0, .int 0, .int 1, .int 0])), ((q2_ 8), .inr (3, [.int 0, .int 0, .int 0, .int 0, .int 1, .int 0])), ((q3_ 0), .inr (2, [.int 0, .int 0, .int 6, .ref (q3_ 1), .ref (q3_ 2), .ref (q3_ 3), .int 0, .int 0, .int 0])), ((q3_ 1), .inr (1, [.int 0, .int 1])), ((q3_ 2), .inr (4, [.int 0, .int 3, .int 2])), ((q3_ 3), .inl (G.2.2.1, 5, .inr (.inr (.inr (.inr (fun j => (some (0 + 4 + j)).map q3_)))))), ((q3_ 4), .inr (3, [.int 0, .int 0, .int 0, .int 0, .int 1, .int 0])), ((q3_ 5), .inr (3, [.int 0, .int 0, .int 0, .int 0, .int 1, .int 0])), ((q3_ 6), .inr (3, [.int 0, .int 0, .int 0, .int 0, .int 1, .int 0])), ((q3_ 7), .inr (3, [.int 0, .int 0, .int 0, .int 0, .int 1, .int 0])), ((q3_ 8), .inr (3, [.int 0, .int 0, .int 0, .int 0, .int 1, .int 0])), (b0_, .inr (0, [.ref b1_, .ref b2_, .ref b3_, .int 0, .int 0, .int (-9)])), (b1_, .inl (G.1, 5, .inl (fun _ => 0))), (b2_, .inl (G.1, 5, .inl (fun _ => 0))), (b3_, .inl (G.1, 5, .inl (fun _ => 0))), (b4_, .inr (5, [.ref b5_, .int 0])), (b5_, .inl (G.2.1, 96, .inl (fun _ => 0))), (b6_, .inl (G.1, 12, .inl (fun _ => 0))), (b7_, .inl (G.1, 7, .inl (fun _ => 0)))]) [0, 1, 2, 3, 4, 5, 6, 7, 8, 9, 10, 11, 12, 13, 14, 15, 16, 17, 18, 19, 20, 21, 22, 23, 24, 25, 26, 27, 28, 29, 30, 31, 32, 33, 34, 35] (cX7_init_ok (G := G)) dL_law_12 rfl ki7 liL_12 rfl rfl rfl rfl rfl rfl rfl (by decide) rfl rfl (fun w1 hw => ?_)
  obtain ⟨qm_, hq, rfl⟩ := hw
  subst hq
  refine RN_ws (w2 := ([(a1_, .inr (6, [.ref (q1_ 0), .ref (q2_ 0), .ref (q3_ 0), .int 0, .ref b0_, .ref b4_, .ref b6_, .int 0, .ref b7_])), ((q1_ 0), .inr (2, [.int 0, .int 0, .int 6, .ref (q1_ 1), .ref (q1_ 2), .ref (q1_ 3), .int 0, .int 0, .int 0])), ((q1_ 1), .inr (1, [.int 0, .int 1])), ((q1_ 2), .inr (4, [.int 0, .int 3, .int 2])), ((q1_ 3), .inl (G.2.2.1, 5, .inr (.inr (.inr (.inr (fun j => (some (0 + 4 + j)).map q1_)))))), ((q1_ 4), .inr (3, [.int 0, .int 0, .int 0, .int 0, .int 1, .int 0])), ((q1_ 5), .inr (3, [.int 0, .int 0, .int 0, .int 0, .int 1, .int 0])), ((q1_ 6), .inr (3, [.int 0, .int 0, .int 0, .int 0, .int 1, .int 0])), ((q1_ 7), .inr (3, [.int 0, .int 0, .int 0, .int 0, .int 1, .int 0])), ((q1_ 8), .inr (3, [.int 0, .int 0, .int 0, .int 0, .int 1, .int 0])), ((q2_ 0), .inr (2, [.int 0, .int 0, .int 6, .ref (q2_ 1), .ref (q2_ 2), .ref (q2_ 3), .int 0, .int 0, .int 0])), ((q2_ 1), .inr (1, [.int 0, .int 1])), ((q2_ 2), .inr (4, [.int 0, .int 3, .int 2])), ((q2_ 3), .inl (G.2.2.1, 5, .inr (.inr (.inr (.inr (fun j => (some (0 + 4 + j)).map q2_)))))), ((q2_ 4), .inr (3, [.int 0, .int 0, .int 0, .int 0, .int 1, .int 0])), ((q2_ 5), .inr (3, [.int 0, .int 0, .int 0, .int 0, .int 1, .int 0])), ((q2_ 6), .inr (3, [.int 0, .int 0, .int 0, .int 0, .int 1, .int 0])), ((q2_ 7), .inr (3, [.int 0, .int 0, .int 0, .int 0, .int 1, .int 0])), ((q2_ 8), .inr (3, [.int 0, .int 0, .int 0, .int 0, .int 1, .int 0])), ((q3_ 0), .inr (2, [.int 0, .int 0, .int 6, .ref (q3_ 1), .ref (q3_ 2), .ref (q3_ 3), .int 0, .int 0, .int 0])), ((q3_ 1), .inr (1, [.int 0, .int 1])), ((q3_ 2), .inr (4, [.int 0, .int 3, .int 2])), ((q3_ 3), .inl (G.2.2.1, 5, .inr (.inr (.inr (.inr (fun j => (some (0 + 4 + j)).map q3_)))))), ((q3_ 4), .inr (3, [.int 0, .int 0, .int 0, .int 0, .int 1, .int 0])), ((q3_ 5), .inr (3, [.int 0, .int 0, .int 0, .int 0, .int 1, .int 0])), ((q3_ 6), .inr (3, [.int 0, .int 0, .int 0, .int 0, .int 1, .int 0])), ((q3_ 7), .inr (3, [.int 0, .int 0, .int 0, .int 0, .int 1, .int 0])), ((q3_ 8), .inr (3, [.int 0, .int 0, .int 0, .int 0, .int 1, .int 0])), (b0_, .inr (0, [.ref b1_, .ref b2_, .ref b3_, .int 0, .int 0, .int (-9)])), (b1_, .inl (G.1, 5, .inl (fun _ => 0))), (b2_, .inl (G.1, 5, .inl (fun _ => 0))), (b3_, .inl (G.1, 5, .inl (fun _ => 0))), (b4_, .inr (5, [.ref b5_, .int 0])), (b5_, .inl (G.2.1, 96, .inl (fun _ => 0))), (b6_, .inl (G.1, 12, .inl (fun _ => 0))), (b7_, .inl (G.1, 7, .inl (fun _ => 0)))] ++ zl qm_ 100 (hM G f0_ ar0_))) (c2 := 55) (s2 := 1505) rfl rfl rfl ?_
  refine RN_astore_n 16 dL_law_15 rfl rfl (by decide) (loc' := [(0, .ref b), (1, .ref a1_), (2, .ref (qm_ 100))]) rfl ?_
  refine RN_iconst 17 dL_law_16 rfl (v := 0) (by decide) ?_
  refine RN_istore_n 18 dL_law_17 rfl rfl (by decide) (loc' := [(0, .ref b), (1, .ref a1_), (2, .ref (qm_ 100)), (3, .int 0)]) rfl ?_
  exact RN_stop ⟨q1_, q2_, q3_, qm_, a1_, b0_, b1_, b2_, b3_, b4_, b5_, b6_, b7_, rfl, rfl, rfl, rfl, by decide, by decide⟩
def cf0_ : Nat → Int32 := fun k => if k = 5 then (-9) else 0
def ca0_ : Nat → Nat → Int32 := fun _ _ => 0
/-- where the cells lie -/
def adW (q1 q2 q3 qm : Nat → Nat) (l : List Nat) (x0 : Nat) (adE : Nat → Nat) : Nat → Nat := fun i => if i < 100 then (if i = 0 then x0 else if i < 10 then q1 (i - 1) else if i < 19 then q2 (i - 10) else if i < 28 then q3 (i - 19) else l.getD (i - 28) 0) else if i < 200 then qm i else adE i
theorem adW_E {q1 q2 q3 qm : Nat → Nat} {l : List Nat} {x0 : Nat} {adE : Nat → Nat} : ∀ i, 1000 ≤ i → adW q1 q2 q3 qm l x0 adE i = adE i := by
  intro i hi
  unfold adW
  rw [if_neg (by omega), if_neg (by omega)]
theorem inv_0 : Inv pl0 pl0 cf0_ ca0_ f0_ ar0_ := by
  have hR : rN pl0 f0_ ar0_ := by
    refine ⟨⟨rfl, rfl, rfl, rfl, rfl, rfl, rfl, rfl, rfl, rfl, rfl⟩, fun p hp => ?_, ⟨?_, ?_, ?_, ⟨fun _ => rfl, fun h => ?_⟩, ?_, ?_, ?_, fun p hp => ?_, ?_, ?_⟩, ?_, ?_⟩
    · have hp : (p : Int) < (0 : Int32).toInt := hp
      rw [show (0 : Int32).toInt = 0 by decide] at hp
      omega
    · exact ⟨by decide, by decide⟩
    · exact ⟨by decide, by decide⟩
    · exact ⟨by decide, by decide⟩
    · have h : 0 < (0 : Int32).toInt := h
      exact absurd h (by decide)
    · exact ⟨by decide, by decide⟩
    · exact ⟨by decide, by decide⟩
    · exact ⟨by decide, by decide⟩
    · have hp : (p : Int) < (0 : Int32).toInt := hp
      rw [show (0 : Int32).toInt = 0 by decide] at hp
      omega
    · exact ⟨by decide, by decide⟩
    · exact ⟨by decide, by decide⟩
    · exact ⟨by decide, by decide⟩
    · exact ⟨by decide, by decide⟩
  refine ⟨hR, ⟨rfl, fun h => absurd rfl h⟩, ⟨rfl, ⟨by decide, by decide⟩, fun j => by show narrow .char (.int 0) = .int 0; decide, fun j hj => ?_⟩, ⟨rfl, ⟨by decide, by decide⟩, fun j hj => ?_⟩, fun j hj => ?_⟩
  · have hj : (j : Int) < (0 : Int32).toInt := hj
    rw [show (0 : Int32).toInt = 0 by decide] at hj
    omega
  · have hj : (j : Int) < (0 : Int32).toInt := hj
    rw [show (0 : Int32).toInt = 0 by decide] at hj
    omega
  · rfl
theorem whole_start {p : Program} {e : Env} {s : State} {m : MethodId} {below : List Frame} {meth : Method} {c : Code} (l : Launch) (hflags : l.flags = flags0) {b L : Nat} {xs : Nat → Int32} (hL : L ≤ 2048) (C0 : lw_At p s m meth c b L xs) : W p l e room_1 s m #[Value.ref b] below meth c s.heap [] 0 0 (lw_Z below #[Value.ref b] s) (entryFrame m ([Value.ref b] : List Value).toArray 4) := by
  obtain ⟨hx, hb, hr, hml, hown, hts, hX, hbl, hlocks, hgv⟩ := C0
  have hal := al_tbl hts
  obtain ⟨D, cI, cC, cP, hK⟩ := st_K hts hgv (L := L) (xs := xs)
  obtain ⟨adE, hbE, hE⟩ := st_E hts hgv hX hL hbl cI cC cP
  have hAO : va_AO RX3 s := va_AO.of (hts (.arrayOver (.object RX3)) (tb_1 73 rfl))
  rw [lg_entry_eq]
  have hl := lv_entry [.ref b] (n := 4) (Nat.le_of_ble_eq_true rfl)
  refine law_head (G := (cI, cC, cP, L, xs)) (b := b) p l e s m _ below meth c D (fun q : Nat => s.heap.size ≤ q) _ ⟨hx, hb, hml, hown, hal, hK, fun q hq => hq, hAO, fun h => absurd h (by decide)⟩ ?_ s.heap [] _ (fun k q h => by simp at h) ⟨fun i j p q h => by simp at h, fun k q h => by simp at h⟩ va_S.rf hl
  intro pc loc st ws cells slots H locs ls hQ hP hD hS hl
  obtain ⟨q1, q2, q3, qm, x0, b0, b1, b2, b3, b4, b5, b6, b7, rfl, rfl, rfl, rfl, hc1, hc2⟩ := hQ
  have hP1 := hP.upd (k := 4) rfl (at_q (g := fun j => (some (1 + 4 + j)).map (adW q1 q2 q3 qm [b0, b1, b2, b3, b4, b5, b6, b7] x0 adE)) (fun j hj => by
    match j, hj with
    | 0, _ => rfl
    | 1, _ => rfl
    | 2, _ => rfl
    | 3, _ => rfl
    | 4, _ => rfl
    | j + 5, hj => exact absurd hj (by omega)) D H)
  have hP2 := hP1.upd (k := 13) rfl (at_q (g := fun j => (some (10 + 4 + j)).map (adW q1 q2 q3 qm [b0, b1, b2, b3, b4, b5, b6, b7] x0 adE)) (fun j hj => by
    match j, hj with
    | 0, _ => rfl
    | 1, _ => rfl
    | 2, _ => rfl
    | 3, _ => rfl
    | 4, _ => rfl
    | j + 5, hj => exact absurd hj (by omega)) D H)
  have hP3 := hP2.upd (k := 22) rfl (at_q (g := fun j => (some (19 + 4 + j)).map (adW q1 q2 q3 qm [b0, b1, b2, b3, b4, b5, b6, b7] x0 adE)) (fun j hj => by
    match j, hj with
    | 0, _ => rfl
    | 1, _ => rfl
    | 2, _ => rfl
    | 3, _ => rfl
    | 4, _ => rfl
    | j + 5, hj => exact absurd hj (by omega)) D H)
  have hD3 := ((hD.set (p := 4) (e := .inl (cP, 5, .inr (.inr (.inr (.inr (fun j => (some (1 + 4 + j)).map (adW q1 q2 q3 qm [b0, b1, b2, b3, b4, b5, b6, b7] x0 adE))))))) rfl).set (p := 13) (e := .inl (cP, 5, .inr (.inr (.inr (.inr (fun j => (some (10 + 4 + j)).map (adW q1 q2 q3 qm [b0, b1, b2, b3, b4, b5, b6, b7] x0 adE))))))) rfl).set (p := 22) (e := .inl (cP, 5, .inr (.inr (.inr (.inr (fun j => (some (19 + 4 + j)).map (adW q1 q2 q3 qm [b0, b1, b2, b3, b4, b5, b6, b7] x0 adE))))))) rfl
  have hb4 : adW q1 q2 q3 qm [b0, b1, b2, b3, b4, b5, b6, b7] x0 adE 4000 = b := (adW_E 4000 (by decide)).trans hbE
  have hR := la_loop (g1 := cI) (g2 := cC) (g3 := cP) (L := L) (xs := xs) hL L 0 pl0 pl0 pl0 cf0_ ca0_ f0_ ar0_ inv_0 (by omega) (by decide)
  refine hR p l e s m #[Value.ref b] below meth c (adW q1 q2 q3 qm [b0, b1, b2, b3, b4, b5, b6, b7] x0 adE) D (fun q : Nat => s.heap.size ≤ q) (lw_Z below #[Value.ref b] s) cells slots ⟨hx, hb, hml, hown, hal, hK, hE.congr adW_E, fun q hq => hq⟩ ⟨hc1, hc2⟩ ?_ H locs ls hP3 hD3 hS (by rw [← hb4] at hl; exact hl)
  intro r h H' locs' pc' ls' hr1 _ _ hS' hret
  subst hr1
  refine va_forget (fun q hq => hS'.2.2 q hq) ?_
  refine W.widen (k := 600000) (n := 7302250) hc1 hc2 ?_
  exact lw_ret hx hb hr hlocks hret.1
