/-! the tape, -1 behind its end; how many letters fit a row of kinds of letters -/
def tT (f : Nat → Int32) (ar : Nat → Nat → Int32) (r : Nat) : Int32 := if f 17 ≤ nI r then (-1) else ar 13 r
theorem tT_eq {f f1 : Nat → Int32} {ar a1 : Nat → Nat → Int32} (h17 : f1 17 = f 17) (h13 : a1 13 = ar 13) : tT f1 a1 = tT f ar := by
  funext r
  unfold tT
  rw [h17, h13]
theorem nx_T {f : Nat → Int32} {ar : Nat → Nat → Int32} {r : Nat} (h : f 18 = nI r) (hr : r < 2 ^ 31) : sX7_next f ar = tT f ar r := by
  unfold sX7_next tT
  rw [h, nI_clamp hr]
def fitL : List (Int32 → Bool) → (Nat → Int32) → Nat → Nat
  | [], _, _ => 0
  | g :: l, T, r => if g (T r) = true then fitL l T (r + 1) + 1 else 0
theorem fitL_c (g : Int32 → Bool) (l : List (Int32 → Bool)) (T : Nat → Int32) (r : Nat) : fitL (g :: l) T r = if g (T r) = true then fitL l T (r + 1) + 1 else 0 := rfl
theorem fitL_le (T : Nat → Int32) : ∀ (l : List (Int32 → Bool)) (r : Nat), fitL l T r ≤ l.length
  | [], _ => Nat.le_refl _
  | g :: l, r => by
    have := fitL_le T l (r + 1)
    unfold fitL
    split
    · rw [List.length_cons]; omega
    · exact Nat.zero_le _
theorem fitL_app (T : Nat → Int32) : ∀ (l1 l2 : List (Int32 → Bool)) (r : Nat), fitL (l1 ++ l2) T r = if fitL l1 T r = l1.length then l1.length + fitL l2 T (r + l1.length) else fitL l1 T r
  | [], l2, r => by simp [fitL]
  | g :: l1, l2, r => by
    have ih := fitL_app T l1 l2 (r + 1)
    show fitL (g :: (l1 ++ l2)) T r = _
    rw [fitL_c, fitL_c]
    by_cases c : g (T r) = true
    · rw [if_pos c, if_pos c, ih, List.length_cons, show r + 1 + l1.length = r + (l1.length + 1) by omega]
      by_cases c2 : fitL l1 T (r + 1) = l1.length
      · rw [if_pos c2, if_pos (by omega)]; omega
      · rw [if_neg c2, if_neg (by omega)]
    · rw [if_neg c, if_neg c, if_neg (by rw [List.length_cons]; omega)]
/-- a reader: the letters that it takes, where it writes, what it tells -/
def Rd (l : List (Int32 → Bool)) (f : Nat → Int32) (ar : Nat → Nat → Int32) (r lo hi : Nat) (X : Bool × (Nat → Int32) × (Nat → Nat → Int32)) (vs : List (Nat × Int32)) : Prop :=
  X.1 = decide (fitL l (tT f ar) r = l.length) ∧ X.2.1 = upd f 18 (nI (r + fitL l (tT f ar) r)) ∧ (∀ k, k ≠ 16 → X.2.2 k = ar k) ∧ (∀ i, i < lo ∨ hi ≤ i → X.2.2 16 i = ar 16 i) ∧ (fitL l (tT f ar) r = l.length → ∀ q ∈ vs, (lo ≤ q.1 ∧ q.1 < hi) ∧ X.2.2 16 q.1 = q.2)
theorem Rd.nil {f : Nat → Int32} {ar : Nat → Nat → Int32} {r lo hi : Nat} (h : f 18 = nI r) : Rd [] f ar r lo hi (true, f, ar) [] := ⟨rfl, (upd_id h).symm, fun _ _ => rfl, fun _ _ => rfl, fun _ q hq => absurd hq List.not_mem_nil⟩
theorem dec_b (b : Bool) : decide (b = true) = b := by cases b <;> rfl
theorem Rd.app {l1 l2 : List (Int32 → Bool)} {f : Nat → Int32} {ar : Nat → Nat → Int32} {r lo m hi : Nat} {X Y : Bool × (Nat → Int32) × (Nat → Nat → Int32)} {v1 v2 : List (Nat × Int32)} (h1 : Rd l1 f ar r lo m X v1) (h2 : X.2.1 18 = nI (r + l1.length) → tT X.2.1 X.2.2 = tT f ar → Rd l2 X.2.1 X.2.2 (r + l1.length) m hi Y v2) (hl : lo ≤ m) (hm : m ≤ hi) : Rd (l1 ++ l2) f ar r lo hi (if X.1 = true then Y else (false, X.2.1, X.2.2)) (v1 ++ v2) := by
  obtain ⟨a1, a2, a3, a4, a5⟩ := h1
  have hT : tT X.2.1 X.2.2 = tT f ar := tT_eq (by rw [a2]; rfl) (a3 13 (by decide))
  unfold Rd
  rw [fitL_app, List.length_append]
  by_cases c : fitL l1 (tT f ar) r = l1.length
  · have hx : X.1 = true := by rw [a1, decide_eq_true c]
    have h18 : X.2.1 18 = nI (r + l1.length) := by rw [a2, c]; rfl
    obtain ⟨b1, b2, b3, b4, b5⟩ := h2 h18 hT
    rw [hT] at b1 b2 b5
    rw [if_pos hx, if_pos c]
    refine ⟨?_, ?_, fun k hk => (b3 k hk).trans (a3 k hk), fun i hi => ?_, fun hc q hq => ?_⟩
    · rw [b1]
      congr 1
      exact propext ⟨fun h => by omega, fun h => by omega⟩
    · rw [b2, a2, upd_2, Nat.add_assoc]
    · rw [b4 i (by omega), a4 i (by omega)]
    · rcases List.mem_append.mp hq with hq | hq
      · have := a5 c q hq
        exact ⟨⟨this.1.1, by omega⟩, (b4 q.1 (Or.inl this.1.2)).trans this.2⟩
      · have := b5 (by omega) q hq
        exact ⟨⟨by omega, this.1.2⟩, this.2⟩
  · have hx : ¬ X.1 = true := by rw [a1, decide_eq_false c]; exact Bool.false_ne_true
    have hle := fitL_le (tT f ar) l1 r
    rw [if_neg hx, if_neg c]
    refine ⟨?_, a2, a3, fun i hi => a4 i (by omega), fun hc => by omega⟩
    rw [decide_eq_false (by omega)]
theorem Rd.congr {l : List (Int32 → Bool)} {f : Nat → Int32} {ar : Nat → Nat → Int32} {r lo hi : Nat} {X Y : Bool × (Nat → Int32) × (Nat → Nat → Int32)} {vs : List (Nat × Int32)} (h : Rd l f ar r lo hi X vs) (e : Y = X) : Rd l f ar r lo hi Y vs := e ▸ h
theorem Rd.wide {l : List (Int32 → Bool)} {f : Nat → Int32} {ar : Nat → Nat → Int32} {r lo hi lo1 hi1 : Nat} {X : Bool × (Nat → Int32) × (Nat → Nat → Int32)} {vs : List (Nat × Int32)} (h : Rd l f ar r lo hi X vs) (h1 : lo1 ≤ lo) (h2 : hi ≤ hi1) : Rd l f ar r lo1 hi1 X vs := ⟨h.1, h.2.1, h.2.2.1, fun i hi => h.2.2.2.1 i (by omega), fun c q hq => ⟨⟨Nat.le_trans h1 (h.2.2.2.2 c q hq).1.1, Nat.lt_of_lt_of_le (h.2.2.2.2 c q hq).1.2 h2⟩, (h.2.2.2.2 c q hq).2⟩⟩
theorem Rd.vals {l : List (Int32 → Bool)} {f : Nat → Int32} {ar : Nat → Nat → Int32} {r lo hi : Nat} {X : Bool × (Nat → Int32) × (Nat → Nat → Int32)} {vs ws : List (Nat × Int32)} (h : Rd l f ar r lo hi X vs) (e : ∀ q ∈ ws, q ∈ vs) : Rd l f ar r lo hi X ws := ⟨h.1, h.2.1, h.2.2.1, h.2.2.2.1, fun c q hq => h.2.2.2.2 c q (e q hq)⟩
def cD (c : Int32) : Bool := sX7_isIn c 48 57
def cS (c : Int32) : Bool := decide (c = 43) || decide (c = 45)
def cE (c : Int32) : Bool := decide (c = 59)
def cP (c : Int32) : Bool := decide (0 ≤ sX7_personOf c)
def cK (c : Int32) : Bool := decide (0 ≤ sX7_driftOf c)
def cR (c : Int32) : Bool := decide (0 ≤ sX7_ruleOf c)
theorem x10 (x : Int32) : ((10 * 0) + x) - 48 = x - 48 := by rw [show (10 * 0 : Int32) = 0 by decide, Int32.zero_add]
theorem x11 (x y : Int32) : (x + y) - 48 = x + (y - 48) := by grind
theorem Rd_1 {f : Nat → Int32} {ar : Nat → Nat → Int32} {r q : Nat} {p : Int32} (h : f 18 = nI r) (hr : r < 1000) (hp : p.toNatClampNeg = q) : Rd [cD] f ar r q (q + 1) (sX7_readsDigits f ar p 1) [(q, tT f ar r - 48)] := by
  rw [rd_1, nx_T h (by omega), hp, x10]
  unfold Rd fitL fitL
  by_cases c : sX7_isIn (tT f ar r) 48 57 = true
  · have c' : cD (tT f ar r) = true := c
    rw [if_pos c, if_pos c']
    refine ⟨rfl, ?_, fun k hk => up2_ne hk, fun i hi => upd_ne (by omega), fun _ q1 hq => ?_⟩
    · show upd f 18 (f 18 + 1) = _
      rw [h, nI_1]
    · rw [List.mem_singleton] at hq
      subst hq
      exact ⟨⟨Nat.le_refl _, Nat.lt_succ_self _⟩, if_pos rfl⟩
  · have c' : ¬ cD (tT f ar r) = true := c
    rw [if_neg c, if_neg c']
    exact ⟨rfl, (upd_id h).symm, fun _ _ => rfl, fun _ _ => rfl, fun hc => absurd hc (by decide)⟩
theorem Rd_2 {f : Nat → Int32} {ar : Nat → Nat → Int32} {r q : Nat} {p : Int32} (h : f 18 = nI r) (hr : r < 1000) (hp : p.toNatClampNeg = q) : Rd [cD, cD] f ar r q (q + 1) (sX7_readsDigits f ar p 2) [(q, 10 * (tT f ar r - 48) + (tT f ar (r + 1) - 48))] := by
  have h1 : upd f 18 (f 18 + 1) 18 = nI (r + 1) := by show f 18 + 1 = _; rw [h, nI_1]
  have e1 : sX7_next (upd f 18 (f 18 + 1)) ar = tT f ar (r + 1) := (nx_T h1 (by omega)).trans (congrFun (tT_eq rfl rfl) _)
  rw [rd_2, nx_T h (by omega), e1, hp, x10, x11]
  unfold Rd fitL fitL fitL
  by_cases c : sX7_isIn (tT f ar r) 48 57 = true
  · have c' : cD (tT f ar r) = true := c
    rw [if_pos c, if_pos c']
    by_cases c2 : sX7_isIn (tT f ar (r + 1)) 48 57 = true
    · have c2' : cD (tT f ar (r + 1)) = true := c2
      rw [if_pos c2, if_pos c2']
      refine ⟨rfl, ?_, fun k hk => up2_ne hk, fun i hi => upd_ne (by omega), fun _ q1 hq => ?_⟩
      · show upd (upd f 18 (f 18 + 1)) 18 (f 18 + 1 + 1) = _
        rw [upd_2, h, nI_1, nI_1]
      · rw [List.mem_singleton] at hq
        subst hq
        exact ⟨⟨Nat.le_refl _, Nat.lt_succ_self _⟩, if_pos rfl⟩
    · have c2' : ¬ cD (tT f ar (r + 1)) = true := c2
      rw [if_neg c2, if_neg c2']
      refine ⟨rfl, ?_, fun _ _ => rfl, fun _ _ => rfl, fun hc => absurd hc (by decide)⟩
      show upd f 18 (f 18 + 1) = _
      rw [h, nI_1]
  · have c' : ¬ cD (tT f ar r) = true := c
    rw [if_neg c, if_neg c']
    exact ⟨rfl, (upd_id h).symm, fun _ _ => rfl, fun _ _ => rfl, fun hc => absurd hc (by decide)⟩
theorem Rd_K {f : Nat → Int32} {ar : Nat → Nat → Int32} {r q : Nat} {p : Int32} {g : Int32 → Int32} (h : f 18 = nI r) (hr : r < 1000) (hp : p.toNatClampNeg = q) : Rd [fun c => decide (0 ≤ g c)] f ar r q (q + 1) (sX7_readsKind f ar p (g (sX7_next f ar))) [(q, g (tT f ar r))] := by
  rw [nx_T h (by omega)]
  unfold sX7_readsKind Rd fitL fitL
  rw [hp]
  by_cases c : 0 ≤ g (tT f ar r)
  · rw [if_pos c, if_pos (decide_eq_true c)]
    refine ⟨rfl, ?_, fun k hk => up2_ne hk, fun i hi => upd_ne (by omega), fun _ q1 hq => ?_⟩
    · show upd f 18 (f 18 + 1) = _
      rw [h, nI_1]
    · rw [List.mem_singleton] at hq
      subst hq
      exact ⟨⟨Nat.le_refl _, Nat.lt_succ_self _⟩, if_pos rfl⟩
  · rw [if_neg c, if_neg (by show ¬ decide (0 ≤ g (tT f ar r)) = true; rw [decide_eq_false c]; exact Bool.false_ne_true)]
    exact ⟨rfl, (upd_id h).symm, fun _ _ => rfl, fun _ _ => rfl, fun hc => absurd (show 0 = 1 from hc) (by decide)⟩
