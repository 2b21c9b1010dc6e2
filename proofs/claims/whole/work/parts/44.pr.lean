section zPR
variable {n m i : zP} {cf cf1 : Nat → Int32} {ca ca1 : Nat → Nat → Int32} {f f1 : Nat → Int32} {ar a1 : Nat → Nat → Int32}
/-- the class's shape for a first letter -/
def sc (b : Int32) : Nat := if b = 100 then 7 else if b = 110 then 9 else if b = 112 then 4 else if b = 114 then 8 else if b = 115 then 6 else if b = 119 then 5 else 0
theorem sc_at {j : Int32} : sX5_shapeAt cf ca j = sc (sX5_signAt cf ca j) := rfl

theorem shq_112 : ∀ (d : Nat) (g : Int32 → Bool), (shE 112)[d]? = some g → ∀ q : Nat, q < 256 → sX5_fits (sJ0_charAt_5068e 4 (nI d)) (nI q) = g (nI q)
  | d, g, hg, q, hq => by
    rw [show shE 112 = [cP, cD, cD, cD, cD, cD, cE] from rfl] at hg
    match d, hg with
    | 0, hg =>
      have e : cP = g := Option.some.inj hg
      rw [← e, show sJ0_charAt_5068e 4 (nI 0) = 80 by decide +kernel]
      exact (fi_a q hq).2.2.2.1
    | 1, hg =>
      have e : cD = g := Option.some.inj hg
      rw [← e, show sJ0_charAt_5068e 4 (nI 1) = 35 by decide +kernel]
      exact (fi_a q hq).1
    | 2, hg =>
      have e : cD = g := Option.some.inj hg
      rw [← e, show sJ0_charAt_5068e 4 (nI 2) = 35 by decide +kernel]
      exact (fi_a q hq).1
    | 3, hg =>
      have e : cD = g := Option.some.inj hg
      rw [← e, show sJ0_charAt_5068e 4 (nI 3) = 35 by decide +kernel]
      exact (fi_a q hq).1
    | 4, hg =>
      have e : cD = g := Option.some.inj hg
      rw [← e, show sJ0_charAt_5068e 4 (nI 4) = 35 by decide +kernel]
      exact (fi_a q hq).1
    | 5, hg =>
      have e : cD = g := Option.some.inj hg
      rw [← e, show sJ0_charAt_5068e 4 (nI 5) = 35 by decide +kernel]
      exact (fi_a q hq).1
    | 6, hg =>
      have e : cE = g := Option.some.inj hg
      rw [← e, show sJ0_charAt_5068e 4 (nI 6) = 59 by decide +kernel]
      exact (fi_a q hq).2.2.2.2.2
    | d + 7, hg => exact absurd hg (by simp)
theorem shq_119 : ∀ (d : Nat) (g : Int32 → Bool), (shE 119)[d]? = some g → ∀ q : Nat, q < 256 → sX5_fits (sJ0_charAt_5068e 5 (nI d)) (nI q) = g (nI q)
  | d, g, hg, q, hq => by
    rw [show shE 119 = [cS, cD, cD, cE] from rfl] at hg
    match d, hg with
    | 0, hg =>
      have e : cS = g := Option.some.inj hg
      rw [← e, show sJ0_charAt_5068e 5 (nI 0) = 43 by decide +kernel]
      exact (fi_a q hq).2.1
    | 1, hg =>
      have e : cD = g := Option.some.inj hg
      rw [← e, show sJ0_charAt_5068e 5 (nI 1) = 35 by decide +kernel]
      exact (fi_a q hq).1
    | 2, hg =>
      have e : cD = g := Option.some.inj hg
      rw [← e, show sJ0_charAt_5068e 5 (nI 2) = 35 by decide +kernel]
      exact (fi_a q hq).1
    | 3, hg =>
      have e : cE = g := Option.some.inj hg
      rw [← e, show sJ0_charAt_5068e 5 (nI 3) = 59 by decide +kernel]
      exact (fi_a q hq).2.2.2.2.2
    | d + 4, hg => exact absurd hg (by simp)
theorem shq_115 : ∀ (d : Nat) (g : Int32 → Bool), (shE 115)[d]? = some g → ∀ q : Nat, q < 256 → sX5_fits (sJ0_charAt_5068e 6 (nI d)) (nI q) = g (nI q)
  | d, g, hg, q, hq => by
    rw [show shE 115 = [cD, cS, cD, cD, cE] from rfl] at hg
    match d, hg with
    | 0, hg =>
      have e : cD = g := Option.some.inj hg
      rw [← e, show sJ0_charAt_5068e 6 (nI 0) = 35 by decide +kernel]
      exact (fi_a q hq).1
    | 1, hg =>
      have e : cS = g := Option.some.inj hg
      rw [← e, show sJ0_charAt_5068e 6 (nI 1) = 43 by decide +kernel]
      exact (fi_a q hq).2.1
    | 2, hg =>
      have e : cD = g := Option.some.inj hg
      rw [← e, show sJ0_charAt_5068e 6 (nI 2) = 35 by decide +kernel]
      exact (fi_a q hq).1
    | 3, hg =>
      have e : cD = g := Option.some.inj hg
      rw [← e, show sJ0_charAt_5068e 6 (nI 3) = 35 by decide +kernel]
      exact (fi_a q hq).1
    | 4, hg =>
      have e : cE = g := Option.some.inj hg
      rw [← e, show sJ0_charAt_5068e 6 (nI 4) = 59 by decide +kernel]
      exact (fi_a q hq).2.2.2.2.2
    | d + 5, hg => exact absurd hg (by simp)
theorem shq_100 : ∀ (d : Nat) (g : Int32 → Bool), (shE 100)[d]? = some g → ∀ q : Nat, q < 256 → sX5_fits (sJ0_charAt_5068e 7 (nI d)) (nI q) = g (nI q)
  | d, g, hg, q, hq => by
    rw [show shE 100 = [cK, cS, cD, cE] from rfl] at hg
    match d, hg with
    | 0, hg =>
      have e : cK = g := Option.some.inj hg
      rw [← e, show sJ0_charAt_5068e 7 (nI 0) = 68 by decide +kernel]
      exact (fi_a q hq).2.2.1
    | 1, hg =>
      have e : cS = g := Option.some.inj hg
      rw [← e, show sJ0_charAt_5068e 7 (nI 1) = 43 by decide +kernel]
      exact (fi_a q hq).2.1
    | 2, hg =>
      have e : cD = g := Option.some.inj hg
      rw [← e, show sJ0_charAt_5068e 7 (nI 2) = 35 by decide +kernel]
      exact (fi_a q hq).1
    | 3, hg =>
      have e : cE = g := Option.some.inj hg
      rw [← e, show sJ0_charAt_5068e 7 (nI 3) = 59 by decide +kernel]
      exact (fi_a q hq).2.2.2.2.2
    | d + 4, hg => exact absurd hg (by simp)
theorem shq_114 : ∀ (d : Nat) (g : Int32 → Bool), (shE 114)[d]? = some g → ∀ q : Nat, q < 256 → sX5_fits (sJ0_charAt_5068e 8 (nI d)) (nI q) = g (nI q)
  | d, g, hg, q, hq => by
    rw [show shE 114 = [cR, cD, cD, cD, cE] from rfl] at hg
    match d, hg with
    | 0, hg =>
      have e : cR = g := Option.some.inj hg
      rw [← e, show sJ0_charAt_5068e 8 (nI 0) = 82 by decide +kernel]
      exact (fi_a q hq).2.2.2.2.1
    | 1, hg =>
      have e : cD = g := Option.some.inj hg
      rw [← e, show sJ0_charAt_5068e 8 (nI 1) = 35 by decide +kernel]
      exact (fi_a q hq).1
    | 2, hg =>
      have e : cD = g := Option.some.inj hg
      rw [← e, show sJ0_charAt_5068e 8 (nI 2) = 35 by decide +kernel]
      exact (fi_a q hq).1
    | 3, hg =>
      have e : cD = g := Option.some.inj hg
      rw [← e, show sJ0_charAt_5068e 8 (nI 3) = 35 by decide +kernel]
      exact (fi_a q hq).1
    | 4, hg =>
      have e : cE = g := Option.some.inj hg
      rw [← e, show sJ0_charAt_5068e 8 (nI 4) = 59 by decide +kernel]
      exact (fi_a q hq).2.2.2.2.2
    | d + 5, hg => exact absurd hg (by simp)
theorem shq_110 : ∀ (d : Nat) (g : Int32 → Bool), (shE 110)[d]? = some g → ∀ q : Nat, q < 256 → sX5_fits (sJ0_charAt_5068e 9 (nI d)) (nI q) = g (nI q)
  | d, g, hg, q, hq => by
    rw [show shE 110 = [cD, cD, cE] from rfl] at hg
    match d, hg with
    | 0, hg =>
      have e : cD = g := Option.some.inj hg
      rw [← e, show sJ0_charAt_5068e 9 (nI 0) = 35 by decide +kernel]
      exact (fi_a q hq).1
    | 1, hg =>
      have e : cD = g := Option.some.inj hg
      rw [← e, show sJ0_charAt_5068e 9 (nI 1) = 35 by decide +kernel]
      exact (fi_a q hq).1
    | 2, hg =>
      have e : cE = g := Option.some.inj hg
      rw [← e, show sJ0_charAt_5068e 9 (nI 2) = 59 by decide +kernel]
      exact (fi_a q hq).2.2.2.2.2
    | d + 3, hg => exact absurd hg (by simp)
theorem shp {b : Int32} (hb : hdP b) : sJ0_isEmpty_aae02 (sc b) = false ∧ sJ0_length_8abf5 (sc b) = nI (shE b).length ∧ ∀ (d : Nat) (g : Int32 → Bool), (shE b)[d]? = some g → ∀ q : Nat, q < 256 → sX5_fits (sJ0_charAt_5068e (sc b) (nI d)) (nI q) = g (nI q) := by
  unfold hdP at hb
  rcases hb with h | h | h | h | h | h <;> subst h
  · exact ⟨by decide +kernel, by decide +kernel, shq_112⟩
  · exact ⟨by decide +kernel, by decide +kernel, shq_119⟩
  · exact ⟨by decide +kernel, by decide +kernel, shq_115⟩
  · exact ⟨by decide +kernel, by decide +kernel, shq_100⟩
  · exact ⟨by decide +kernel, by decide +kernel, shq_114⟩
  · exact ⟨by decide +kernel, by decide +kernel, shq_110⟩
theorem shn {b : Int32} (hb : ¬ hdP b) : sJ0_isEmpty_aae02 (sc b) = true := by
  unfold hdP at hb
  have e : sc b = 0 := by
    unfold sc
    rw [if_neg (fun z => hb (by rw [z]; decide)), if_neg (fun z => hb (by rw [z]; decide)), if_neg (fun z => hb (by rw [z]; decide)), if_neg (fun z => hb (by rw [z]; decide)), if_neg (fun z => hb (by rw [z]; decide)), if_neg (fun z => hb (by rw [z]; decide))]
  rw [e]
  decide +kernel
end zPR
