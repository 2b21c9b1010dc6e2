section zPW
variable {f : Nat → Int32} {ar : Nat → Nat → Int32}
/-- what is kept while a parlour is told -/
def kP (f : Nat → Int32) (ar : Nat → Nat → Int32) : Nat → Int32 := upd (upd (upd (upd (upd (savK (savK (savK (savK (savK (savK (savK (ar 20) (ar 1) 50 6) (ar 2) 56 5) (ar 3) 61 5) (ar 4) 66 5) (ar 5) 71 5) (ar 6) 76 5) (ar 7) 81 5) 86 (f 8)) 87 (f 9)) 88 (f 10)) 89 (f 11)) 90 (f 12)
theorem kP_0 {j : Nat} (h : j < 50) : kP f ar j = ar 20 j := by
  unfold kP
  rw [upd_ne (by omega), upd_ne (by omega), upd_ne (by omega), upd_ne (by omega), upd_ne (by omega), sv_n (by omega), sv_n (by omega), sv_n (by omega), sv_n (by omega), sv_n (by omega), sv_n (by omega), sv_n (by omega)]
theorem kP_1 {p : Nat} (hp : p < 6) : kP f ar (50 + p) = ar 1 p := by
  match p, hp with
  | 0, _ => rfl
  | 1, _ => rfl
  | 2, _ => rfl
  | 3, _ => rfl
  | 4, _ => rfl
  | 5, _ => rfl
  | p + 6, hp => exact absurd hp (by omega)
theorem kP_2 {p : Nat} (hp : p < 5) : kP f ar (56 + p) = ar 2 p := by
  match p, hp with
  | 0, _ => rfl
  | 1, _ => rfl
  | 2, _ => rfl
  | 3, _ => rfl
  | 4, _ => rfl
  | p + 5, hp => exact absurd hp (by omega)
theorem kP_3 {p : Nat} (hp : p < 5) : kP f ar (61 + p) = ar 3 p := by
  match p, hp with
  | 0, _ => rfl
  | 1, _ => rfl
  | 2, _ => rfl
  | 3, _ => rfl
  | 4, _ => rfl
  | p + 5, hp => exact absurd hp (by omega)
theorem kP_4 {p : Nat} (hp : p < 5) : kP f ar (66 + p) = ar 4 p := by
  match p, hp with
  | 0, _ => rfl
  | 1, _ => rfl
  | 2, _ => rfl
  | 3, _ => rfl
  | 4, _ => rfl
  | p + 5, hp => exact absurd hp (by omega)
theorem kP_5 {p : Nat} (hp : p < 5) : kP f ar (71 + p) = ar 5 p := by
  match p, hp with
  | 0, _ => rfl
  | 1, _ => rfl
  | 2, _ => rfl
  | 3, _ => rfl
  | 4, _ => rfl
  | p + 5, hp => exact absurd hp (by omega)
theorem kP_6 {p : Nat} (hp : p < 5) : kP f ar (76 + p) = ar 6 p := by
  match p, hp with
  | 0, _ => rfl
  | 1, _ => rfl
  | 2, _ => rfl
  | 3, _ => rfl
  | 4, _ => rfl
  | p + 5, hp => exact absurd hp (by omega)
theorem kP_7 {p : Nat} (hp : p < 5) : kP f ar (81 + p) = ar 7 p := by
  match p, hp with
  | 0, _ => rfl
  | 1, _ => rfl
  | 2, _ => rfl
  | 3, _ => rfl
  | 4, _ => rfl
  | p + 5, hp => exact absurd hp (by omega)
theorem pk1 : (∀ k : Nat, k ≠ 22 → k ≠ 23 → (sX7_passesAll_1k f ar).1 k = f k) ∧ (∀ k : Nat, k ≠ 20 → (sX7_passesAll_1k f ar).2 k = ar k) ∧ (sX7_passesAll_1k f ar).2 20 = kP f ar := by
  refine ⟨fun k h2 h3 => ?_, fun k h => ?_, ?_⟩
  · unfold sX7_passesAll_1k
    dsimp only
    by_cases c12 : k = 12
    · subst c12; rw [upd_eq]
    rw [upd_ne c12, upd_ne h3]
    by_cases c11 : k = 11
    · subst c11; rw [upd_eq]
    rw [upd_ne c11]
    by_cases c10 : k = 10
    · subst c10; rw [upd_eq]
    rw [upd_ne c10]
    by_cases c9 : k = 9
    · subst c9; rw [upd_eq]
    rw [upd_ne c9]
    by_cases c8 : k = 8
    · subst c8; rw [upd_eq]
    rw [upd_ne c8, upd_ne h2]
  · unfold sX7_passesAll_1k
    dsimp only
    rw [up2_ne h]
  · unfold sX7_passesAll_1k
    dsimp only
    rw [up2_eq]
    rfl
end zPW
