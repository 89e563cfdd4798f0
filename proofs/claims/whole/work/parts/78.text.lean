/-! part 78: a text is taken -/
section TTX
variable {b b' : Nat → Int32} {z : Nat}
theorem cw_lo : ∀ (cs : List Int32) (c : Nat → Int32) (e i : Nat), i < e → cw c e cs i = c i := by
  intro cs
  induction cs with
  | nil => intro c e i _; rfl
  | cons a as ih => intro c e i h; rw [cw, ih _ _ _ (by omega), upd_n (by omega)]
theorem cw_at : ∀ (cs : List Int32) (c : Nat → Int32) (e i : Nat), i < cs.length → cw c e cs (e + i) = cs.getD i 0 := by
  intro cs
  induction cs with
  | nil => intro c e i h; exact absurd h (Nat.not_lt_zero _)
  | cons a as ih =>
    intro c e i h
    rw [cw]
    cases i with
    | zero => exact (cw_lo as (upd c e a) (e + 1) e (Nat.lt_succ_self e)).trans upd_s
    | succ i =>
      rw [show e + (i + 1) = (e + 1) + i by omega, ih _ _ _ (by simpa using h)]
      rfl
end TTX
