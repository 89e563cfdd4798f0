/-! part 78: a text is taken -/
section TTX
variable {b b' : Nat → Int32} {z : Nat}
theorem cw_lo : ∀ (cs : List Int32) (c : Nat → Int32) (e i : Nat), i < e → cw c e cs i = c i := by
  intro cs
  induction cs with
  | nil => intro c e i _; rfl
  | cons a as ih => intro c e i h; rw [cw, ih _ _ _ (by omega), upd_n (by omega)]
theorem cw_at : ∀ (cs : List Int32) (c : Nat → Int32) (e i : Nat), i < cs.length → cw c e cs (e + i) = cs.getD i 0 := by
  intro cs
  induction cs with
  | nil => intro c e i h; exact absurd h (Nat.not_lt_zero _)
  | cons a as ih =>
    intro c e i h
    rw [cw]
    cases i with
    | zero => exact (cw_lo as (upd c e a) (e + 1) e (Nat.lt_succ_self e)).trans upd_s
    | succ i =>
      rw [show e + (i + 1) = (e + 1) + i by omega, ih _ _ _ (by simpa using h)]
      rfl
theorem tm_W_T {M M' : tm_M} {D D' : Nat → Int32} {u : Nat} (hu : u < 2) (hW : tm_W M 0 D) (hM : ∀ c, c ≤ 34 → c ≠ 27 + 3 * u → c ≠ 28 + 3 * u → M' c = M c) (hD : ∀ q, q < 1258 → q ≠ 1076 + u → ¬ (1078 + 60 * u ≤ q ∧ q < 1138 + 60 * u) → D' q = D q) (hT : tm_wT M' 0 D' u) : tm_W M' 0 D' := by
  obtain ⟨hA, hB, hO, hH, hE, hT0, hT1, hN⟩ := hW
  have hm : ∀ c, c < 27 ∨ 32 < c → c ≤ 34 → M' (c + 0) = M (c + 0) := fun c a b => hM c b (by omega) (by omega)
  refine ⟨fun c i q hq => ?_, ?_, ?_, ?_, ?_, ?_, ?_, ?_⟩
  · obtain ⟨z1, z2, z3, z4⟩ := tm_phq hq
    have hc : c < 27 ∨ 32 < c := by
      rcases (by omega : c < 27 ∨ 32 < c ∨ c = 27 ∨ c = 28 ∨ c = 29 ∨ c = 30 ∨ c = 31 ∨ c = 32) with h | h | h | h | h | h | h | h
      · exact Or.inl h
      · exact Or.inr h
      all_goals (subst h; cases hq)
    have hc4 : c ≤ 34 := by
      rcases (by omega : c ≤ 34 ∨ 34 < c) with h | h
      · exact h
      · exfalso
        unfold tm_ph at hq
        split at hq <;> first | omega | cases hq
    rw [hD q (by omega) (by omega) (by omega), hm c hc hc4]
    exact hA _ _ _ hq
  · unfold tm_wB
    rw [hm 2 (by omega) (by omega)]
    obtain ⟨b, b1, b2, b3⟩ := hB
    exact ⟨b, b1, b2, fun m hm => by rw [hD _ (by omega) (by omega) (by omega)]; exact b3 m hm⟩
  · unfold tm_wO
    rw [hm 1 (by omega) (by omega)]
    obtain ⟨b, b1, b2, b3⟩ := hO
    exact ⟨b, b1, b2, fun m hm => by rw [hD _ (by omega) (by omega) (by omega)]; exact b3 m hm⟩
  · unfold tm_wH
    rw [hm 18 (by omega) (by omega)]
    intro j hj
    rw [hD _ (by omega) (by omega) (by omega), hD _ (by omega) (by omega) (by omega)]
    exact hH j hj
  · intro j hj
    rw [hD _ (by omega) (by omega) (by omega), hm 33 (by omega) (by omega)]
    exact hE j hj
  · rcases (by omega : u = 0 ∨ u = 1) with rfl | rfl
    · exact hT
    · exact tm_wT_D (hD _ (by omega) (by omega) (by omega)) (fun k hk => hD _ (by omega) (by omega) (by omega)) (tm_wT_cg (hM _ (by omega) (by omega) (by omega)) (hM _ (by omega) (by omega) (by omega)) hT0)
  · rcases (by omega : u = 0 ∨ u = 1) with rfl | rfl
    · exact tm_wT_D (hD _ (by omega) (by omega) (by omega)) (fun k hk => hD _ (by omega) (by omega) (by omega)) (tm_wT_cg (hM _ (by omega) (by omega) (by omega)) (hM _ (by omega) (by omega) (by omega)) hT1)
    · exact hT
  · obtain ⟨n, n1, n2, n3⟩ := hN
    exact ⟨n, by rw [hD _ (by omega) (by omega) (by omega)]; exact n1, n2, fun m a b => by rw [hD _ (by omega) (by omega) (by omega)]; exact n3 m a b⟩
end TTX
