/-! part 13: the interpreter without fuel, and its rows -/
theorem tm_mono1 : ∀ (n d : Nat) (is : List Instr) (L st : List Value) (G : tm_G) (M : tm_M) (z : Option Value × tm_G × tm_M), tm_run n d is L st G M = some z → tm_run (n + 1) d is L st G M = some z := by
  intro n
  induction n with
  | zero => intro d is L st G M z h; cases h
  | succ n ih =>
    intro d is L st G M z h
    cases is with
    | nil => cases h
    | cons i is =>
      rcases tm_run_cases h with ⟨st', h1, h2⟩ | ⟨lab, st', h1, h2⟩ | ⟨r0, h1, h2⟩ | ⟨y, as, rest, d', r1, G1, M1, h1, hd, h2, h3⟩ | ⟨L', st', G1, M1, h1, h2, h3⟩
      · rw [tm_run_cons, h1]; exact ih _ _ _ _ _ _ _ h2
      · rw [tm_run_cons, h1]; exact ih _ _ _ _ _ _ _ h2
      · rw [tm_run_cons, h1, h2]
      · subst hd
        rw [tm_run_cons, h1]
        simp only [ih _ _ _ _ _ _ _ h2]
        exact ih _ _ _ _ _ _ _ h3
      · rw [tm_run_cons, h1]
        simp only [h2]
        exact ih _ _ _ _ _ _ _ h3
theorem tm_mono {n k d : Nat} {is : List Instr} {L st : List Value} {G : tm_G} {M : tm_M} {z : Option Value × tm_G × tm_M} (h : tm_run n d is L st G M = some z) (hk : n ≤ k) : tm_run k d is L st G M = some z := by
  obtain ⟨j, rfl⟩ := Nat.le.dest hk
  induction j with
  | zero => exact h
  | succ j ih => exact tm_mono1 _ _ _ _ _ _ _ _ (ih (Nat.le_add_right _ _))
/-- what a run comes to, with fuel enough -/
noncomputable def tm_ev (d : Nat) (is : List Instr) (L st : List Value) (G : tm_G) (M : tm_M) : Option (Option Value × tm_G × tm_M) :=
  @dite _ (∃ z, ∃ n, tm_run n d is L st G M = some z) (Classical.propDecidable _) (fun h => some (Classical.choose h)) (fun _ => none)
theorem tm_ev_iff {d : Nat} {is : List Instr} {L st : List Value} {G : tm_G} {M : tm_M} {z : Option Value × tm_G × tm_M} : tm_ev d is L st G M = some z ↔ ∃ n, tm_run n d is L st G M = some z := by
  unfold tm_ev
  constructor
  · intro h
    split at h
    · rename_i hq
      cases h
      exact Classical.choose_spec hq
    · cases h
  · rintro ⟨n, h⟩
    have hq : ∃ z, ∃ n, tm_run n d is L st G M = some z := ⟨z, n, h⟩
    rw [dif_pos hq]
    obtain ⟨k, hk⟩ := Classical.choose_spec hq
    have h1 := tm_mono h (Nat.le_max_left n k)
    have h2 := tm_mono hk (Nat.le_max_right n k)
    exact congrArg some (Option.some.inj (h2.symm.trans h1))
theorem tm_ev_ext {d d' : Nat} {is is' : List Instr} {L L' st st' : List Value} {G G' : tm_G} {M M' : tm_M} (h : ∀ n, tm_run (n + 1) d is L st G M = tm_run n d' is' L' st' G' M') : tm_ev d is L st G M = tm_ev d' is' L' st' G' M' := by
  apply Option.ext
  intro z
  rw [tm_ev_iff, tm_ev_iff]
  constructor
  · rintro ⟨n, hn⟩
    cases n with
    | zero => cases hn
    | succ n => exact ⟨n, by rw [← h n]; exact hn⟩
  · rintro ⟨n, hn⟩
    exact ⟨n + 1, by rw [h n]; exact hn⟩
theorem tm_ev_stp {d : Nat} {i : Instr} {is : List Instr} {L L' st st' : List Value} {G G' : tm_G} {M M' : tm_M} (h1 : tm_ctl i st G = none) (h2 : tm_stp i L st G M = some (L', st', G', M')) : tm_ev d (i :: is) L st G M = tm_ev d is L' st' G' M' :=
  tm_ev_ext fun n => by rw [tm_run_cons, h1]; simp only [h2]
theorem tm_ev_fall {d : Nat} {i : Instr} {is : List Instr} {L st st' : List Value} {G : tm_G} {M : tm_M} (h1 : tm_ctl i st G = some (.inl (none, st'))) : tm_ev d (i :: is) L st G M = tm_ev d is L st' G M :=
  tm_ev_ext fun n => by rw [tm_run_cons, h1]
theorem tm_ev_jmp {d lab : Nat} {i : Instr} {is : List Instr} {L st st' : List Value} {G : tm_G} {M : tm_M} (h1 : tm_ctl i st G = some (.inl (some lab, st'))) : tm_ev d (i :: is) L st G M = tm_ev d (tm_blk lab) L st' G M :=
  tm_ev_ext fun n => by rw [tm_run_cons, h1]
theorem tm_ev_ret {d : Nat} {i : Instr} {is : List Instr} {L st : List Value} {G : tm_G} {M : tm_M} {r : Option Value} (h1 : tm_ctl i st G = some (.inr (.inl r))) : tm_ev d (i :: is) L st G M = some (r, G, M) :=
  tm_ev_iff.mpr ⟨1, by rw [tm_run_cons, h1]⟩
theorem tm_ev_call {d y : Nat} {i : Instr} {is : List Instr} {L st as rest : List Value} {G : tm_G} {M : tm_M} (h1 : tm_ctl i st G = some (.inr (.inr (y, as, rest)))) : tm_ev (d + 1) (i :: is) L st G M = (tm_ev d (tm_blk (y * 10000)) (tm_ent y as) [] G M).bind fun q => tm_ev (d + 1) is L (q.1.toList ++ rest) q.2.1 q.2.2 := by
  apply Option.ext
  intro z
  rw [Option.bind_eq_some_iff, tm_ev_iff]
  constructor
  · rintro ⟨n, hn⟩
    cases n with
    | zero => cases hn
    | succ n =>
      rw [tm_run_cons, h1] at hn
      simp only at hn
      split at hn
      · rename_i r G1 M1 hr
        exact ⟨(r, G1, M1), tm_ev_iff.mpr ⟨n, hr⟩, tm_ev_iff.mpr ⟨n, hn⟩⟩
      · cases hn
  · rintro ⟨⟨r, G1, M1⟩, h2, h3⟩
    obtain ⟨a, ha⟩ := tm_ev_iff.mp h2
    obtain ⟨b, hb⟩ := tm_ev_iff.mp h3
    refine ⟨max a b + 1, ?_⟩
    rw [tm_run_cons, h1]
    simp only [tm_mono ha (Nat.le_max_left a b)]
    exact tm_mono hb (Nat.le_max_right a b)
/-- a method, called -/
noncomputable def tm_call (d y : Nat) (as : List Value) (G : tm_G) (M : tm_M) : Option (Option Value × tm_G × tm_M) := tm_ev d (tm_blk (y * 10000)) (tm_ent y as) [] G M
