/-! part 30: numbers as nI, rows for them -/
theorem z_0 : (0 : Int32) = nI 0 := nI_0.symm
theorem n_mod (a d : Nat) : a - a / d * d = a % d := by
  have h := Nat.div_add_mod' a d
  omega
theorem le_T {a b : Nat} (h : a ≤ b) : (a ≤ b) = True := eq_true h
theorem le_F {a b : Nat} (h : b < a) : (a ≤ b) = False := eq_false (by omega)
theorem lt_T {a b : Nat} (h : a < b) : (a < b) = True := eq_true h
theorem lt_F {a b : Nat} (h : b ≤ a) : (a < b) = False := eq_false (by omega)
theorem eq_T {a b : Nat} (h : a = b) : (a = b) = True := eq_true h
theorem eq_F {a b : Nat} (h : a ≠ b) : (a = b) = False := eq_false h
theorem nI_ne {a b : Nat} (h : a ≠ b) (ha : a < 2 ^ 31) (hb : b < 2 ^ 31) : ¬ nI a = nI b := fun q => h ((nI_eq ha hb).mp q)
theorem n_i0 {c : Prop} [Decidable c] : ((if c then nI 1 else nI 0) = nI 0) = ¬ c := by
  by_cases h : c
  · rw [if_pos h]; exact propext ⟨fun q => absurd q (nI_ne (by decide) (by decide) (by decide)), fun q => absurd h q⟩
  · rw [if_neg h]; exact propext ⟨fun _ => h, fun _ => rfl⟩
theorem n_i1 {c : Prop} [Decidable c] : ((if c then nI 1 else nI 0) = nI 1) = c := by
  by_cases h : c
  · rw [if_pos h]; exact propext ⟨fun _ => h, fun _ => rfl⟩
  · rw [if_neg h]; exact propext ⟨fun q => absurd q (nI_ne (by decide) (by decide) (by decide)), fun q => absurd q h⟩
theorem tm_cc {l k c : Nat} {x : Nat → Int32} (h : tm_isC (tm_GG 0 (fun _ => 0)) k c = true) : tm_isC (tm_GG l x) k c = true := h
theorem tm_cat {s : List Value} (h : Nat.ble ((s.map fun v => v.category).sum) 8 = true) : (s.map fun v => v.category).sum ≤ 8 := Nat.le_of_ble_eq_true h
theorem nI_surj {v : Int32} {b : Nat} (h0 : ¬ v < nI 0) (h1 : ¬ nI b < v) (hb : b < 2 ^ 31) : ∃ j, j ≤ b ∧ v = nI j := by
  rw [nI_0] at h0
  obtain ⟨j, hj, rfl⟩ := nI_of h0
  rw [nI_ltI hb hj] at h1
  exact ⟨j, by omega, rfl⟩
theorem rng (v : Int32) (a b : Nat) (ha : a < 2 ^ 31) (hb : b < 2 ^ 31) : ¬ (¬ v < nI a ∧ ¬ nI b < v) ∨ ∃ j, a ≤ j ∧ j ≤ b ∧ v = nI j := by
  by_cases h : ¬ v < nI a ∧ ¬ nI b < v
  · right
    have h1 : ¬ v < nI 0 := fun q => h.1 (Int32.lt_of_lt_of_le q ((nI_leI (by decide) ha).mpr (Nat.zero_le _)))
    obtain ⟨j, hj, rfl⟩ := nI_surj h1 h.2 hb
    have h2 := h.1
    rw [nI_ltI (by omega) ha] at h2
    exact ⟨j, by omega, hj, rfl⟩
  · exact Or.inl h
theorem rng1 (v : Int32) (R : Nat) (hR : R < 2 ^ 31) : ¬ (¬ v < nI 0 ∧ ¬ nI R - nI 1 < v) ∨ ∃ j, j < R ∧ v = nI j := by
  by_cases h : R = 0
  · subst h
    left
    rintro ⟨h1, h2⟩
    rw [nI_0] at h1 h2
    obtain ⟨j, hj, rfl⟩ := nI_of h1
    refine h2 (Int32.lt_iff_toInt_lt.mpr ?_)
    rw [nI_toInt hj]
    have : ((0 : Int32) - nI 1).toInt = -1 := by decide +kernel
    omega
  · rw [pk_sub (by omega : 1 ≤ R)]
    rcases rng v 0 (R - 1) (by decide) (by omega) with h1 | ⟨j, _, h2, h3⟩
    · exact Or.inl h1
    · exact Or.inr ⟨j, by omega, h3⟩
/-! rows -/
section TMN
variable {d : Nat} {is : List Instr} {L st : List Value} {G : tm_G} {M : tm_M}
theorem en_zret0 : tm_ev d (.freturn :: is) L [.int (nI 0)] G M = some (some (.int (nI 0)), G, M) := e_zret (Or.inl nI_0)
theorem en_zret1 : tm_ev d (.freturn :: is) L [.int (nI 1)] G M = some (some (.int (nI 1)), G, M) := e_zret (Or.inr (by decide +kernel))
theorem en_zretb {c : Prop} [Decidable c] : tm_ev d (.freturn :: is) L [.int (if c then nI 1 else nI 0)] G M = some (some (.int (if c then nI 1 else nI 0)), G, M) := by
  split
  · exact en_zret1
  · exact en_zret0
theorem en_mabs {x : Int32} (h : (st.map fun v => v.category).sum ≤ 8) : tm_ev d (.invokestatic 996 :: is) L (.int x :: st) G M = tm_ev d is L (.int (if nI 0 ≤ x then x else nI 0 - x) :: st) G M := by
  rw [e_mabs h, nI_0]
theorem sw_t {df lo hi : Int} {offs : Array Int} {v : Int32} {k : Nat} {q : Int} (hv : v = nI k) (hk : k < 2 ^ 31) (h1 : ¬ ((k : Int) < lo ∨ hi < (k : Int))) (h2 : offs[((k : Int) - lo).toNat]? = some q) : tm_ev d (.tableswitch df lo hi offs :: is) L (.int v :: st) G M = tm_ev d (tm_blk q.toNat) L st G M := by
  subst hv
  exact e_tsw (by rw [nI_toInt hk]; exact h1) (by rw [nI_toInt hk]; exact h2)
theorem sw_ne {v : Int32} {k : Nat} (hk : k < 2 ^ 31) (h : ¬ v = nI k) : v.toInt ≠ (k : Int) := by
  intro q
  apply h
  rw [← Int32.toInt_inj, q, nI_toInt hk]
end TMN
