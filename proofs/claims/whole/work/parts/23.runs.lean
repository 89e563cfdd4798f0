/-! part 91: the law runs, if what holds behind the constructors is kept by every pair of calls -/
set_option maxRecDepth 100000 in
theorem tm_GG_len : tm_SH.length ≤ 600000 ∧ (tm_SH.map (·.2)).sum ≤ 7302250 := by decide +kernel
theorem tm_runs (I : Nat → tm_M → Prop) (hup : ∀ k M, I k M → I (k + 1) M) (h0 : I 0 tm_MI) (hA : ∀ (l : Nat) (x : Nat → Int32), l ≤ 3072 → tm_AllPr I l x) : tm_LawRuns := by
  intro L xs hL
  obtain ⟨M2, h⟩ := tm_loop hup hL (hA L xs hL) (L + 6) 0 tm_MI h0 (by omega) (by omega)
  rw [show (nI (6 * 0)) = 0 from nI_0, ← tm_ctor] at h
  obtain ⟨n, hn⟩ := tm_ev_iff.mp h
  exact ⟨n, tm_GG L xs, M2, hn, tm_GG_len.1, tm_GG_len.2⟩
