/-! part 91: the pair race -/
theorem tm_phr {c i q : Nat} (hq : tm_ph c i = some q) (h1 : c ≠ 1) (h34 : c ≠ 34) : q ≠ 2 ∧ q ≠ 7 ∧ (q < 368 ∨ 680 ≤ q) ∧ q < 1258 ∧ c ≠ 29 ∧ c ≤ 34 := by
  unfold tm_ph at hq
  split at hq
  all_goals first
    | (exfalso; omega)
    | (cases hq; done)
    | ((repeat' split at hq) <;> first | (cases hq; done) | (cases hq; omega))
theorem tm_W_R {M M' : tm_M} {D D' : Nat → Int32} (hW : tm_W M 0 D) (hM : ∀ c, c ≤ 34 → c ≠ 1 → c ≠ 34 → c ≠ 29 → M' c = M c) (h1 : ∀ j, j ≠ 7 → j ≠ 8 → j ≠ 9 → M' 1 j = M 1 j) (e8 : M' 1 8 = D' 7) (e9 : M' 1 9 = D' 2) (e34 : ∀ i, i < 300 → M' 34 i = D' (368 + i)) (hO' : tm_wO M' 0 D') (hD : ∀ q, q ≠ 2 → q ≠ 7 → q < 368 ∨ 680 ≤ q → D' q = D q) : tm_W M' 0 D' := by
  obtain ⟨hA, hB, hO, hH, hE, hT0, hT1, hN⟩ := hW
  refine ⟨fun c i q hq => ?_, ?_, hO', ?_, ?_, ?_, ?_, ?_⟩
  · by_cases c1 : c = 1
    · subst c1
      have hA1 := fun i q h => hA 1 i q h
      unfold tm_ph at hq
      simp only at hq
      split at hq
      · rename_i z; subst z; cases hq; exact (h1 5 (by decide) (by decide) (by decide)).trans ((hA1 5 6 rfl).trans (hD 6 (by decide) (by decide) (by decide)).symm)
      · split at hq
        · rename_i z; subst z; cases hq; exact e8
        · split at hq
          · rename_i z; subst z; cases hq; exact e9
          · split at hq
            · rename_i z; subst z; cases hq; exact (h1 10 (by decide) (by decide) (by decide)).trans ((hA1 10 8 rfl).trans (hD 8 (by decide) (by decide) (by decide)).symm)
            · cases hq
    · by_cases c34 : c = 34
      · subst c34
        unfold tm_ph at hq
        simp only at hq
        split at hq
        · rename_i z; cases hq; exact e34 i z
        · cases hq
      · obtain ⟨z1, z2, z3, z4, z5, z6⟩ := tm_phr hq c1 c34
        rw [hD q z1 z2 z3]
        exact (congrFun (hM c z6 c1 c34 z5) i).trans (hA c i q hq)
  · unfold tm_wB
    rw [hM (2 + 0) (by decide) (by decide) (by decide) (by decide)]
    obtain ⟨b, b1, b2, b3⟩ := hB
    exact ⟨b, b1, b2, fun m hm => by rw [hD _ (by omega) (by omega) (by omega)]; exact b3 m hm⟩
  · unfold tm_wH
    rw [hM (18 + 0) (by decide) (by decide) (by decide) (by decide)]
    intro j hj
    rw [hD _ (by omega) (by omega) (by omega), hD _ (by omega) (by omega) (by omega)]
    exact hH j hj
  · intro j hj
    rw [hD _ (by omega) (by omega) (by omega), hM (33 + 0) (by decide) (by decide) (by decide) (by decide)]
    exact hE j hj
  · exact tm_wT_D (hD _ (by omega) (by omega) (by omega)) (fun k hk => hD _ (by omega) (by omega) (by omega)) (tm_wT_cg (hM _ (by omega) (by omega) (by omega) (by omega)) (hM _ (by omega) (by omega) (by omega) (by omega)) hT0)
  · exact tm_wT_D (hD _ (by omega) (by omega) (by omega)) (fun k hk => hD _ (by omega) (by omega) (by omega)) (tm_wT_cg (hM _ (by omega) (by omega) (by omega) (by omega)) (hM _ (by omega) (by omega) (by omega) (by omega)) hT1)
  · obtain ⟨n, n1, n2, n3⟩ := hN
    exact ⟨n, by rw [hD _ (by omega) (by omega) (by omega)]; exact n1, n2, fun m a b => by rw [hD _ (by omega) (by omega) (by omega)]; exact n3 m a b⟩
section TPR
variable {l : Nat} {x : Nat → Int32}
/-- how a runner's going is told -/
def rP (l : Nat) (x D : Nat → Int32) (n G R r : Nat) (p : Bool × (Nat → Int32)) : Prop := r < R → okA p.2 ∧ (∀ N : tm_M, cV N D n G → N 14 r = D (145 + 2 * r) → ∃ N', tm_call (993 + 5) 26 [.ref 69, .int (nI r)] (tm_GG l x) N = some (none, tm_GG l x, N') ∧ N' 69 0 = bI p.1 ∧ (∀ m, m < 25 → N' 70 (r * 25 + m) = p.2 m) ∧ frF N N' r) ∧ ∀ N : tm_M, eQ N D → ∃ N', tm_call (949 + 49) 199 [.ref 95, .int (nI r)] (tm_GG l x) N = some (none, tm_GG l x, N') ∧ qF N' D r p.1 p.2 ∧ frR N N' r
theorem pr_race : tm_Pi tm_I l x 110 203 [] := by
  intro k M hk hI
  obtain ⟨n, X, W, R, G, T, L, hK, c0, c9, _, c4, c5, c6, _⟩ := tm_I_n hI
  obtain ⟨⟨k0, k01, k02⟩, ⟨k2, k22⟩, ⟨k3, k32⟩, ⟨k4, k42⟩, ⟨k5, k52⟩, k6, k8, kW, kR, kG, kH, kE, kZ⟩ := id hK
  have hE : eK (M 96) n W R G := ⟨kG, k02, k32, k42, k52, k0, k5⟩
  have hx : ∀ r, ∃ p : Bool × (Nat → Int32), rP l x (M 96) n G R r p := by
    intro r
    by_cases hr : r < R
    · obtain ⟨o, A, h1, h2, h3⟩ := runner_go (dc := 993) (dr := 949) (l := l) (x := x) hr hE kW kR k01
      exact ⟨(o, A), fun _ => ⟨h1, h2, h3⟩⟩
    · exact ⟨(false, fun _ => 0), fun z => absurd z hr⟩
  obtain ⟨F, hF⟩ : ∃ F : Nat → Bool × (Nat → Int32), ∀ r, rP l x (M 96) n G R r (F r) := ⟨fun r => Classical.choose (hx r), fun r => Classical.choose_spec (hx r)⟩
  unfold rP at hF
  obtain ⟨b, b1, b2, b3⟩ := hI.1.2.1
  -- the class
  have rf : tm_call 998 89 [.ref 1] (tm_GG l x) M = some (none, tm_GG l x, tm_up (tm_uc M 34 (tm_fil (-1) 0 300 (M 34))) 1 7 (nI 0)) := by
    simp (disch := first | exact tm_inb_i (by omega) (by omega) | exact tm_cc rfl | exact tm_cat rfl | omega | exact nI_ne0 (by omega) (by omega) | exact nI_ne (by omega) (by omega) (by omega) | exact tm_cS (by omega) | assumption) only [n_X10_forgetRace, e_al0, g_1_6, g_35_6, e_iconst, r_J7_fill_53178, p_1_7, p_35_7, e_vret, k_m1, kn_0, Option.bind_some, Option.toList_some, Option.toList_none, List.cons_append, List.nil_append, z_0, nI_add, pk_mul, pk_sub, pk_div, n_mod, nI_clamp, nI_leI, nI_ltI, nI_eq, le_T, le_F, lt_T, lt_F, eq_T, eq_F, n_i0, n_i1, eq_self, not_true_eq_false, not_false_eq_true, Bool.false_eq_true, ↓reduceIte, if_true, if_false, tm_up_n, tm_up_s, tm_up_i, ite_self, true_and, and_true, false_and, and_false, n_ofN, Nat.reduceAdd, Nat.reduceMul, Nat.reduceSub, Nat.zero_add, m_fill_34]
  have p0 : ∀ c, c ≠ 1 → c ≠ 34 → tm_up (tm_uc M 34 (tm_fil (-1) 0 300 (M 34))) 1 7 (nI 0) c = M c := fun c a1 a2 => by rw [tm_up_n a1, tm_uc_ne _ _ a2]
  have p1 : ∀ j, j ≠ 7 → tm_up (tm_uc M 34 (tm_fil (-1) 0 300 (M 34))) 1 7 (nI 0) 1 j = M 1 j := fun j a => by rw [tm_up_i a, tm_uc_ne _ _ (by decide)]
  have p34 : ∀ i, i < 300 → tm_up (tm_uc M 34 (tm_fil (-1) 0 300 (M 34))) 1 7 (nI 0) 34 i = -1 := fun i hi => by rw [tm_up_n (by decide), tm_uc_at]; exact fil_p ⟨by omega, hi⟩
  obtain ⟨Ma, Ba, e1, e2, e3, e4, e5, e6, e7⟩ := m_r1 (dc := 993) (l := l) (x := x) (D := M 96) (n := n) (R := R) (G := G) (A := fun r => (F r).2) (o := fun r => (F r).1) k42 (fun r hr => (hF r hr).2.1) R 0 0 (tm_up (tm_uc M 34 (tm_fil (-1) 0 300 (M 34))) 1 7 (nI 0)) (by omega) (cV_cg1 (fun c a1 a2 => p0 c (by omega) (by omega)) (cV_W hI c0 c5)) (fun r hr => by rw [p0 14 (by decide) (by decide)]; exact wA hI (tm_ph_if hr)) (by rw [p0 12 (by decide) (by decide)]; exact c4) tm_up_s (by decide) (fun i => by rw [Nat.zero_testBit]; rfl) (fun r' m a => by omega)
  have q34 : ∀ i, i < 300 → Ma 34 i = -1 := fun i hi => by rw [e6 34 (by decide) (by decide) (by decide) (by decide) (by decide) (by decide) (by decide)]; exact p34 i hi
  have q0 : ∀ c, c ≠ 1 → c ≠ 34 → c ≠ 29 → c ≠ 69 → c ≠ 70 → c ≠ 71 → c ≠ 72 → c ≠ 73 → Ma c = M c := fun c a1 a2 a3 a4 a5 a6 a7 a8 => (e6 c a1 a3 a4 a5 a6 a7 a8).trans (p0 c a1 a2)
  have hG1 := eG_W hI c5
  have hL : cL Ma (M 96) n R G b (fun r => (F r).2) := by
    refine ⟨⟨by rw [q0 20 (by decide) (by decide) (by decide) (by decide) (by decide) (by decide) (by decide) (by decide)]; exact hG1.1, fun g hg => ?_⟩, by rw [q0 2 (by decide) (by decide) (by decide) (by decide) (by decide) (by decide) (by decide) (by decide)]; exact c0, by rw [q0 2 (by decide) (by decide) (by decide) (by decide) (by decide) (by decide) (by decide) (by decide)]; exact ⟨b1, b2⟩, fun m hm => ?_, e5⟩
    · rw [q0 21 (by decide) (by decide) (by decide) (by decide) (by decide) (by decide) (by decide) (by decide), q0 22 (by decide) (by decide) (by decide) (by decide) (by decide) (by decide) (by decide) (by decide), q0 23 (by decide) (by decide) (by decide) (by decide) (by decide) (by decide) (by decide) (by decide), q0 24 (by decide) (by decide) (by decide) (by decide) (by decide) (by decide) (by decide) (by decide), q0 25 (by decide) (by decide) (by decide) (by decide) (by decide) (by decide) (by decide) (by decide)]
      exact hG1.2 g hg
    · rw [q0 4 (by decide) (by decide) (by decide) (by decide) (by decide) (by decide) (by decide) (by decide)]
      exact wA hI (tm_ph_if hm)
  have c12 : Ma 12 0 = nI R := by rw [q0 12 (by decide) (by decide) (by decide) (by decide) (by decide) (by decide) (by decide) (by decide)]; exact c4
  have c19 : Ma 1 9 = nI X := by rw [e7 9 (by decide), p1 9 (by decide)]; exact c9
  obtain ⟨Mb, Bb, f1, f2, f3, f4, f5, f6, f7, f8, f9⟩ := m_r2 (d := 995) (l := l) (x := x) (o := fun r => (F r).1) hE k22 R 0 0 Ba Ma (by omega) (by omega) hL c12 e2 e3 (fun i => by rw [e4 i, if_neg (Nat.not_lt_zero _)]) c19 (fun s' m a => by omega) (fun s' m a1 a2 _ => q34 _ (by omega))
  rw [Nat.zero_add] at f1
  generalize hcn : cnf (rG (M 96) b (fun r => (F r).2) G n X (fun r => (F r).1)) R 0 = cn at f1
  have cnle : cn ≤ 12 := by rw [← hcn]; have := cnf_le (rG (M 96) b (fun r => (F r).2) G n X (fun r => (F r).1)) R 0; omega
  have r1 : tm_call 999 110 [.ref 0] (tm_GG l x) M = some (some (.int (nI cn)), tm_GG l x, tm_up Mb 1 8 (M 1 8 + nI 1)) := by
    have h8 : Mb 1 8 = M 1 8 := by rw [f9 8 (by decide) (by decide), e7 8 (by decide), p1 8 (by decide)]
    simp (disch := first | exact tm_inb_i (by omega) (by omega) | exact tm_cc rfl | exact tm_cat rfl | omega | exact nI_ne0 (by omega) (by omega) | exact nI_ne (by omega) (by omega) (by omega) | exact tm_cS (by omega) | assumption) only [n_X11_race, e_al0, g_0_0, r_X10_forgetRace, e_iconst, e_is1i, e_is1r, e_is1u, e_gotow, e_il1, g_1_1, g_35_1, g_12_0, g_46_0, e_ic_ge, g_0_2, r_X3_follow, g_69_0, e_if_eq, e_dupi, e_dupr, g_1_7, g_35_7, e_ishl, e_ior, p_1_7, p_35_7, e_ii1i, e_ii1r, e_ii1u, e_goto, e_is2i, e_is2r, e_is2u, e_il2, r_X3_listen, g_1_0, g_35_0, g_2_0, g_36_0, r_X10_minuteAt, e_if_lt, e_ii2i, e_ii2r, e_ii2u, g_1_8, g_35_8, e_iadd, p_1_8, p_35_8, e_iret, kn_0, kn_1, b_X11_race_56, b_X11_race_112, Option.bind_some, Option.toList_some, Option.toList_none, List.cons_append, List.nil_append, z_0, nI_add, pk_mul, pk_sub, pk_div, n_mod, nI_clamp, nI_leI, nI_ltI, nI_eq, le_T, le_F, lt_T, lt_F, eq_T, eq_F, n_i0, n_i1, eq_self, not_true_eq_false, not_false_eq_true, Bool.false_eq_true, ↓reduceIte, if_true, if_false, tm_up_n, tm_up_s, tm_up_i, ite_self, true_and, and_true, false_and, and_false, n_ofN, Nat.reduceAdd, Nat.reduceMul, Nat.reduceSub, Nat.zero_add, rf, e1]
    rw [b_X11_race_62]
    simp (disch := first | exact tm_inb_i (by omega) (by omega) | exact tm_cc rfl | exact tm_cat rfl | omega | exact nI_ne0 (by omega) (by omega) | exact nI_ne (by omega) (by omega) (by omega) | exact tm_cS (by omega) | assumption) only [e_al0, g_0_0, r_X10_forgetRace, e_iconst, e_is1i, e_is1r, e_is1u, e_gotow, e_il1, g_1_1, g_35_1, g_12_0, g_46_0, e_ic_ge, g_0_2, r_X3_follow, g_69_0, e_if_eq, e_dupi, e_dupr, g_1_7, g_35_7, e_ishl, e_ior, p_1_7, p_35_7, e_ii1i, e_ii1r, e_ii1u, e_goto, e_is2i, e_is2r, e_is2u, e_il2, r_X3_listen, g_1_0, g_35_0, g_2_0, g_36_0, r_X10_minuteAt, e_if_lt, e_ii2i, e_ii2r, e_ii2u, g_1_8, g_35_8, e_iadd, p_1_8, p_35_8, e_iret, kn_0, kn_1, b_X11_race_56, b_X11_race_112, Option.bind_some, Option.toList_some, Option.toList_none, List.cons_append, List.nil_append, z_0, nI_add, pk_mul, pk_sub, pk_div, n_mod, nI_clamp, nI_leI, nI_ltI, nI_eq, le_T, le_F, lt_T, lt_F, eq_T, eq_F, n_i0, n_i1, eq_self, not_true_eq_false, not_false_eq_true, Bool.false_eq_true, ↓reduceIte, if_true, if_false, tm_up_n, tm_up_s, tm_up_i, ite_self, true_and, and_true, false_and, and_false, n_ofN, Nat.reduceAdd, Nat.reduceMul, Nat.reduceSub, Nat.zero_add, f1]
    rw [b_X11_race_118]
    simp (disch := first | exact tm_inb_i (by omega) (by omega) | exact tm_cc rfl | exact tm_cat rfl | omega | exact nI_ne0 (by omega) (by omega) | exact nI_ne (by omega) (by omega) (by omega) | exact tm_cS (by omega) | assumption) only [e_al0, g_0_0, r_X10_forgetRace, e_iconst, e_is1i, e_is1r, e_is1u, e_gotow, e_il1, g_1_1, g_35_1, g_12_0, g_46_0, e_ic_ge, g_0_2, r_X3_follow, g_69_0, e_if_eq, e_dupi, e_dupr, g_1_7, g_35_7, e_ishl, e_ior, p_1_7, p_35_7, e_ii1i, e_ii1r, e_ii1u, e_goto, e_is2i, e_is2r, e_is2u, e_il2, r_X3_listen, g_1_0, g_35_0, g_2_0, g_36_0, r_X10_minuteAt, e_if_lt, e_ii2i, e_ii2r, e_ii2u, g_1_8, g_35_8, e_iadd, p_1_8, p_35_8, e_iret, kn_0, kn_1, b_X11_race_56, b_X11_race_112, Option.bind_some, Option.toList_some, Option.toList_none, List.cons_append, List.nil_append, z_0, nI_add, pk_mul, pk_sub, pk_div, n_mod, nI_clamp, nI_leI, nI_ltI, nI_eq, le_T, le_F, lt_T, lt_F, eq_T, eq_F, n_i0, n_i1, eq_self, not_true_eq_false, not_false_eq_true, Bool.false_eq_true, ↓reduceIte, if_true, if_false, tm_up_n, tm_up_s, tm_up_i, ite_self, true_and, and_true, false_and, and_false, n_ofN, Nat.reduceAdd, Nat.reduceMul, Nat.reduceSub, Nat.zero_add, h8]
  have t0 : ∀ c, c ≠ 1 → c ≠ 34 → c ≠ 29 → c ≠ 69 → c ≠ 70 → c ≠ 71 → c ≠ 72 → c ≠ 73 → tm_up Mb 1 8 (M 1 8 + nI 1) c = M c := fun c a1 a2 a3 a4 a5 a6 a7 a8 => by rw [tm_up_n a1, f8 c a1 a2]; exact q0 c a1 a2 a3 a4 a5 a6 a7 a8
  generalize hM1 : tm_up Mb 1 8 (M 1 8 + nI 1) = M1 at r1 t0
  -- the reference
  have t96 : M1 96 = M 96 := t0 96 (by decide) (by decide) (by decide) (by decide) (by decide) (by decide) (by decide) (by decide)
  obtain ⟨Mc, g1, g2, g3, g4, g5⟩ := q_r1 (dr := 949) (l := l) (x := x) (D := M 96) (R := R) (A := fun r => (F r).2) (o := fun r => (F r).1) k42 k4 (fun r hr => (hF r hr).2.2) R 0 M1 (by omega) (eQ_W hI t96 (t0 100 (by decide) (by decide) (by decide) (by decide) (by decide) (by decide) (by decide) (by decide))) (fun r' m a => by omega) (fun r' a => by omega)
  have u96 : Mc 96 = M 96 := (g4 96 (by decide) (by decide) (by decide) (by decide)).trans t96
  obtain ⟨Md, j1, j2, j3, j4, j5, j6, j7, j8⟩ := q_r2 (d := 995) (l := l) (x := x) (b := b) (A := fun r => (F r).2) (o := fun r => (F r).1) (X0 := X) hE k4 k22 R 0 0 Mc (by omega) (by omega) ⟨fun q _ _ => by rw [u96], b3, g2⟩ (by rw [u96]; exact k2) (fun i _ a => g3 i a) (fun s' m a => by omega) (fun s' m _ _ _ => by rw [u96]) (fun i a => by omega) (fun i _ _ => by rw [u96])
  rw [Nat.zero_add, hcn] at j1
  have j7' : Md 96 7 = M 96 7 := j3 7 (by decide) (by decide)
  have r2 : tm_call 999 203 [.ref 95] (tm_GG l x) M1 = some (some (.int (nI cn)), tm_GG l x, tm_up Md 96 7 (M 96 7 + nI 1)) := by
    simp (disch := first | exact tm_inb_i (by omega) (by omega) | exact tm_cc rfl | exact tm_cat rfl | omega | exact nI_ne0 (by omega) (by omega) | exact nI_ne (by omega) (by omega) (by omega) | exact tm_cS (by omega) | assumption) only [n_X12_race, e_iconst, e_is1i, e_is1r, e_is1u, e_gotow, e_il1, e_al0, g_95_0, e_ic_ge, r_X12_runs, e_ii1i, e_ii1r, e_ii1u, e_goto, e_is2i, e_is2r, e_is2u, e_il2, r_X12_hears, e_iadd, g_95_14, e_if_eq, r_X12_heardAt, e_if_lt, e_ii2i, e_ii2r, e_ii2u, e_dup2, e_dup2i, e_iret, al_96, as_96, al_103, as_103, kn_0, kn_1, kn_4, kn_7, kn_668, b_X12_race_64, b_X12_race_65, b_X12_race_85, b_X12_race_86, Option.bind_some, Option.toList_some, Option.toList_none, List.cons_append, List.nil_append, z_0, nI_add, pk_mul, pk_sub, pk_div, n_mod, nI_clamp, nI_leI, nI_ltI, nI_eq, le_T, le_F, lt_T, lt_F, eq_T, eq_F, n_i0, n_i1, eq_self, not_true_eq_false, not_false_eq_true, Bool.false_eq_true, ↓reduceIte, if_true, if_false, tm_up_n, tm_up_s, tm_up_i, ite_self, true_and, and_true, false_and, and_false, n_ofN, Nat.reduceAdd, Nat.reduceMul, Nat.reduceSub, Nat.zero_add, g1]
    rw [b_X12_race_23]
    simp (disch := first | exact tm_inb_i (by omega) (by omega) | exact tm_cc rfl | exact tm_cat rfl | omega | exact nI_ne0 (by omega) (by omega) | exact nI_ne (by omega) (by omega) (by omega) | exact tm_cS (by omega) | assumption) only [e_iconst, e_is1i, e_is1r, e_is1u, e_gotow, e_il1, e_al0, g_95_0, e_ic_ge, r_X12_runs, e_ii1i, e_ii1r, e_ii1u, e_goto, e_is2i, e_is2r, e_is2u, e_il2, r_X12_hears, e_iadd, g_95_14, e_if_eq, r_X12_heardAt, e_if_lt, e_ii2i, e_ii2r, e_ii2u, e_dup2, e_dup2i, e_iret, al_96, as_96, al_103, as_103, kn_0, kn_1, kn_4, kn_7, kn_668, b_X12_race_64, b_X12_race_65, b_X12_race_85, b_X12_race_86, Option.bind_some, Option.toList_some, Option.toList_none, List.cons_append, List.nil_append, z_0, nI_add, pk_mul, pk_sub, pk_div, n_mod, nI_clamp, nI_leI, nI_ltI, nI_eq, le_T, le_F, lt_T, lt_F, eq_T, eq_F, n_i0, n_i1, eq_self, not_true_eq_false, not_false_eq_true, Bool.false_eq_true, ↓reduceIte, if_true, if_false, tm_up_n, tm_up_s, tm_up_i, ite_self, true_and, and_true, false_and, and_false, n_ofN, Nat.reduceAdd, Nat.reduceMul, Nat.reduceSub, Nat.zero_add, j1]
    rw [b_X12_race_94]
    simp (disch := first | exact tm_inb_i (by omega) (by omega) | exact tm_cc rfl | exact tm_cat rfl | omega | exact nI_ne0 (by omega) (by omega) | exact nI_ne (by omega) (by omega) (by omega) | exact tm_cS (by omega) | assumption) only [e_iconst, e_is1i, e_is1r, e_is1u, e_gotow, e_il1, e_al0, g_95_0, e_ic_ge, r_X12_runs, e_ii1i, e_ii1r, e_ii1u, e_goto, e_is2i, e_is2r, e_is2u, e_il2, r_X12_hears, e_iadd, g_95_14, e_if_eq, r_X12_heardAt, e_if_lt, e_ii2i, e_ii2r, e_ii2u, e_dup2, e_dup2i, e_iret, al_96, as_96, al_103, as_103, kn_0, kn_1, kn_4, kn_7, kn_668, b_X12_race_64, b_X12_race_65, b_X12_race_85, b_X12_race_86, Option.bind_some, Option.toList_some, Option.toList_none, List.cons_append, List.nil_append, z_0, nI_add, pk_mul, pk_sub, pk_div, n_mod, nI_clamp, nI_leI, nI_ltI, nI_eq, le_T, le_F, lt_T, lt_F, eq_T, eq_F, n_i0, n_i1, eq_self, not_true_eq_false, not_false_eq_true, Bool.false_eq_true, ↓reduceIte, if_true, if_false, tm_up_n, tm_up_s, tm_up_i, ite_self, true_and, and_true, false_and, and_false, n_ofN, Nat.reduceAdd, Nat.reduceMul, Nat.reduceSub, Nat.zero_add, j7']
  refine ⟨nI cn, M1, tm_up Md 96 7 (M 96 7 + nI 1), r1, r2, ?_⟩
  -- the invariant
  have w0 : ∀ c, c ≠ 96 → c ≠ 103 → c ≠ 95 → c ≠ 99 → c ≠ 102 → tm_up Md 96 7 (M 96 7 + nI 1) c = M1 c := fun c a1 a2 a3 a4 a5 => by rw [tm_up_n a1, j8 c a1 a2, g4 c a3 a4 a5 a2]
  have wq : ∀ q, q ≠ 7 → tm_up Md 96 7 (M 96 7 + nI 1) 96 q = Md 96 q := fun q a => tm_up_i a
  have w95 : ∀ j, j < 5 ∨ 18 < j → tm_up Md 96 7 (M 96 7 + nI 1) 95 j = M 95 j := fun j hj => by rw [tm_up_n (by decide), j8 95 (by decide) (by decide), g5 j hj, t0 95 (by decide) (by decide) (by decide) (by decide) (by decide) (by decide) (by decide) (by decide)]
  have w7 : tm_up Md 96 7 (M 96 7 + nI 1) 96 7 = M 96 7 + nI 1 := tm_up_s
  generalize tm_up Md 96 7 (M 96 7 + nI 1) = M2 at *
  have hD : ∀ q, q ≠ 2 → q ≠ 7 → q < 368 ∨ 680 ≤ q → M2 96 q = M 96 q := fun q a1 a2 a3 => by rw [wq q a2]; exact j3 q a1 a3
  have hH1 : ∀ s m, s < R → m < n + 1 → M2 96 (368 + 25 * s + m) = rH (M 96) b (fun r => (F r).2) G n X (fun r => (F r).1) s m := fun s m a1 a2 => by rw [wq _ (by omega)]; exact j4 s m a1 a2
  have hH2 : ∀ s m, s < 12 → m < 25 → R ≤ s ∨ n < m → M2 96 (368 + 25 * s + m) = -1 := fun s m a1 a2 a3 => by rw [wq _ (by omega), j5 s m a1 a2 a3]; exact kZ.1 s m a1 a2 a3
  have hO1 : ∀ i, i < R → M2 96 (668 + i) = bI (rO (M 96) b (fun r => (F r).2) G n X (fun r => (F r).1) i) := fun i a1 => by rw [wq _ (by omega)]; exact j6 i a1
  have hO2 : ∀ i, R ≤ i → i < 12 → M2 96 (668 + i) = nI 0 := fun i a1 a2 => by rw [wq _ (by omega), j7 i a1 a2]; exact kZ.2 i a1 a2
  have hX2 : M2 96 2 = nI (rS (M 96) b (fun r => (F r).2) G n X (fun r => (F r).1) R) := by rw [wq _ (by decide)]; exact j2
  have v1 : ∀ j, M2 1 j = M1 1 j := fun j => by rw [w0 1 (by decide) (by decide) (by decide) (by decide) (by decide)]
  have v34 : ∀ i, M2 34 i = Mb 34 i := fun i => by rw [w0 34 (by decide) (by decide) (by decide) (by decide) (by decide), ← hM1, tm_up_n (by decide)]
  have m18 : M1 1 8 = M 1 8 + nI 1 := by rw [← hM1, tm_up_s]
  have m1j : ∀ j, j ≠ 8 → M1 1 j = Mb 1 j := fun j a => by rw [← hM1, tm_up_i a]
  refine tm_I_mk hI ?_ ?_ (fun c hc hs => ?_) ?_ (w95 2 (by decide)) (w95 3 (by decide)) (w95 23 (by decide))
  · refine tm_W_R hI.1 (fun c a1 a2 a3 a4 => ?_) (fun j a1 a2 a3 => ?_) ?_ ?_ (fun i hi => ?_) ⟨Bb, ?_, f3, fun s hs => ?_⟩ hD
    · rw [w0 c (by omega) (by omega) (by omega) (by omega) (by omega)]; exact t0 c a2 a3 a4 (by omega) (by omega) (by omega) (by omega) (by omega)
    · rw [v1, m1j j a2, f9 j a1 a3, e7 j a1, p1 j a1]
    · rw [v1, m18, w7, wA (c := 1) (i := 8) (q := 7) hI rfl]
    · rw [v1, m1j 9 (by decide), f5, hX2]
    · have ei : i = i / 25 * 25 + i % 25 := by omega
      have ei2 : 368 + i = 368 + 25 * (i / 25) + i % 25 := by omega
      rw [v34, ei2]
      by_cases q : i / 25 < R ∧ i % 25 < n + 1
      · rw [hH1 _ _ q.1 q.2, ← f6 _ _ q.1 q.2, ← ei]
      · rw [hH2 _ _ (by omega) (by omega) (by omega), ← f7 (i / 25) (i % 25) (by omega) (by omega) (by omega), ← ei]
    · show M2 1 7 = nI Bb
      rw [v1, m1j 7 (by decide), f2]
    · rw [f4 s]
      by_cases q : s < R
      · rw [if_pos q, hO1 s q]; rfl
      · rw [if_neg q, hO2 s (by omega) hs, decide_eq_false q]; rfl
  · refine ⟨n, rS (M 96) b (fun r => (F r).2) G n X (fun r => (F r).1) R, W, R, G, T, L, ⟨by rw [hD 0 (by decide) (by decide) (by decide)]; exact k0, k01, k02⟩, ⟨hX2, rS_lt k22 R⟩, ⟨by rw [hD 3 (by decide) (by decide) (by decide)]; exact k3, k32⟩, ⟨by rw [hD 4 (by decide) (by decide) (by decide)]; exact k4, k42⟩, ⟨by rw [hD 5 (by decide) (by decide) (by decide)]; exact k5, k52⟩, by rw [hD 6 (by decide) (by decide) (by decide)]; exact k6, by rw [hD 8 (by decide) (by decide) (by decide)]; exact k8, tm_kW_cg (fun q a1 a2 => hD q (by omega) (by omega) (by omega)) kW, tm_kR_cg (fun q a1 a2 => hD q (by omega) (by omega) (by omega)) kR, tm_kG_cg (fun q a1 a2 => hD q (by omega) (by omega) (by omega)) (fun v a => hD _ (by omega) (by omega) (by omega)) kG, fun i hi => ?_, tm_kE_cg (fun q a1 a2 => hD q (by omega) (by omega) (by omega)) kE, hH2, hO2⟩
    have ei2 : 368 + i = 368 + 25 * (i / 25) + i % 25 := by omega
    rw [ei2]
    by_cases q : i / 25 < R ∧ i % 25 < n + 1
    · rw [hH1 _ _ q.1 q.2]
      exact lis_ok hE q.1 (fun r hr => (hF r hr).1) (n + 1) 0 _ _ _ (by omega) (fun m _ => Or.inl rfl) (i % 25) (by omega)
    · rw [hH2 _ _ (by omega) (by omega) (by omega)]
      exact Or.inl rfl
  · rw [w0 c (by omega) (by rintro rfl; exact hs (by decide)) (by rintro rfl; exact hs (by decide)) (by rintro rfl; exact hs (by decide)) (by rintro rfl; exact hs (by decide))]
    exact t0 c (by omega) (by omega) (by omega) (by rintro rfl; exact hs (by decide)) (by rintro rfl; exact hs (by decide)) (by rintro rfl; exact hs (by decide)) (by rintro rfl; exact hs (by decide)) (by rintro rfl; exact hs (by decide))
  · rw [w0 79 (by decide) (by decide) (by decide) (by decide) (by decide), t0 79 (by decide) (by decide) (by decide) (by decide) (by decide) (by decide) (by decide) (by decide)]
end TPR
