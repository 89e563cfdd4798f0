/-! part 61: pair of calls: same -/
def tN (D : Nat → Int32) (p : Nat) : Nat := (D (693 + 4 * p)).toNatClampNeg
def hF (D : Nat → Int32) (p : Nat) : Nat := (D (694 + 4 * p)).toNatClampNeg
def hT (D : Nat → Int32) (p : Nat) : Nat := (D (695 + 4 * p)).toNatClampNeg
def dst (D : Nat → Int32) (p q : Nat) : Nat := ((tN D p - tN D q) + (tN D q - tN D p)) / 3
def cl (D : Nat → Int32) (p q : Nat) : Bool := decide (D (692 + 4 * p) = D (692 + 4 * q) ∧ hF D q < hT D p + dst D p q ∧ hF D p < hT D q + dst D p q)
theorem dst_comm (D : Nat → Int32) (p q : Nat) : dst D p q = dst D q p := by unfold dst; rw [Nat.add_comm]
theorem cl_comm (D : Nat → Int32) (p q : Nat) : cl D p q = cl D q p := by
  unfold cl
  rw [dst_comm]
  congr 1
  exact propext ⟨fun h => ⟨h.1.symm, h.2.2, h.2.1⟩, fun h => ⟨h.1.symm, h.2.2, h.2.1⟩⟩
theorem n_absd {a b : Nat} (ha : a < 2 ^ 30) (hb : b < 2 ^ 30) : (if nI 0 ≤ nI a - nI b then nI a - nI b else nI 0 - (nI a - nI b)) = nI ((a - b) + (b - a)) := by
  by_cases h : b ≤ a
  · rw [pk_sub h, if_pos ((nI_leI (by decide) (by omega)).mpr (by omega)), show b - a = 0 by omega, Nat.add_zero]
  · have e : ¬ nI 0 ≤ nI a - nI b := Int32.not_le.mpr (by rw [nI_0]; exact pk_sneg hb (by omega))
    rw [if_neg e, nI_0, Int32.zero_sub, Int32.neg_sub, pk_sub (by omega), show a - b = 0 by omega, Nat.zero_add]
section TSA
variable {d l : Nat} {x : Nat → Int32} {M : tm_M} {D : Nat → Int32} {R : Nat}
def tm_hC (M : tm_M) (D : Nat → Int32) : Prop := (∀ p, p < 96 → M 16 p = D (692 + 4 * p) ∧ M 17 p = D (693 + 4 * p)) ∧ (∀ p, p < 96 → ∃ h, M 18 p = nI h ∧ h < 2500 ∧ D (694 + 4 * p) = nI (h / 100) ∧ D (695 + 4 * p) = nI (h % 100)) ∧ ∀ p, p < 96 → ∃ t : Nat, t ≤ 30 ∧ D (693 + 4 * p) = nI t
theorem tm_I_hC {k n X W R G T L : Nat} (hI : tm_I k M) (hK : tm_OKn (M 96) n X W R G T L) : tm_hC M (M 96) :=
  ⟨fun p hp => ⟨wA hI (tm_ph_if hp), wA hI (tm_ph_if hp)⟩, fun p hp => hI.1.2.2.2.1 p hp, fun p hp => hK.2.2.2.2.2.2.2.2.2.2.2.1.2 p hp⟩
theorem hC_v (h : tm_hC M D) {p : Nat} (hp : p < 96) : M 16 p = D (692 + 4 * p) ∧ M 17 p = nI (tN D p) ∧ D (693 + 4 * p) = nI (tN D p) ∧ tN D p ≤ 30 ∧ (∃ h, M 18 p = nI h ∧ h < 2500 ∧ h / 100 = hF D p ∧ h % 100 = hT D p) ∧ D (694 + 4 * p) = nI (hF D p) ∧ D (695 + 4 * p) = nI (hT D p) ∧ hF D p ≤ 25 ∧ hT D p < 100 := by
  obtain ⟨h1, h2, h3⟩ := h
  obtain ⟨t, t1, t2⟩ := h3 p hp
  obtain ⟨q, q1, q2, q3, q4⟩ := h2 p hp
  have e1 : tN D p = t := by unfold tN; rw [t2, nI_clamp (by omega)]
  have e2 : hF D p = q / 100 := by unfold hF; rw [q3, nI_clamp (by omega)]
  have e3 : hT D p = q % 100 := by unfold hT; rw [q4, nI_clamp (by omega)]
  rw [e1, e2, e3]
  exact ⟨(h1 p hp).1, (h1 p hp).2.trans t2, t2, t1, ⟨q, q1, q2, rfl, rfl⟩, q3, q4, by omega, by omega⟩
theorem m_clash (h : tm_hC M D) {p q : Nat} (hp : p < 96) (hq : q < 96) : tm_call d 68 [.ref 12, .int (nI p), .int (nI q)] (tm_GG l x) M = some (some (.int (if cl D p q = true then nI 1 else nI 0)), tm_GG l x, M) := by
  obtain ⟨a1, a2, -, a4, ⟨u, a5, a6, a7, a8⟩, -, -, -, -⟩ := hC_v h hp
  obtain ⟨b1, b2, -, b4, ⟨v, b5, b6, b7, b8⟩, -, -, -, -⟩ := hC_v h hq
  unfold cl
  rw [← a7, ← a8, ← b7, ← b8]
  have hd : dst D p q = ((tN D p - tN D q) + (tN D q - tN D p)) / 3 := rfl
  generalize dst D p q = ds at *
  generalize tN D p = tp at *
  generalize tN D q = tq at *
  have hds : ds ≤ 10 := by omega
  by_cases c1 : D (692 + 4 * p) = D (692 + 4 * q)
  · by_cases c2 : v / 100 < u % 100 + ds
    · by_cases c3 : u / 100 < v % 100 + ds
      · rw [decide_eq_true (And.intro c1 (And.intro c2 c3))]
        simp (disch := first | exact tm_inb_i (by omega) (by omega) | exact tm_cc rfl | exact tm_cat rfl | omega | exact nI_ne0 (by omega) (by omega) | exact nI_ne (by omega) (by omega) (by omega) | exact tm_cS (by omega) | assumption) only [n_X6_clash, e_al0, g_12_5, g_46_5, e_il1, e_il2, e_isub, en_mabs, e_iconst, e_idiv, e_is3i, e_is3r, e_is3u, g_12_4, g_46_4, e_ic_ne, g_12_6, g_46_6, e_irem, e_il3, e_iadd, e_ic_le, e_goto, e_gotow, en_zret0, en_zret1, en_zretb, al_16, al_17, al_18, al_50, al_51, al_52, kn_0, kn_1, kn_3, kn_100, b_X6_clash_84, b_X6_clash_85, Option.bind_some, Option.toList_some, Option.toList_none, List.cons_append, List.nil_append, z_0, nI_add, pk_mul, pk_sub, pk_div, n_mod, nI_clamp, nI_leI, nI_ltI, nI_eq, le_T, le_F, lt_T, lt_F, eq_T, eq_F, n_i0, n_i1, eq_self, not_true_eq_false, not_false_eq_true, Bool.false_eq_true, ↓reduceIte, if_true, if_false, tm_up_n, tm_up_s, tm_up_i, ite_self, true_and, and_true, false_and, and_false, n_ofN, Nat.reduceAdd, Nat.reduceMul, Nat.reduceSub, Nat.zero_add, a1, a2, a5, b1, b2, b5, n_absd, ← hd, c1]
      · rw [decide_eq_false (fun z => c3 z.2.2)]
        simp (disch := first | exact tm_inb_i (by omega) (by omega) | exact tm_cc rfl | exact tm_cat rfl | omega | exact nI_ne0 (by omega) (by omega) | exact nI_ne (by omega) (by omega) (by omega) | exact tm_cS (by omega) | assumption) only [n_X6_clash, e_al0, g_12_5, g_46_5, e_il1, e_il2, e_isub, en_mabs, e_iconst, e_idiv, e_is3i, e_is3r, e_is3u, g_12_4, g_46_4, e_ic_ne, g_12_6, g_46_6, e_irem, e_il3, e_iadd, e_ic_le, e_goto, e_gotow, en_zret0, en_zret1, en_zretb, al_16, al_17, al_18, al_50, al_51, al_52, kn_0, kn_1, kn_3, kn_100, b_X6_clash_84, b_X6_clash_85, Option.bind_some, Option.toList_some, Option.toList_none, List.cons_append, List.nil_append, z_0, nI_add, pk_mul, pk_sub, pk_div, n_mod, nI_clamp, nI_leI, nI_ltI, nI_eq, le_T, le_F, lt_T, lt_F, eq_T, eq_F, n_i0, n_i1, eq_self, not_true_eq_false, not_false_eq_true, Bool.false_eq_true, ↓reduceIte, if_true, if_false, tm_up_n, tm_up_s, tm_up_i, ite_self, true_and, and_true, false_and, and_false, n_ofN, Nat.reduceAdd, Nat.reduceMul, Nat.reduceSub, Nat.zero_add, a1, a2, a5, b1, b2, b5, n_absd, ← hd, c1]
    · rw [decide_eq_false (fun z => c2 z.2.1)]
      simp (disch := first | exact tm_inb_i (by omega) (by omega) | exact tm_cc rfl | exact tm_cat rfl | omega | exact nI_ne0 (by omega) (by omega) | exact nI_ne (by omega) (by omega) (by omega) | exact tm_cS (by omega) | assumption) only [n_X6_clash, e_al0, g_12_5, g_46_5, e_il1, e_il2, e_isub, en_mabs, e_iconst, e_idiv, e_is3i, e_is3r, e_is3u, g_12_4, g_46_4, e_ic_ne, g_12_6, g_46_6, e_irem, e_il3, e_iadd, e_ic_le, e_goto, e_gotow, en_zret0, en_zret1, en_zretb, al_16, al_17, al_18, al_50, al_51, al_52, kn_0, kn_1, kn_3, kn_100, b_X6_clash_84, b_X6_clash_85, Option.bind_some, Option.toList_some, Option.toList_none, List.cons_append, List.nil_append, z_0, nI_add, pk_mul, pk_sub, pk_div, n_mod, nI_clamp, nI_leI, nI_ltI, nI_eq, le_T, le_F, lt_T, lt_F, eq_T, eq_F, n_i0, n_i1, eq_self, not_true_eq_false, not_false_eq_true, Bool.false_eq_true, ↓reduceIte, if_true, if_false, tm_up_n, tm_up_s, tm_up_i, ite_self, true_and, and_true, false_and, and_false, n_ofN, Nat.reduceAdd, Nat.reduceMul, Nat.reduceSub, Nat.zero_add, a1, a2, a5, b1, b2, b5, n_absd, ← hd, c1]
  · rw [decide_eq_false (fun z => c1 z.1)]
    simp (disch := first | exact tm_inb_i (by omega) (by omega) | exact tm_cc rfl | exact tm_cat rfl | omega | exact nI_ne0 (by omega) (by omega) | exact nI_ne (by omega) (by omega) (by omega) | exact tm_cS (by omega) | assumption) only [n_X6_clash, e_al0, g_12_5, g_46_5, e_il1, e_il2, e_isub, en_mabs, e_iconst, e_idiv, e_is3i, e_is3r, e_is3u, g_12_4, g_46_4, e_ic_ne, g_12_6, g_46_6, e_irem, e_il3, e_iadd, e_ic_le, e_goto, e_gotow, en_zret0, en_zret1, en_zretb, al_16, al_17, al_18, al_50, al_51, al_52, kn_0, kn_1, kn_3, kn_100, b_X6_clash_84, b_X6_clash_85, Option.bind_some, Option.toList_some, Option.toList_none, List.cons_append, List.nil_append, z_0, nI_add, pk_mul, pk_sub, pk_div, n_mod, nI_clamp, nI_leI, nI_ltI, nI_eq, le_T, le_F, lt_T, lt_F, eq_T, eq_F, n_i0, n_i1, eq_self, not_true_eq_false, not_false_eq_true, Bool.false_eq_true, ↓reduceIte, if_true, if_false, tm_up_n, tm_up_s, tm_up_i, ite_self, true_and, and_true, false_and, and_false, n_ofN, Nat.reduceAdd, Nat.reduceMul, Nat.reduceSub, Nat.zero_add, a1, a2, a5, b1, b2, b5, n_absd, ← hd, c1]
theorem q_clash (hM : M 96 = D) {M0 : tm_M} (h : tm_hC M0 D) {r a b : Nat} (hr : r < 12) (ha : a < 8) (hb : b < 8) : tm_call d 232 [.ref 95, .int (nI r), .int (nI a), .int (nI b)] (tm_GG l x) M = some (some (.int (if cl D (8 * r + a) (8 * r + b) = true then nI 1 else nI 0)), tm_GG l x, M) := by
  obtain ⟨-, -, a3, a4, -, a6, a7, a8, a9⟩ := hC_v h (p := 8 * r + a) (by omega)
  obtain ⟨-, -, b3, b4, -, b6, b7, b8, b9⟩ := hC_v h (p := 8 * r + b) (by omega)
  have x0 : M 96 (692 + 32 * r + 4 * a) = D (692 + 4 * (8 * r + a)) := by rw [hM, show 692 + 32 * r + 4 * a = 692 + 4 * (8 * r + a) by omega]
  have x1 : M 96 (692 + 32 * r + 4 * a + 1) = nI (tN D (8 * r + a)) := by rw [hM, show 692 + 32 * r + 4 * a + 1 = 693 + 4 * (8 * r + a) by omega]; exact a3
  have x2 : M 96 (692 + 32 * r + 4 * a + 2) = nI (hF D (8 * r + a)) := by rw [hM, show 692 + 32 * r + 4 * a + 2 = 694 + 4 * (8 * r + a) by omega]; exact a6
  have x3 : M 96 (692 + 32 * r + 4 * a + 3) = nI (hT D (8 * r + a)) := by rw [hM, show 692 + 32 * r + 4 * a + 3 = 695 + 4 * (8 * r + a) by omega]; exact a7
  have y0 : M 96 (692 + 32 * r + 4 * b) = D (692 + 4 * (8 * r + b)) := by rw [hM, show 692 + 32 * r + 4 * b = 692 + 4 * (8 * r + b) by omega]
  have y1 : M 96 (692 + 32 * r + 4 * b + 1) = nI (tN D (8 * r + b)) := by rw [hM, show 692 + 32 * r + 4 * b + 1 = 693 + 4 * (8 * r + b) by omega]; exact b3
  have y2 : M 96 (692 + 32 * r + 4 * b + 2) = nI (hF D (8 * r + b)) := by rw [hM, show 692 + 32 * r + 4 * b + 2 = 694 + 4 * (8 * r + b) by omega]; exact b6
  have y3 : M 96 (692 + 32 * r + 4 * b + 3) = nI (hT D (8 * r + b)) := by rw [hM, show 692 + 32 * r + 4 * b + 3 = 695 + 4 * (8 * r + b) by omega]; exact b7
  unfold cl
  have hd : dst D (8 * r + a) (8 * r + b) = ((tN D (8 * r + a) - tN D (8 * r + b)) + (tN D (8 * r + b) - tN D (8 * r + a))) / 3 := rfl
  generalize dst D (8 * r + a) (8 * r + b) = ds at *
  generalize tN D (8 * r + a) = tp at *
  generalize tN D (8 * r + b) = tq at *
  generalize hF D (8 * r + a) = fa at *
  generalize hF D (8 * r + b) = fb at *
  generalize hT D (8 * r + a) = ta at *
  generalize hT D (8 * r + b) = tb at *
  have hds : ds ≤ 10 := by omega
  have hi1 : 692 + 32 * r + 4 * a + 3 < 1258 := by omega
  have hi2 : 692 + 32 * r + 4 * b + 3 < 1258 := by omega
  have main : ∀ v : Bool, decide (D (692 + 4 * (8 * r + a)) = D (692 + 4 * (8 * r + b)) ∧ fb < ta + ds ∧ fa < tb + ds) = v → tm_call d 232 [.ref 95, .int (nI r), .int (nI a), .int (nI b)] (tm_GG l x) M = some (some (.int (if v = true then nI 1 else nI 0)), tm_GG l x, M) := by
    intro v hv
    by_cases ct : tq < tp
    · have hds2 : ds = (tp - tq) / 3 := by omega
      by_cases c1 : D (692 + 4 * (8 * r + a)) = D (692 + 4 * (8 * r + b))
      · by_cases c2 : fb < ta + ds
        · by_cases c3 : fa < tb + ds
          · rw [decide_eq_true (And.intro c1 (And.intro c2 c3))] at hv
            subst hv
            simp (disch := first | exact tm_inb_i (by omega) (by omega) | exact tm_cc rfl | exact tm_cat rfl | omega | exact nI_ne0 (by omega) (by omega) | exact nI_ne (by omega) (by omega) (by omega) | exact tm_cS (by omega) | assumption) only [n_X12_clash, e_iconst, e_il1, e_imul, e_iadd, e_il2, e_is4i, e_is4r, e_is4u, e_il3, e_is5i, e_is5r, e_is5u, e_al0, g_95_0, e_il4, e_il5, e_ic_le, e_isub, e_goto, e_gotow, e_idiv, e_is6i, e_is6r, e_is6u, e_ic_ne, e_il6, en_zret0, en_zret1, en_zretb, al_96, kn_0, kn_1, kn_2, kn_3, kn_4, kn_32, kn_692, b_X12_clash_71, b_X12_clash_90, b_X12_clash_163, b_X12_clash_164, Option.bind_some, Option.toList_some, Option.toList_none, List.cons_append, List.nil_append, z_0, nI_add, pk_mul, pk_sub, pk_div, n_mod, nI_clamp, nI_leI, nI_ltI, nI_eq, le_T, le_F, lt_T, lt_F, eq_T, eq_F, n_i0, n_i1, eq_self, not_true_eq_false, not_false_eq_true, Bool.false_eq_true, ↓reduceIte, if_true, if_false, tm_up_n, tm_up_s, tm_up_i, ite_self, true_and, and_true, false_and, and_false, n_ofN, Nat.reduceAdd, Nat.reduceMul, Nat.reduceSub, Nat.zero_add, x0, x1, x2, x3, y0, y1, y2, y3, ← hds2, c1]
          · rw [decide_eq_false (fun z => c3 z.2.2)] at hv
            subst hv
            simp (disch := first | exact tm_inb_i (by omega) (by omega) | exact tm_cc rfl | exact tm_cat rfl | omega | exact nI_ne0 (by omega) (by omega) | exact nI_ne (by omega) (by omega) (by omega) | exact tm_cS (by omega) | assumption) only [n_X12_clash, e_iconst, e_il1, e_imul, e_iadd, e_il2, e_is4i, e_is4r, e_is4u, e_il3, e_is5i, e_is5r, e_is5u, e_al0, g_95_0, e_il4, e_il5, e_ic_le, e_isub, e_goto, e_gotow, e_idiv, e_is6i, e_is6r, e_is6u, e_ic_ne, e_il6, en_zret0, en_zret1, en_zretb, al_96, kn_0, kn_1, kn_2, kn_3, kn_4, kn_32, kn_692, b_X12_clash_71, b_X12_clash_90, b_X12_clash_163, b_X12_clash_164, Option.bind_some, Option.toList_some, Option.toList_none, List.cons_append, List.nil_append, z_0, nI_add, pk_mul, pk_sub, pk_div, n_mod, nI_clamp, nI_leI, nI_ltI, nI_eq, le_T, le_F, lt_T, lt_F, eq_T, eq_F, n_i0, n_i1, eq_self, not_true_eq_false, not_false_eq_true, Bool.false_eq_true, ↓reduceIte, if_true, if_false, tm_up_n, tm_up_s, tm_up_i, ite_self, true_and, and_true, false_and, and_false, n_ofN, Nat.reduceAdd, Nat.reduceMul, Nat.reduceSub, Nat.zero_add, x0, x1, x2, x3, y0, y1, y2, y3, ← hds2, c1]
        · rw [decide_eq_false (fun z => c2 z.2.1)] at hv
          subst hv
          simp (disch := first | exact tm_inb_i (by omega) (by omega) | exact tm_cc rfl | exact tm_cat rfl | omega | exact nI_ne0 (by omega) (by omega) | exact nI_ne (by omega) (by omega) (by omega) | exact tm_cS (by omega) | assumption) only [n_X12_clash, e_iconst, e_il1, e_imul, e_iadd, e_il2, e_is4i, e_is4r, e_is4u, e_il3, e_is5i, e_is5r, e_is5u, e_al0, g_95_0, e_il4, e_il5, e_ic_le, e_isub, e_goto, e_gotow, e_idiv, e_is6i, e_is6r, e_is6u, e_ic_ne, e_il6, en_zret0, en_zret1, en_zretb, al_96, kn_0, kn_1, kn_2, kn_3, kn_4, kn_32, kn_692, b_X12_clash_71, b_X12_clash_90, b_X12_clash_163, b_X12_clash_164, Option.bind_some, Option.toList_some, Option.toList_none, List.cons_append, List.nil_append, z_0, nI_add, pk_mul, pk_sub, pk_div, n_mod, nI_clamp, nI_leI, nI_ltI, nI_eq, le_T, le_F, lt_T, lt_F, eq_T, eq_F, n_i0, n_i1, eq_self, not_true_eq_false, not_false_eq_true, Bool.false_eq_true, ↓reduceIte, if_true, if_false, tm_up_n, tm_up_s, tm_up_i, ite_self, true_and, and_true, false_and, and_false, n_ofN, Nat.reduceAdd, Nat.reduceMul, Nat.reduceSub, Nat.zero_add, x0, x1, x2, x3, y0, y1, y2, y3, ← hds2, c1]
      · rw [decide_eq_false (fun z => c1 z.1)] at hv
        subst hv
        simp (disch := first | exact tm_inb_i (by omega) (by omega) | exact tm_cc rfl | exact tm_cat rfl | omega | exact nI_ne0 (by omega) (by omega) | exact nI_ne (by omega) (by omega) (by omega) | exact tm_cS (by omega) | assumption) only [n_X12_clash, e_iconst, e_il1, e_imul, e_iadd, e_il2, e_is4i, e_is4r, e_is4u, e_il3, e_is5i, e_is5r, e_is5u, e_al0, g_95_0, e_il4, e_il5, e_ic_le, e_isub, e_goto, e_gotow, e_idiv, e_is6i, e_is6r, e_is6u, e_ic_ne, e_il6, en_zret0, en_zret1, en_zretb, al_96, kn_0, kn_1, kn_2, kn_3, kn_4, kn_32, kn_692, b_X12_clash_71, b_X12_clash_90, b_X12_clash_163, b_X12_clash_164, Option.bind_some, Option.toList_some, Option.toList_none, List.cons_append, List.nil_append, z_0, nI_add, pk_mul, pk_sub, pk_div, n_mod, nI_clamp, nI_leI, nI_ltI, nI_eq, le_T, le_F, lt_T, lt_F, eq_T, eq_F, n_i0, n_i1, eq_self, not_true_eq_false, not_false_eq_true, Bool.false_eq_true, ↓reduceIte, if_true, if_false, tm_up_n, tm_up_s, tm_up_i, ite_self, true_and, and_true, false_and, and_false, n_ofN, Nat.reduceAdd, Nat.reduceMul, Nat.reduceSub, Nat.zero_add, x0, x1, x2, x3, y0, y1, y2, y3, ← hds2, c1]
    · have hds2 : ds = (tq - tp) / 3 := by omega
      by_cases c1 : D (692 + 4 * (8 * r + a)) = D (692 + 4 * (8 * r + b))
      · by_cases c2 : fb < ta + ds
        · by_cases c3 : fa < tb + ds
          · rw [decide_eq_true (And.intro c1 (And.intro c2 c3))] at hv
            subst hv
            simp (disch := first | exact tm_inb_i (by omega) (by omega) | exact tm_cc rfl | exact tm_cat rfl | omega | exact nI_ne0 (by omega) (by omega) | exact nI_ne (by omega) (by omega) (by omega) | exact tm_cS (by omega) | assumption) only [n_X12_clash, e_iconst, e_il1, e_imul, e_iadd, e_il2, e_is4i, e_is4r, e_is4u, e_il3, e_is5i, e_is5r, e_is5u, e_al0, g_95_0, e_il4, e_il5, e_ic_le, e_isub, e_goto, e_gotow, e_idiv, e_is6i, e_is6r, e_is6u, e_ic_ne, e_il6, en_zret0, en_zret1, en_zretb, al_96, kn_0, kn_1, kn_2, kn_3, kn_4, kn_32, kn_692, b_X12_clash_71, b_X12_clash_90, b_X12_clash_163, b_X12_clash_164, Option.bind_some, Option.toList_some, Option.toList_none, List.cons_append, List.nil_append, z_0, nI_add, pk_mul, pk_sub, pk_div, n_mod, nI_clamp, nI_leI, nI_ltI, nI_eq, le_T, le_F, lt_T, lt_F, eq_T, eq_F, n_i0, n_i1, eq_self, not_true_eq_false, not_false_eq_true, Bool.false_eq_true, ↓reduceIte, if_true, if_false, tm_up_n, tm_up_s, tm_up_i, ite_self, true_and, and_true, false_and, and_false, n_ofN, Nat.reduceAdd, Nat.reduceMul, Nat.reduceSub, Nat.zero_add, x0, x1, x2, x3, y0, y1, y2, y3, ← hds2, c1]
          · rw [decide_eq_false (fun z => c3 z.2.2)] at hv
            subst hv
            simp (disch := first | exact tm_inb_i (by omega) (by omega) | exact tm_cc rfl | exact tm_cat rfl | omega | exact nI_ne0 (by omega) (by omega) | exact nI_ne (by omega) (by omega) (by omega) | exact tm_cS (by omega) | assumption) only [n_X12_clash, e_iconst, e_il1, e_imul, e_iadd, e_il2, e_is4i, e_is4r, e_is4u, e_il3, e_is5i, e_is5r, e_is5u, e_al0, g_95_0, e_il4, e_il5, e_ic_le, e_isub, e_goto, e_gotow, e_idiv, e_is6i, e_is6r, e_is6u, e_ic_ne, e_il6, en_zret0, en_zret1, en_zretb, al_96, kn_0, kn_1, kn_2, kn_3, kn_4, kn_32, kn_692, b_X12_clash_71, b_X12_clash_90, b_X12_clash_163, b_X12_clash_164, Option.bind_some, Option.toList_some, Option.toList_none, List.cons_append, List.nil_append, z_0, nI_add, pk_mul, pk_sub, pk_div, n_mod, nI_clamp, nI_leI, nI_ltI, nI_eq, le_T, le_F, lt_T, lt_F, eq_T, eq_F, n_i0, n_i1, eq_self, not_true_eq_false, not_false_eq_true, Bool.false_eq_true, ↓reduceIte, if_true, if_false, tm_up_n, tm_up_s, tm_up_i, ite_self, true_and, and_true, false_and, and_false, n_ofN, Nat.reduceAdd, Nat.reduceMul, Nat.reduceSub, Nat.zero_add, x0, x1, x2, x3, y0, y1, y2, y3, ← hds2, c1]
        · rw [decide_eq_false (fun z => c2 z.2.1)] at hv
          subst hv
          simp (disch := first | exact tm_inb_i (by omega) (by omega) | exact tm_cc rfl | exact tm_cat rfl | omega | exact nI_ne0 (by omega) (by omega) | exact nI_ne (by omega) (by omega) (by omega) | exact tm_cS (by omega) | assumption) only [n_X12_clash, e_iconst, e_il1, e_imul, e_iadd, e_il2, e_is4i, e_is4r, e_is4u, e_il3, e_is5i, e_is5r, e_is5u, e_al0, g_95_0, e_il4, e_il5, e_ic_le, e_isub, e_goto, e_gotow, e_idiv, e_is6i, e_is6r, e_is6u, e_ic_ne, e_il6, en_zret0, en_zret1, en_zretb, al_96, kn_0, kn_1, kn_2, kn_3, kn_4, kn_32, kn_692, b_X12_clash_71, b_X12_clash_90, b_X12_clash_163, b_X12_clash_164, Option.bind_some, Option.toList_some, Option.toList_none, List.cons_append, List.nil_append, z_0, nI_add, pk_mul, pk_sub, pk_div, n_mod, nI_clamp, nI_leI, nI_ltI, nI_eq, le_T, le_F, lt_T, lt_F, eq_T, eq_F, n_i0, n_i1, eq_self, not_true_eq_false, not_false_eq_true, Bool.false_eq_true, ↓reduceIte, if_true, if_false, tm_up_n, tm_up_s, tm_up_i, ite_self, true_and, and_true, false_and, and_false, n_ofN, Nat.reduceAdd, Nat.reduceMul, Nat.reduceSub, Nat.zero_add, x0, x1, x2, x3, y0, y1, y2, y3, ← hds2, c1]
      · rw [decide_eq_false (fun z => c1 z.1)] at hv
        subst hv
        simp (disch := first | exact tm_inb_i (by omega) (by omega) | exact tm_cc rfl | exact tm_cat rfl | omega | exact nI_ne0 (by omega) (by omega) | exact nI_ne (by omega) (by omega) (by omega) | exact tm_cS (by omega) | assumption) only [n_X12_clash, e_iconst, e_il1, e_imul, e_iadd, e_il2, e_is4i, e_is4r, e_is4u, e_il3, e_is5i, e_is5r, e_is5u, e_al0, g_95_0, e_il4, e_il5, e_ic_le, e_isub, e_goto, e_gotow, e_idiv, e_is6i, e_is6r, e_is6u, e_ic_ne, e_il6, en_zret0, en_zret1, en_zretb, al_96, kn_0, kn_1, kn_2, kn_3, kn_4, kn_32, kn_692, b_X12_clash_71, b_X12_clash_90, b_X12_clash_163, b_X12_clash_164, Option.bind_some, Option.toList_some, Option.toList_none, List.cons_append, List.nil_append, z_0, nI_add, pk_mul, pk_sub, pk_div, n_mod, nI_clamp, nI_leI, nI_ltI, nI_eq, le_T, le_F, lt_T, lt_F, eq_T, eq_F, n_i0, n_i1, eq_self, not_true_eq_false, not_false_eq_true, Bool.false_eq_true, ↓reduceIte, if_true, if_false, tm_up_n, tm_up_s, tm_up_i, ite_self, true_and, and_true, false_and, and_false, n_ofN, Nat.reduceAdd, Nat.reduceMul, Nat.reduceSub, Nat.zero_add, x0, x1, x2, x3, y0, y1, y2, y3, ← hds2, c1]
  exact main _ rfl
end TSA
