/-! part 36: bits; several slots at once -/
theorem n_and (a b : Nat) : nI a &&& nI b = nI (a &&& b) := Int32.toBitVec_inj.mp (by show BitVec.ofNat 32 a &&& BitVec.ofNat 32 b = BitVec.ofNat 32 (a &&& b); exact BitVec.ofNat_and.symm)
theorem n_or (a b : Nat) : nI a ||| nI b = nI (a ||| b) := Int32.toBitVec_inj.mp (by show BitVec.ofNat 32 a ||| BitVec.ofNat 32 b = BitVec.ofNat 32 (a ||| b); exact BitVec.ofNat_or.symm)
theorem n_xor (a b : Nat) : nI a ^^^ nI b = nI (a ^^^ b) := Int32.toBitVec_inj.mp (by show BitVec.ofNat 32 a ^^^ BitVec.ofNat 32 b = BitVec.ofNat 32 (a ^^^ b); exact BitVec.ofNat_xor.symm)
theorem n_s31 : ∀ m, m < 31 → ((nI m &&& 31).toBitVec.smod 32).toNat = m := by decide +kernel
theorem n_shl1 {m : Nat} (h : m < 31) : nI 1 <<< (nI m &&& 31) = nI (2 ^ m) := by
  have h1 : ∀ m, m < 31 → nI 1 <<< (nI m &&& 31) = nI (2 ^ m) := by decide +kernel
  exact h1 m h
theorem n_shr {b m : Nat} (hb : b < 2 ^ 31) (h : m < 31) : nI b >>> (nI m &&& 31) = nI (b / 2 ^ m) := pk_shrN hb _ m (n_s31 m h)
theorem n_and1 (a : Nat) (h : a < 2 ^ 31) : nI a &&& nI 1 = nI (a % 2) := pk_andN (by omega) 1 (by decide +kernel)
theorem n_bit {b m : Nat} (hb : b < 2 ^ 31) (h : m < 31) : nI b >>> (nI m &&& 31) &&& nI 1 = if b.testBit m = true then nI 1 else nI 0 := by
  have h2 : b / 2 ^ m ≤ b := Nat.div_le_self _ _
  rw [n_shr hb h, n_and1 _ (by omega), Nat.testBit_eq_decide_div_mod_eq]
  by_cases q : b / 2 ^ m % 2 = 1
  · rw [q]; rfl
  · rw [show b / 2 ^ m % 2 = 0 by omega]; rfl
theorem upd_same {f : Nat → Int32} {q : Nat} {v : Int32} (h : f q = v) : upd f q v = f := by
  funext i
  by_cases e : i = q
  · subst e; rw [upd_s, h]
  · rw [upd_n e]
theorem tm_up_same {M : tm_M} {c i : Nat} {v : Int32} (h : M c i = v) : tm_up M c i v = M := by
  unfold tm_up
  rw [upd_same h]
  exact tm_uc_same _ _ _ rfl
theorem tm_wc_le {c : Nat} (q : tm_wc c = true) : 1 ≤ c ∧ c ≤ 34 := by
  unfold tm_wc at q
  have := of_decide_eq_true q
  omega
theorem tm_I_set {k : Nat} {M M1 M2 : tm_M} {D' : Nat → Int32} (hI : tm_I k M) (hW : tm_W M1 0 D') (hK : tm_OK D') (hfr : ∀ c, c = 0 ∨ 35 ≤ c → M1 c = M c) (h2 : M2 = tm_uc M1 96 D') : tm_I (k + 1) M2 := by
  subst h2
  refine tm_I_mk hI ?_ (by rw [tm_uc_at]; exact hK) (fun c' q1 q2 => ?_) ?_ ?_ ?_ ?_
  · rw [tm_uc_at]
    exact tm_W_cg (fun c' q1 => tm_uc_ne _ _ (by have := tm_wc_le q1; omega)) hW
  · have q3 : c' ≠ 95 := fun q => by subst q; exact q2 (by decide)
    rw [tm_uc_ne _ _ (by omega), hfr c' (by omega)]
  all_goals rw [tm_uc_ne _ _ (by omega), hfr _ (by omega)]
/-- another set of mats -/
theorem tm_W_B {M : tm_M} {o b : Nat} {D D' : Nat → Int32} (hW : tm_W M o D) (hb : b < 2 ^ 25) (h : ∀ m, m < 25 → D' (34 + m) = if b.testBit m = true then nI 1 else nI 0) (hn : ∀ q, q < 34 ∨ 59 ≤ q → D' q = D q) (hz : ∀ n m, D 0 = nI n → n ≤ 24 → n < m → m < 25 → D (34 + m) = nI 0 → D' (34 + m) = nI 0) : tm_W (tm_up M (2 + o) 2 (nI b)) o D' := by
  obtain ⟨hA, hB, hO, hH, hE, hT0, hT1, hN⟩ := hW
  have hc : ∀ c, c ≠ 2 → tm_up M (2 + o) 2 (nI b) (c + o) = M (c + o) := fun c q => tm_up_n (by omega)
  refine ⟨fun c i q hq => ?_, ⟨b, tm_up_s, hb, h⟩, ?_, ?_, ?_, ?_, ?_, ?_⟩
  · obtain ⟨z1, z2, z3, z4⟩ := tm_phq hq
    rw [hn q (by omega)]
    by_cases e : c = 2
    · subst e
      rw [tm_up_i (fun e => by subst e; cases hq)]
      exact hA _ _ _ hq
    · rw [hc c e]
      exact hA _ _ _ hq
  · unfold tm_wO
    rw [hc 1 (by decide)]
    obtain ⟨b, b1, b2, b3⟩ := hO
    exact ⟨b, b1, b2, fun m hm => by rw [hn _ (by omega)]; exact b3 m hm⟩
  · unfold tm_wH
    rw [hc 18 (by decide)]
    intro j hj
    rw [hn _ (by omega), hn _ (by omega)]
    exact hH j hj
  · unfold tm_wE
    rw [hc 33 (by decide)]
    intro j hj
    rw [hn _ (by omega)]
    exact hE j hj
  · have e1 : (fun k => D' (1078 + 60 * 0 + k)) = fun k => D (1078 + 60 * 0 + k) := funext fun k => hn _ (by omega)
    unfold tm_wT
    rw [hc (27 + 3 * 0) (by decide), hc (28 + 3 * 0) (by decide), e1, hn _ (by omega)]
    obtain ⟨z, y1, y2, y3, y4, y5⟩ := hT0
    exact ⟨z, y1, y2, y3, y4, fun k hk => by rw [hn _ (by omega)]; exact y5 k hk⟩
  · have e1 : (fun k => D' (1078 + 60 * 1 + k)) = fun k => D (1078 + 60 * 1 + k) := funext fun k => hn _ (by omega)
    unfold tm_wT
    rw [hc (27 + 3 * 1) (by decide), hc (28 + 3 * 1) (by decide), e1, hn _ (by omega)]
    obtain ⟨z, y1, y2, y3, y4, y5⟩ := hT1
    exact ⟨z, y1, y2, y3, y4, fun k hk => by rw [hn _ (by omega)]; exact y5 k hk⟩
  · obtain ⟨n, n1, n2, n3⟩ := hN
    exact ⟨n, by rw [hn _ (by omega)]; exact n1, n2, fun m a b => hz n m n1 n2 a b (n3 m a b)⟩
/-- hours of an entry -/
theorem tm_W_H {M : tm_M} {o i h : Nat} {D : Nat → Int32} (hW : tm_W M o D) (hi : i < 96) (hh : h < 2500) : tm_W (tm_up M (18 + o) i (nI h)) o (upd (upd D (694 + 4 * i) (nI (h / 100))) (695 + 4 * i) (nI (h % 100))) := by
  obtain ⟨hA, hB, hO, hH, hE, hT0, hT1, hN⟩ := hW
  have hc : ∀ c, c ≠ 18 → tm_up M (18 + o) i (nI h) (c + o) = M (c + o) := fun c q => tm_up_n (by omega)
  have hn : ∀ q, q ≠ 694 + 4 * i → q ≠ 695 + 4 * i → upd (upd D (694 + 4 * i) (nI (h / 100))) (695 + 4 * i) (nI (h % 100)) q = D q := fun q a b => by rw [upd_n b, upd_n a]
  refine ⟨fun c i' q hq => ?_, ?_, ?_, ?_, ?_, ?_, ?_, ?_⟩
  · obtain ⟨z1, z2, z3, z4⟩ := tm_phq hq
    rw [hn q (by omega) (by omega), hc c (fun e => by subst e; cases hq)]
    exact hA _ _ _ hq
  · unfold tm_wB
    rw [hc 2 (by decide)]
    obtain ⟨b, b1, b2, b3⟩ := hB
    exact ⟨b, b1, b2, fun m hm => by rw [hn _ (by omega) (by omega)]; exact b3 m hm⟩
  · unfold tm_wO
    rw [hc 1 (by decide)]
    obtain ⟨b, b1, b2, b3⟩ := hO
    exact ⟨b, b1, b2, fun m hm => by rw [hn _ (by omega) (by omega)]; exact b3 m hm⟩
  · intro j hj
    by_cases e : j = i
    · subst e
      exact ⟨h, tm_up_s, hh, by rw [upd_n (by omega), upd_s], upd_s⟩
    · rw [hn _ (by omega) (by omega), hn _ (by omega) (by omega), tm_up_i e]
      exact hH j hj
  · unfold tm_wE
    rw [hc 33 (by decide)]
    intro j hj
    rw [hn _ (by omega) (by omega)]
    exact hE j hj
  · have e1 : (fun k => upd (upd D (694 + 4 * i) (nI (h / 100))) (695 + 4 * i) (nI (h % 100)) (1078 + 60 * 0 + k)) = fun k => D (1078 + 60 * 0 + k) := funext fun k => hn _ (by omega) (by omega)
    unfold tm_wT
    rw [hc (27 + 3 * 0) (by decide), hc (28 + 3 * 0) (by decide), e1, hn _ (by omega) (by omega)]
    obtain ⟨z, y1, y2, y3, y4, y5⟩ := hT0
    exact ⟨z, y1, y2, y3, y4, fun k hk => by rw [hn _ (by omega) (by omega)]; exact y5 k hk⟩
  · have e1 : (fun k => upd (upd D (694 + 4 * i) (nI (h / 100))) (695 + 4 * i) (nI (h % 100)) (1078 + 60 * 1 + k)) = fun k => D (1078 + 60 * 1 + k) := funext fun k => hn _ (by omega) (by omega)
    unfold tm_wT
    rw [hc (27 + 3 * 1) (by decide), hc (28 + 3 * 1) (by decide), e1, hn _ (by omega) (by omega)]
    obtain ⟨z, y1, y2, y3, y4, y5⟩ := hT1
    exact ⟨z, y1, y2, y3, y4, fun k hk => by rw [hn _ (by omega) (by omega)]; exact y5 k hk⟩
  · obtain ⟨n, n1, n2, n3⟩ := hN
    exact ⟨n, by rw [hn _ (by omega) (by omega)]; exact n1, n2, fun m a b => by rw [hn _ (by omega) (by omega)]; exact n3 m a b⟩
theorem tm_up_uc (M : tm_M) (a j : Nat) (v : Int32) : tm_up M a j v = tm_uc M a (upd (M a) j v) := rfl
theorem tm_kW_s {D : Nat → Int32} {n W a b t e : Nat} (k : tm_kW D n W) (h1 : D (84 + 5 * W) = nI a) (h2 : D (85 + 5 * W) = nI b) (h3 : D (86 + 5 * W) = nI t) (h4 : D (88 + 5 * W) = nI e) (h5 : a < b) (h6 : b ≤ n) (h7 : 1 ≤ t) (h8 : t ≤ 300) (h9 : e ≤ 99) (h10 : e ≠ 0 → ∃ f : Nat, f ≤ 999 ∧ D (87 + 5 * W) = nI f) : tm_kW D n (W + 1) := by
  intro w hw
  by_cases q : w = W
  · subst q
    exact ⟨a, b, t, e, h1, h2, h3, h4, h5, h6, h7, h8, h9, h10⟩
  · exact k w (by omega)
theorem tm_kG_W {D : Nat → Int32} {n W R G W' R' : Nat} (hW : W ≤ W') (hR : R ≤ R') (k : tm_kG D n W R G) : tm_kG D n W' R' G := by
  intro g hg
  obtain ⟨kd, r, a, t, q1, q2, q3, q4, q5, q6, q7, q8, q9, q10, q11⟩ := k g hg
  refine ⟨kd, r, a, t, q1, q2, q3, by omega, q5, q6, q7, q8, q9, q10, fun z => ?_⟩
  obtain ⟨v, p1, p2, p3, p4, p5⟩ := q11 z
  exact ⟨v, p1, p2, p3, fun y => ⟨by have := (p4 y).1; omega, (p4 y).2⟩, fun y => by have := p5 y; omega⟩
section TMX
variable {d l : Nat} {M : tm_M} {x : Nat → Int32} {b m : Nat}
theorem m_hasMat (h : M 2 2 = nI b) (hb : b < 2 ^ 25) (hm : m < 25) : tm_call d 46 [.ref 2, .int (nI m)] (tm_GG l x) M = some (some (.int (if b.testBit m = true then nI 1 else nI 0)), tm_GG l x, M) := by
  by_cases q : b.testBit m = true <;> simp (disch := first | exact tm_inb_i (by omega) (by omega) | exact tm_cc rfl | exact tm_cat rfl | omega | exact nI_ne0 (by omega) (by omega) | exact nI_ne (by omega) (by omega) (by omega) | assumption) only [n_X5_hasMat, n_bit, e_al0, g_2_2, g_36_2, e_il1, e_ishr, e_iconst, e_iand, e_ic_ne, e_goto, e_gotow, en_zret0, en_zret1, en_zretb, kn_0, kn_1, b_X5_hasMat_16, b_X5_hasMat_17, Option.bind_some, Option.toList_some, Option.toList_none, List.cons_append, List.nil_append, z_0, nI_add, pk_mul, pk_sub, pk_div, n_mod, nI_clamp, nI_leI, nI_ltI, nI_eq, le_T, le_F, lt_T, lt_F, eq_T, eq_F, n_i0, n_i1, eq_self, not_true_eq_false, not_false_eq_true, Bool.false_eq_true, ↓reduceIte, if_true, if_false, tm_up_n, tm_up_s, tm_up_i, ite_self, true_and, and_true, false_and, and_false, h, q]
theorem m_isOff (h : M 1 7 = nI b) (hb : b < 2 ^ 12) (hm : m < 12) : tm_call d 91 [.ref 1, .int (nI m)] (tm_GG l x) M = some (some (.int (if b.testBit m = true then nI 1 else nI 0)), tm_GG l x, M) := by
  by_cases q : b.testBit m = true <;> simp (disch := first | exact tm_inb_i (by omega) (by omega) | exact tm_cc rfl | exact tm_cat rfl | omega | exact nI_ne0 (by omega) (by omega) | exact nI_ne (by omega) (by omega) (by omega) | assumption) only [n_X10_isOff, n_bit, e_al0, g_1_7, g_35_7, e_il1, e_ishr, e_iconst, e_iand, e_ic_ne, e_goto, e_gotow, en_zret0, en_zret1, en_zretb, kn_0, kn_1, b_X10_isOff_16, b_X10_isOff_17, Option.bind_some, Option.toList_some, Option.toList_none, List.cons_append, List.nil_append, z_0, nI_add, pk_mul, pk_sub, pk_div, n_mod, nI_clamp, nI_leI, nI_ltI, nI_eq, le_T, le_F, lt_T, lt_F, eq_T, eq_F, n_i0, n_i1, eq_self, not_true_eq_false, not_false_eq_true, Bool.false_eq_true, ↓reduceIte, if_true, if_false, tm_up_n, tm_up_s, tm_up_i, ite_self, true_and, and_true, false_and, and_false, h, q]
end TMX
