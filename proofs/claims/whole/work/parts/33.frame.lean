/-! part 33: what is kept when cells change -/
theorem tm_wT_cg {M M' : tm_M} {o u : Nat} {D : Nat → Int32} (h1 : M' (27 + 3 * u + o) = M (27 + 3 * u + o)) (h2 : M' (28 + 3 * u + o) = M (28 + 3 * u + o)) (h : tm_wT M o D u) : tm_wT M' o D u := by
  unfold tm_wT at *
  rw [h1, h2]
  exact h
theorem tm_W_cg {M M' : tm_M} {o : Nat} {D : Nat → Int32} (h : ∀ c, tm_wc c = true → M' (c + o) = M (c + o)) (hW : tm_W M o D) : tm_W M' o D := by
  obtain ⟨hA, hB, hO, hH, hE, hT0, hT1, hN⟩ := hW
  refine ⟨fun c i q hq => ?_, ?_, ?_, ?_, ?_, tm_wT_cg (h (27 + 3 * 0) rfl) (h (28 + 3 * 0) rfl) hT0, tm_wT_cg (h (27 + 3 * 1) rfl) (h (28 + 3 * 1) rfl) hT1, hN⟩
  · rw [h c (tm_phw hq)]; exact hA c i q hq
  · unfold tm_wB; rw [h 2 rfl]; exact hB
  · unfold tm_wO; rw [h 1 rfl]; exact hO
  · unfold tm_wH; rw [h 18 rfl]; exact hH
  · unfold tm_wE; rw [h 33 rfl]; exact hE
theorem tm_kW_cg {D D' : Nat → Int32} {n W : Nat} (h : ∀ q, 84 ≤ q → q < 84 + 5 * W → D' q = D q) (k : tm_kW D n W) : tm_kW D' n W := by
  intro w hw
  rw [h _ (by omega) (by omega), h _ (by omega) (by omega), h _ (by omega) (by omega), h _ (by omega) (by omega), h _ (by omega) (by omega)]
  exact k w hw
theorem tm_kR_cg {D D' : Nat → Int32} {R : Nat} (h : ∀ q, 144 ≤ q → q < 144 + 2 * R → D' q = D q) (k : tm_kR D R) : tm_kR D' R := by
  intro r hr
  rw [h _ (by omega) (by omega)]
  exact k r hr
theorem tm_kG1_cg {D D' : Nat → Int32} {n W R g : Nat} (h : ∀ q, 168 + 5 * g ≤ q → q < 173 + 5 * g → D' q = D q) (h2 : ∀ v, v < W → D' (84 + 5 * v) = D (84 + 5 * v)) (k : tm_kG1 D n W R g) : tm_kG1 D' n W R g := by
  unfold tm_kG1 at *
  rw [h _ (by omega) (by omega), h _ (by omega) (by omega), h _ (by omega) (by omega), h _ (by omega) (by omega), h _ (by omega) (by omega)]
  obtain ⟨kd, r, a, t, q1, q2, q3, q4, q5, q6, q7, q8, q9, q10, q11⟩ := k
  refine ⟨kd, r, a, t, q1, q2, q3, q4, q5, q6, q7, q8, q9, q10, fun z => ?_⟩
  obtain ⟨v, p1, p2, p3, p4, p5⟩ := q11 z
  refine ⟨v, p1, p2, p3, fun y => ?_, p5⟩
  rw [h2 v (p4 y).1]
  exact p4 y
theorem tm_kG_cg {D D' : Nat → Int32} {n W R G : Nat} (h : ∀ q, 168 ≤ q → q < 168 + 5 * G → D' q = D q) (h2 : ∀ v, v < W → D' (84 + 5 * v) = D (84 + 5 * v)) (k : tm_kG D n W R G) : tm_kG D' n W R G :=
  fun g hg => tm_kG1_cg (fun q q1 q2 => h q (by omega) (by omega)) h2 (k g hg)
theorem tm_kG_le {D : Nat → Int32} {n W R G G' : Nat} (h : G' ≤ G) (k : tm_kG D n W R G) : tm_kG D n W R G' := fun g hg => k g (by omega)
theorem tm_kH_cg {D D' : Nat → Int32} (h : ∀ q, 368 ≤ q → q < 668 → D' q = D q) (k : tm_kH D) : tm_kH D' := by
  intro i hi
  rw [h _ (by omega) (by omega)]
  exact k i hi
theorem tm_kE_cg {D D' : Nat → Int32} {R : Nat} (h : ∀ q, 680 ≤ q → q < 1076 → D' q = D q) (k : tm_kE D R) : tm_kE D' R := by
  refine ⟨fun r hr => ?_, fun i hi => ?_⟩
  · rw [h _ (by omega) (by omega)]; exact k.1 r hr
  · rw [h _ (by omega) (by omega)]; exact k.2 i hi
theorem tm_kZ_cg {D D' : Nat → Int32} {n R R' : Nat} (hR : R ≤ R') (h : ∀ q, 368 ≤ q → q < 680 → D' q = D q) (k : tm_kZ D n R) : tm_kZ D' n R' := by
  refine ⟨fun s m a b c => ?_, fun s a b => ?_⟩
  · rw [h _ (by omega) (by omega)]; exact k.1 s m a b (by omega)
  · rw [h _ (by omega) (by omega)]; exact k.2 s (by omega) b
/-- numbers that stand alone may change, goings may be forgotten -/
theorem tm_OK_mk {D D' : Nat → Int32} {n X W R G T L X' G' T' L' : Nat} (k : tm_OKn D n X W R G T L) (h84 : ∀ q, 84 ≤ q → q < 680 → D' q = D q) (h680 : ∀ q, 680 ≤ q → q < 1076 → D' q = D q) (e0 : D' 0 = D 0) (e2 : D' 2 = nI X') (x2 : X' < 65536) (e3 : D' 3 = D 3) (e4 : D' 4 = D 4) (e5 : D' 5 = nI G') (x5 : G' ≤ G) (e6 : D' 6 = nI T') (x6 : T' ≤ 60) (e8 : D' 8 = nI L') (x8 : 1 ≤ L' ∧ L' ≤ 30) : tm_OKn D' n X' W R G' T' L' := by
  obtain ⟨k0, k2, k3, k4, k5, k6, k8, kW, kR, kG, kH, kE, kZ⟩ := k
  refine ⟨by rw [e0]; exact k0, ⟨e2, x2⟩, by rw [e3]; exact k3, by rw [e4]; exact k4, ⟨e5, by omega⟩, ⟨e6, x6⟩, ⟨e8, x8⟩, tm_kW_cg (fun q a b => h84 q (by omega) (by omega)) kW, tm_kR_cg (fun q a b => h84 q (by omega) (by omega)) kR, tm_kG_le x5 (tm_kG_cg (fun q a b => h84 q (by omega) (by omega)) (fun v a => h84 _ (by omega) (by omega)) kG), tm_kH_cg (fun q a b => h84 q (by omega) (by omega)) kH, tm_kE_cg h680 kE, tm_kZ_cg (Nat.le_refl _) (fun q a b => h84 q (by omega) b) kZ⟩
theorem tm_OK_cg {D D' : Nat → Int32} {n X W R G T L : Nat} (k : tm_OKn D n X W R G T L) (h : ∀ q, (q = 0 ∨ (2 ≤ q ∧ q ≤ 6) ∨ q = 8 ∨ (84 ≤ q ∧ q < 1076)) → D' q = D q) : tm_OKn D' n X W R G T L := by
  have k' := k
  obtain ⟨k0, k2, k3, k4, k5, k6, k8, kW, kR, kG, kH, kE, kZ⟩ := k'
  exact tm_OK_mk k (fun q a b => h q (by omega)) (fun q a b => h q (by omega)) (h 0 (by omega)) (by rw [h 2 (by omega)]; exact k2.1) k2.2 (h 3 (by omega)) (h 4 (by omega)) (by rw [h 5 (by omega)]; exact k5.1) (Nat.le_refl _) (by rw [h 6 (by omega)]; exact k6.1) k6.2 (by rw [h 8 (by omega)]; exact k8.1) k8.2
theorem upd_s {f : Nat → Int32} {k : Nat} {v : Int32} : upd f k v k = v := pk_us
theorem upd_n {f : Nat → Int32} {k j : Nat} {v : Int32} (h : j ≠ k) : upd f k v j = f j := pk_un h
theorem tm_up_s {M : tm_M} {k j : Nat} {v : Int32} : tm_up M k j v k j = v := by rw [tm_up_at]; exact upd_s
theorem tm_up_i {M : tm_M} {k j i : Nat} {v : Int32} (h : i ≠ j) : tm_up M k j v k i = M k i := by rw [tm_up_at]; exact upd_n h
theorem tm_up_n {M : tm_M} {k a j : Nat} {v : Int32} (h : a ≠ k) : tm_up M k j v a = M a := tm_up_ne M j v h
theorem tm_up_x {M : tm_M} {c i c' i' q o : Nat} {v : Int32} (h : tm_ph c i = some q) (h' : tm_ph c' i' = none) : tm_up M (c + o) i v (c' + o) i' = M (c' + o) i' := by
  by_cases hc : c' = c
  · subst hc
    exact tm_up_i (fun e => by rw [e, h] at h'; cases h')
  · rw [tm_up_n (by omega)]
/-- a slot that lies in the row changes in both -/
theorem tm_W_up {M : tm_M} {c i q o : Nat} {D : Nat → Int32} {v : Int32} (hW : tm_W M o D) (h : tm_ph c i = some q) (h0 : q ≠ 0 := by omega) : tm_W (tm_up M (c + o) i v) o (upd D q v) := by
  obtain ⟨hA, hB, hO, hH, hE, hT0, hT1, hN⟩ := hW
  obtain ⟨z1, z2, z3, z4⟩ := tm_phq h
  have hc : ∀ c', (∀ i', tm_ph c' i' = none) → tm_up M (c + o) i v (c' + o) = M (c' + o) := fun c' e => by
    funext i'
    exact tm_up_x h (e i')
  refine ⟨fun c' i' q' hq => ?_, ?_, ?_, ?_, ?_, ?_, ?_, ?_⟩
  · by_cases e : q' = q
    · subst e
      have e1 := tm_psh hq
      rw [tm_psh h, Prod.mk.injEq] at e1
      obtain ⟨rfl, rfl⟩ := e1
      rw [tm_up_s, upd_s]
    · rw [upd_n e]
      by_cases hc : c' = c
      · subst hc
        rw [tm_up_i (fun e1 => by subst e1; rw [h] at hq; cases hq; exact e rfl)]
        exact hA _ _ _ hq
      · rw [tm_up_n (by omega)]
        exact hA _ _ _ hq
  · obtain ⟨b, b1, b2, b3⟩ := hB
    exact ⟨b, by rw [tm_up_x h rfl]; exact b1, b2, fun m hm => by rw [upd_n (by omega)]; exact b3 m hm⟩
  · obtain ⟨b, b1, b2, b3⟩ := hO
    exact ⟨b, by rw [tm_up_x h rfl]; exact b1, b2, fun m hm => by rw [upd_n (by omega)]; exact b3 m hm⟩
  · unfold tm_wH
    rw [hc 18 (fun _ => rfl)]
    intro j hj
    rw [upd_n (by omega), upd_n (by omega)]
    exact hH j hj
  · unfold tm_wE
    rw [hc 33 (fun _ => rfl)]
    intro j hj
    rw [upd_n (by omega)]
    exact hE j hj
  · have e1 : (fun k => upd D q v (1078 + 60 * 0 + k)) = fun k => D (1078 + 60 * 0 + k) := funext fun k => upd_n (by omega)
    unfold tm_wT
    rw [hc (27 + 3 * 0) (fun _ => rfl), hc (28 + 3 * 0) (fun _ => rfl), e1, upd_n (by omega)]
    obtain ⟨z, y1, y2, y3, y4, y5⟩ := hT0
    exact ⟨z, y1, y2, y3, y4, fun k hk => by rw [upd_n (by omega)]; exact y5 k hk⟩
  · have e1 : (fun k => upd D q v (1078 + 60 * 1 + k)) = fun k => D (1078 + 60 * 1 + k) := funext fun k => upd_n (by omega)
    unfold tm_wT
    rw [hc (27 + 3 * 1) (fun _ => rfl), hc (28 + 3 * 1) (fun _ => rfl), e1, upd_n (by omega)]
    obtain ⟨z, y1, y2, y3, y4, y5⟩ := hT1
    exact ⟨z, y1, y2, y3, y4, fun k hk => by rw [upd_n (by omega)]; exact y5 k hk⟩
  · obtain ⟨n, n1, n2, n3⟩ := hN
    exact ⟨n, by rw [upd_n (Ne.symm h0)]; exact n1, n2, fun m a b => by rw [upd_n (by omega)]; exact n3 m a b⟩
/-! cells that no call's answer rests on -/
def tm_scr : List Nat := [10, 11, 19, 29, 32, 69, 70, 71, 72, 73, 74, 75, 76, 77, 78, 79, 84, 87, 90, 93, 95, 99, 101, 102, 103, 104, 109]
def tm_fr (M M' : tm_M) : Prop := (∀ c, c ∉ tm_scr → M' c = M c) ∧ M' 79 1 = M 79 1 ∧ M' 95 2 = M 95 2 ∧ M' 95 3 = M 95 3 ∧ M' 95 23 = M 95 23
theorem tm_fr_refl (M : tm_M) : tm_fr M M := ⟨fun _ _ => rfl, rfl, rfl, rfl, rfl⟩
theorem tm_fr_trans {M M' M2 : tm_M} (h : tm_fr M M') (h2 : tm_fr M' M2) : tm_fr M M2 := ⟨fun c hc => (h2.1 c hc).trans (h.1 c hc), h2.2.1.trans h.2.1, h2.2.2.1.trans h.2.2.1, h2.2.2.2.1.trans h.2.2.2.1, h2.2.2.2.2.trans h.2.2.2.2⟩
theorem tm_wc_scr : ∀ c, tm_wc c = true → c + 0 ∉ tm_scr ∧ c + 34 ∉ tm_scr := by
  intro c h
  have h1 : c < 35 := by
    unfold tm_wc at h
    have := of_decide_eq_true h
    omega
  have h2 : ∀ c, c < 35 → tm_wc c = true → c + 0 ∉ tm_scr ∧ c + 34 ∉ tm_scr := by decide +kernel
  exact h2 c h1 h
theorem tm_rS_cg {M M' : tm_M} {s : Nat} (h : ∀ c, c = 82 + 3 * s ∨ c = 83 + 3 * s ∨ c = 106 ∨ c = 107 ∨ c = 108 → M' c = M c) (k : tm_rS M s) : tm_rS M' s := by
  unfold tm_rS at *
  rw [h (82 + 3 * s) (by omega), h (83 + 3 * s) (by omega), h 106 (by omega), h 107 (by omega), h 108 (by omega)]
  exact k
theorem tm_rK_cg {k : Nat} {M M' : tm_M} (h : ∀ c, c = 0 ∨ c = 97 → M' c = M c) (h2 : ∀ c, tm_wc c = true → M' (c + 34) = M (c + 34)) (h3 : M' 95 2 = M 95 2) (h4 : M' 95 3 = M 95 3) (q : tm_rK k M) : tm_rK k M' := by
  obtain ⟨c, q1, q2, q3, q4, q5⟩ := q
  refine ⟨c, q1, by rw [h 0 (by omega)]; exact q2, by rw [h4]; exact q3, by rw [h3]; exact q4, fun z => ?_⟩
  rw [h 97 (by omega)]
  exact ⟨tm_W_cg h2 (q5 z).1, (q5 z).2⟩
/-- the worlds' relation stands anew; what lies beside is as it was -/
theorem tm_I_mk {k : Nat} {M M' : tm_M} (hI : tm_I k M) (hW : tm_W M' 0 (M' 96)) (hK : tm_OK (M' 96)) (h : ∀ c, (c = 0 ∨ (35 ≤ c ∧ c ≤ 94) ∨ (97 ≤ c)) → c ∉ tm_scr → M' c = M c) (h79 : M' 79 1 = M 79 1) (h2 : M' 95 2 = M 95 2) (h3 : M' 95 3 = M 95 3) (h23 : M' 95 23 = M 95 23) : tm_I (k + 1) M' := by
  obtain ⟨_, _, i1, i2, ⟨s0, s1, s2, s3⟩, i4, i5⟩ := tm_I_up _ _ hI
  have hc : ∀ c, (c = 0 ∨ (35 ≤ c ∧ c ≤ 94) ∨ (97 ≤ c)) ∧ c ∉ tm_scr → M' c = M c := fun c q => h c q.1 q.2
  refine ⟨hW, hK, ?_, ?_, ⟨?_, ?_, ?_, ?_⟩, ?_, ?_⟩
  · intro i hi
    rw [hc 94 (by decide), hc 98 (by decide)]
    exact i1 i hi
  · unfold tm_rV
    rw [hc 80 (by decide), hc 105 (by decide), h79, h23]
    exact i2
  · exact tm_rS_cg (by rintro c (rfl | rfl | rfl | rfl | rfl) <;> exact hc _ (by decide)) s0
  · exact tm_rS_cg (by rintro c (rfl | rfl | rfl | rfl | rfl) <;> exact hc _ (by decide)) s1
  · exact tm_rS_cg (by rintro c (rfl | rfl | rfl | rfl | rfl) <;> exact hc _ (by decide)) s2
  · exact tm_rS_cg (by rintro c (rfl | rfl | rfl | rfl | rfl) <;> exact hc _ (by decide)) s3
  · refine tm_rK_cg (by rintro c (rfl | rfl) <;> exact hc _ (by decide)) (fun c q => h _ ?_ (tm_wc_scr c q).2) h2 h3 i4
    unfold tm_wc at q
    have := of_decide_eq_true q
    omega
  · unfold tm_rL
    rw [hc 100 (by decide)]
    exact i5
theorem tm_I_fr {k : Nat} {M M' : tm_M} (hI : tm_I k M) (h : tm_fr M M') : tm_I (k + 1) M' := by
  have e : M' 96 = M 96 := h.1 96 (by decide)
  exact tm_I_mk hI (by rw [e]; exact tm_W_cg (fun c q => h.1 _ (tm_wc_scr c q).1) hI.1) (by rw [e]; exact hI.2.1) (fun c _ q => h.1 c q) h.2.1 h.2.2.1 h.2.2.2.1 h.2.2.2.2
/-- a finding, on both sides -/
theorem tm_I_fd {k j : Nat} {M : tm_M} {v w : Int32} (hI : tm_I k M) (hj : j < 6) (hv : M 94 j = v) (hw : M 98 j = w) : tm_I (k + 1) (tm_up (tm_up M 94 j (v + nI 1)) 98 j (w + nI 1)) := by
  subst hv hw
  obtain ⟨i0, i00, i1, i2, ⟨s0, s1, s2, s3⟩, i4, i5⟩ := tm_I_up _ _ hI
  have hc : ∀ c, c ≠ 94 ∧ c ≠ 98 → tm_up (tm_up M 94 j (M 94 j + nI 1)) 98 j (M 98 j + nI 1) c = M c := fun c q => by rw [tm_up_n q.2, tm_up_n q.1]
  have hw : ∀ c, tm_wc c = true → c ≤ 34 := fun c q => by
    unfold tm_wc at q
    have := of_decide_eq_true q
    omega
  refine ⟨?_, ?_, ?_, ?_, ⟨?_, ?_, ?_, ?_⟩, ?_, ?_⟩
  · rw [hc 96 (by decide)]
    exact tm_W_cg (fun c q => hc _ (by have := hw c q; omega)) i0
  · rw [hc 96 (by decide)]
    exact i00
  · intro i hi
    rw [tm_up_n (by decide : 94 ≠ 98)]
    by_cases e : i = j
    · subst e
      rw [tm_up_s, tm_up_s, i1 i hi]
    · rw [tm_up_i e, tm_up_i e, tm_up_n (by decide : 98 ≠ 94)]
      exact i1 i hi
  · unfold tm_rV
    rw [hc 80 (by decide), hc 105 (by decide), hc 79 (by decide), hc 95 (by decide)]
    exact i2
  · exact tm_rS_cg (by rintro c (rfl | rfl | rfl | rfl | rfl) <;> exact hc _ (by decide)) s0
  · exact tm_rS_cg (by rintro c (rfl | rfl | rfl | rfl | rfl) <;> exact hc _ (by decide)) s1
  · exact tm_rS_cg (by rintro c (rfl | rfl | rfl | rfl | rfl) <;> exact hc _ (by decide)) s2
  · exact tm_rS_cg (by rintro c (rfl | rfl | rfl | rfl | rfl) <;> exact hc _ (by decide)) s3
  · exact tm_rK_cg (by rintro c (rfl | rfl) <;> exact hc _ (by decide)) (fun c q => hc _ (by have := hw c q; omega)) (by rw [hc 95 (by decide)]) (by rw [hc 95 (by decide)]) i4
  · unfold tm_rL
    rw [hc 100 (by decide)]
    exact i5
