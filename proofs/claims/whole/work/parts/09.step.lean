/-! part 09: one instruction of the interpreter is one of the machine (laid by wip/whole/gen9.py) -/
section TMP
variable {V : tm_V} {p : Program} {l : Launch} {e : Env} {R : Room} {s : State} {m : MethodId} {args : Array Value} {below : List Frame} {meth : Method} {c : Code} {H : Heap} {locs : List Loc} {cells slots : Nat} {Q : State → Prop}
variable {pc : Nat} {ls : Array Slot} {st st' L L' rest : List Value} {y : Nat} {G G' : tm_G} {M M' : tm_M}
theorem tm_mlink (C : tm_C V p s m args meth c y) {x q wp nest : Nat} (hlk : tm_lk (tm_ML (tm_ci y)) x = some (q, wp, nest)) :
    (q = 999 → (Cond.methodLink (tm_cn (tm_ci y)) x objectInit).before args s = true) ∧ (q = 998 → (Cond.methodLink (tm_cn (tm_ci y)) x arraycopyName).before args s = true) ∧ (q = 994 → (Cond.methodLink (tm_cn (tm_ci y)) x Lib.Math.max.name).before args s = true) ∧ (q = 995 → (Cond.methodLink (tm_cn (tm_ci y)) x Lib.Math.min.name).before args s = true) ∧ (q = 996 → (Cond.methodLink (tm_cn (tm_ci y)) x Lib.Math.abs.name).before args s = true) ∧ (q = 997 → (Cond.methodLink (tm_cn (tm_ci y)) x Lib.MathLoose.abs_long.x).before args s = true) ∧ (q < 994 → q < 259 ∧ ((nest = 0 ∧ (Cond.methodLink (tm_cn (tm_ci y)) x (tm_nm q)).before args s = true) ∨ (nest ≠ 0 ∧ va_Nw (.methodLinkNest (tm_cn (tm_ci y)) x (tm_nm q) RX11) s))) := by
  obtain ⟨-, -, -, -, -, -, -, hts, ⟨-, hNW, -⟩, hci⟩ := C
  have h := List.all_eq_true.mp (tm_okM_at hci) _ (tm_lk_mem hlk)
  simp only at h
  refine ⟨fun e => ?_, fun e => ?_, fun e => ?_, fun e => ?_, fun e => ?_, fun e => ?_, fun e => ?_⟩
  · subst e; rw [if_pos rfl] at h; exact hts _ (tm_wd_in h)
  · subst e; rw [if_neg (by decide), if_pos rfl] at h; exact hts _ (tm_wd_in h)
  · subst e; rw [if_neg (by decide), if_neg (by decide), if_pos rfl] at h; exact hts _ (tm_wd_in h)
  · subst e; rw [if_neg (by decide), if_neg (by decide), if_neg (by decide), if_pos rfl] at h; exact hts _ (tm_wd_in h)
  · subst e; rw [if_neg (by decide), if_neg (by decide), if_neg (by decide), if_neg (by decide), if_pos rfl] at h; exact hts _ (tm_wd_in h)
  · subst e; rw [if_neg (by decide), if_neg (by decide), if_neg (by decide), if_neg (by decide), if_neg (by decide), if_pos rfl] at h; exact hts _ (tm_wd_in h)
  · rw [if_neg (by omega), if_neg (by omega), if_neg (by omega), if_neg (by omega), if_neg (by omega), if_neg (by omega), Bool.and_eq_true, decide_eq_true_eq] at h
    refine ⟨h.1, ?_⟩
    by_cases hn : nest = 0
    · rw [if_pos hn] at h; exact Or.inl ⟨hn, hts _ (tm_wd_in h.2)⟩
    · rw [if_neg hn] at h; exact Or.inr ⟨hn, hNW _ (tm_wn_in h.2)⟩
theorem tm_rcopy (C : tm_C V p s m args meth c y) (hH : tm_H V G M H) (hS : va_S (tm_B V.2.2.2.1) s.heap H locs) (hml : c.maxLocals = ls.size) (hRf : 1 ≤ R.frames) (hRl : 64 ≤ R.locals) {a0 a x wp nest : Nat} {sp dp n : Int32} (hlk : tm_lk (tm_ML (tm_ci y)) x = some (998, wp, nest)) (hsum : (rest.map fun v => v.category).sum ≤ 8) (hv : tm_cpy G M a0 sp a dp n = some M') (hd : decode (tm_cd y) pc = .ok (.invokestatic x, 3))
    (kk : ∀ (H1 : Heap) (locs1 : List Loc), tm_H V G M' H1 → va_S (tm_B V.2.2.2.1) s.heap H1 locs1 → W p l e R s m args below meth c H1 locs1 cells slots Q (F0 m (pc + 3) ls rest)) : W p l e R s m args below meth c H locs cells slots Q (F0 m pc ls (.int n :: .int dp :: .ref (tm_ad V.2.2.2.1 V.2.2.2.2.1 a) :: .int sp :: .ref (tm_ad V.2.2.2.1 V.2.2.2.2.1 a0) :: rest)) := by
  have hlink := (tm_mlink C hlk).2.1 rfl
  obtain ⟨hx, hb, -, -, -, -, hown, hts, ⟨hK, -⟩, -⟩ := C
  unfold tm_cpy at hv
  split at hv
  · rename_i k0 n0 k1 n1 hat0 hat1
    split at hv
    · rename_i hq
      obtain ⟨hk0, rfl, h1, h2, h3, h4, h5⟩ := hq
      cases hv
      have hw0 := tm_ws_at (dA := V.2.2.1) (sz := V.2.2.2.1) (b := V.2.2.2.2.1) (M := M) hat0
      have hw1 := tm_ws_at (dA := V.2.2.1) (sz := V.2.2.2.1) (b := V.2.2.2.2.1) (M := M) hat1
      rw [tm_ad_lt (hH.lt hat0), tm_ad_lt (hH.lt hat1)]
      have e := tm_ws_set (dA := V.2.2.1) (sz := V.2.2.2.1) (b := V.2.2.2.2.1) (G := G) (G' := G) (M := M) (M' := tm_uc M a (va_cpy (M a0) (M a) sp.toNatClampNeg dp.toNatClampNeg n.toNatClampNeg)) hat1 rfl (fun j hj => if_neg hj) (fun j hj => rfl)
      rw [show tm_uc M a (va_cpy (M a0) (M a) sp.toNatClampNeg dp.toNatClampNeg n.toNatClampNeg) a = va_cpy (M a0) (M a) sp.toNatClampNeg dp.toNatClampNeg n.toNatClampNeg from if_pos rfl] at e
      have hloc : (rest.map fun v => v.category).sum + (nativeFrameWords "java/lang/System" "arraycopy" 5 + 11) ≤ R.locals := by
        have : nativeFrameWords "java/lang/System" "arraycopy" 5 = 7 := by decide
        omega
      rcases (by omega : k0 = 0 ∨ k0 = 1) with rfl | rfl
      · rw [tm_cell_0] at hw0 hw1 e
        refine va_copyi hx hb hml hown hlink (hts _ (tm_wd_in tm_x_nat_copy)) (hts _ (tm_wd_in tm_x_st_copy)) (hts _ (tm_wd_in tm_x_in_sys)) hK hH.1 (tm_ws_D _ _ _ _ _) hS a0 a 0 0 hw0 hw1 rfl rfl rfl h1 h2 h3 h4 h5 (fun i _ => rfl) hRf hloc hd (fun H1 locs1 hP hD hS => kk H1 locs1 ⟨?_, hH.2⟩ hS)
        rw [e] at hP
        exact hP
      · rw [tm_cell_1] at hw0 hw1 e
        refine va_copyi hx hb hml hown hlink (hts _ (tm_wd_in tm_x_nat_copy)) (hts _ (tm_wd_in tm_x_st_copy)) (hts _ (tm_wd_in tm_x_in_sys)) hK hH.1 (tm_ws_D _ _ _ _ _) hS a0 a 1 1 hw0 hw1 rfl rfl rfl h1 h2 h3 h4 h5 (fun i _ => pk_fb _) hRf hloc hd (fun H1 locs1 hP hD hS => kk H1 locs1 ⟨?_, hH.2⟩ hS)
        have e2 : (fun j => (va_cpy (M a0) (M a) sp.toNatClampNeg dp.toNatClampNeg n.toNatClampNeg j).toInt8.toInt32) = va_cpy (fun j => (M a0 j).toInt8.toInt32) (fun j => (M a j).toInt8.toInt32) sp.toNatClampNeg dp.toNatClampNeg n.toNatClampNeg := by
          funext j
          unfold va_cpy
          split <;> rfl
        rw [e2] at e
        rw [e] at hP
        exact hP
    · cases hv
  · cases hv
theorem tm_rgets (C : tm_C V p s m args meth c y) (hS : va_S (tm_B V.2.2.2.1) s.heap H locs) {x q wp nest : Nat} (hlk : tm_lk (tm_SL (tm_ci y)) x = some (q, wp, nest)) (hd : decode (tm_cd y) pc = .ok (.getstatic x, 3))
    (k0 : q = 0 → W p l e R s m args below meth c H locs cells slots Q (F0 m (pc + 3) ls (.ref (V.2.2.2.2.1 1) :: rest))) (k1 : q = 1 → W p l e R s m args below meth c H locs cells slots Q (F0 m (pc + 3) ls (.ref (V.2.2.2.2.1 2) :: rest))) : W p l e R s m args below meth c H locs cells slots Q (F0 m pc ls rest) := by
  obtain ⟨hx, hb, -, -, -, -, hown, hts, ⟨-, hNW, -, -, -, -, -, hZ0, hZ1, -, -⟩, hci⟩ := C
  have h := List.all_eq_true.mp (tm_okK_at hci).2.2.2 _ (tm_lk_mem hlk)
  simp only [Bool.and_eq_true, decide_eq_true_eq] at h
  obtain ⟨h1, h2⟩ := h
  rcases (by omega : q = 0 ∨ q = 1) with rfl | rfl
  · by_cases hn : nest = 0
    · rw [if_pos hn] at h2
      exact va_gets hx hb hZ0 hS hown (hts _ (tm_wd_in h2)) (fun _ h => h) hd (k0 rfl)
    · rw [if_neg hn] at h2
      exact va_getsN hx hb hZ0 hS hown (va_Nw.use rfl (hNW _ (tm_wn_in h2))) (fun _ h => h) hd (k0 rfl)
  · by_cases hn : nest = 0
    · rw [if_pos hn] at h2
      exact va_gets hx hb hZ1 hS hown (hts _ (tm_wd_in h2)) (fun _ h => h) hd (k1 rfl)
    · rw [if_neg hn] at h2
      exact va_getsN hx hb hZ1 hS hown (va_Nw.use rfl (hNW _ (tm_wn_in h2))) (fun _ h => h) hd (k1 rfl)
set_option maxHeartbeats 4000000 in
theorem tm_step_stk (C : tm_C V p s m args meth c y) (hS : va_S (tm_B V.2.2.2.1) s.heap H locs) (hl : lv_has ls (tm_mx y) (tm_lv V.2.2.2.1 V.2.2.2.2.1 L)) (hRf : 1 ≤ R.frames) (hRl : 64 ≤ R.locals) (hcl : cells ≤ R.cells) (hsl : slots ≤ R.slots)
    {i0 i : Instr} {len : Nat} (hd : decode (tm_cd y) pc = .ok (i0, len)) (hlen : tm_len i0 = 0 ∨ len = tm_len i0) (hn : tm_nrm y pc i0 = some i) (hs : tm_stk i st = some st')
    (k : W p l e R s m args below meth c H locs cells slots Q (F0 m (pc + len) ls (st'.map (tm_t V)))) : W p l e R s m args below meth c H locs cells slots Q (F0 m pc ls (st.map (tm_t V))) := by
  have C0 := C
  obtain ⟨hx, hb, -, -, hml, -, hown, hts, hE, hci⟩ := C
  unfold tm_nrm at hn
  split at hn
  · cases hn
    simp only [tm_stk, reduceCtorEq] at hs
  · cases hn
    simp only [tm_stk, reduceCtorEq] at hs
  · cases hn
    simp only [tm_stk, reduceCtorEq] at hs
  · cases hn
    simp only [tm_stk, reduceCtorEq] at hs
  · cases hn
    simp only [tm_stk, reduceCtorEq] at hs
  · cases hn
    simp only [tm_stk, reduceCtorEq] at hs
  · cases hn
    simp only [tm_stk, reduceCtorEq] at hs
  · cases hn
    simp only [tm_stk, reduceCtorEq] at hs
  · cases hn
    simp only [tm_stk, reduceCtorEq] at hs
  · cases hn
    simp only [tm_stk, reduceCtorEq] at hs
  · cases hn
    simp only [tm_stk, reduceCtorEq] at hs
  · cases hn
    simp only [tm_stk, reduceCtorEq] at hs
  · cases hn
    simp only [tm_stk, reduceCtorEq] at hs
  · cases hn
    obtain rfl : len = _ := hlen.resolve_left (by simp [tm_len])
    simp only [tm_stk] at hs
    cases hs
    exact lv_iconst hx hb hd rfl k
  · split at hn
    · rename_i hq; cases hn
      obtain rfl : len = _ := hlen.resolve_left (by simp [tm_len])
      simp only [tm_stk] at hs
      cases hs
      exact lv_bipush hx hb hd hq k
    · cases hn
  · split at hn
    · rename_i hq; cases hn
      obtain rfl : len = _ := hlen.resolve_left (by simp [tm_len])
      simp only [tm_stk] at hs
      cases hs
      exact lv_sipush hx hb hd hq k
    · cases hn
  · obtain ⟨q, h1, h2⟩ := Option.map_eq_some_iff.mp hn
    cases h2
    obtain rfl : len = _ := hlen.resolve_left (by simp [tm_len])
    simp only [tm_stk] at hs
    cases hs
    have h3 := List.all_eq_true.mp (tm_okK_at hci).1 _ (tm_lk_mem h1)
    exact lv_ldc hx hb hown (hts _ (tm_wd_in h3)) hd k
  · obtain ⟨q, h1, h2⟩ := Option.map_eq_some_iff.mp hn
    cases h2
    obtain rfl : len = _ := hlen.resolve_left (by simp [tm_len])
    simp only [tm_stk] at hs
    cases hs
    have h3 := List.all_eq_true.mp (tm_okK_at hci).1 _ (tm_lk_mem h1)
    exact lv_ldcw hx hb hown (hts _ (tm_wd_in h3)) hd k
  · cases hn
    obtain rfl : len = _ := hlen.resolve_left (by simp [tm_len])
    simp only [tm_stk] at hs
    cases hs
    exact lv_lconst hx hb hd rfl k
  · obtain ⟨q, h1, h2⟩ := Option.map_eq_some_iff.mp hn
    cases h2
    obtain rfl : len = _ := hlen.resolve_left (by simp [tm_len])
    simp only [tm_stk] at hs
    cases hs
    have h3 := List.all_eq_true.mp (tm_okK_at hci).2.1 _ (tm_lk_mem h1)
    exact lv_ldc2 hx hb hown (hts _ (tm_wd_in h3)) hd k
  · obtain ⟨q, h1, h2⟩ := Option.map_eq_some_iff.mp hn
    cases h2
    simp only [tm_stk, reduceCtorEq] at hs
  · split at hn
    · split at hn
      · split at hn
        · cases hn; simp only [tm_stk, reduceCtorEq] at hs
        · cases hn
      · cases hn; simp only [tm_stk, reduceCtorEq] at hs
    · cases hn
  · obtain ⟨q, h1, h2⟩ := Option.map_eq_some_iff.mp hn
    cases h2
    obtain rfl : len = _ := hlen.resolve_left (by simp [tm_len])
    obtain ⟨q, wp, nest⟩ := q
    simp only [tm_stk] at hs
    refine tm_rgets C0 hS h1 hd (fun e => ?_) (fun e => ?_)
    · subst e; rw [if_pos rfl] at hs; cases hs; exact k
    · subst e; rw [if_neg (by decide), if_pos rfl] at hs; cases hs; exact k
  · obtain ⟨q, h1, h2⟩ := Option.map_eq_some_iff.mp hn
    cases h2
    simp only [tm_stk, reduceCtorEq] at hs
  · obtain ⟨q, h1, h2⟩ := Option.map_eq_some_iff.mp hn
    cases h2
    obtain rfl : len = _ := hlen.resolve_left (by simp [tm_len])
    obtain ⟨q, wp, nest⟩ := q
    simp only [tm_stk] at hs
    split at hs
    · rename_i hq; subst hq
      split at hs
      · split at hs
        · rename_i hsum; cases hs
          refine W.objInit hx hb hown ((tm_mlink C0 h1).1 rfl) (hts _ (tm_wd_in tm_x_im_obj)) (hts _ (tm_wd_in tm_x_cd_obj)) rfl (by rw [hml]; exact hl.1) rfl hd hRf ?_ k
          show 2 * 0 + _ + 12 ≤ R.locals
          rw [tm_tr_sum]
          omega
        · cases hs
      · cases hs
    · cases hs
  · obtain ⟨q, h1, h2⟩ := Option.map_eq_some_iff.mp hn
    cases h2
    obtain rfl : len = _ := hlen.resolve_left (by simp [tm_len])
    obtain ⟨q, wp, nest⟩ := q
    simp only [tm_stk] at hs
    split at hs
    · rename_i hq; subst hq
      split at hs
      · split at hs
        · rename_i hsum; cases hs
          refine va_mmax hx hb (by rw [hml]; exact hl.1.symm) hown ((tm_mlink C0 h1).2.2.1 rfl) (hts _ (tm_wd_in tm_x_st_max)) (hts _ (tm_wd_in tm_x_in_math)) (hts _ (tm_wd_in tm_x_cd_max)) hRf ?_ hcl hsl hd k
          rw [tm_tr_sum]
          omega
        · cases hs
      · cases hs
    · split at hs
      · rename_i hq; subst hq
        split at hs
        · split at hs
          · rename_i hsum; cases hs
            refine va_mmin hx hb (by rw [hml]; exact hl.1.symm) hown ((tm_mlink C0 h1).2.2.2.1 rfl) (hts _ (tm_wd_in tm_x_st_min)) (hts _ (tm_wd_in tm_x_in_math)) (hts _ (tm_wd_in tm_x_cd_min)) hRf ?_ hcl hsl hd k
            rw [tm_tr_sum]
            omega
          · cases hs
        · cases hs
      · split at hs
        · rename_i hq; subst hq
          split at hs
          · split at hs
            · rename_i hsum; cases hs
              refine va_mabs hx hb (by rw [hml]; exact hl.1.symm) hown ((tm_mlink C0 h1).2.2.2.2.1 rfl) (hts _ (tm_wd_in tm_x_st_abs)) (hts _ (tm_wd_in tm_x_in_math)) (hts _ (tm_wd_in tm_x_cd_abs)) hRf ?_ hcl hsl hd k
              rw [tm_tr_sum]
              omega
            · cases hs
          · cases hs
        · split at hs
          · rename_i hq; subst hq
            split at hs
            · split at hs
              · rename_i hsum; cases hs
                refine va_mabs_long hx hb (by rw [hml]; exact hl.1.symm) hown ((tm_mlink C0 h1).2.2.2.2.2.1 rfl) (hts _ (tm_wd_in tm_x_st_absl)) (hts _ (tm_wd_in tm_x_in_math)) (hts _ (tm_wd_in tm_x_cd_absl)) hRf ?_ hcl hsl hd k
                rw [tm_tr_sum]
                omega
              · cases hs
            · cases hs
          · cases hs
  · obtain ⟨q, h1, h2⟩ := Option.map_eq_some_iff.mp hn
    cases h2
    simp only [tm_stk, reduceCtorEq] at hs
  · split at hn
    · cases hn; simp only [tm_stk, reduceCtorEq] at hs
    · cases hn; simp only [tm_stk, reduceCtorEq] at hs
    · cases hn
  · cases hn
    simp only [tm_stk, reduceCtorEq] at hs
  · cases hn
    simp only [tm_stk, reduceCtorEq] at hs
  · cases hn
    simp only [tm_stk, reduceCtorEq] at hs
  · cases hn
    simp only [tm_stk, reduceCtorEq] at hs
  · cases hn
    simp only [tm_stk, reduceCtorEq] at hs
  · split at hn
    · cases hn; simp only [tm_stk, reduceCtorEq] at hs
    · cases hn
  · split at hn
    · cases hn; simp only [tm_stk, reduceCtorEq] at hs
    · split at hn
      · cases hn; simp only [tm_stk, reduceCtorEq] at hs
      · cases hn
  · split at hn
    · cases hn; simp only [tm_stk, reduceCtorEq] at hs
    · cases hn
  · split at hn
    · cases hn; simp only [tm_stk, reduceCtorEq] at hs
    · cases hn
  · cases hn
    obtain rfl : len = _ := hlen.resolve_left (by simp [tm_len])
    simp only [tm_stk, tm_i2] at hs
    split at hs
    · cases hs; exact lv_iadd hx hb hd k
    · cases hs
  · cases hn
    obtain rfl : len = _ := hlen.resolve_left (by simp [tm_len])
    simp only [tm_stk, tm_i2] at hs
    split at hs
    · cases hs; exact lv_isub hx hb hd k
    · cases hs
  · cases hn
    obtain rfl : len = _ := hlen.resolve_left (by simp [tm_len])
    simp only [tm_stk, tm_i2] at hs
    split at hs
    · cases hs; exact lv_imul hx hb hd k
    · cases hs
  · cases hn
    obtain rfl : len = _ := hlen.resolve_left (by simp [tm_len])
    simp only [tm_stk, tm_i2] at hs
    split at hs
    · cases hs; exact lv_iand hx hb hd k
    · cases hs
  · cases hn
    obtain rfl : len = _ := hlen.resolve_left (by simp [tm_len])
    simp only [tm_stk, tm_i2] at hs
    split at hs
    · cases hs; exact lv_ior hx hb hd k
    · cases hs
  · cases hn
    obtain rfl : len = _ := hlen.resolve_left (by simp [tm_len])
    simp only [tm_stk, tm_i2] at hs
    split at hs
    · cases hs; exact lv_ixor hx hb hd k
    · cases hs
  · cases hn
    obtain rfl : len = _ := hlen.resolve_left (by simp [tm_len])
    simp only [tm_stk, tm_i2] at hs
    split at hs
    · cases hs; exact lv_ishl hx hb hd k
    · cases hs
  · cases hn
    obtain rfl : len = _ := hlen.resolve_left (by simp [tm_len])
    simp only [tm_stk, tm_i2] at hs
    split at hs
    · cases hs; exact lv_ishr hx hb hd k
    · cases hs
  · cases hn
    obtain rfl : len = _ := hlen.resolve_left (by simp [tm_len])
    simp only [tm_stk, tm_i2] at hs
    split at hs
    · cases hs; exact lv_iushr hx hb hd rfl k
    · cases hs
  · cases hn
    obtain rfl : len = _ := hlen.resolve_left (by simp [tm_len])
    simp only [tm_stk] at hs
    split at hs
    · split at hs
      · cases hs
      · rename_i h0; cases hs; exact lv_idiv hx hb hd h0 k
    · cases hs
  · cases hn
    obtain rfl : len = _ := hlen.resolve_left (by simp [tm_len])
    simp only [tm_stk] at hs
    split at hs
    · split at hs
      · cases hs
      · rename_i h0; cases hs; exact lv_irem hx hb hd h0 k
    · cases hs
  · cases hn
    obtain rfl : len = _ := hlen.resolve_left (by simp [tm_len])
    simp only [tm_stk, tm_i1] at hs
    split at hs
    · cases hs; exact lv_ineg hx hb hd k
    · cases hs
  · cases hn
    obtain rfl : len = _ := hlen.resolve_left (by simp [tm_len])
    simp only [tm_stk, tm_i1] at hs
    split at hs
    · cases hs; exact lv_i2b hx hb hd rfl k
    · cases hs
  · cases hn
    obtain rfl : len = _ := hlen.resolve_left (by simp [tm_len])
    simp only [tm_stk, tm_i1] at hs
    split at hs
    · cases hs; exact lv_i2s hx hb hd rfl k
    · cases hs
  · cases hn
    obtain rfl : len = _ := hlen.resolve_left (by simp [tm_len])
    simp only [tm_stk] at hs
    split at hs
    · cases hs; exact lv_i2l hx hb hd rfl k
    · cases hs
  · cases hn
    obtain rfl : len = _ := hlen.resolve_left (by simp [tm_len])
    simp only [tm_stk] at hs
    split at hs
    · cases hs; exact lv_l2i hx hb hd rfl k
    · cases hs
  · cases hn
    obtain rfl : len = _ := hlen.resolve_left (by simp [tm_len])
    simp only [tm_stk, tm_l2] at hs
    split at hs
    · cases hs; exact lv_ladd hx hb hd k
    · cases hs
  · cases hn
    obtain rfl : len = _ := hlen.resolve_left (by simp [tm_len])
    simp only [tm_stk, tm_l2] at hs
    split at hs
    · cases hs; exact lv_lsub hx hb hd k
    · cases hs
  · cases hn
    obtain rfl : len = _ := hlen.resolve_left (by simp [tm_len])
    simp only [tm_stk, tm_l2] at hs
    split at hs
    · cases hs; exact lv_lmul hx hb hd k
    · cases hs
  · cases hn
    obtain rfl : len = _ := hlen.resolve_left (by simp [tm_len])
    simp only [tm_stk] at hs
    split at hs
    · cases hs; exact lv_lneg hx hb hd k
    · cases hs
  · cases hn
    obtain rfl : len = _ := hlen.resolve_left (by simp [tm_len])
    simp only [tm_stk, tm_l2] at hs
    split at hs
    · cases hs; exact lv_land hx hb hd k
    · cases hs
  · cases hn
    obtain rfl : len = _ := hlen.resolve_left (by simp [tm_len])
    simp only [tm_stk, tm_l2] at hs
    split at hs
    · cases hs; exact lv_lor hx hb hd k
    · cases hs
  · cases hn
    obtain rfl : len = _ := hlen.resolve_left (by simp [tm_len])
    simp only [tm_stk] at hs
    split at hs
    · cases hs; exact lv_lshl hx hb hd rfl k
    · cases hs
  · cases hn
    obtain rfl : len = _ := hlen.resolve_left (by simp [tm_len])
    simp only [tm_stk] at hs
    split at hs
    · cases hs; exact lv_lshr hx hb hd rfl k
    · cases hs
  · cases hn
    obtain rfl : len = _ := hlen.resolve_left (by simp [tm_len])
    simp only [tm_stk] at hs
    split at hs
    · cases hs; exact W.lcmp hx hb hd k
    · cases hs
  · cases hn
    obtain rfl : len = _ := hlen.resolve_left (by simp [tm_len])
    simp only [tm_stk] at hs
    split at hs
    · cases hs; exact lv_dup hx hb hd rfl k
    · cases hs; exact lv_dup hx hb hd rfl k
    · cases hs
  · cases hn
    obtain rfl : len = _ := hlen.resolve_left (by simp [tm_len])
    simp only [tm_stk] at hs
    split at hs
    · cases hs; exact lv_dup2_11 hx hb hd rfl rfl k
    · cases hs; exact lv_dup2_11 hx hb hd rfl rfl k
    · cases hs
  · cases hn
    simp only [tm_stk, reduceCtorEq] at hs
  · cases hn
    simp only [tm_stk, reduceCtorEq] at hs
  · cases hn
    simp only [tm_stk, reduceCtorEq] at hs
  · cases hn
    simp only [tm_stk, reduceCtorEq] at hs
  · cases hn
    simp only [tm_stk, reduceCtorEq] at hs
  · cases hn
    simp only [tm_stk, reduceCtorEq] at hs
  · cases hn
    simp only [tm_stk, reduceCtorEq] at hs
  · cases hn
set_option maxHeartbeats 4000000 in
theorem tm_step_loc (C : tm_C V p s m args meth c y) (hl : lv_has ls (tm_mx y) (tm_lv V.2.2.2.1 V.2.2.2.2.1 L)) (hLn : L.length ≤ tm_mx y)
    {i0 i : Instr} {len : Nat} (hd : decode (tm_cd y) pc = .ok (i0, len)) (hlen : tm_len i0 = 0 ∨ len = tm_len i0) (hn : tm_nrm y pc i0 = some i) (hs : tm_loc i L st = some (L', st'))
    (kk : ∀ ls' : Array Slot, lv_has ls' (tm_mx y) (tm_lv V.2.2.2.1 V.2.2.2.2.1 L') → L'.length ≤ tm_mx y → W p l e R s m args below meth c H locs cells slots Q (F0 m (pc + len) ls' (st'.map (tm_t V)))) : W p l e R s m args below meth c H locs cells slots Q (F0 m pc ls (st.map (tm_t V))) := by
  have C0 := C
  obtain ⟨hx, hb, -, -, hml, -, hown, hts, hE, hci⟩ := C
  unfold tm_nrm at hn
  split at hn
  · cases hn
    obtain rfl : len = _ := hlen.resolve_left (by simp [tm_len])
    simp only [tm_loc] at hs
    split at hs
    · rename_i h0; cases hs; exact lv_aload hx hb hd (tm_lv_at hl h0 (by intro z; simp)) (kk ls hl hLn)
    · cases hs
  · cases hn
    obtain rfl : len = _ := hlen.resolve_left (by simp [tm_len])
    simp only [tm_loc] at hs
    split at hs
    · rename_i h0; cases hs; exact lv_iload hx hb hd (tm_lv_at hl h0 (by intro z; simp)) (kk ls hl hLn)
    · cases hs
  · cases hn
    obtain rfl : len = _ := hlen.resolve_left (by simp [tm_len])
    simp only [tm_loc] at hs
    split at hs
    · rename_i h0; cases hs; exact lv_lload hx hb hd (tm_lv_at hl h0 (by intro z; simp)) (kk ls hl hLn)
    · cases hs
  · cases hn
    obtain rfl : len = _ := hlen.resolve_left (by simp [tm_len])
    simp only [tm_loc] at hs
    split at hs
    · split at hs
      · rename_i hq; cases hs; exact lv_astore hx hb hd hl (Nat.lt_of_lt_of_le hq hLn) rfl (fun ls1 h1 => kk ls1 (tm_lv_set1 h1) (by rw [tm_set1_len]; exact hLn))
      · cases hs
    · cases hs
  · cases hn
    obtain rfl : len = _ := hlen.resolve_left (by simp [tm_len])
    simp only [tm_loc] at hs
    split at hs
    · split at hs
      · rename_i hq; cases hs; exact lv_istore hx hb hd hl (Nat.lt_of_lt_of_le hq hLn) rfl (fun ls1 h1 => kk ls1 (tm_lv_set1 h1) (by rw [tm_set1_len]; exact hLn))
      · cases hs
    · cases hs
  · cases hn
    obtain rfl : len = _ := hlen.resolve_left (by simp [tm_len])
    simp only [tm_loc] at hs
    split at hs
    · split at hs
      · rename_i hq; cases hs; exact lv_lstore hx hb hd hl (Nat.lt_of_lt_of_le hq hLn) rfl (fun ls1 h1 => kk ls1 (tm_lv_set2 h1) (by rw [tm_set2_len]; exact hLn))
      · cases hs
    · cases hs
  · cases hn
    obtain rfl : len = _ := hlen.resolve_left (by simp [tm_len])
    simp only [tm_loc] at hs
    split at hs
    · rename_i h0; cases hs; exact lv_aload_n hx hb hd rfl (tm_lv_at hl h0 (by intro z; simp)) (kk ls hl hLn)
    · cases hs
  · cases hn
    obtain rfl : len = _ := hlen.resolve_left (by simp [tm_len])
    simp only [tm_loc] at hs
    split at hs
    · rename_i h0; cases hs; exact lv_iload_n hx hb hd rfl (tm_lv_at hl h0 (by intro z; simp)) (kk ls hl hLn)
    · cases hs
  · cases hn
    obtain rfl : len = _ := hlen.resolve_left (by simp [tm_len])
    simp only [tm_loc] at hs
    split at hs
    · rename_i h0; cases hs; exact lv_lload_n hx hb hd rfl (tm_lv_at hl h0 (by intro z; simp)) (kk ls hl hLn)
    · cases hs
  · cases hn
    obtain rfl : len = _ := hlen.resolve_left (by simp [tm_len])
    simp only [tm_loc] at hs
    split at hs
    · split at hs
      · rename_i hq; cases hs; exact lv_astore_n hx hb hd rfl hl (Nat.lt_of_lt_of_le hq hLn) rfl (fun ls1 h1 => kk ls1 (tm_lv_set1 h1) (by rw [tm_set1_len]; exact hLn))
      · cases hs
    · cases hs
  · cases hn
    obtain rfl : len = _ := hlen.resolve_left (by simp [tm_len])
    simp only [tm_loc] at hs
    split at hs
    · split at hs
      · rename_i hq; cases hs; exact lv_istore_n hx hb hd rfl hl (Nat.lt_of_lt_of_le hq hLn) rfl (fun ls1 h1 => kk ls1 (tm_lv_set1 h1) (by rw [tm_set1_len]; exact hLn))
      · cases hs
    · cases hs
  · cases hn
    obtain rfl : len = _ := hlen.resolve_left (by simp [tm_len])
    simp only [tm_loc] at hs
    split at hs
    · split at hs
      · rename_i hq; cases hs; exact lv_lstore_n hx hb hd rfl hl (Nat.lt_of_lt_of_le hq hLn) rfl (fun ls1 h1 => kk ls1 (tm_lv_set2 h1) (by rw [tm_set2_len]; exact hLn))
      · cases hs
    · cases hs
  · cases hn
    obtain rfl : len = _ := hlen.resolve_left (by simp [tm_len])
    simp only [tm_loc] at hs
    split at hs
    · rename_i x h0; cases hs
      obtain ⟨j, hj⟩ := List.getElem?_of_mem (tm_lv_mem (sz := V.2.2.2.1) (b := V.2.2.2.2.1) (q := (_, Value.int x)) |>.mpr ⟨_, h0, by intro z; simp, rfl⟩)
      exact lv_iinc hx hb hd hl hj rfl (Nat.lt_of_lt_of_le (List.getElem?_eq_some_iff.mp h0).1 hLn) rfl (fun ls1 h1 => kk ls1 (tm_lv_set1 h1) (by rw [tm_set1_len]; exact hLn))
    · cases hs
  · cases hn
    simp only [tm_loc, reduceCtorEq] at hs
  · split at hn
    · cases hn; simp only [tm_loc, reduceCtorEq] at hs
    · cases hn
  · split at hn
    · cases hn; simp only [tm_loc, reduceCtorEq] at hs
    · cases hn
  · obtain ⟨q, h1, h2⟩ := Option.map_eq_some_iff.mp hn
    cases h2
    simp only [tm_loc, reduceCtorEq] at hs
  · obtain ⟨q, h1, h2⟩ := Option.map_eq_some_iff.mp hn
    cases h2
    simp only [tm_loc, reduceCtorEq] at hs
  · cases hn
    simp only [tm_loc, reduceCtorEq] at hs
  · obtain ⟨q, h1, h2⟩ := Option.map_eq_some_iff.mp hn
    cases h2
    simp only [tm_loc, reduceCtorEq] at hs
  · obtain ⟨q, h1, h2⟩ := Option.map_eq_some_iff.mp hn
    cases h2
    simp only [tm_loc, reduceCtorEq] at hs
  · split at hn
    · split at hn
      · split at hn
        · cases hn; simp only [tm_loc, reduceCtorEq] at hs
        · cases hn
      · cases hn; simp only [tm_loc, reduceCtorEq] at hs
    · cases hn
  · obtain ⟨q, h1, h2⟩ := Option.map_eq_some_iff.mp hn
    cases h2
    simp only [tm_loc, reduceCtorEq] at hs
  · obtain ⟨q, h1, h2⟩ := Option.map_eq_some_iff.mp hn
    cases h2
    simp only [tm_loc, reduceCtorEq] at hs
  · obtain ⟨q, h1, h2⟩ := Option.map_eq_some_iff.mp hn
    cases h2
    simp only [tm_loc, reduceCtorEq] at hs
  · obtain ⟨q, h1, h2⟩ := Option.map_eq_some_iff.mp hn
    cases h2
    simp only [tm_loc, reduceCtorEq] at hs
  · obtain ⟨q, h1, h2⟩ := Option.map_eq_some_iff.mp hn
    cases h2
    simp only [tm_loc, reduceCtorEq] at hs
  · split at hn
    · cases hn; simp only [tm_loc, reduceCtorEq] at hs
    · cases hn; simp only [tm_loc, reduceCtorEq] at hs
    · cases hn
  · cases hn
    simp only [tm_loc, reduceCtorEq] at hs
  · cases hn
    simp only [tm_loc, reduceCtorEq] at hs
  · cases hn
    simp only [tm_loc, reduceCtorEq] at hs
  · cases hn
    simp only [tm_loc, reduceCtorEq] at hs
  · cases hn
    simp only [tm_loc, reduceCtorEq] at hs
  · split at hn
    · cases hn; simp only [tm_loc, reduceCtorEq] at hs
    · cases hn
  · split at hn
    · cases hn; simp only [tm_loc, reduceCtorEq] at hs
    · split at hn
      · cases hn; simp only [tm_loc, reduceCtorEq] at hs
      · cases hn
  · split at hn
    · cases hn; simp only [tm_loc, reduceCtorEq] at hs
    · cases hn
  · split at hn
    · cases hn; simp only [tm_loc, reduceCtorEq] at hs
    · cases hn
  · cases hn
    simp only [tm_loc, reduceCtorEq] at hs
  · cases hn
    simp only [tm_loc, reduceCtorEq] at hs
  · cases hn
    simp only [tm_loc, reduceCtorEq] at hs
  · cases hn
    simp only [tm_loc, reduceCtorEq] at hs
  · cases hn
    simp only [tm_loc, reduceCtorEq] at hs
  · cases hn
    simp only [tm_loc, reduceCtorEq] at hs
  · cases hn
    simp only [tm_loc, reduceCtorEq] at hs
  · cases hn
    simp only [tm_loc, reduceCtorEq] at hs
  · cases hn
    simp only [tm_loc, reduceCtorEq] at hs
  · cases hn
    simp only [tm_loc, reduceCtorEq] at hs
  · cases hn
    simp only [tm_loc, reduceCtorEq] at hs
  · cases hn
    simp only [tm_loc, reduceCtorEq] at hs
  · cases hn
    simp only [tm_loc, reduceCtorEq] at hs
  · cases hn
    simp only [tm_loc, reduceCtorEq] at hs
  · cases hn
    simp only [tm_loc, reduceCtorEq] at hs
  · cases hn
    simp only [tm_loc, reduceCtorEq] at hs
  · cases hn
    simp only [tm_loc, reduceCtorEq] at hs
  · cases hn
    simp only [tm_loc, reduceCtorEq] at hs
  · cases hn
    simp only [tm_loc, reduceCtorEq] at hs
  · cases hn
    simp only [tm_loc, reduceCtorEq] at hs
  · cases hn
    simp only [tm_loc, reduceCtorEq] at hs
  · cases hn
    simp only [tm_loc, reduceCtorEq] at hs
  · cases hn
    simp only [tm_loc, reduceCtorEq] at hs
  · cases hn
    simp only [tm_loc, reduceCtorEq] at hs
  · cases hn
    simp only [tm_loc, reduceCtorEq] at hs
  · cases hn
    simp only [tm_loc, reduceCtorEq] at hs
  · cases hn
    simp only [tm_loc, reduceCtorEq] at hs
  · cases hn
    simp only [tm_loc, reduceCtorEq] at hs
  · cases hn
    simp only [tm_loc, reduceCtorEq] at hs
  · cases hn
    simp only [tm_loc, reduceCtorEq] at hs
  · cases hn
    simp only [tm_loc, reduceCtorEq] at hs
  · cases hn
    simp only [tm_loc, reduceCtorEq] at hs
  · cases hn
    simp only [tm_loc, reduceCtorEq] at hs
  · cases hn
    simp only [tm_loc, reduceCtorEq] at hs
  · cases hn
set_option maxHeartbeats 4000000 in
theorem tm_step_rdg (C : tm_C V p s m args meth c y) (hH : tm_H V G M H) (hS : va_S (tm_B V.2.2.2.1) s.heap H locs)
    {i0 i : Instr} {len : Nat} (hd : decode (tm_cd y) pc = .ok (i0, len)) (hlen : tm_len i0 = 0 ∨ len = tm_len i0) (hn : tm_nrm y pc i0 = some i) (hs : tm_rdg i st G M = some st')
    (k : W p l e R s m args below meth c H locs cells slots Q (F0 m (pc + len) ls (st'.map (tm_t V)))) : W p l e R s m args below meth c H locs cells slots Q (F0 m pc ls (st.map (tm_t V))) := by
  have C0 := C
  obtain ⟨hx, hb, -, -, hml, -, hown, hts, hE, hci⟩ := C
  unfold tm_nrm at hn
  split at hn
  · cases hn
    simp only [tm_rdg, reduceCtorEq] at hs
  · cases hn
    simp only [tm_rdg, reduceCtorEq] at hs
  · cases hn
    simp only [tm_rdg, reduceCtorEq] at hs
  · cases hn
    simp only [tm_rdg, reduceCtorEq] at hs
  · cases hn
    simp only [tm_rdg, reduceCtorEq] at hs
  · cases hn
    simp only [tm_rdg, reduceCtorEq] at hs
  · cases hn
    simp only [tm_rdg, reduceCtorEq] at hs
  · cases hn
    simp only [tm_rdg, reduceCtorEq] at hs
  · cases hn
    simp only [tm_rdg, reduceCtorEq] at hs
  · cases hn
    simp only [tm_rdg, reduceCtorEq] at hs
  · cases hn
    simp only [tm_rdg, reduceCtorEq] at hs
  · cases hn
    simp only [tm_rdg, reduceCtorEq] at hs
  · cases hn
    simp only [tm_rdg, reduceCtorEq] at hs
  · cases hn
    simp only [tm_rdg, reduceCtorEq] at hs
  · split at hn
    · cases hn; simp only [tm_rdg, reduceCtorEq] at hs
    · cases hn
  · split at hn
    · cases hn; simp only [tm_rdg, reduceCtorEq] at hs
    · cases hn
  · obtain ⟨q, h1, h2⟩ := Option.map_eq_some_iff.mp hn
    cases h2
    simp only [tm_rdg, reduceCtorEq] at hs
  · obtain ⟨q, h1, h2⟩ := Option.map_eq_some_iff.mp hn
    cases h2
    simp only [tm_rdg, reduceCtorEq] at hs
  · cases hn
    simp only [tm_rdg, reduceCtorEq] at hs
  · obtain ⟨q, h1, h2⟩ := Option.map_eq_some_iff.mp hn
    cases h2
    simp only [tm_rdg, reduceCtorEq] at hs
  · obtain ⟨q, h1, h2⟩ := Option.map_eq_some_iff.mp hn
    cases h2
    obtain rfl : len = _ := hlen.resolve_left (by simp [tm_len])
    obtain ⟨fc, wp⟩ := q
    simp only [tm_rdg] at hs
    split at hs
    · obtain ⟨v, h3, h4⟩ := Option.map_eq_some_iff.mp hs
      cases h4
      exact tm_rgetf C0 hH h1 h3 hd k
    · cases hs
  · split at hn
    · split at hn
      · split at hn
        · cases hn; simp only [tm_rdg, reduceCtorEq] at hs
        · cases hn
      · cases hn; simp only [tm_rdg, reduceCtorEq] at hs
    · cases hn
  · obtain ⟨q, h1, h2⟩ := Option.map_eq_some_iff.mp hn
    cases h2
    simp only [tm_rdg, reduceCtorEq] at hs
  · obtain ⟨q, h1, h2⟩ := Option.map_eq_some_iff.mp hn
    cases h2
    simp only [tm_rdg, reduceCtorEq] at hs
  · obtain ⟨q, h1, h2⟩ := Option.map_eq_some_iff.mp hn
    cases h2
    simp only [tm_rdg, reduceCtorEq] at hs
  · obtain ⟨q, h1, h2⟩ := Option.map_eq_some_iff.mp hn
    cases h2
    simp only [tm_rdg, reduceCtorEq] at hs
  · obtain ⟨q, h1, h2⟩ := Option.map_eq_some_iff.mp hn
    cases h2
    simp only [tm_rdg, reduceCtorEq] at hs
  · split at hn
    · cases hn; simp only [tm_rdg, reduceCtorEq] at hs
    · cases hn; simp only [tm_rdg, reduceCtorEq] at hs
    · cases hn
  · cases hn
    simp only [tm_rdg, reduceCtorEq] at hs
  · cases hn
    simp only [tm_rdg, reduceCtorEq] at hs
  · cases hn
    simp only [tm_rdg, reduceCtorEq] at hs
  · cases hn
    simp only [tm_rdg, reduceCtorEq] at hs
  · cases hn
    simp only [tm_rdg, reduceCtorEq] at hs
  · split at hn
    · cases hn; simp only [tm_rdg, reduceCtorEq] at hs
    · cases hn
  · split at hn
    · cases hn; simp only [tm_rdg, reduceCtorEq] at hs
    · split at hn
      · cases hn; simp only [tm_rdg, reduceCtorEq] at hs
      · cases hn
  · split at hn
    · cases hn; simp only [tm_rdg, reduceCtorEq] at hs
    · cases hn
  · split at hn
    · cases hn; simp only [tm_rdg, reduceCtorEq] at hs
    · cases hn
  · cases hn
    simp only [tm_rdg, reduceCtorEq] at hs
  · cases hn
    simp only [tm_rdg, reduceCtorEq] at hs
  · cases hn
    simp only [tm_rdg, reduceCtorEq] at hs
  · cases hn
    simp only [tm_rdg, reduceCtorEq] at hs
  · cases hn
    simp only [tm_rdg, reduceCtorEq] at hs
  · cases hn
    simp only [tm_rdg, reduceCtorEq] at hs
  · cases hn
    simp only [tm_rdg, reduceCtorEq] at hs
  · cases hn
    simp only [tm_rdg, reduceCtorEq] at hs
  · cases hn
    simp only [tm_rdg, reduceCtorEq] at hs
  · cases hn
    simp only [tm_rdg, reduceCtorEq] at hs
  · cases hn
    simp only [tm_rdg, reduceCtorEq] at hs
  · cases hn
    simp only [tm_rdg, reduceCtorEq] at hs
  · cases hn
    simp only [tm_rdg, reduceCtorEq] at hs
  · cases hn
    simp only [tm_rdg, reduceCtorEq] at hs
  · cases hn
    simp only [tm_rdg, reduceCtorEq] at hs
  · cases hn
    simp only [tm_rdg, reduceCtorEq] at hs
  · cases hn
    simp only [tm_rdg, reduceCtorEq] at hs
  · cases hn
    simp only [tm_rdg, reduceCtorEq] at hs
  · cases hn
    simp only [tm_rdg, reduceCtorEq] at hs
  · cases hn
    simp only [tm_rdg, reduceCtorEq] at hs
  · cases hn
    simp only [tm_rdg, reduceCtorEq] at hs
  · cases hn
    simp only [tm_rdg, reduceCtorEq] at hs
  · cases hn
    simp only [tm_rdg, reduceCtorEq] at hs
  · cases hn
    simp only [tm_rdg, reduceCtorEq] at hs
  · cases hn
    simp only [tm_rdg, reduceCtorEq] at hs
  · cases hn
    simp only [tm_rdg, reduceCtorEq] at hs
  · cases hn
    simp only [tm_rdg, reduceCtorEq] at hs
  · cases hn
    obtain rfl : len = _ := hlen.resolve_left (by simp [tm_len])
    simp only [tm_rdg] at hs
    split at hs
    · obtain ⟨v, h3, h4⟩ := Option.map_eq_some_iff.mp hs
      cases h4
      exact tm_riald C0 hH hS h3 hd k
    · cases hs
  · cases hn
    simp only [tm_rdg, reduceCtorEq] at hs
  · cases hn
    obtain rfl : len = _ := hlen.resolve_left (by simp [tm_len])
    simp only [tm_rdg] at hs
    split at hs
    · obtain ⟨v, h3, h4⟩ := Option.map_eq_some_iff.mp hs
      cases h4
      exact tm_rbald C0 hH h3 hd k
    · cases hs
  · cases hn
    simp only [tm_rdg, reduceCtorEq] at hs
  · cases hn
    obtain rfl : len = _ := hlen.resolve_left (by simp [tm_len])
    simp only [tm_rdg] at hs
    split at hs
    · obtain ⟨v, h3, h4⟩ := Option.map_eq_some_iff.mp hs
      cases h4
      exact tm_raald C0 hH h3 hd k
    · cases hs
  · cases hn
    simp only [tm_rdg, reduceCtorEq] at hs
  · cases hn
    obtain rfl : len = _ := hlen.resolve_left (by simp [tm_len])
    simp only [tm_rdg] at hs
    split at hs
    · obtain ⟨v, h3, h4⟩ := Option.map_eq_some_iff.mp hs
      cases h4
      exact tm_ralen C0 hH hS h3 hd k
    · cases hs
  · cases hn
def tm_sl (G : tm_G) : Nat := (G.1.map (·.2)).sum
theorem tm_putr_same {k fc t : Nat} {Gn : tm_G} (h : tm_putr G k fc t = some Gn) : Gn.1 = G.1 := by
  unfold tm_putr at h
  split at h
  · split at h
    · cases h; rfl
    · cases h
  · cases h
theorem tm_ast_same {a t : Nat} {i : Int32} {Gn : tm_G} (h : tm_ast G a i t = some Gn) : Gn.1 = G.1 := by
  unfold tm_ast at h
  split at h
  · split at h
    · cases h; rfl
    · cases h
  · split at h
    · cases h; rfl
    · cases h
  · cases h
theorem tm_mk_len {kd n : Nat} {Gn : tm_G} {Mn : tm_M} (h : tm_mk G M kd n = some (Gn, Mn)) : Gn.1.length - G.1.length = 1 ∧ tm_sl Gn - tm_sl G = n := by
  obtain ⟨-, rfl, -⟩ := tm_mk_eq h
  refine ⟨?_, ?_⟩
  · simp only [List.length_append, List.length_cons, List.length_nil]; omega
  · simp only [tm_sl, List.map_append, List.sum_append, List.map_cons, List.map_nil, List.sum_cons, List.sum_nil]; omega
set_option maxHeartbeats 4000000 in
theorem tm_step_wrg (C : tm_C V p s m args meth c y) (hH : tm_H V G M H) (hS : va_S (tm_B V.2.2.2.1) s.heap H locs) (hl : lv_has ls (tm_mx y) (tm_lv V.2.2.2.1 V.2.2.2.2.1 L)) (hRf : 1 ≤ R.frames) (hRl : 64 ≤ R.locals) {g0 : Nat} (hg : s.heap.size = V.2.2.2.1 + g0) (hc : cells + g0 = G.1.length) (hcl : cells + (G'.1.length - G.1.length) ≤ R.cells) (hsl : slots + (tm_sl G' - tm_sl G) ≤ R.slots)
    {i0 i : Instr} {len : Nat} (hd : decode (tm_cd y) pc = .ok (i0, len)) (hlen : tm_len i0 = 0 ∨ len = tm_len i0) (hn : tm_nrm y pc i0 = some i) (hs : tm_wrg i st G M = some (st', G', M'))
    (kk : ∀ (H1 : Heap) (locs1 : List Loc), tm_H V G' M' H1 → va_S (tm_B V.2.2.2.1) s.heap H1 locs1 → W p l e R s m args below meth c H1 locs1 (cells + (G'.1.length - G.1.length)) (slots + (tm_sl G' - tm_sl G)) Q (F0 m (pc + len) ls (st'.map (tm_t V)))) : W p l e R s m args below meth c H locs cells slots Q (F0 m pc ls (st.map (tm_t V))) := by
  have C0 := C
  obtain ⟨hx, hb, -, -, hml, -, hown, hts, hE, hci⟩ := C
  unfold tm_nrm at hn
  split at hn
  · cases hn
    simp only [tm_wrg, reduceCtorEq] at hs
  · cases hn
    simp only [tm_wrg, reduceCtorEq] at hs
  · cases hn
    simp only [tm_wrg, reduceCtorEq] at hs
  · cases hn
    simp only [tm_wrg, reduceCtorEq] at hs
  · cases hn
    simp only [tm_wrg, reduceCtorEq] at hs
  · cases hn
    simp only [tm_wrg, reduceCtorEq] at hs
  · cases hn
    simp only [tm_wrg, reduceCtorEq] at hs
  · cases hn
    simp only [tm_wrg, reduceCtorEq] at hs
  · cases hn
    simp only [tm_wrg, reduceCtorEq] at hs
  · cases hn
    simp only [tm_wrg, reduceCtorEq] at hs
  · cases hn
    simp only [tm_wrg, reduceCtorEq] at hs
  · cases hn
    simp only [tm_wrg, reduceCtorEq] at hs
  · cases hn
    simp only [tm_wrg, reduceCtorEq] at hs
  · cases hn
    simp only [tm_wrg, reduceCtorEq] at hs
  · split at hn
    · cases hn; simp only [tm_wrg, reduceCtorEq] at hs
    · cases hn
  · split at hn
    · cases hn; simp only [tm_wrg, reduceCtorEq] at hs
    · cases hn
  · obtain ⟨q, h1, h2⟩ := Option.map_eq_some_iff.mp hn
    cases h2
    simp only [tm_wrg, reduceCtorEq] at hs
  · obtain ⟨q, h1, h2⟩ := Option.map_eq_some_iff.mp hn
    cases h2
    simp only [tm_wrg, reduceCtorEq] at hs
  · cases hn
    simp only [tm_wrg, reduceCtorEq] at hs
  · obtain ⟨q, h1, h2⟩ := Option.map_eq_some_iff.mp hn
    cases h2
    simp only [tm_wrg, reduceCtorEq] at hs
  · obtain ⟨q, h1, h2⟩ := Option.map_eq_some_iff.mp hn
    cases h2
    simp only [tm_wrg, reduceCtorEq] at hs
  · split at hn
    · rename_i fc wp hlk
      split at hn
      · rename_i hfin
        split at hn
        · rename_i hini; cases hn
          obtain rfl : len = _ := hlen.resolve_left (by simp [tm_len])
          simp only [tm_wrg] at hs
          split at hs
          · obtain ⟨v, h3, h4⟩ := Option.map_eq_some_iff.mp hs
            cases h4
            have hsame := tm_putr_same h3
            have hsame2 : tm_sl G' = tm_sl G := by unfold tm_sl; rw [hsame]
            refine tm_rputr C0 hH hS hlk hfin hini h3 hd (fun H1 locs1 a b => ?_)
            have := kk H1 locs1 a b
            rw [hsame2, hsame, Nat.sub_self, Nat.sub_self, Nat.add_zero, Nat.add_zero] at this
            exact this
          · cases hs
        · cases hn
      · rename_i hfin; cases hn
        obtain rfl : len = _ := hlen.resolve_left (by simp [tm_len])
        simp only [tm_wrg] at hs
        split at hs
        · obtain ⟨v, h3, h4⟩ := Option.map_eq_some_iff.mp hs
          cases h4
          refine tm_rputf C0 hH hS hlk (by simpa using hfin) h3 hd (fun H1 locs1 a b => ?_)
          have := kk H1 locs1 a b
          rw [Nat.sub_self, Nat.sub_self, Nat.add_zero, Nat.add_zero] at this
          exact this
        · cases hs
    · cases hn
  · obtain ⟨q, h1, h2⟩ := Option.map_eq_some_iff.mp hn
    cases h2
    simp only [tm_wrg, reduceCtorEq] at hs
  · obtain ⟨q, h1, h2⟩ := Option.map_eq_some_iff.mp hn
    cases h2
    simp only [tm_wrg, reduceCtorEq] at hs
  · obtain ⟨q, h1, h2⟩ := Option.map_eq_some_iff.mp hn
    cases h2
    simp only [tm_wrg, reduceCtorEq] at hs
  · obtain ⟨q, h1, h2⟩ := Option.map_eq_some_iff.mp hn
    cases h2
    obtain rfl : len = _ := hlen.resolve_left (by simp [tm_len])
    obtain ⟨q, wp, nest⟩ := q
    simp only [tm_wrg] at hs
    split at hs
    · rename_i hq; subst hq
      split at hs
      · split at hs
        · rename_i hsum
          obtain ⟨v, h3, h4⟩ := Option.map_eq_some_iff.mp hs
          cases h4
          refine tm_rcopy C0 hH hS (by rw [hml]; exact hl.1.symm) hRf hRl h1 (by rw [tm_tr_sum]; exact hsum) h3 hd (fun H1 locs1 a b => ?_)
          have := kk H1 locs1 a b
          rw [Nat.sub_self, Nat.sub_self, Nat.add_zero, Nat.add_zero] at this
          exact this
        · cases hs
      · cases hs
    · cases hs
  · obtain ⟨q, h1, h2⟩ := Option.map_eq_some_iff.mp hn
    cases h2
    obtain rfl : len = _ := hlen.resolve_left (by simp [tm_len])
    obtain ⟨ci, wp⟩ := q
    simp only [tm_wrg] at hs
    split at hs
    · obtain ⟨q, h3, h4⟩ := Option.map_eq_some_iff.mp hs
      obtain ⟨Gn, Mn⟩ := q
      cases h4
      obtain ⟨hz1, hz2⟩ := tm_mk_len h3
      simp only [hz1, hz2] at kk hcl hsl
      exact tm_rnew C0 hH hS hg hc h1 h3 hcl hsl hd (fun H1 a b => kk H1 locs a b)
    · cases hs
  · split at hn
    · rename_i hlk; cases hn
      obtain rfl : len = _ := hlen.resolve_left (by simp [tm_len])
      simp only [tm_wrg] at hs
      split at hs
      · split at hs
        · cases hs
        · rename_i hneg
          split at hs
          · cases hs
          · rename_i hbig
            split at hs
            · obtain ⟨q, h3, h4⟩ := Option.map_eq_some_iff.mp hs
              obtain ⟨Gn, Mn⟩ := q
              cases h4
              obtain ⟨hz1, hz2⟩ := tm_mk_len h3
              simp only [hz1, hz2] at kk hcl hsl
              exact tm_rnewq C0 hH hS hg hc hlk (Or.inl ⟨rfl, rfl⟩) hneg hbig h3 hcl hsl hd (fun H1 a b => kk H1 locs a b)
            · cases hs
      · cases hs
    · rename_i hlk; cases hn
      obtain rfl : len = _ := hlen.resolve_left (by simp [tm_len])
      simp only [tm_wrg] at hs
      split at hs
      · split at hs
        · cases hs
        · rename_i hneg
          split at hs
          · cases hs
          · rename_i hbig
            split at hs
            · obtain ⟨q, h3, h4⟩ := Option.map_eq_some_iff.mp hs
              obtain ⟨Gn, Mn⟩ := q
              cases h4
              obtain ⟨hz1, hz2⟩ := tm_mk_len h3
              simp only [hz1, hz2] at kk hcl hsl
              exact tm_rnewq C0 hH hS hg hc hlk (Or.inr ⟨rfl, rfl⟩) hneg hbig h3 hcl hsl hd (fun H1 a b => kk H1 locs a b)
            · cases hs
      · cases hs
    · cases hn
  · cases hn
    obtain rfl : len = _ := hlen.resolve_left (by simp [tm_len])
    simp only [tm_wrg] at hs
    split at hs
    · split at hs
      · cases hs
      · rename_i hneg
        split at hs
        · cases hs
        · rename_i hbig
          split at hs
          · obtain ⟨q, h3, h4⟩ := Option.map_eq_some_iff.mp hs
            obtain ⟨Gn, Mn⟩ := q
            cases h4
            obtain ⟨hz1, hz2⟩ := tm_mk_len h3
            simp only [hz1, hz2] at kk hcl hsl
            exact tm_rnewa C0 hH hS hg hc (Or.inl ⟨rfl, rfl⟩) hneg hbig h3 hcl hsl hd (fun H1 a b => kk H1 locs a b)
          · obtain ⟨q, h3, h4⟩ := Option.map_eq_some_iff.mp hs
            obtain ⟨Gn, Mn⟩ := q
            cases h4
            obtain ⟨hz1, hz2⟩ := tm_mk_len h3
            simp only [hz1, hz2] at kk hcl hsl
            exact tm_rnewa C0 hH hS hg hc (Or.inr (Or.inl ⟨rfl, rfl⟩)) hneg hbig h3 hcl hsl hd (fun H1 a b => kk H1 locs a b)
          · obtain ⟨q, h3, h4⟩ := Option.map_eq_some_iff.mp hs
            obtain ⟨Gn, Mn⟩ := q
            cases h4
            obtain ⟨hz1, hz2⟩ := tm_mk_len h3
            simp only [hz1, hz2] at kk hcl hsl
            exact tm_rnewa C0 hH hS hg hc (Or.inr (Or.inr ⟨rfl, rfl⟩)) hneg hbig h3 hcl hsl hd (fun H1 a b => kk H1 locs a b)
          · cases hs
    · cases hs
  · cases hn
    simp only [tm_wrg, reduceCtorEq] at hs
  · cases hn
    simp only [tm_wrg, reduceCtorEq] at hs
  · cases hn
    simp only [tm_wrg, reduceCtorEq] at hs
  · cases hn
    simp only [tm_wrg, reduceCtorEq] at hs
  · split at hn
    · cases hn; simp only [tm_wrg, reduceCtorEq] at hs
    · cases hn
  · split at hn
    · cases hn; simp only [tm_wrg, reduceCtorEq] at hs
    · split at hn
      · cases hn; simp only [tm_wrg, reduceCtorEq] at hs
      · cases hn
  · split at hn
    · cases hn; simp only [tm_wrg, reduceCtorEq] at hs
    · cases hn
  · split at hn
    · cases hn; simp only [tm_wrg, reduceCtorEq] at hs
    · cases hn
  · cases hn
    simp only [tm_wrg, reduceCtorEq] at hs
  · cases hn
    simp only [tm_wrg, reduceCtorEq] at hs
  · cases hn
    simp only [tm_wrg, reduceCtorEq] at hs
  · cases hn
    simp only [tm_wrg, reduceCtorEq] at hs
  · cases hn
    simp only [tm_wrg, reduceCtorEq] at hs
  · cases hn
    simp only [tm_wrg, reduceCtorEq] at hs
  · cases hn
    simp only [tm_wrg, reduceCtorEq] at hs
  · cases hn
    simp only [tm_wrg, reduceCtorEq] at hs
  · cases hn
    simp only [tm_wrg, reduceCtorEq] at hs
  · cases hn
    simp only [tm_wrg, reduceCtorEq] at hs
  · cases hn
    simp only [tm_wrg, reduceCtorEq] at hs
  · cases hn
    simp only [tm_wrg, reduceCtorEq] at hs
  · cases hn
    simp only [tm_wrg, reduceCtorEq] at hs
  · cases hn
    simp only [tm_wrg, reduceCtorEq] at hs
  · cases hn
    simp only [tm_wrg, reduceCtorEq] at hs
  · cases hn
    simp only [tm_wrg, reduceCtorEq] at hs
  · cases hn
    simp only [tm_wrg, reduceCtorEq] at hs
  · cases hn
    simp only [tm_wrg, reduceCtorEq] at hs
  · cases hn
    simp only [tm_wrg, reduceCtorEq] at hs
  · cases hn
    simp only [tm_wrg, reduceCtorEq] at hs
  · cases hn
    simp only [tm_wrg, reduceCtorEq] at hs
  · cases hn
    simp only [tm_wrg, reduceCtorEq] at hs
  · cases hn
    simp only [tm_wrg, reduceCtorEq] at hs
  · cases hn
    simp only [tm_wrg, reduceCtorEq] at hs
  · cases hn
    simp only [tm_wrg, reduceCtorEq] at hs
  · cases hn
    simp only [tm_wrg, reduceCtorEq] at hs
  · cases hn
    simp only [tm_wrg, reduceCtorEq] at hs
  · cases hn
    simp only [tm_wrg, reduceCtorEq] at hs
  · cases hn
    obtain rfl : len = _ := hlen.resolve_left (by simp [tm_len])
    simp only [tm_wrg] at hs
    split at hs
    · obtain ⟨v, h3, h4⟩ := Option.map_eq_some_iff.mp hs
      cases h4
      refine tm_riast C0 hH hS h3 hd (fun H1 locs1 a b => ?_)
      have := kk H1 locs1 a b
      rw [Nat.sub_self, Nat.sub_self, Nat.add_zero, Nat.add_zero] at this
      exact this
    · cases hs
  · cases hn
    simp only [tm_wrg, reduceCtorEq] at hs
  · cases hn
    obtain rfl : len = _ := hlen.resolve_left (by simp [tm_len])
    simp only [tm_wrg] at hs
    split at hs
    · obtain ⟨v, h3, h4⟩ := Option.map_eq_some_iff.mp hs
      cases h4
      refine tm_rbast C0 hH hS h3 hd (fun H1 locs1 a b => ?_)
      have := kk H1 locs1 a b
      rw [Nat.sub_self, Nat.sub_self, Nat.add_zero, Nat.add_zero] at this
      exact this
    · cases hs
  · cases hn
    simp only [tm_wrg, reduceCtorEq] at hs
  · cases hn
    obtain rfl : len = _ := hlen.resolve_left (by simp [tm_len])
    simp only [tm_wrg] at hs
    split at hs
    · obtain ⟨v, h3, h4⟩ := Option.map_eq_some_iff.mp hs
      cases h4
      have hsame := tm_ast_same h3
      have hsame2 : tm_sl G' = tm_sl G := by unfold tm_sl; rw [hsame]
      refine tm_raast C0 hH hS h3 hd (fun H1 locs1 a b => ?_)
      have := kk H1 locs1 a b
      rw [hsame2, hsame, Nat.sub_self, Nat.sub_self, Nat.add_zero, Nat.add_zero] at this
      exact this
    · cases hs
  · cases hn
    simp only [tm_wrg, reduceCtorEq] at hs
  · cases hn
end TMP
