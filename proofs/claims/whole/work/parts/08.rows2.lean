/-! part 08: what comes new, arrays of references, copies, statics, constants, the library's calls -/
set_option maxRecDepth 100000 in
theorem tm_ft_le : (List.range 13).all (fun c => (List.range (tm_nf c)).all fun j => decide (tm_ft c j ≤ 2)) = true := by decide +kernel
theorem tm_born (sz : Nat) (b : Nat → Nat) {c : Nat} (h : c ≤ 12) : ∀ j, j < tm_nf c → defaultValue (tm_ty c j) = vp_V (tm_fs sz b c (tm_nf c) (fun _ => 0) (fun _ => none)) j := by
  intro j hj
  have h2 := List.all_eq_true.mp (tm_all_get tm_ft_le (k := c) (by omega)) j (List.mem_range.mpr hj)
  simp only [decide_eq_true_eq] at h2
  have e : vp_V (tm_fs sz b c (tm_nf c) (fun _ => 0) (fun _ => none)) j = tm_fv sz b c (fun _ => 0) (fun _ => none) j := by
    simp only [vp_V, List.getD_eq_getElem?_getD, tm_fs_at hj, Option.getD_some]
  rw [e]
  unfold tm_fv
  unfold tm_ft at h2 ⊢
  split at h2
  · rename_i hq; rw [hq]; rfl
  · rename_i hq; rw [hq]; rfl
  · rename_i hq; rw [hq]; rfl
  · rename_i hq; rw [hq]; rfl
  · omega
section TMN
variable {V : tm_V} {p : Program} {l : Launch} {e : Env} {R : Room} {s : State} {m : MethodId} {args : Array Value} {below : List Frame} {meth : Method} {c : Code} {H : Heap} {locs : List Loc} {cells slots : Nat} {Q : State → Prop}
variable {pc : Nat} {ls : Array Slot} {rest : List Value} {y : Nat} {G G' : tm_G} {M M' : tm_M}
/-- where the new cell lies -/
theorem tm_where {g0 q : Nat} {e0 : va_E} {g : JFrame} {D : va_G} (hP : va_P D vwCl (tm_ws V.2.2.1 V.2.2.2.1 V.2.2.2.2.1 G M ++ [(q, e0)]) H) (hD : va_D (tm_B V.2.2.2.1) (tm_ws V.2.2.1 V.2.2.2.1 V.2.2.2.2.1 G M ++ [(q, e0)])) (hg : s.heap.size = V.2.2.2.1 + g0) (hc : cells + g0 = G.1.length)
    (k : q = V.2.2.2.1 + G.1.length → W p l e R s m args below meth c H locs (cells + 1) slots Q g) : W p l e R s m args below meth c H locs (cells + 1) slots Q g := by
  intro T hT X
  have h1 := X.heapSize
  rw [hT] at h1
  have hlen : (tm_ws V.2.2.1 V.2.2.2.1 V.2.2.2.2.1 G M).length = G.1.length := by simp [tm_ws]
  have hlast : (tm_ws V.2.2.1 V.2.2.2.1 V.2.2.2.2.1 G M ++ [(q, e0)])[G.1.length]? = some (q, e0) := by
    rw [List.getElem?_append_right (by omega), hlen, Nat.sub_self]
    rfl
  have h2 := (hP _ _ hlast).lt
  simp only at h2
  have h3 : V.2.2.2.1 ≤ q := hD.2 _ _ hlast
  refine k ?_ T hT X
  rcases Nat.lt_or_ge q (V.2.2.2.1 + G.1.length) with h4 | h4
  · exfalso
    have hk : q - V.2.2.2.1 < G.1.length := by omega
    have h5 := tm_ws_at (dA := V.2.2.1) (sz := V.2.2.2.1) (b := V.2.2.2.2.1) (M := M) (List.getElem?_eq_getElem hk)
    have h6 : (tm_ws V.2.2.1 V.2.2.2.1 V.2.2.2.2.1 G M ++ [(q, e0)])[q - V.2.2.2.1]? = some (V.2.2.2.1 + (q - V.2.2.2.1), tm_cell V.2.2.1 V.2.2.2.1 V.2.2.2.2.1 G.1[q - V.2.2.2.1] (M (q - V.2.2.2.1)) (G.2.1 (q - V.2.2.2.1))) := by
      rw [List.getElem?_append_left (by omega)]
      exact h5
    have h7 := hD.1 _ _ _ _ h6 hlast (by show V.2.2.2.1 + (q - V.2.2.2.1) = q; omega)
    omega
  · omega
theorem tm_mk_eq {kd n : Nat} (h : tm_mk G M kd n = some (G', M')) : G.1.length < 900 ∧ G' = (G.1 ++ [(kd, n)], tm_uc G.2.1 G.1.length (fun _ => none), G.2.2) ∧ M' = tm_uc M G.1.length (fun _ => 0) := by
  unfold tm_mk at h
  split at h
  · rename_i hl
    cases h
    exact ⟨hl, rfl, rfl⟩
  · cases h
theorem tm_mk_H {kd n : Nat} {H1 : Heap} (hH : tm_H V G M H) (h : tm_mk G M kd n = some (G', M')) (hP : va_P (V.1, V.2.1) vwCl (tm_ws V.2.2.1 V.2.2.2.1 V.2.2.2.2.1 G M ++ [(V.2.2.2.1 + G.1.length, tm_cell V.2.2.1 V.2.2.2.1 V.2.2.2.2.1 (kd, n) (fun _ => 0) (fun _ => none))]) H1) : tm_H V G' M' H1 := by
  obtain ⟨hl, rfl, rfl⟩ := tm_mk_eq h
  refine ⟨?_, by simp only [List.length_append, List.length_cons, List.length_nil]; omega, hH.2.2⟩
  have e := tm_ws_push (dA := V.2.2.1) (sz := V.2.2.2.1) (b := V.2.2.2.2.1) (G := G) (G' := (G.1 ++ [(kd, n)], tm_uc G.2.1 G.1.length (fun _ => none), G.2.2)) (M := M) (M' := tm_uc M G.1.length (fun _ => 0)) (q := (kd, n)) rfl (fun j hj => if_neg hj) (fun j hj => if_neg hj)
  rw [show tm_uc M G.1.length (fun _ => 0) G.1.length = (fun _ => 0) from if_pos rfl, show (G.1 ++ [(kd, n)], tm_uc G.2.1 G.1.length (fun _ => none), G.2.2).2.1 G.1.length = (fun _ => none) from if_pos rfl] at e
  rw [e] at hP
  exact hP
theorem tm_rnew (C : tm_C V p s m args meth c y) (hH : tm_H V G M H) (hS : va_S (tm_B V.2.2.2.1) s.heap H locs) {g0 : Nat} (hg : s.heap.size = V.2.2.2.1 + g0) (hc : cells + g0 = G.1.length) {x ci wp : Nat} (hlk : tm_lk (tm_NL (tm_ci y)) x = some (ci, wp)) (hmk : tm_mk G M (100 + ci) (tm_nf ci) = some (G', M')) (hcl : cells + 1 ≤ R.cells) (hsl : slots + tm_nf ci ≤ R.slots) (hd : decode (tm_cd y) pc = .ok (.new x, 3))
    (kk : ∀ (H1 : Heap), tm_H V G' M' H1 → va_S (tm_B V.2.2.2.1) s.heap H1 locs → W p l e R s m args below meth c H1 locs (cells + 1) (slots + tm_nf ci) Q (F0 m (pc + 3) ls (.ref (tm_ad V.2.2.2.1 V.2.2.2.2.1 G.1.length) :: rest))) : W p l e R s m args below meth c H locs cells slots Q (F0 m pc ls rest) := by
  obtain ⟨hx, hb, -, -, -, -, hown, hts, ⟨hK, -, -, -, -, -, -, -, -, -, hz⟩, hci⟩ := C
  have hq := List.all_eq_true.mp (tm_okK_at hci).2.2.1 _ (tm_lk_mem hlk)
  simp only [Bool.and_eq_true, decide_eq_true_eq] at hq
  obtain ⟨hw, hle⟩ := hq
  have hl := (tm_mk_eq hmk).1
  refine va_new (D := (V.1, V.2.1)) (ci := ci) hx hb hts (tm_lays hle) (tm_ty ci) (tm_tyok hle) hown (hts _ (tm_wd_in hw)) (hts _ (tm_mkok hle).1) (hts _ (tm_mkok hle).2) hK hH.1 (tm_ws_D _ _ _ _ _) hS (fun q h => Nat.le_trans hz h) (tm_vw hle) (tm_born V.2.2.2.1 V.2.2.2.2.1 hle) hcl hsl hd (fun q H1 hP hD hS => ?_)
  refine tm_where hP hD hg hc (fun eq => ?_)
  subst eq
  have := kk H1 (tm_mk_H hH hmk (by rw [tm_cell_o]; exact hP)) hS
  rw [tm_ad_lt (by omega)] at this
  exact this
theorem tm_rnewa (C : tm_C V p s m args meth c y) (hH : tm_H V G M H) (hS : va_S (tm_B V.2.2.2.1) s.heap H locs) {g0 : Nat} (hg : s.heap.size = V.2.2.2.1 + g0) (hc : cells + g0 = G.1.length) {t : ArrayType} {n : Int32} {kd : Nat} (ht : (t = .int ∧ kd = 0) ∨ (t = .byte ∧ kd = 1) ∨ (t = .boolean ∧ kd = 2)) (hn : ¬ n < 0) (hn2 : ¬ 100000 < n.toNatClampNeg) (hmk : tm_mk G M kd n.toNatClampNeg = some (G', M')) (hcl : cells + 1 ≤ R.cells) (hsl : slots + n.toNatClampNeg ≤ R.slots) (hd : decode (tm_cd y) pc = .ok (.newarray t, 2))
    (kk : ∀ (H1 : Heap), tm_H V G' M' H1 → va_S (tm_B V.2.2.2.1) s.heap H1 locs → W p l e R s m args below meth c H1 locs (cells + 1) (slots + n.toNatClampNeg) Q (F0 m (pc + 2) ls (.ref (tm_ad V.2.2.2.1 V.2.2.2.2.1 G.1.length) :: rest))) : W p l e R s m args below meth c H locs cells slots Q (F0 m pc ls (.int n :: rest)) := by
  obtain ⟨hx, hb, -, -, -, -, hown, hts, ⟨hK, -, -, -, -, -, -, -, -, -, hz⟩, hci⟩ := C
  have hl := (tm_mk_eq hmk).1
  have go : ∀ (ty : FieldType) (w : Cond), (∀ cA : ClassId, vp_cell cA (n.toNatClampNeg, .inl (fun _ => 0)) = arrV cA n.toNatClampNeg (fun _ => defaultValue ty)) → newarray.typeOf t = ty → w = .arrayClass ty → w ∈ tm_WS → (tm_tys V.2.2.1)[kd]? = some (V.2.2.1 kd, ty) → (∀ cA, va_RA s cA ty → va_RA s (V.2.2.1 kd) ty → cA = V.2.2.1 kd) → n.toNatClampNeg * componentBytes ty ≤ 536870912 → tm_cell V.2.2.1 V.2.2.2.1 V.2.2.2.2.1 (kd, n.toNatClampNeg) (fun _ => 0) (fun _ => none) = .inl (V.2.2.1 kd, n.toNatClampNeg, .inl (fun _ => 0)) → W p l e R s m args below meth c H locs cells slots Q (F0 m pc ls (.int n :: rest)) := by
    intro ty w ha hty hw hin htys hu hby hcell
    refine va_newa (D := (V.1, V.2.1)) (a0 := (n.toNatClampNeg, .inl (fun _ => 0))) (N' := n.toNatClampNeg) hx hb (by rw [hty, ← hw]; exact hts _ hin) hty hK hH.1 (tm_ws_D _ _ _ _ _) hS (fun q h => Nat.le_trans hz h) ha hn rfl hby hcl hsl hd (fun q cA H1 hK2 hP hD hS => ?_)
    have e1 : cA = V.2.2.1 kd := hu cA (hK2.2 5 (cA, ty) rfl).2 (hK.2 kd _ htys).2
    subst e1
    refine tm_where hP hD hg hc (fun eq => ?_)
    subst eq
    have := kk H1 (tm_mk_H hH hmk (by rw [hcell]; exact hP)) hS
    rw [tm_ad_lt (by omega)] at this
    exact this
  rcases ht with ⟨rfl, rfl⟩ | ⟨rfl, rfl⟩ | ⟨rfl, rfl⟩
  · exact go .int _ (fun cA => rfl) rfl rfl (tm_wd_in tm_x_ac_int) rfl (fun cA h1 h2 => Option.some.inj (h1.symm.trans h2)) (by simp only [componentBytes]; omega) rfl
  · exact go .byte _ (fun cA => rfl) rfl rfl (tm_wd_in tm_x_ac_byte) rfl (fun cA h1 h2 => Option.some.inj (h1.symm.trans h2)) (by simp only [componentBytes]; omega) rfl
  · exact go .boolean _ (fun cA => rfl) rfl rfl (tm_wd_in tm_x_ac_boolean) rfl (fun cA h1 h2 => Option.some.inj (h1.symm.trans h2)) (by simp only [componentBytes]; omega) rfl
theorem tm_rnewq (C : tm_C V p s m args meth c y) (hH : tm_H V G M H) (hS : va_S (tm_B V.2.2.2.1) s.heap H locs) {g0 : Nat} (hg : s.heap.size = V.2.2.2.1 + g0) (hc : cells + g0 = G.1.length) {x ci wp : Nat} {n : Int32} {kd : Nat} (hlk : tm_lk (tm_NL (tm_ci y)) x = some (ci, wp)) (ht : (ci = 8 ∧ kd = 3) ∨ (ci = 7 ∧ kd = 4)) (hn : ¬ n < 0) (hn2 : ¬ 100000 < n.toNatClampNeg) (hmk : tm_mk G M kd n.toNatClampNeg = some (G', M')) (hcl : cells + 1 ≤ R.cells) (hsl : slots + n.toNatClampNeg ≤ R.slots) (hd : decode (tm_cd y) pc = .ok (.anewarray x, 3))
    (kk : ∀ (H1 : Heap), tm_H V G' M' H1 → va_S (tm_B V.2.2.2.1) s.heap H1 locs → W p l e R s m args below meth c H1 locs (cells + 1) (slots + n.toNatClampNeg) Q (F0 m (pc + 3) ls (.ref (tm_ad V.2.2.2.1 V.2.2.2.2.1 G.1.length) :: rest))) : W p l e R s m args below meth c H locs cells slots Q (F0 m pc ls (.int n :: rest)) := by
  obtain ⟨hx, hb, -, -, -, -, hown, hts, ⟨hK, -, hA8, hA7, -, -, -, -, -, -, hz⟩, hci⟩ := C
  have hq := List.all_eq_true.mp (tm_okK_at hci).2.2.1 _ (tm_lk_mem hlk)
  simp only [Bool.and_eq_true, decide_eq_true_eq] at hq
  have hl := (tm_mk_eq hmk).1
  have go : ∀ (C : String), tm_cn ci = C → va_AO C s → (tm_tys V.2.2.1)[kd]? = some (V.2.2.1 kd, .object C) → tm_cell V.2.2.1 V.2.2.2.1 V.2.2.2.2.1 (kd, n.toNatClampNeg) (fun _ => 0) (fun _ => none) = .inl (V.2.2.1 kd, n.toNatClampNeg, .inr (.inr (.inr (.inr (fun _ => none))))) → W p l e R s m args below meth c H locs cells slots Q (F0 m pc ls (.int n :: rest)) := by
    intro C hC hAO htys hcell
    refine va_newq (D := (V.1, V.2.1)) (C := C) (N' := n.toNatClampNeg) hx hb hown (by rw [← hC]; exact hts _ (tm_wd_in hq.1)) hAO hK hH.1 (tm_ws_D _ _ _ _ _) hS (fun q h => Nat.le_trans hz h) hn rfl (by omega) hcl hsl hd (fun q cA H1 hK2 hP hD hS => ?_)
    have e1 : cA = V.2.2.1 kd := by
      obtain ⟨_, _, -, -, -, h1⟩ := (hK2.2 5 (cA, .object C) rfl).2
      obtain ⟨_, _, -, -, -, h2⟩ := (hK.2 kd _ htys).2
      exact Option.some.inj (h1.symm.trans h2)
    subst e1
    refine tm_where hP hD hg hc (fun eq => ?_)
    subst eq
    have := kk H1 (tm_mk_H hH hmk (by rw [hcell]; exact hP)) hS
    rw [tm_ad_lt (by omega)] at this
    exact this
  rcases ht with ⟨rfl, rfl⟩ | ⟨rfl, rfl⟩
  · exact go RX8 rfl hA8 rfl rfl
  · exact go RX7 rfl hA7 rfl rfl
theorem tm_raald (C : tm_C V p s m args meth c y) (hH : tm_H V G M H) {a t : Nat} {i : Int32} (hv : tm_ald G a i = some t) (hd : decode (tm_cd y) pc = .ok (.aaload, 1))
    (kk : W p l e R s m args below meth c H locs cells slots Q (F0 m (pc + 1) ls (.ref (tm_ad V.2.2.2.1 V.2.2.2.2.1 t) :: rest))) : W p l e R s m args below meth c H locs cells slots Q (F0 m pc ls (.int i :: .ref (tm_ad V.2.2.2.1 V.2.2.2.2.1 a) :: rest)) := by
  obtain ⟨hx, hb, -, -, -, -, -, -, ⟨hK, -⟩, -⟩ := C
  unfold tm_ald at hv
  split at hv
  · rename_i n hat
    split at hv
    · rename_i hin
      have hws := tm_ws_at (dA := V.2.2.1) (sz := V.2.2.2.1) (b := V.2.2.2.2.1) (M := M) hat
      rw [tm_cell_3] at hws
      rw [tm_ad_lt (hH.lt hat)]
      refine va_aldq hx hb hK hH.1 a 3 hws rfl (tm_inb_vp hin) hd ?_
      rw [hv]
      exact kk
    · cases hv
  · rename_i n hat
    split at hv
    · rename_i hin
      have hws := tm_ws_at (dA := V.2.2.1) (sz := V.2.2.2.1) (b := V.2.2.2.2.1) (M := M) hat
      rw [tm_cell_4] at hws
      rw [tm_ad_lt (hH.lt hat)]
      refine va_aldq hx hb hK hH.1 a 4 hws rfl (tm_inb_vp hin) hd ?_
      rw [hv]
      exact kk
    · cases hv
  · cases hv
theorem tm_rf_up (sz : Nat) (b : Nat → Nat) (r : Nat → Option Nat) (i t : Nat) : (fun j => tm_rf sz b (tm_uc r i (some t) j)) = va_up (fun j => tm_rf sz b (r j)) i (some (tm_ad sz b t)) := by
  funext j
  unfold tm_uc va_up
  split <;> rfl
theorem tm_raast (C : tm_C V p s m args meth c y) (hH : tm_H V G M H) (hS : va_S (tm_B V.2.2.2.1) s.heap H locs) {a t : Nat} {i : Int32} (hv : tm_ast G a i t = some G') (hd : decode (tm_cd y) pc = .ok (.aastore, 1))
    (kk : ∀ (H1 : Heap) (locs1 : List Loc), tm_H V G' M H1 → va_S (tm_B V.2.2.2.1) s.heap H1 locs1 → W p l e R s m args below meth c H1 locs1 cells slots Q (F0 m (pc + 1) ls rest)) : W p l e R s m args below meth c H locs cells slots Q (F0 m pc ls (.ref (tm_ad V.2.2.2.1 V.2.2.2.2.1 t) :: .int i :: .ref (tm_ad V.2.2.2.1 V.2.2.2.2.1 a) :: rest)) := by
  obtain ⟨hx, hb, -, -, -, -, -, -, ⟨hK, -⟩, -⟩ := C
  unfold tm_ast at hv
  split at hv
  · rename_i n hat
    split at hv
    · rename_i hin
      simp only [Bool.and_eq_true] at hin
      cases hv
      have hws := tm_ws_at (dA := V.2.2.1) (sz := V.2.2.2.1) (b := V.2.2.2.2.1) (M := M) hat
      rw [tm_cell_3] at hws
      have ht := tm_isC_at hin.2
      have hwt := tm_ws_at (dA := V.2.2.1) (sz := V.2.2.2.1) (b := V.2.2.2.2.1) (M := M) ht
      rw [tm_cell_o] at hwt
      rw [tm_ad_lt (hH.lt hat)]
      rw [← tm_ad_lt (b := V.2.2.2.2.1) (hH.lt ht)] at hwt
      refine va_astq (r := (RX8, TX8, 3)) hx hb hK hH.1 (tm_ws_D _ _ _ _ _) hS a 3 t 8 hws rfl hwt rfl (tm_inb_vp hin.1) hd (fun H1 locs1 hP hD hS => kk H1 locs1 ⟨?_, hH.2⟩ hS)
      have e := tm_ws_set (dA := V.2.2.1) (sz := V.2.2.2.1) (b := V.2.2.2.2.1) (G := G) (G' := (G.1, tm_uc G.2.1 a (tm_uc (G.2.1 a) i.toNatClampNeg (some t)), G.2.2)) (M := M) (M' := M) hat rfl (fun j hj => rfl) (fun j hj => if_neg hj)
      rw [tm_cell_3, show (G.1, tm_uc G.2.1 a (tm_uc (G.2.1 a) i.toNatClampNeg (some t)), G.2.2).2.1 a = tm_uc (G.2.1 a) i.toNatClampNeg (some t) from if_pos rfl, tm_rf_up] at e
      rw [e] at hP
      exact hP
    · cases hv
  · rename_i n hat
    split at hv
    · rename_i hin
      simp only [Bool.and_eq_true] at hin
      cases hv
      have hws := tm_ws_at (dA := V.2.2.1) (sz := V.2.2.2.1) (b := V.2.2.2.2.1) (M := M) hat
      rw [tm_cell_4] at hws
      have ht := tm_isC_at hin.2
      have hwt := tm_ws_at (dA := V.2.2.1) (sz := V.2.2.2.1) (b := V.2.2.2.2.1) (M := M) ht
      rw [tm_cell_o] at hwt
      rw [tm_ad_lt (hH.lt hat)]
      rw [← tm_ad_lt (b := V.2.2.2.2.1) (hH.lt ht)] at hwt
      refine va_astq (r := (RX7, TX7, 4)) hx hb hK hH.1 (tm_ws_D _ _ _ _ _) hS a 4 t 7 hws rfl hwt rfl (tm_inb_vp hin.1) hd (fun H1 locs1 hP hD hS => kk H1 locs1 ⟨?_, hH.2⟩ hS)
      have e := tm_ws_set (dA := V.2.2.1) (sz := V.2.2.2.1) (b := V.2.2.2.2.1) (G := G) (G' := (G.1, tm_uc G.2.1 a (tm_uc (G.2.1 a) i.toNatClampNeg (some t)), G.2.2)) (M := M) (M' := M) hat rfl (fun j hj => rfl) (fun j hj => if_neg hj)
      rw [tm_cell_4, show (G.1, tm_uc G.2.1 a (tm_uc (G.2.1 a) i.toNatClampNeg (some t)), G.2.2).2.1 a = tm_uc (G.2.1 a) i.toNatClampNeg (some t) from if_pos rfl, tm_rf_up] at e
      rw [e] at hP
      exact hP
    · cases hv
  · cases hv
end TMN
