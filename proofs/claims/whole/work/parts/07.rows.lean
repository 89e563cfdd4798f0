/-! part 07: reads and writes of the machine over the pure memory -/
theorem tm_ft0 {ci j : Nat} (h : tm_ft ci j = 0) : tm_ty ci j = .int := by
  unfold tm_ft at h
  split at h <;> first | assumption | (cases h)
theorem tm_ft1 {ci j : Nat} (h : tm_ft ci j = 1) : tm_ty ci j = .boolean := by
  unfold tm_ft at h
  split at h <;> first | assumption | (cases h)
theorem tm_ft2 {ci j : Nat} (h : tm_ft ci j = 2) (a : Nat) : narrow (tm_ty ci j) (.ref a) = .ref a ∧ fits (tm_ty ci j) (.ref a) = true := by
  unfold tm_ft at h
  split at h
  · cases h
  · cases h
  · rename_i hq
    rw [hq]
    exact ⟨rfl, rfl⟩
  · rename_i hq
    rw [hq]
    exact ⟨rfl, rfl⟩
  · cases h
section TMW
variable {V : tm_V} {p : Program} {l : Launch} {e : Env} {R : Room} {s : State} {m : MethodId} {args : Array Value} {below : List Frame} {meth : Method} {c : Code} {H : Heap} {locs : List Loc} {cells slots : Nat} {Q : State → Prop}
variable {pc : Nat} {ls : Array Slot} {rest : List Value} {y : Nat} {G G' : tm_G} {M M' : tm_M}
theorem tm_H.lt (hH : tm_H V G M H) {k : Nat} {q : Nat × Nat} (h : G.1[k]? = some q) : k < 1000 := by
  have := (List.getElem?_eq_some_iff.mp h).1
  have := hH.2.1
  omega
/-- how large the heap is -/
theorem tm_size {g0 : Nat} {g : JFrame} (hH : tm_H V G M H) (hS : va_S (tm_B V.2.2.2.1) s.heap H locs) (hg : s.heap.size = V.2.2.2.1 + g0) (hc : cells + g0 = G.1.length)
    (k : H.size = V.2.2.2.1 + G.1.length → W p l e R s m args below meth c H locs cells slots Q g) : W p l e R s m args below meth c H locs cells slots Q g := by
  intro T hT X
  have h1 := X.heapSize
  rw [hT] at h1
  have h2 : V.2.2.2.1 + G.1.length ≤ H.size := by
    by_cases h0 : G.1.length = 0
    · have := hS.1
      omega
    · have hq : G.1[G.1.length - 1]? = some G.1[G.1.length - 1] := List.getElem?_eq_getElem (by omega)
      have := (hH.1 _ _ (tm_ws_at hq)).lt
      simp only at this
      omega
  exact k (by omega) T hT X
theorem tm_link (C : tm_C V p s m args meth c y) {x fc wp : Nat} (hlk : tm_lk (tm_FL (tm_ci y)) x = some (fc, wp)) : (Cond.fieldLink (tm_cn (tm_ci y)) x (tm_T (fc / 100) (fc % 100)).1 (tm_T (fc / 100) (fc % 100)).2.1 (tm_T (fc / 100) (fc % 100)).2.2.1).before args s = true ∧ fc % 100 < tm_nf (fc / 100) ∧ fc / 100 ≤ 12 ∧ (tm_T (fc / 100) (fc % 100)).1 = tm_cn (fc / 100) := by
  obtain ⟨-, -, -, -, -, -, -, hts, -, hci⟩ := C
  have hq := List.all_eq_true.mp (tm_okF_at hci) _ (tm_lk_mem hlk)
  simp only [Bool.and_eq_true, decide_eq_true_eq] at hq
  obtain ⟨⟨⟨hw, hlt⟩, hle⟩, hcn⟩ := hq
  exact ⟨hts _ (tm_wd_in hw), hlt, hle, hcn⟩
theorem tm_rgetf (C : tm_C V p s m args meth c y) (hH : tm_H V G M H) {k x fc wp : Nat} (hlk : tm_lk (tm_FL (tm_ci y)) x = some (fc, wp)) {v : Value} (hv : tm_get G M k fc = some v) (hd : decode (tm_cd y) pc = .ok (.getfield x, 3))
    (kk : W p l e R s m args below meth c H locs cells slots Q (F0 m (pc + 3) ls (tm_t V v :: rest))) : W p l e R s m args below meth c H locs cells slots Q (F0 m pc ls (.ref (tm_ad V.2.2.2.1 V.2.2.2.2.1 k) :: rest)) := by
  obtain ⟨hw, hlt, hle, -⟩ := tm_link C hlk
  obtain ⟨hx, hb, -, -, -, -, hown, hts, ⟨hK, -⟩, hci⟩ := C
  unfold tm_get at hv
  split at hv
  · rename_i hc
    simp only [Bool.and_eq_true, decide_eq_true_eq] at hc
    have hat := tm_isC_at hc.1
    have hws := tm_ws_at (dA := V.2.2.1) (sz := V.2.2.2.1) (b := V.2.2.2.2.1) (M := M) hat
    rw [tm_cell_o] at hws
    rw [tm_ad_lt (hH.lt hat)]
    refine va_get (D := (V.1, V.2.1)) (ci := fc / 100) (v := tm_t V v) hx hb hts (tm_lays hle) hown hK hH.1 k hws (tm_vw hle) (fc % 100) hlt hw (fun _ h => h) ?_ hd kk
    rw [tm_fs_at hlt]
    congr 1
    unfold tm_fv
    split at hv
    · rename_i h2
      obtain ⟨t, h3, h4⟩ := Option.map_eq_some_iff.mp hv
      rw [if_pos h2, h3, ← h4]
      rfl
    · rename_i h2
      cases hv
      rw [if_neg h2]
      rfl
  · cases hv
theorem tm_rputf (C : tm_C V p s m args meth c y) (hH : tm_H V G M H) (hS : va_S (tm_B V.2.2.2.1) s.heap H locs) {k x fc wp : Nat} (hlk : tm_lk (tm_FL (tm_ci y)) x = some (fc, wp)) (hfin : tm_fin fc = false) {v : Int32} (hv : tm_put G M k fc v = some M') (hd : decode (tm_cd y) pc = .ok (.putfield x, 3))
    (kk : ∀ (H1 : Heap) (locs1 : List Loc), tm_H V G M' H1 → va_S (tm_B V.2.2.2.1) s.heap H1 locs1 → W p l e R s m args below meth c H1 locs1 cells slots Q (F0 m (pc + 3) ls rest)) : W p l e R s m args below meth c H locs cells slots Q (F0 m pc ls (.int v :: .ref (tm_ad V.2.2.2.1 V.2.2.2.2.1 k) :: rest)) := by
  obtain ⟨hw, hlt, hle, -⟩ := tm_link C hlk
  obtain ⟨hx, hb, -, -, -, -, hown, hts, ⟨hK, -⟩, hci⟩ := C
  unfold tm_put at hv
  split at hv
  · rename_i hc
    simp only [Bool.and_eq_true, decide_eq_true_eq] at hc
    have hat := tm_isC_at hc.1
    have hws := tm_ws_at (dA := V.2.2.1) (sz := V.2.2.2.1) (b := V.2.2.2.2.1) (M := M) hat
    rw [tm_cell_o] at hws
    rw [tm_ad_lt (hH.lt hat)]
    split at hv
    · rename_i h2
      cases hv
      have hty : narrow (tm_ty (fc / 100) (fc % 100)) (.int v) = .int v ∧ fits (tm_ty (fc / 100) (fc % 100)) (.int v) = true := by
        rcases h2 with h2 | ⟨h2, h3⟩
        · rw [tm_ft0 h2]
          exact ⟨rfl, rfl⟩
        · rw [tm_ft1 h2]
          rcases h3 with rfl | rfl <;> exact ⟨by decide, by decide⟩
      refine va_put (D := (V.1, V.2.1)) (ci := fc / 100) (v := .int v) (ty := tm_ty (fc / 100) (fc % 100)) hx hb hts (tm_lays hle) (tm_ty (fc / 100)) (tm_tyok hle) (tm_nmok hle) hown hK hH.1 (tm_ws_D _ _ _ _ _) hS k hws (tm_vw hle) (fc % 100) hlt hw (fun _ h => h) hfin (tm_tyok hle _ hlt) hty.1 hty.2 (by rw [tm_fs_len]; exact hlt) hd (fun H1 locs1 hP hD hS => kk H1 locs1 ⟨?_, hH.2⟩ hS)
      have hne : tm_ft (fc / 100) (fc % 100) ≠ 2 := by
        rcases h2 with h2 | ⟨h2, -⟩ <;> omega
      rw [tm_fs_seti v hlt hne] at hP
      have e := tm_ws_set (dA := V.2.2.1) (sz := V.2.2.2.1) (b := V.2.2.2.2.1) (G := G) (G' := G) (M := M) (M' := tm_up M k (fc % 100) v) hat rfl (fun j hj => if_neg hj) (fun j hj => rfl)
      rw [tm_cell_o, show tm_up M k (fc % 100) v k = upd (M k) (fc % 100) v from if_pos rfl] at e
      rw [e] at hP
      exact hP
    · cases hv
  · cases hv
theorem tm_rputr (C : tm_C V p s m args meth c y) (hH : tm_H V G M H) (hS : va_S (tm_B V.2.2.2.1) s.heap H locs) {k x fc wp t : Nat} (hlk : tm_lk (tm_FL (tm_ci y)) x = some (fc, wp)) (hfin : tm_fin fc = true) (hini : (tm_nm y).name = "<init>" ∧ fc / 100 = tm_ci y) (hv : tm_putr G k fc t = some G') (hd : decode (tm_cd y) pc = .ok (.putfield x, 3))
    (kk : ∀ (H1 : Heap) (locs1 : List Loc), tm_H V G' M H1 → va_S (tm_B V.2.2.2.1) s.heap H1 locs1 → W p l e R s m args below meth c H1 locs1 cells slots Q (F0 m (pc + 3) ls rest)) : W p l e R s m args below meth c H locs cells slots Q (F0 m pc ls (.ref (tm_ad V.2.2.2.1 V.2.2.2.2.1 t) :: .ref (tm_ad V.2.2.2.1 V.2.2.2.2.1 k) :: rest)) := by
  obtain ⟨hw, hlt, hle, hcn⟩ := tm_link C hlk
  obtain ⟨hx, hb, -, -, -, hnm, hown, hts, ⟨hK, -⟩, hci⟩ := C
  unfold tm_putr at hv
  split at hv
  · rename_i hc
    simp only [Bool.and_eq_true, decide_eq_true_eq] at hc
    have hat := tm_isC_at hc.1.1
    have hws := tm_ws_at (dA := V.2.2.1) (sz := V.2.2.2.1) (b := V.2.2.2.2.1) (M := M) hat
    rw [tm_cell_o] at hws
    rw [tm_ad_lt (hH.lt hat)]
    split at hv
    · rename_i h2
      cases hv
      have hty := tm_ft2 h2 (tm_ad V.2.2.2.1 V.2.2.2.2.1 t)
      refine va_putF (D := (V.1, V.2.1)) (ci := fc / 100) (ty := tm_ty (fc / 100) (fc % 100)) hx hb hts (tm_lays hle) (tm_ty (fc / 100)) (tm_tyok hle) (tm_nmok hle) hown hK hH.1 (tm_ws_D _ _ _ _ _) hS k hws (tm_vw hle) (fc % 100) hlt hw (fun _ h => h) hfin (hnm hini.1) (by rw [hcn, hini.2]) (tm_tyok hle _ hlt) hty.1 hty.2 (by rw [tm_fs_len]; exact hlt) hd (fun H1 locs1 hP hD hS => kk H1 locs1 ⟨?_, hH.2⟩ hS)
      rw [tm_fs_setr t hlt h2] at hP
      have e := tm_ws_set (dA := V.2.2.1) (sz := V.2.2.2.1) (b := V.2.2.2.2.1) (G := G) (G' := (G.1, tm_uc G.2.1 k (tm_uc (G.2.1 k) (fc % 100) (some t)), G.2.2)) (M := M) (M' := M) hat rfl (fun j hj => rfl) (fun j hj => if_neg hj)
      rw [tm_cell_o, show (G.1, tm_uc G.2.1 k (tm_uc (G.2.1 k) (fc % 100) (some t)), G.2.2).2.1 k = tm_uc (G.2.1 k) (fc % 100) (some t) from if_pos rfl] at e
      rw [e] at hP
      exact hP
    · cases hv
  · cases hv
theorem tm_riald (C : tm_C V p s m args meth c y) (hH : tm_H V G M H) (hS : va_S (tm_B V.2.2.2.1) s.heap H locs) {a : Nat} {i v : Int32} (hv : tm_rd G M a i = some v) (hd : decode (tm_cd y) pc = .ok (.iaload, 1))
    (kk : W p l e R s m args below meth c H locs cells slots Q (F0 m (pc + 1) ls (.int v :: rest))) : W p l e R s m args below meth c H locs cells slots Q (F0 m pc ls (.int i :: .ref (tm_ad V.2.2.2.1 V.2.2.2.2.1 a) :: rest)) := by
  obtain ⟨hx, hb, -, -, -, -, -, -, ⟨hK, -, -, -, hX0, hX1, hX2, -, -, ⟨b0, b1, b2⟩, hz⟩, -⟩ := C
  unfold tm_rd at hv
  split at hv
  · rename_i ha
    split at hv
    · rename_i n hat
      split at hv
      · rename_i hin
        cases hv
        have hws := tm_ws_at (dA := V.2.2.1) (sz := V.2.2.2.1) (b := V.2.2.2.2.1) (M := M) hat
        rw [tm_cell_0] at hws
        rw [tm_ad_lt ha]
        exact va_iald hx hb hK hH.1 a 0 hws rfl (tm_inb_vp hin) hd kk
      · cases hv
    · cases hv
  · rename_i ha
    have had : tm_ad V.2.2.2.1 V.2.2.2.2.1 a = V.2.2.2.2.1 (a - 1000) := if_neg ha
    rw [had]
    split at hv
    · rename_i n f hro
      split at hv
      · rename_i hin
        cases hv
        unfold tm_ro at hro
        split at hro
        · have e9 := Option.some.inj hro
          rw [hH.2.2] at e9
          cases e9
          exact va_sld hx hb hX0 (Nat.lt_of_lt_of_le b0 hz) (Nat.not_le.mpr b0) hS (tm_inb_vp hin) hd kk
        · cases hro
          exact va_ti hx hb hX1 hS (tm_inb_vp hin) rfl hd kk
        · cases hro
          exact va_ti hx hb hX2 hS (tm_inb_vp hin) rfl hd kk
        · cases hro
      · cases hv
    · cases hv
theorem tm_rbald (C : tm_C V p s m args meth c y) (hH : tm_H V G M H) {a : Nat} {i v : Int32} (hv : tm_rb G M a i = some v) (hd : decode (tm_cd y) pc = .ok (.baload, 1))
    (kk : W p l e R s m args below meth c H locs cells slots Q (F0 m (pc + 1) ls (.int v :: rest))) : W p l e R s m args below meth c H locs cells slots Q (F0 m pc ls (.int i :: .ref (tm_ad V.2.2.2.1 V.2.2.2.2.1 a) :: rest)) := by
  obtain ⟨hx, hb, -, -, -, -, -, -, ⟨hK, -⟩, -⟩ := C
  unfold tm_rb at hv
  split at hv
  · rename_i n hat
    split at hv
    · rename_i hin
      cases hv
      have hws := tm_ws_at (dA := V.2.2.1) (sz := V.2.2.2.1) (b := V.2.2.2.2.1) (M := M) hat
      rw [tm_cell_1] at hws
      rw [tm_ad_lt (hH.lt hat)]
      exact va_bald hx hb hK hH.1 a 1 hws rfl (tm_inb_vp hin) hd kk
    · cases hv
  · rename_i n hat
    split at hv
    · rename_i hin
      cases hv
      have hws := tm_ws_at (dA := V.2.2.1) (sz := V.2.2.2.1) (b := V.2.2.2.2.1) (M := M) hat
      rw [tm_cell_2] at hws
      rw [tm_ad_lt (hH.lt hat)]
      exact va_zald hx hb hK hH.1 a 2 hws rfl (tm_inb_vp hin) hd kk
    · cases hv
  · cases hv
theorem tm_riast (C : tm_C V p s m args meth c y) (hH : tm_H V G M H) (hS : va_S (tm_B V.2.2.2.1) s.heap H locs) {a : Nat} {i v : Int32} (hv : tm_wr G M a i v = some M') (hd : decode (tm_cd y) pc = .ok (.iastore, 1))
    (kk : ∀ (H1 : Heap) (locs1 : List Loc), tm_H V G M' H1 → va_S (tm_B V.2.2.2.1) s.heap H1 locs1 → W p l e R s m args below meth c H1 locs1 cells slots Q (F0 m (pc + 1) ls rest)) : W p l e R s m args below meth c H locs cells slots Q (F0 m pc ls (.int v :: .int i :: .ref (tm_ad V.2.2.2.1 V.2.2.2.2.1 a) :: rest)) := by
  obtain ⟨hx, hb, -, -, -, -, -, -, ⟨hK, -⟩, -⟩ := C
  unfold tm_wr at hv
  split at hv
  · rename_i n hat
    split at hv
    · rename_i hin
      cases hv
      have hws := tm_ws_at (dA := V.2.2.1) (sz := V.2.2.2.1) (b := V.2.2.2.2.1) (M := M) hat
      rw [tm_cell_0] at hws
      rw [tm_ad_lt (hH.lt hat)]
      refine va_iast hx hb hK hH.1 (tm_ws_D _ _ _ _ _) hS a 0 hws rfl (tm_inb_vp hin) hd (fun H1 locs1 hP hD hS => kk H1 locs1 ⟨?_, hH.2⟩ hS)
      have e := tm_ws_set (dA := V.2.2.1) (sz := V.2.2.2.1) (b := V.2.2.2.2.1) (G := G) (G' := G) (M := M) (M' := tm_up M a i.toNatClampNeg v) hat rfl (fun j hj => if_neg hj) (fun j hj => rfl)
      rw [tm_cell_0, show tm_up M a i.toNatClampNeg v a = upd (M a) i.toNatClampNeg v from if_pos rfl] at e
      rw [e] at hP
      exact hP
    · cases hv
  · cases hv
theorem tm_b_idem (x : Int32) : x.toInt8.toInt32.toInt8.toInt32 = x.toInt8.toInt32 := by simp
theorem tm_rbast (C : tm_C V p s m args meth c y) (hH : tm_H V G M H) (hS : va_S (tm_B V.2.2.2.1) s.heap H locs) {a : Nat} {i v : Int32} (hv : tm_wb G M a i v = some M') (hd : decode (tm_cd y) pc = .ok (.bastore, 1))
    (kk : ∀ (H1 : Heap) (locs1 : List Loc), tm_H V G M' H1 → va_S (tm_B V.2.2.2.1) s.heap H1 locs1 → W p l e R s m args below meth c H1 locs1 cells slots Q (F0 m (pc + 1) ls rest)) : W p l e R s m args below meth c H locs cells slots Q (F0 m pc ls (.int v :: .int i :: .ref (tm_ad V.2.2.2.1 V.2.2.2.2.1 a) :: rest)) := by
  obtain ⟨hx, hb, -, -, -, -, -, -, ⟨hK, -⟩, -⟩ := C
  unfold tm_wb at hv
  split at hv
  · rename_i n hat
    split at hv
    · rename_i hin
      cases hv
      have hws := tm_ws_at (dA := V.2.2.1) (sz := V.2.2.2.1) (b := V.2.2.2.2.1) (M := M) hat
      rw [tm_cell_1] at hws
      rw [tm_ad_lt (hH.lt hat)]
      refine va_bast hx hb hK hH.1 (tm_ws_D _ _ _ _ _) hS a 1 hws rfl (tm_inb_vp hin) hd (fun H1 locs1 hP hD hS => kk H1 locs1 ⟨?_, hH.2⟩ hS)
      have e := tm_ws_set (dA := V.2.2.1) (sz := V.2.2.2.1) (b := V.2.2.2.2.1) (G := G) (G' := G) (M := M) (M' := tm_up M a i.toNatClampNeg v.toInt8.toInt32) hat rfl (fun j hj => if_neg hj) (fun j hj => rfl)
      rw [tm_cell_1, show tm_up M a i.toNatClampNeg v.toInt8.toInt32 a = upd (M a) i.toNatClampNeg v.toInt8.toInt32 from if_pos rfl] at e
      have e2 : (fun j => (upd (M a) i.toNatClampNeg v.toInt8.toInt32 j).toInt8.toInt32) = upd (fun j => (M a j).toInt8.toInt32) i.toNatClampNeg (vp_nar .byte v) := by
        funext j
        unfold upd
        split
        · rw [vp_nar_byte, tm_b_idem]
        · rfl
      rw [e2] at e
      rw [e] at hP
      exact hP
    · cases hv
  · rename_i n hat
    split at hv
    · rename_i hin
      cases hv
      have hws := tm_ws_at (dA := V.2.2.1) (sz := V.2.2.2.1) (b := V.2.2.2.2.1) (M := M) hat
      rw [tm_cell_2] at hws
      rw [tm_ad_lt (hH.lt hat)]
      refine va_zast hx hb hK hH.1 (tm_ws_D _ _ _ _ _) hS a 2 hws rfl (tm_inb_vp hin) hd (fun H1 locs1 hP hD hS => kk H1 locs1 ⟨?_, hH.2⟩ hS)
      have e := tm_ws_set (dA := V.2.2.1) (sz := V.2.2.2.1) (b := V.2.2.2.2.1) (G := G) (G' := G) (M := M) (M' := tm_up M a i.toNatClampNeg (vp_nar .boolean v)) hat rfl (fun j hj => if_neg hj) (fun j hj => rfl)
      rw [tm_cell_2, show tm_up M a i.toNatClampNeg (vp_nar .boolean v) a = upd (M a) i.toNatClampNeg (vp_nar .boolean v) from if_pos rfl] at e
      rw [e] at hP
      exact hP
    · cases hv
  · cases hv
theorem tm_ralen (C : tm_C V p s m args meth c y) (hH : tm_H V G M H) (hS : va_S (tm_B V.2.2.2.1) s.heap H locs) {a n : Nat} (hv : tm_al G a = some n) (hd : decode (tm_cd y) pc = .ok (.arraylength, 1))
    (kk : W p l e R s m args below meth c H locs cells slots Q (F0 m (pc + 1) ls (.int (Int32.ofNat n) :: rest))) : W p l e R s m args below meth c H locs cells slots Q (F0 m pc ls (.ref (tm_ad V.2.2.2.1 V.2.2.2.2.1 a) :: rest)) := by
  obtain ⟨hx, hb, -, -, -, -, -, -, ⟨hK, -, -, -, hX0, hX1, hX2, -, -, ⟨b0, b1, b2⟩, hz⟩, -⟩ := C
  unfold tm_al at hv
  split at hv
  · rename_i ha
    split at hv
    · rename_i kd k hat
      split at hv
      · rename_i hkd
        cases hv
        have hws := tm_ws_at (dA := V.2.2.1) (sz := V.2.2.2.1) (b := V.2.2.2.2.1) (M := M) hat
        rw [tm_ad_lt ha]
        rcases (by omega : kd = 0 ∨ kd = 1 ∨ kd = 2 ∨ kd = 3 ∨ kd = 4) with rfl | rfl | rfl | rfl | rfl
        · exact va_alen hx hb hK hH.1 a 0 hws rfl rfl hd kk
        · exact va_alen hx hb hK hH.1 a 1 hws rfl rfl hd kk
        · exact va_alen hx hb hK hH.1 a 2 hws rfl rfl hd kk
        · exact va_alen hx hb hK hH.1 a 3 hws rfl rfl hd kk
        · exact va_alen hx hb hK hH.1 a 4 hws rfl rfl hd kk
      · cases hv
    · cases hv
  · rename_i ha
    have had : tm_ad V.2.2.2.1 V.2.2.2.2.1 a = V.2.2.2.2.1 (a - 1000) := if_neg ha
    rw [had]
    obtain ⟨q, hro, rfl⟩ := Option.map_eq_some_iff.mp hv
    unfold tm_ro at hro
    split at hro
    · cases hro
      rw [hH.2.2] at kk
      exact va_slen hx hb hX0 (Nat.lt_of_lt_of_le b0 hz) (Nat.not_le.mpr b0) hS hd kk
    · cases hro
      exact va_tlen hx hb hX1 hS rfl hd kk
    · cases hro
      exact va_tlen hx hb hX2 hS rfl hd kk
    · cases hro
end TMW
