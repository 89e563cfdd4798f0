/-! part 05: how the pure memory lies in the machine's heap; locals, stack -/
def tm_ad (sz : Nat) (b : Nat → Nat) (k : Nat) : Nat := if k < 1000 then sz + k else b (k - 1000)
def tm_tr (sz : Nat) (b : Nat → Nat) (v : Value) : Value := match v with
  | .ref k => .ref (tm_ad sz b k)
  | w => w
theorem tm_tr_cat (sz : Nat) (b : Nat → Nat) (v : Value) : (tm_tr sz b v).category = v.category := by cases v <;> rfl
theorem tm_tr_sum (sz : Nat) (b : Nat → Nat) (r : List Value) : ((r.map (tm_tr sz b)).map fun v => v.category).sum = (r.map fun v => v.category).sum := by
  rw [List.map_map]
  congr 1
  apply List.map_congr_left
  intro v _
  exact tm_tr_cat sz b v
theorem tm_ad_lt {sz : Nat} {b : Nat → Nat} {k : Nat} (h : k < 1000) : tm_ad sz b k = sz + k := if_pos h
def tm_rf (sz : Nat) (b : Nat → Nat) (o : Option Nat) : Option Nat := o.map (tm_ad sz b)
def tm_fv (sz : Nat) (b : Nat → Nat) (ci : Nat) (f : Nat → Int32) (r : Nat → Option Nat) (j : Nat) : Value := if tm_ft ci j = 2 then va_rf (tm_rf sz b (r j)) else .int (f j)
def tm_fs (sz : Nat) (b : Nat → Nat) (ci n : Nat) (f : Nat → Int32) (r : Nat → Option Nat) : List Value := (List.range n).map (tm_fv sz b ci f r)
def tm_cell (dA : Nat → ClassId) (sz : Nat) (b : Nat → Nat) (q : Nat × Nat) (f : Nat → Int32) (r : Nat → Option Nat) : va_E :=
  if q.1 = 0 ∨ q.1 = 2 then .inl (dA q.1, q.2, .inl f)
  else if q.1 = 1 then .inl (dA 1, q.2, .inl (fun j => (f j).toInt8.toInt32))
  else if q.1 = 3 ∨ q.1 = 4 then .inl (dA q.1, q.2, .inr (.inr (.inr (.inr (fun j => tm_rf sz b (r j))))))
  else .inr (q.1 - 100, tm_fs sz b (q.1 - 100) q.2 f r)
def tm_ws (dA : Nat → ClassId) (sz : Nat) (b : Nat → Nat) (G : tm_G) (M : tm_M) : va_W :=
  (List.range G.1.length).map fun k => (sz + k, tm_cell dA sz b (G.1.getD k (0, 0)) (M k) (G.2.1 k))
theorem tm_ws_at {dA : Nat → ClassId} {sz : Nat} {b : Nat → Nat} {G : tm_G} {M : tm_M} {k : Nat} {q : Nat × Nat} (h : G.1[k]? = some q) : (tm_ws dA sz b G M)[k]? = some (sz + k, tm_cell dA sz b q (M k) (G.2.1 k)) := by
  have hl : k < G.1.length := (List.getElem?_eq_some_iff.mp h).1
  simp only [tm_ws, List.getElem?_map, List.getElem?_range hl, Option.map_some, List.getD_eq_getElem?_getD, h, Option.getD_some]
theorem tm_ws_inv {dA : Nat → ClassId} {sz : Nat} {b : Nat → Nat} {G : tm_G} {M : tm_M} {k : Nat} {q : Nat × va_E} (h : (tm_ws dA sz b G M)[k]? = some q) : k < G.1.length ∧ q.1 = sz + k := by
  have hl : k < (tm_ws dA sz b G M).length := (List.getElem?_eq_some_iff.mp h).1
  have hl2 : k < G.1.length := by simpa [tm_ws] using hl
  simp only [tm_ws, List.getElem?_map, List.getElem?_range hl2, Option.map_some, Option.some.injEq] at h
  rw [← h]
  exact ⟨hl2, rfl⟩
theorem tm_ws_D (dA : Nat → ClassId) (sz : Nat) (b : Nat → Nat) (G : tm_G) (M : tm_M) : va_D (fun q => sz ≤ q) (tm_ws dA sz b G M) := by
  refine ⟨fun i j x y hi hj hxy => ?_, fun k q hk => ?_⟩
  · have h1 := tm_ws_inv hi
    have h2 := tm_ws_inv hj
    omega
  · have h1 := tm_ws_inv hk
    show sz ≤ q.1
    omega
/-- one cell is written -/
theorem tm_ws_set {dA : Nat → ClassId} {sz : Nat} {b : Nat → Nat} {G G' : tm_G} {M M' : tm_M} {k : Nat} {q : Nat × Nat} (h : G.1[k]? = some q) (hG : G'.1 = G.1) (hM : ∀ j, j ≠ k → M' j = M j) (hF : ∀ j, j ≠ k → G'.2.1 j = G.2.1 j) :
    (tm_ws dA sz b G M).set k (sz + k, tm_cell dA sz b q (M' k) (G'.2.1 k)) = tm_ws dA sz b G' M' := by
  have hl : k < G.1.length := (List.getElem?_eq_some_iff.mp h).1
  apply List.ext_getElem?
  intro j
  by_cases hj : j = k
  · subst hj
    rw [List.getElem?_set_self (by simpa [tm_ws] using hl), tm_ws_at (q := q) (by rw [hG]; exact h)]
  · rw [List.getElem?_set_ne (Ne.symm hj)]
    by_cases hjl : j < G.1.length
    · simp only [tm_ws, List.getElem?_map, hG, List.getElem?_range hjl, Option.map_some, hM j hj, hF j hj]
    · simp only [tm_ws, List.getElem?_map, hG]
      rw [List.getElem?_eq_none (by simpa using hjl)]
      rfl
/-- a cell more -/
theorem tm_ws_push {dA : Nat → ClassId} {sz : Nat} {b : Nat → Nat} {G G' : tm_G} {M M' : tm_M} {q : Nat × Nat} (hG : G'.1 = G.1 ++ [q]) (hM : ∀ j, j ≠ G.1.length → M' j = M j) (hF : ∀ j, j ≠ G.1.length → G'.2.1 j = G.2.1 j) :
    tm_ws dA sz b G M ++ [(sz + G.1.length, tm_cell dA sz b q (M' G.1.length) (G'.2.1 G.1.length))] = tm_ws dA sz b G' M' := by
  simp only [tm_ws, hG, List.length_append, List.length_cons, List.length_nil, Nat.zero_add, List.range_succ, List.map_append, List.map_cons, List.map_nil]
  congr 1
  · apply List.map_congr_left
    intro k hk
    have hk : k < G.1.length := List.mem_range.mp hk
    rw [hM k (by omega), hF k (by omega), List.getD_eq_getElem?_getD, List.getD_eq_getElem?_getD, List.getElem?_append_left hk]
  · rw [List.getD_eq_getElem?_getD, List.getElem?_append_right (Nat.le_refl _)]
    simp
theorem tm_fs_at {sz : Nat} {b : Nat → Nat} {ci n : Nat} {f : Nat → Int32} {r : Nat → Option Nat} {j : Nat} (h : j < n) : (tm_fs sz b ci n f r)[j]? = some (tm_fv sz b ci f r j) := by
  simp [tm_fs, h]
theorem tm_fs_len (sz : Nat) (b : Nat → Nat) (ci n : Nat) (f : Nat → Int32) (r : Nat → Option Nat) : (tm_fs sz b ci n f r).length = n := by simp [tm_fs]
theorem tm_fs_seti {sz : Nat} {b : Nat → Nat} {ci n : Nat} {f : Nat → Int32} {r : Nat → Option Nat} {j : Nat} (x : Int32) (hj : j < n) (ht : tm_ft ci j ≠ 2) : (tm_fs sz b ci n f r).set j (.int x) = tm_fs sz b ci n (upd f j x) r := by
  apply List.ext_getElem?
  intro k
  by_cases hk : k = j
  · subst hk
    rw [List.getElem?_set_self (by rw [tm_fs_len]; exact hj), tm_fs_at hj]
    simp [tm_fv, ht, upd]
  · rw [List.getElem?_set_ne (Ne.symm hk)]
    by_cases hkn : k < n
    · rw [tm_fs_at hkn, tm_fs_at hkn]
      simp [tm_fv, upd, hk]
    · rw [List.getElem?_eq_none (by rw [tm_fs_len]; omega), List.getElem?_eq_none (by rw [tm_fs_len]; omega)]
theorem tm_fs_setr {sz : Nat} {b : Nat → Nat} {ci n : Nat} {f : Nat → Int32} {r : Nat → Option Nat} {j : Nat} (t : Nat) (hj : j < n) (ht : tm_ft ci j = 2) : (tm_fs sz b ci n f r).set j (.ref (tm_ad sz b t)) = tm_fs sz b ci n f (tm_uc r j (some t)) := by
  apply List.ext_getElem?
  intro k
  by_cases hk : k = j
  · subst hk
    rw [List.getElem?_set_self (by rw [tm_fs_len]; exact hj), tm_fs_at hj]
    simp [tm_fv, ht, tm_uc, tm_rf, va_rf]
  · rw [List.getElem?_set_ne (Ne.symm hk)]
    by_cases hkn : k < n
    · rw [tm_fs_at hkn, tm_fs_at hkn]
      simp [tm_fv, tm_uc, hk]
    · rw [List.getElem?_eq_none (by rw [tm_fs_len]; omega), List.getElem?_eq_none (by rw [tm_fs_len]; omega)]
theorem tm_cell_0 (dA : Nat → ClassId) (sz : Nat) (b : Nat → Nat) (n : Nat) (f : Nat → Int32) (r : Nat → Option Nat) : tm_cell dA sz b (0, n) f r = .inl (dA 0, n, .inl f) := rfl
theorem tm_cell_1 (dA : Nat → ClassId) (sz : Nat) (b : Nat → Nat) (n : Nat) (f : Nat → Int32) (r : Nat → Option Nat) : tm_cell dA sz b (1, n) f r = .inl (dA 1, n, .inl (fun j => (f j).toInt8.toInt32)) := rfl
theorem tm_cell_2 (dA : Nat → ClassId) (sz : Nat) (b : Nat → Nat) (n : Nat) (f : Nat → Int32) (r : Nat → Option Nat) : tm_cell dA sz b (2, n) f r = .inl (dA 2, n, .inl f) := rfl
theorem tm_cell_3 (dA : Nat → ClassId) (sz : Nat) (b : Nat → Nat) (n : Nat) (f : Nat → Int32) (r : Nat → Option Nat) : tm_cell dA sz b (3, n) f r = .inl (dA 3, n, .inr (.inr (.inr (.inr (fun j => tm_rf sz b (r j)))))) := rfl
theorem tm_cell_4 (dA : Nat → ClassId) (sz : Nat) (b : Nat → Nat) (n : Nat) (f : Nat → Int32) (r : Nat → Option Nat) : tm_cell dA sz b (4, n) f r = .inl (dA 4, n, .inr (.inr (.inr (.inr (fun j => tm_rf sz b (r j)))))) := rfl
theorem tm_cell_o (dA : Nat → ClassId) (sz : Nat) (b : Nat → Nat) (ci n : Nat) (f : Nat → Int32) (r : Nat → Option Nat) : tm_cell dA sz b (100 + ci, n) f r = .inr (ci, tm_fs sz b ci n f r) := by
  unfold tm_cell
  rw [if_neg (by show ¬ (100 + ci = 0 ∨ 100 + ci = 2); omega), if_neg (by show ¬ (100 + ci = 1); omega), if_neg (by show ¬ (100 + ci = 3 ∨ 100 + ci = 4); omega)]
  show Sum.inr (100 + ci - 100, tm_fs sz b (100 + ci - 100) n f r) = _
  rw [Nat.add_sub_cancel_left]
/-- the locals -/
def tm_lo (sz : Nat) (b : Nat → Nat) (j : Nat) (v : Value) : Option (Nat × Value) := match v with
  | .retAddr _ => none
  | w => some (j, tm_tr sz b w)
theorem tm_lo_eq {sz : Nat} {b : Nat → Nat} {j : Nat} {v : Value} {q : Nat × Value} : tm_lo sz b j v = some q ↔ (∀ z, v ≠ .retAddr z) ∧ q = (j, tm_tr sz b v) := by
  cases v <;> simp [tm_lo, eq_comm]
def tm_lv (sz : Nat) (b : Nat → Nat) (L : List Value) : List (Nat × Value) := (List.range L.length).filterMap fun j => L[j]?.bind (tm_lo sz b j)
theorem tm_lv_mem {sz : Nat} {b : Nat → Nat} {L : List Value} {q : Nat × Value} : q ∈ tm_lv sz b L ↔ ∃ v, L[q.1]? = some v ∧ (∀ z, v ≠ .retAddr z) ∧ q.2 = tm_tr sz b v := by
  unfold tm_lv
  rw [List.mem_filterMap]
  constructor
  · rintro ⟨j, hj, h⟩
    obtain ⟨v, h1, h2⟩ := Option.bind_eq_some_iff.mp h
    obtain ⟨h3, h4⟩ := tm_lo_eq.mp h2
    subst h4
    exact ⟨v, h1, h3, rfl⟩
  · rintro ⟨v, h1, h2, h3⟩
    refine ⟨q.1, List.mem_range.mpr (List.getElem?_eq_some_iff.mp h1).1, Option.bind_eq_some_iff.mpr ⟨v, h1, tm_lo_eq.mpr ⟨h2, ?_⟩⟩⟩
    rw [← h3]
theorem lv_mono {ls : Array Slot} {n : Nat} {l l' : List (Nat × Value)} (h : lv_has ls n l) (hs : ∀ q ∈ l', q ∈ l) : lv_has ls n l' := ⟨h.1, h.2.1, fun q hq => h.2.2 q (hs q hq)⟩
theorem tm_lv_at {sz : Nat} {b : Nat → Nat} {ls : Array Slot} {n : Nat} {L : List Value} (h : lv_has ls n (tm_lv sz b L)) {k : Nat} {v : Value} (hk : L[k]? = some v) (hv : ∀ z, v ≠ .retAddr z) : ls[k]? = some (.val (tm_tr sz b v)) := h.2.2 (k, tm_tr sz b v) (tm_lv_mem.mpr ⟨v, hk, hv, rfl⟩)
theorem tm_kill_len (L : List Value) (i : Nat) : (tm_kill L i).length = L.length := by
  unfold tm_kill
  split
  · rfl
  · split <;> simp
theorem tm_set1_len (L : List Value) (i : Nat) (v : Value) : (tm_set1 L i v).length = L.length := by simp [tm_set1, tm_kill_len]
theorem tm_set2_len (L : List Value) (i : Nat) (v : Value) : (tm_set2 L i v).length = L.length := by simp [tm_set2, tm_kill_len]
theorem tm_kill_at {L : List Value} {i j : Nat} {v : Value} (h : (tm_kill L i)[j]? = some v) (hv : ∀ z, v ≠ .retAddr z) : L[j]? = some v ∧ ¬ (j + 1 = i ∧ v.category = 2) := by
  unfold tm_kill at h
  split at h
  · exact ⟨h, fun q => absurd q.1 (by omega)⟩
  · rename_i k
    have key : ∀ L' : List Value, L' = L.set k tm_un → L'[j]? = some v → L[j]? = some v ∧ ¬ (j + 1 = k + 1 ∧ v.category = 2) := by
      intro L' e h
      subst e
      by_cases hj : k = j
      · subst hj
        rw [List.getElem?_set] at h
        simp only [if_true] at h
        split at h
        · cases h; exact absurd rfl (hv 0)
        · cases h
      · rw [List.getElem?_set_ne hj] at h
        exact ⟨h, fun q => hj (by omega)⟩
    split at h
    · exact key _ rfl h
    · exact key _ rfl h
    · rename_i h1 h2
      refine ⟨h, fun q => ?_⟩
      obtain ⟨q1, q2⟩ := q
      have : j = k := by omega
      subst this
      cases v <;> simp [Value.category] at q2
      · exact h1 _ h
      · exact h2 _ h
theorem tm_lv_set1 {sz : Nat} {b : Nat → Nat} {ls : Array Slot} {n : Nat} {L : List Value} {i : Nat} {v : Value} (h : lv_has ls n ((i, tm_tr sz b v) :: (tm_lv sz b L).filter (fun q => !(q.1 == i) && !(q.1 + 1 == i && q.2.category == 2)))) : lv_has ls n (tm_lv sz b (tm_set1 L i v)) := by
  refine lv_mono h fun q hq => ?_
  obtain ⟨w, h1, h2, h3⟩ := tm_lv_mem.mp hq
  obtain ⟨q1, q2⟩ := q
  simp only at h1 h3
  subst h3
  unfold tm_set1 at h1
  by_cases hi : i = q1
  · subst hi
    rw [List.getElem?_set] at h1
    simp only [if_true] at h1
    split at h1
    · cases h1; exact List.mem_cons_self
    · cases h1
  · rw [List.getElem?_set_ne hi] at h1
    obtain ⟨g1, g2⟩ := tm_kill_at h1 h2
    refine List.mem_cons_of_mem _ (List.mem_filter.mpr ⟨tm_lv_mem.mpr ⟨w, g1, h2, rfl⟩, ?_⟩)
    simp only [tm_tr_cat, Bool.and_eq_true, Bool.not_eq_true', beq_eq_false_iff_ne, ne_eq, Bool.and_eq_false_iff]
    refine ⟨Ne.symm hi, ?_⟩
    by_cases h5 : q1 + 1 = i
    · exact Or.inr (fun z => g2 ⟨h5, z⟩)
    · exact Or.inl h5
theorem tm_lv_set2 {sz : Nat} {b : Nat → Nat} {ls : Array Slot} {n : Nat} {L : List Value} {i : Nat} {v : Value} (h : lv_has ls n ((i, tm_tr sz b v) :: (tm_lv sz b L).filter (fun q => !(q.1 == i) && (!(q.1 == i + 1) && !(q.1 + 1 == i && q.2.category == 2))))) : lv_has ls n (tm_lv sz b (tm_set2 L i v)) := by
  refine lv_mono h fun q hq => ?_
  obtain ⟨w, h1, h2, h3⟩ := tm_lv_mem.mp hq
  obtain ⟨q1, q2⟩ := q
  simp only at h1 h3
  subst h3
  unfold tm_set2 at h1
  by_cases hi1 : i + 1 = q1
  · subst hi1
    rw [List.getElem?_set] at h1
    simp only [if_true] at h1
    split at h1
    · cases h1; exact absurd rfl (h2 0)
    · cases h1
  rw [List.getElem?_set_ne hi1] at h1
  by_cases hi : i = q1
  · subst hi
    rw [List.getElem?_set] at h1
    simp only [if_true] at h1
    split at h1
    · cases h1; exact List.mem_cons_self
    · cases h1
  · rw [List.getElem?_set_ne hi] at h1
    obtain ⟨g1, g2⟩ := tm_kill_at h1 h2
    refine List.mem_cons_of_mem _ (List.mem_filter.mpr ⟨tm_lv_mem.mpr ⟨w, g1, h2, rfl⟩, ?_⟩)
    simp only [tm_tr_cat, Bool.and_eq_true, Bool.not_eq_true', beq_eq_false_iff_ne, ne_eq, Bool.and_eq_false_iff]
    refine ⟨Ne.symm hi, Ne.symm hi1, ?_⟩
    by_cases h5 : q1 + 1 = i
    · exact Or.inr (fun z => g2 ⟨h5, z⟩)
    · exact Or.inl h5
/-- at a method's entry -/
theorem tm_xp_at : ∀ (as : List Value) (i0 : Nat) (sz : Nat) (b : Nat → Nat) (j : Nat) (v : Value), (tm_xp as)[j]? = some v → (∀ z, v ≠ .retAddr z) → (i0 + j, tm_tr sz b v) ∈ lv_args i0 (as.map (tm_tr sz b)) := by
  intro as
  induction as with
  | nil => intro i0 sz b j v h; simp [tm_xp] at h
  | cons a r ih =>
    intro i0 sz b j v h hv
    have two : ∀ w : Value, w.category = 2 → (tm_tr sz b w = w) → (w :: tm_un :: tm_xp r)[j]? = some v → (i0 + j, tm_tr sz b v) ∈ lv_args i0 ((w :: r).map (tm_tr sz b)) := by
      intro w hw ht h
      match j, h with
      | 0, h =>
        cases h
        simp [lv_args]
      | 1, h => cases h; exact absurd rfl (hv 0)
      | j + 2, h =>
        have := ih (i0 + 2) sz b j v h hv
        simp only [List.map_cons, lv_args, tm_tr_cat, hw, if_true]
        refine List.mem_cons_of_mem _ ?_
        rw [show i0 + (j + 2) = i0 + 2 + j by omega]
        exact this
    have one : ∀ w : Value, w.category = 1 → (w :: tm_xp r)[j]? = some v → (i0 + j, tm_tr sz b v) ∈ lv_args i0 ((w :: r).map (tm_tr sz b)) := by
      intro w hw h
      match j, h with
      | 0, h =>
        cases h
        simp [lv_args]
      | j + 1, h =>
        have := ih (i0 + 1) sz b j v h hv
        simp only [List.map_cons, lv_args, tm_tr_cat, hw]
        refine List.mem_cons_of_mem _ ?_
        rw [show i0 + (j + 1) = i0 + 1 + j by omega]
        exact this
    cases a with
    | long x => exact two (.long x) rfl rfl h
    | double x => exact two (.double x) rfl rfl h
    | int x => exact one (.int x) rfl h
    | float x => exact one (.float x) rfl h
    | null => exact one .null rfl h
    | ref x => exact one (.ref x) rfl h
    | retAddr x => exact one (.retAddr x) rfl h
theorem tm_xp_len (sz : Nat) (b : Nat → Nat) (as : List Value) : (lg_sl (as.map (tm_tr sz b))).length = (tm_xp as).length := by
  induction as with
  | nil => rfl
  | cons a r ih =>
    simp only [lg_sl, List.map_cons, List.flatMap_cons, List.length_append] at ih ⊢
    rw [ih]
    cases a <;> simp [tm_xp, tm_tr, Value.category] <;> omega
theorem tm_entry {sz : Nat} {b : Nat → Nat} {y : Nat} {as : List Value} {n : Nat} (hn : (tm_ent y as).length ≤ n) (m : MethodId) : ∃ ls : Array Slot, entryFrame m (as.map (tm_tr sz b)).toArray n = F0 m 0 ls [] ∧ lv_has ls n (tm_lv sz b (tm_ent y as)) := by
  have hl : (lg_sl (as.map (tm_tr sz b))).length ≤ n := by
    rw [tm_xp_len]
    simp only [tm_ent, List.length_append] at hn
    omega
  refine ⟨_, lg_entry_eq m _ n, lv_mono (lv_entry (as.map (tm_tr sz b)) hl) fun q hq => ?_⟩
  obtain ⟨v, h1, h2, h3⟩ := tm_lv_mem.mp hq
  obtain ⟨q1, q2⟩ := q
  simp only at h1 h3
  subst h3
  unfold tm_ent at h1
  by_cases hq1 : q1 < (tm_xp as).length
  · rw [List.getElem?_append_left hq1] at h1
    have := tm_xp_at as 0 sz b q1 v h1 h2
    rwa [Nat.zero_add] at this
  · rw [List.getElem?_append_right (by omega)] at h1
    have h5 := List.getElem?_eq_some_iff.mp h1
    obtain ⟨g1, g2⟩ := h5
    rw [List.getElem_replicate] at g2
    exact absurd g2.symm (h2 0)
