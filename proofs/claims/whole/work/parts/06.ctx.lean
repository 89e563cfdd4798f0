/-! part 06: what holds while a method runs; words by name; the rows of the machine over the pure memory -/
def tm_tys (dA : Nat → ClassId) : List (ClassId × FieldType) := [(dA 0, .int), (dA 1, .byte), (dA 2, .boolean), (dA 3, .object RX8), (dA 4, .object RX7)]
abbrev tm_B (sz : Nat) : Nat → Prop := fun q => sz ≤ q
/-- the world of a launch: class numbers, slots, array classes, where the cells begin, where the arrays lie that nobody writes, the script -/
abbrev tm_V : Type := (Nat → ClassId) × (Nat → Nat → Nat) × (Nat → ClassId) × Nat × (Nat → Nat) × Nat × (Nat → Int32)
def tm_E (V : tm_V) (U : State) : Prop :=
  va_K (V.1, V.2.1) vwCl (tm_tys V.2.2.1) U ∧ (∀ w ∈ tm_NW, va_Nw w U) ∧ va_AO RX8 U ∧ va_AO RX7 U ∧ va_X (V.2.2.2.2.1 0) V.2.2.2.2.2.1 V.2.2.2.2.2.2 U U.heap ∧ va_T .int (V.2.2.2.2.1 1) 8 (fun j => .int (tm_KA j)) (tm_B V.2.2.2.1) U U.heap ∧ va_T .int (V.2.2.2.2.1 2) 32 (fun j => .int (tm_BO j)) (tm_B V.2.2.2.1) U U.heap ∧
  va_Z RX11 "KIND_ABOVE" "[I" (.ref (V.2.2.2.2.1 1)) (tm_B V.2.2.2.1) U U.heap ∧ va_Z RX9 "BODIES" "[I" (.ref (V.2.2.2.2.1 2)) (tm_B V.2.2.2.1) U U.heap ∧ (V.2.2.2.2.1 0 < V.2.2.2.1 ∧ V.2.2.2.2.1 1 < V.2.2.2.1 ∧ V.2.2.2.2.1 2 < V.2.2.2.1) ∧ V.2.2.2.1 ≤ U.heap.size
def tm_H (V : tm_V) (G : tm_G) (M : tm_M) (H : Heap) : Prop :=
  va_P (V.1, V.2.1) vwCl (tm_ws V.2.2.1 V.2.2.2.1 V.2.2.2.2.1 G M) H ∧ G.1.length ≤ 900 ∧ G.2.2 = (V.2.2.2.2.2.1, V.2.2.2.2.2.2)
abbrev tm_t (V : tm_V) : Value → Value := tm_tr V.2.2.2.1 V.2.2.2.2.1
theorem tm_Nw_warm {w : Cond} (h : tm_isN w = true) {s U : State} (hW : s.WarmedH U.vm) (hZ : va_Nw w s) : va_Nw w U := by
  cases w <;> first | (exact va_Nw.warmM hW hZ) | (exact va_Nw.warmF hW hZ) | (cases h)
/-- the world goes on: tables warmer, the heap changed only in the cells -/
theorem tm_E.go {V : tm_V} {s U : State} (h : tm_E V s) (hW : s.WarmedH U.vm) {H : Heap} {locs : List Loc} (hS : va_S (tm_B V.2.2.2.1) s.heap H locs) (hU : U.heap = H) : tm_E V U := by
  obtain ⟨h1, h2, h3, h4, h5, h6, h7, h8, h9, ⟨b0, b1, b2⟩, hz⟩ := h
  have hk : ∀ a : Nat, a < s.heap.size → ¬ tm_B V.2.2.2.1 a → U.heap[a]? = s.heap[a]? := fun a x y => by rw [hU]; exact hS.2.1 a x y
  have kx : ∀ a : Nat, a < V.2.2.2.1 → U.heap[a]? = s.heap[a]? := fun a x => hk a (by omega) (Nat.not_le.mpr x)
  refine ⟨va_K.moved hW.alike h1, fun w hw => tm_Nw_warm (List.mem_filter.mp hw).2 hW (h2 w hw), h3.moved hW.alike, h4.moved hW.alike, (h5.kept (kx _ b0)).moved hW.alike, (h6.kept hk).moved hW.alike, (h7.kept hk).moved hW.alike, (h8.kept hk).moved hW.alike, (h9.kept hk).moved hW.alike, ⟨b0, b1, b2⟩, ?_⟩
  rw [hU]
  exact Nat.le_trans hz hS.1
theorem tm_E.calling {V : tm_V} {U : State} (h : tm_E V U) (g : JFrame) (mk : MethodId) (a : Array Value) : tm_E V (U.calling g mk a) := by
  obtain ⟨h1, h2, h3, h4, h5, h6, h7, h8, h9, hb, hz⟩ := h
  have hA : U.vm.Alike (U.calling g mk a).vm := Vm.Alike.refl U.vm
  exact ⟨va_K.moved hA h1, fun w hw => va_Nw.same (by have := (List.mem_filter.mp hw).2; cases w <;> first | rfl | cases this) (rfl : U.vm = (U.calling g mk a).vm) (h2 w hw), h3.moved hA, h4.moved hA, h5.moved hA, h6.moved hA, h7.moved hA, h8.moved hA, h9.moved hA, hb, hz⟩
/-- what is known of the frame that runs method y -/
def tm_C (V : tm_V) (p : Program) (s : State) (m : MethodId) (args : Array Value) (meth : Method) (c : Code) (y : Nat) : Prop :=
  p.tables.exec = Jvm.exec ∧ c.code = tm_cd y ∧ meth.sig.returnType = tm_rt y ∧ meth.locks = false ∧ c.maxLocals = tm_mx y ∧ ((tm_nm y).name = "<init>" → meth.name = "<init>") ∧ s.vm.findClass (tm_cn (tm_ci y)) = some m.cls ∧ (∀ w ∈ tm_WS, w.before args s = true) ∧ tm_E V s ∧ tm_ci y < 18
/-! the words -/
theorem tm_all_get {n : Nat} {f : Nat → Bool} (h : (List.range n).all f = true) {k : Nat} (hk : k < n) : f k = true := List.all_eq_true.mp h k (List.mem_range.mpr hk)
theorem tm_okF_at {k : Nat} (hk : k < 18) : tm_okF k = true := by
  by_cases h : k < 6
  · exact tm_all_get tm_okF_1 h
  · exact List.all_eq_true.mp tm_okF_2 k (List.mem_of_getElem? (i := k - 6) (by rw [List.getElem?_drop, List.getElem?_range (by omega)]; congr 1; omega))
theorem tm_okM_at {k : Nat} (hk : k < 18) : tm_okM k = true := by
  by_cases h : k < 11
  · exact tm_all_get tm_okM_1 h
  · rcases (by omega : k = 11 ∨ k = 12 ∨ k = 13 ∨ k = 14 ∨ k = 15 ∨ k = 16 ∨ k = 17) with rfl | rfl | rfl | rfl | rfl | rfl | rfl
    · exact List.all_eq_true.mp tm_okM_2 11 (by simp)
    · exact List.all_eq_true.mp tm_okM_3 12 (by simp)
    · exact List.all_eq_true.mp tm_okM_4 13 (by simp)
    · exact List.all_eq_true.mp tm_okM_4 14 (by simp)
    · exact List.all_eq_true.mp tm_okM_4 15 (by simp)
    · exact List.all_eq_true.mp tm_okM_4 16 (by simp)
    · exact List.all_eq_true.mp tm_okM_4 17 (by simp)
theorem tm_okK_at {k : Nat} (hk : k < 18) : tm_okK k = true ∧ tm_okL k = true ∧ tm_okN k = true ∧ tm_okS k = true := by
  have h := tm_all_get tm_okK_1 hk
  simp only [Bool.and_eq_true] at h
  exact ⟨h.1.1.1, h.1.1.2, h.1.2, h.2⟩
theorem tm_okY_at {y : Nat} (hy : y < 259) : tm_okY y = true := by
  have key : ∀ g : Nat, 40 * g ≤ y → y < 40 * g + 40 → (((List.range 259).drop (40 * g)).take 40).all tm_okY = true → tm_okY y = true := by
    intro g h1 h2 h
    refine List.all_eq_true.mp h y (List.mem_of_getElem? (i := y - 40 * g) ?_)
    rw [List.getElem?_take_of_lt (by omega), List.getElem?_drop, List.getElem?_range (by omega)]
    congr 1
    omega
  rcases (by omega : y < 40 ∨ (40 ≤ y ∧ y < 80) ∨ (80 ≤ y ∧ y < 120) ∨ (120 ≤ y ∧ y < 160) ∨ (160 ≤ y ∧ y < 200) ∨ (200 ≤ y ∧ y < 240) ∨ 240 ≤ y) with h | h | h | h | h | h | h
  · exact key 0 (by omega) (by omega) tm_okY_0
  · exact key 1 (by omega) (by omega) tm_okY_1
  · exact key 2 (by omega) (by omega) tm_okY_2
  · exact key 3 (by omega) (by omega) tm_okY_3
  · exact key 4 (by omega) (by omega) tm_okY_4
  · exact key 5 (by omega) (by omega) tm_okY_5
  · exact key 6 (by omega) (by omega) tm_okY_6
theorem tm_okC_at {k : Nat} (hk : k ≤ 12) : tm_okC k = true := tm_all_get tm_okC_1 (by omega)
theorem tm_lk_mem {α : Type} {l : List (Nat × α)} {i : Nat} {a : α} (h : tm_lk l i = some a) : (i, a) ∈ l := by
  induction l with
  | nil => cases h
  | cons q r ih =>
    unfold tm_lk at h
    split at h
    · rename_i hq
      cases h
      obtain ⟨q1, q2⟩ := q
      simp only at hq
      subst hq
      exact List.mem_cons_self
    · exact List.mem_cons_of_mem _ (ih h)
theorem tm_vw {c : Nat} (h : c ≤ 12) : vwCl[c]? = some (tm_cn c, tm_T c, tm_nf c) := by
  rcases (by omega : c = 0 ∨ c = 1 ∨ c = 2 ∨ c = 3 ∨ c = 4 ∨ c = 5 ∨ c = 6 ∨ c = 7 ∨ c = 8 ∨ c = 9 ∨ c = 10 ∨ c = 11 ∨ c = 12) with rfl | rfl | rfl | rfl | rfl | rfl | rfl | rfl | rfl | rfl | rfl | rfl | rfl <;> rfl
theorem tm_lays {c : Nat} (h : c ≤ 12) : ∀ w ∈ u_ws (tm_cn c) (tm_T c) (tm_nf c), w ∈ tm_WS := by
  intro w hw
  obtain ⟨k, hk, rfl⟩ := List.mem_map.mp hw
  have hc := tm_okC_at h
  simp only [tm_okC, Bool.and_eq_true] at hc
  have h2 := List.all_eq_true.mp hc.1.2 k hk
  simp only [Bool.and_eq_true] at h2
  exact tm_wd_in h2.1
theorem tm_tyok {c : Nat} (h : c ≤ 12) : ∀ k, k < tm_nf c → parseFieldDescriptor (tm_T c k).2.2.1 = some (tm_ty c k) := by
  intro k hk
  have hc := tm_okC_at h
  simp only [tm_okC, Bool.and_eq_true] at hc
  have h2 := List.all_eq_true.mp hc.1.2 k (List.mem_range.mpr hk)
  simp only [Bool.and_eq_true, decide_eq_true_eq] at h2
  exact h2.2
theorem tm_nmok {c : Nat} (h : c ≤ 12) : ∀ a, a < tm_nf c → ∀ b, b < tm_nf c → a ≠ b → (tm_T c a).2.1 ≠ (tm_T c b).2.1 := by
  intro a ha b hb hab
  have hc := tm_okC_at h
  simp only [tm_okC, Bool.and_eq_true] at hc
  have h2 := List.all_eq_true.mp (List.all_eq_true.mp hc.2 a (List.mem_range.mpr ha)) b (List.mem_range.mpr hb)
  simp only [Bool.or_eq_true, decide_eq_true_eq] at h2
  rcases h2 with h2 | h2
  · exact absurd h2 hab
  · exact h2
theorem tm_mkok {c : Nat} (h : c ≤ 12) : (Cond.instantiable (tm_cn c) (tm_nf c)) ∈ tm_WS ∧ (Cond.initialized (tm_cn c)) ∈ tm_WS := by
  have hc := tm_okC_at h
  simp only [tm_okC, Bool.and_eq_true] at hc
  exact ⟨tm_wd_in hc.1.1.1, tm_wd_in hc.1.1.2⟩
theorem tm_isC_at {G : tm_G} {k ci : Nat} (h : tm_isC G k ci = true) : G.1[k]? = some (100 + ci, tm_nf ci) := by
  unfold tm_isC at h
  exact eq_of_beq h
theorem tm_inb_vp {i : Int32} {n : Nat} (h : tm_inb i n = true) : vp_in i n := by
  simp only [tm_inb, Bool.and_eq_true, decide_eq_true_eq] at h
  intro q
  rcases q with q | q
  · exact h.1 q
  · omega
