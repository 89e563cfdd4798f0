/-! part 12: the law's entry: the world that the Statement gives, and the law out of one run of the interpreter (the first rows are the skeleton's) -/
/-! (of the skeleton) THE CLAIM OUT OF ONE WALK OF THE LAW'S BODY. Your part is whole_start (and what it stands on); all else here is the same for every law, but numbers. -/
def R_law : String := "TrainMileLaw"
def lw_P (b : Addr) (xs : List Int32) (args : Array Value) (s : State) : Prop := args = #[.ref b] ∧ s.IntsAt b xs ∧ xs.length ≤ 3072 ∧ (Jvm.Cond.and given_1 narrow_1).before args s = true
def lw_Q (_ : Array Value) (s : State) (o : Outcome) (t : State) : Prop := o = .returned (some (.int 1)) ∧ Framed s o t [] 600000 7302250
def lw_Z (below : List Frame) (a : Array Value) (s : State) : State → Prop := fun t => ∃ o, t.status = .running ∧ Ended t below o ∧ lw_Q a s o t
/-- the law's own end, with 1 on the stack, nothing written that was there before, its room as the claim has it -/
theorem lw_ret {p : Program} {l : Launch} {e : Env} {s : State} {m : MethodId} {below : List Frame} {meth : Method} {c : Code} {b : Nat} (hx : p.tables.exec = Jvm.exec) (hb : c.code = code) (hr : meth.sig.returnType = ret) (hlocks : meth.locks = false) {pc : Nat} {H : Heap} {ls : Array Slot} (hdg : decode code pc = .ok (.ireturn, 1)) : W p l e room_1 s m #[Value.ref b] below meth c H [] 600000 7302250 (lw_Z below #[Value.ref b] s) (F0 m pc ls [.int 1]) := by
  intro T hT X
  obtain ⟨fs, hret, hrun, hended, hW, hframe⟩ := X.leave (v := some (.int 1)) (hlocks := hlocks) (fun h => by rw [hr] at h; cases h)
  have hmeth' : T.vm.method? m = some meth := X.method'
  refine ⟨T.setFrames fs, ?_, .returned (some (.int 1)), hrun, hended, rfl, ⟨_, rfl⟩, hW, hframe⟩
  jvm_step X.here [X.here.top, hx, hb, hdg, hmeth', hr, ret, narrow_b1]
  (try refine ⟨rfl, ?_⟩); (try refine ⟨rfl, ?_⟩)
  first | (intro acts; rw [hret _ acts rfl rfl rfl]) | rw [hret _ _ rfl rfl rfl]
  exact Steps.refl _
/-- what holds at the law's entry: the machine, the code, the tables' words (any of lw_tbl by 'hts w (by decide +kernel)'), the script of L ints xs at the cell b, what the Statement gives of the start (any of its parts by flat_of_before) -/
def lw_At (p : Program) (s : State) (m : MethodId) (meth : Method) (c : Code) (b L : Nat) (xs : Nat → Int32) : Prop :=
  p.tables.exec = Jvm.exec ∧ c.code = code ∧ meth.sig.returnType = ret ∧ c.maxLocals = 4 ∧ s.vm.findClass R_law = some m.cls ∧ (∀ w ∈ lw_tbl, w.before #[Value.ref b] s = true) ∧ va_X b L xs s s.heap ∧ b < s.heap.size ∧ meth.locks = false ∧ (Jvm.Cond.and given_1 narrow_1).before #[Value.ref b] s = true

set_option maxRecDepth 100000 in
theorem tm_x_ao8 : lw_tbl[271]? = some (.arrayOver (.object RX8)) := by decide +kernel
set_option maxRecDepth 100000 in
theorem tm_x_ao7 : lw_tbl[495]? = some (.arrayOver (.object RX7)) := by decide +kernel
set_option maxRecDepth 100000 in
theorem tm_ka_in : ∀ j, j < 8 → (Jvm.Cond.eq (.elem (.static "TrainMile" "KIND_ABOVE" "[I") (.int (Int32.ofNat j))) (.int (tm_KA j))) ∈ flatC (Jvm.Cond.and given_1 narrow_1) := by decide +kernel
set_option maxRecDepth 100000 in
theorem tm_bo_in : ∀ j, j < 32 → (Jvm.Cond.eq (.elem (.static "TrainMile$Voices" "BODIES" "[I") (.int (Int32.ofNat j))) (.int (tm_BO j))) ∈ flatC (Jvm.Cond.and given_1 narrow_1) := by decide +kernel
set_option maxRecDepth 100000 in
theorem tm_ka_l : (Jvm.Cond.eq (.length (.static "TrainMile" "KIND_ABOVE" "[I")) (.int 8)) ∈ flatC (Jvm.Cond.and given_1 narrow_1) ∧ (Jvm.Cond.arrayOf (.static "TrainMile" "KIND_ABOVE" "[I") .int) ∈ flatC (Jvm.Cond.and given_1 narrow_1) := by decide +kernel
set_option maxRecDepth 100000 in
theorem tm_bo_l : (Jvm.Cond.eq (.length (.static "TrainMile$Voices" "BODIES" "[I")) (.int 32)) ∈ flatC (Jvm.Cond.and given_1 narrow_1) ∧ (Jvm.Cond.arrayOf (.static "TrainMile$Voices" "BODIES" "[I") .int) ∈ flatC (Jvm.Cond.and given_1 narrow_1) := by decide +kernel
theorem tm_WS_tbl {w : Cond} (h : w ∈ tm_WS) : w ∈ lw_tbl := (List.mem_filter.mp h).1
theorem tm_prim {s : State} {args : Array Value} {ty : FieldType} (hp : ∀ cA : ClassId, s.vm.findClass ("[" ++ ty.toString) = some cA → va_RA s cA ty) (h : (Cond.arrayClass ty).before args s = true) : ∃ cA : ClassId, ArrOfT s cA ty ∧ va_RA s cA ty := by
  obtain ⟨cA, k, comp, h1, h2, h3⟩ := Cond.arrayClass_spec h
  exact ⟨cA, fun n z => ⟨fun k h => (by cases h), k, h2, comp, h3⟩, hp cA h1⟩
theorem tm_objA {s : State} {args : Array Value} {C : String} (h : (Cond.arrayOver (.object C)).before args s = true) : ∃ cA : ClassId, ArrOfT s cA (.object C) ∧ va_RA s cA (.object C) := by
  obtain ⟨comp, cA, k, h1, h2, h3, h4, h5⟩ := Cond.arrayOver_spec h
  exact ⟨cA, fun n z => ⟨fun k h => (by cases h), k, h3, comp, h4⟩, k, comp, h3, h4, h1, h5⟩
/-- the world at the law's entry -/
theorem tm_world {s : State} {b L : Nat} {xs : Nat → Int32} (hts : ∀ w ∈ lw_tbl, w.before #[Value.ref b] s = true) (hX : va_X b L xs s s.heap) (hbl : b < s.heap.size) (hgv : (Jvm.Cond.and given_1 narrow_1).before #[Value.ref b] s = true) : ∃ V : tm_V, V.2.2.2.1 = s.heap.size ∧ V.2.2.2.2.1 0 = b ∧ V.2.2.2.2.2 = (L, xs) ∧ tm_E V s := by
  have hA : ∀ a : Nat, a < s.heap.size → ¬ tm_B s.heap.size a := fun a h => Nat.not_le.mpr h
  have hs := flat_of_before _ hgv
  have hcl : ∀ k : Nat, ∃ (cC : ClassId) (iS : Nat → Nat), k ≤ 12 → u_Kn s (tm_cn k) (tm_T k) (tm_nf k) cC iS := by
    intro k
    by_cases hk : k ≤ 12
    · obtain ⟨cC, iS, h⟩ := u_known (C := tm_cn k) (T := tm_T k) (N := tm_nf k) (n := tm_nf k) hts (fun w hw => tm_WS_tbl (tm_lays hk w hw)) (hts _ (tm_WS_tbl (tm_mkok hk).1))
      exact ⟨cC, iS, fun _ => h⟩
    · exact ⟨0, fun _ => 0, fun h => absurd h hk⟩
  obtain ⟨a0, p0, q0⟩ := tm_prim (ty := .int) (fun cA h => h) (hts _ (tm_WS_tbl (tm_wd_in tm_x_ac_int)))
  obtain ⟨a1, p1, q1⟩ := tm_prim (ty := .byte) (fun cA h => h) (hts _ (tm_WS_tbl (tm_wd_in tm_x_ac_byte)))
  obtain ⟨a2, p2, q2⟩ := tm_prim (ty := .boolean) (fun cA h => h) (hts _ (tm_WS_tbl (tm_wd_in tm_x_ac_boolean)))
  have hao8 := hts _ (List.mem_of_getElem? tm_x_ao8)
  have hao7 := hts _ (List.mem_of_getElem? tm_x_ao7)
  obtain ⟨a3, p3, q3⟩ := tm_objA hao8
  obtain ⟨a4, p4, q4⟩ := tm_objA hao7
  obtain ⟨t1, e1, hT1⟩ := va_Tof (tm := .static "TrainMile" "KIND_ABOVE" "[I") (ty := .int) (N := 8) (f := fun j => .int (tm_KA j)) (A := tm_B s.heap.size) (by decide) (hs _ tm_ka_l.2) (va_eqt (hs _ tm_ka_l.1)) (fun j hj => va_eqt (hs _ (tm_ka_in j hj))) hA
  obtain ⟨t2, e2, hT2⟩ := va_Tof (tm := .static "TrainMile$Voices" "BODIES" "[I") (ty := .int) (N := 32) (f := fun j => .int (tm_BO j)) (A := tm_B s.heap.size) (by decide) (hs _ tm_bo_l.2) (va_eqt (hs _ tm_bo_l.1)) (fun j hj => va_eqt (hs _ (tm_bo_in j hj))) hA
  have hZ1 : va_Z RX11 "KIND_ABOVE" "[I" (.ref t1) (tm_B s.heap.size) s s.heap := va_Zref (hts _ (List.mem_of_getElem? tm_x_ls_ka)) (hts _ (tm_WS_tbl (tm_mkok (c := 11) (by decide)).2)) e1 hA
  have hZ2 : va_Z RX9 "BODIES" "[I" (.ref t2) (tm_B s.heap.size) s s.heap := va_Zref (hts _ (List.mem_of_getElem? tm_x_ls_bo)) (hts _ (tm_WS_tbl (tm_mkok (c := 9) (by decide)).2)) e2 hA
  refine ⟨(fun k => Classical.choose (hcl k), fun k => Classical.choose (Classical.choose_spec (hcl k)), fun k => if k = 0 then a0 else if k = 1 then a1 else if k = 2 then a2 else if k = 3 then a3 else a4, s.heap.size, fun k => if k = 0 then b else if k = 1 then t1 else t2, L, xs), rfl, rfl, rfl, ?_⟩
  refine ⟨⟨fun k q hk => ?_, fun k q hk => ?_⟩, fun w hw => ?_, va_AO.of hao8, va_AO.of hao7, hX, hT1, hT2, hZ1, hZ2, ⟨hbl, Nat.not_le.mp hT1.out, Nat.not_le.mp hT2.out⟩, Nat.le_refl _⟩
  · have hk12 : k ≤ 12 := by
      have := (List.getElem?_eq_some_iff.mp hk).1
      simp only [vwCl, List.length_cons, List.length_nil] at this
      omega
    rw [tm_vw hk12] at hk
    cases hk
    exact Classical.choose_spec (Classical.choose_spec (hcl k)) hk12
  · match k, hk with
    | 0, hk => cases hk; exact ⟨p0, q0⟩
    | 1, hk => cases hk; exact ⟨p1, q1⟩
    | 2, hk => cases hk; exact ⟨p2, q2⟩
    | 3, hk => cases hk; exact ⟨p3, q3⟩
    | 4, hk => cases hk; exact ⟨p4, q4⟩
    | k + 5, hk => simp [tm_tys] at hk
  · obtain ⟨h1, h2⟩ := List.mem_filter.mp hw
    exact va_Nw.of (by cases w <;> first | rfl | cases h2) (hts w h1)
/-- the memory before anything is made -/
def tm_G00 (L : Nat) (xs : Nat → Int32) : tm_G := ([], fun _ _ => none, L, xs)
def tm_M00 : tm_M := fun _ _ => 0
/-- what is to be shown of the law, without the machine -/
def tm_LawRuns : Prop := ∀ (L : Nat) (xs : Nat → Int32), L ≤ 3072 → ∃ (n : Nat) (G : tm_G) (M : tm_M), tm_run n 1000 (tm_blk 2590000) (tm_ent 259 [.ref 1000]) [] (tm_G00 L xs) tm_M00 = some (some (.int 1), G, M) ∧ G.1.length ≤ 600000 ∧ tm_sl G ≤ 7302250
set_option maxRecDepth 100000 in
theorem tm_law_facts : tm_cd 259 = code ∧ tm_rt 259 = ret ∧ tm_mx 259 = 4 ∧ (tm_nm 259).name ≠ "<init>" ∧ tm_cn (tm_ci 259) = R_law ∧ tm_ci 259 < 18 ∧ (tm_ent 259 [.ref 1000]).length ≤ tm_mx 259 := ⟨rfl, rfl, rfl, by decide +kernel, rfl, by decide +kernel, by decide +kernel⟩
set_option maxHeartbeats 4000000 in
theorem tm_start (hB : ∀ y, y < 260 → tm_chkB y = true ∧ tm_hasB y ((y : Int) * 10000) = true) (hrun : tm_LawRuns) {p : Program} {e : Env} {s : State} {m : MethodId} {below : List Frame} {meth : Method} {c : Code} (l : Launch) {b L : Nat} {xs : Nat → Int32} (hL : L ≤ 3072) (C0 : lw_At p s m meth c b L xs) : W p l e room_1 s m #[Value.ref b] below meth c s.heap [] 0 0 (lw_Z below #[Value.ref b] s) (entryFrame m ([Value.ref b] : List Value).toArray 4) := by
  obtain ⟨hx, hb, hr, hml, hown, hts, hX, hbl, hlocks, hgv⟩ := C0
  obtain ⟨V, hV1, hV2, hV3, hE⟩ := tm_world hts hX hbl hgv
  obtain ⟨f1, f2, f3, f4, f5, f6, f7⟩ := tm_law_facts
  obtain ⟨n, G, M, h, hc1, hc2⟩ := hrun L xs hL
  have C : tm_C V p s m #[Value.ref b] meth c 259 := ⟨hx, by rw [f1]; exact hb, by rw [f2]; exact hr, hlocks, by rw [f3]; exact hml, fun h => absurd h f4, by rw [f5]; exact hown, fun w hw => hts w (tm_WS_tbl hw), hE, f6⟩
  obtain ⟨ls, hls, hl⟩ := tm_entry (sz := V.2.2.2.1) (b := V.2.2.2.2.1) f7 m
  have ea : ([Value.ref 1000].map (tm_tr V.2.2.2.1 V.2.2.2.2.1)) = [Value.ref b] := by
    show [Value.ref (V.2.2.2.2.1 0)] = _
    rw [hV2]
  rw [ea, f3] at hls
  rw [hls]
  refine tm_sound l V hB n 1000 _ _ [] (tm_G00 L xs) tm_M00 (some (.int 1)) G M h p e room_1 s m _ below meth c _ 259 0 ls s.heap [] 0 0 0 C (by decide) (tm_blk_ent (hB 259 (by decide)).1 (hB 259 (by decide)).2) (Nat.le_of_ble_eq_true rfl) (Nat.le_of_ble_eq_true rfl) (by rw [hV1]; rfl) rfl (by rw [Nat.zero_add]; exact Nat.le_trans (Nat.sub_le _ _) hc1) (by rw [Nat.zero_add]; exact Nat.le_trans (Nat.sub_le _ _) hc2) hl f7 ⟨fun k q hk => absurd hk (by simp [tm_ws, tm_G00]), Nat.zero_le _, hV3.symm⟩ va_S.rf ?_
  intro pc' ls' H' locs' hH' hS' hrc
  refine va_forget (fun q hq => by have := hS'.2.2 q hq; rw [← hV1]; exact this) ?_
  refine W.widen (k := 600000) (n := 7302250) (by rw [Nat.zero_add]; exact Nat.le_trans (Nat.sub_le _ _) hc1) (by rw [Nat.zero_add]; exact Nat.le_trans (Nat.sub_le _ _) hc2) ?_
  exact lw_ret hx hb hr hlocks (by rw [← f1]; exact hrc.1)
