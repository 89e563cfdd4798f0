/-! part 11: what the interpreter tells, the machine does -/
theorem tm_bs_mem {bs : List (Nat × List Instr)} {pc : Nat} (h : ∃ b ∈ bs, b.1 = pc) : (pc, tm_bs bs pc) ∈ bs := by
  induction bs with
  | nil => obtain ⟨b, hb, -⟩ := h; cases hb
  | cons q r ih =>
    unfold tm_bs
    split
    · rename_i hq
      obtain ⟨q1, q2⟩ := q
      simp only at hq
      subst hq
      exact List.mem_cons_self
    · rename_i hq
      obtain ⟨b, hb, hb2⟩ := h
      rcases List.mem_cons.mp hb with rfl | hb
      · exact absurd hb2 hq
      · exact List.mem_cons_of_mem _ (ih ⟨b, hb, hb2⟩)
theorem tm_blk_ok {y : Nat} {t : Int} (hB : tm_chkB y = true) (h : tm_hasB y t = true) : ∃ pc : Nat, t = (y : Int) * 10000 + (pc : Int) ∧ tm_chk y pc (tm_blk t.toNat) = true := by
  simp only [tm_hasB, Bool.and_eq_true, decide_eq_true_eq, List.any_eq_true] at h
  obtain ⟨⟨h1, h2⟩, b, hb, hb2⟩ := h
  refine ⟨b.1, by omega, ?_⟩
  have e : t.toNat = y * 10000 + b.1 := by omega
  have hlt : b.1 < 10000 := by omega
  have e1 : t.toNat / 10000 = y := by omega
  have e2 : t.toNat % 10000 = b.1 := by omega
  have hm := tm_bs_mem (pc := b.1) ⟨b, hb, rfl⟩
  have := List.all_eq_true.mp hB _ hm
  unfold tm_blk
  rw [e1, e2]
  exact this
theorem tm_blk_ent {y : Nat} (hB : tm_chkB y = true) (h : tm_hasB y ((y : Int) * 10000) = true) : tm_chk y 0 (tm_blk (y * 10000)) = true := by
  obtain ⟨pc, h1, h2⟩ := tm_blk_ok hB h
  have : pc = 0 := by omega
  subst this
  rw [show ((y : Int) * 10000).toNat = y * 10000 by omega] at h2
  exact h2
theorem tm_chk_cases {y pc : Nat} {i : Instr} {is : List Instr} (h : tm_chk y pc (i :: is) = true) :
    (∃ t, i = .goto_w t ∧ t = tm_lab y pc 0 ∧ tm_hasB y t = true) ∨ (∃ i0 len, decode (tm_cd y) pc = .ok (i0, len) ∧ (tm_len i0 = 0 ∨ len = tm_len i0) ∧ tm_nrm y pc i0 = some i ∧ (∀ t ∈ tm_labs i, tm_hasB y t = true) ∧ tm_okI i = true ∧ tm_chk y (pc + len) is = true) := by
  unfold tm_chk at h
  split at h
  · rename_i t
    simp only [Bool.and_eq_true, decide_eq_true_eq] at h
    exact Or.inl ⟨t, rfl, h.1, h.2⟩
  · split at h
    · rename_i i0 len hd
      simp only [Bool.and_eq_true, decide_eq_true_eq, List.all_eq_true] at h
      exact Or.inr ⟨i0, len, hd, h.1.1.1.1, h.1.1.1.2, h.1.1.2, h.1.2, h.2⟩
    · cases h
theorem tm_pop_eq : ∀ (n : Nat) (st acc as rest : List Value), tm_pop n st acc = some (as, rest) → ∃ pre : List Value, pre.length = n ∧ st = pre ++ rest ∧ as = pre.reverse ++ acc := by
  intro n
  induction n with
  | zero =>
    intro st acc as rest h
    cases h
    exact ⟨[], rfl, rfl, rfl⟩
  | succ n ih =>
    intro st acc as rest h
    cases st with
    | nil => cases h
    | cons v st =>
      obtain ⟨pre, h1, h2, h3⟩ := ih st (v :: acc) as rest h
      refine ⟨v :: pre, by simp [h1], by simp [h2], by simp [h3]⟩
theorem tm_pop_st {V : tm_V} {n : Nat} {st as rest : List Value} (h : tm_pop n st [] = some (as, rest)) : as.length = n ∧ st.map (tm_t V) = (as.map (tm_t V)).reverse ++ rest.map (tm_t V) := by
  obtain ⟨pre, h1, h2, h3⟩ := tm_pop_eq n st [] as rest h
  subst h2
  rw [List.append_nil] at h3
  subst h3
  exact ⟨by simpa using h1, by simp⟩
set_option maxRecDepth 100000 in
theorem tm_okCi0 : (List.range 259).all (fun y => decide (tm_ci y < 18)) = true := by decide +kernel
theorem tm_okCi (y : Nat) (hy : y < 259) : tm_ci y < 18 := by
  have := tm_all_get tm_okCi0 hy
  simpa using this
/-- the words of a method that is called -/
theorem tm_okY_get {y : Nat} (hy : y < 259) : (Cond.code (tm_nm y) (tm_cd y) (tm_mx y) (tm_rt y)) ∈ tm_WS ∧ (tm_st y = true → Cond.static (tm_nm y) ∈ tm_WS) ∧ (tm_st y = false → Cond.instanceMethod (tm_nm y) ∈ tm_WS) ∧ (tm_st y = false → (tm_nm y).name ≠ "<init>" → Cond.selects (tm_nm y).cls (tm_nm y) (tm_nm y) ∈ tm_WS) ∧ Cond.initialized (tm_nm y).cls ∈ tm_WS ∧ (tm_nm y).cls = tm_cn (tm_ci y) ∧ (tm_nm y).cls ≠ "java/lang/invoke/MethodHandle" ∧ (tm_nm y).cls ≠ "java/lang/invoke/VarHandle" ∧ (parseMethodDescriptor (tm_nm y).desc).map (fun d => d.parameters.length) = some (tm_np y) ∧ plainName (tm_nm y).cls = true ∧ tm_mx y ≤ 45 ∧ (tm_st y = false → tm_ci y ≤ 12) ∧ ((tm_nm y).name = "<init>" → tm_rt y = none) := by
  have h := tm_okY_at hy
  simp only [tm_okY, Bool.and_eq_true, decide_eq_true_eq] at h
  obtain ⟨⟨⟨⟨⟨⟨⟨⟨⟨⟨⟨h1, h2⟩, h3⟩, h4⟩, h5⟩, h6⟩, h7⟩, h8⟩, h9⟩, h10⟩, h11⟩, h12⟩ := h
  refine ⟨?_, fun hs => ?_, fun hs => ?_, fun hs hn => ?_, tm_wd_in h4, h5, h6, h7, h8, h9, h10, fun hs => ?_, fun hn => ?_⟩
  · unfold tm_cd
    show Cond.code (tm_nm y) (match lw_tbl[(tm_wp y).1]? with
      | some (.code _ cd _ _) => cd
      | _ => cL_law) (tm_mx y) (tm_rt y) ∈ tm_WS
    split at h1
    · rename_i n cd mx rt hq
      simp only [Bool.and_eq_true, decide_eq_true_eq] at h1
      obtain ⟨⟨e1, e2⟩, e3⟩ := h1
      rw [hq, ← e1, ← e2, ← e3]
      exact List.mem_filter.mpr ⟨List.mem_of_getElem? hq, rfl⟩
    · cases h1
  · rw [if_pos hs] at h2; exact tm_wd_in h2
  · rw [if_neg (by rw [hs]; decide)] at h2; exact tm_wd_in h2
  · rw [if_neg (by simp [hs, hn])] at h3; exact tm_wd_in h3
  · rw [hs] at h11; simpa using h11
  · rcases Bool.or_eq_true _ _ |>.mp h12 with q | q
    · exact absurd hn (by simpa using q)
    · simpa using q
section TMX
variable {V : tm_V} {p : Program} {l : Launch} {e : Env} {R : Room} {s : State} {m : MethodId} {args : Array Value} {below : List Frame} {meth : Method} {c : Code} {H : Heap} {locs : List Loc} {cells slots : Nat} {Q : State → Prop}
variable {pc : Nat} {ls : Array Slot} {st st' L L' rest : List Value} {y : Nat} {G G' : tm_G} {M M' : tm_M}
theorem tm_rjmp (C : tm_C V p s m args meth c y) {i0 i : Instr} {len : Nat} {o : Option Nat} (hd : decode (tm_cd y) pc = .ok (i0, len)) (hlen : tm_len i0 = 0 ∨ len = tm_len i0) (hn : tm_nrm y pc i0 = some i) (hs : tm_ctl i st G = some (.inl (o, st'))) (hh : ∀ t ∈ tm_labs i, (y : Int) * 10000 ≤ t)
    (kn : o = none → W p l e R s m args below meth c H locs cells slots Q (F0 m (pc + len) ls (st'.map (tm_t V)))) (kj : ∀ (off : Int) (tgt : Nat), tm_lab y pc off ∈ tm_labs i → o = some (tm_lab y pc off).toNat → (pc : Int) + off = (tgt : Int) → W p l e R s m args below meth c H locs cells slots Q (F0 m tgt ls (st'.map (tm_t V)))) : W p l e R s m args below meth c H locs cells slots Q (F0 m pc ls (st.map (tm_t V))) := by
  obtain ⟨hx, hb, -⟩ := C
  rcases tm_jmp_cases hd hlen hn hs with ⟨off, rfl, rfl, hd1, rfl, rfl⟩ | ⟨cd, off, x, r, rfl, rfl, hd1, rfl, rfl, rfl⟩ | ⟨cd, off, x, z, r, rfl, rfl, hd1, rfl, rfl, rfl⟩ | ⟨df, lo, hi, offs, x, r, rfl, rfl, hd1, hq⟩ | ⟨df, ps, x, r, rfl, hp, rfl, hd1, rfl, rfl⟩
  · obtain ⟨tgt, ht⟩ := tm_tgt (hh _ List.mem_cons_self)
    exact lv_goto hx hb hd1 ht (kj off tgt List.mem_cons_self rfl ht)
  · obtain ⟨tgt, ht⟩ := tm_tgt (hh _ List.mem_cons_self)
    have kt : tm_cnd cd x 0 = true → W p l e R s m args below meth c H locs cells slots Q (F0 m tgt ls (st'.map (tm_t V))) := fun h => kj off tgt List.mem_cons_self (by rw [if_pos h]) ht
    have kf : ¬ tm_cnd cd x 0 = true → W p l e R s m args below meth c H locs cells slots Q (F0 m (pc + 3) ls (st'.map (tm_t V))) := fun h => kn (by rw [if_neg h])
    cases cd
    · exact lv_if_eq hx hb hd1 ht (fun h => kt (by simp [tm_cnd, h])) (fun h => kf (by simp [tm_cnd, h]))
    · exact lv_if_ne hx hb hd1 ht (fun h => kt (by simp [tm_cnd, h])) (fun h => kf (by simp [tm_cnd, h]))
    · exact lv_if_lt hx hb hd1 ht (fun h => kt (decide_eq_true h)) (fun h => kf (fun q => h (of_decide_eq_true q)))
    · exact lv_if_ge hx hb hd1 ht (fun h => kt (decide_eq_true h)) (fun h => kf (fun q => h (of_decide_eq_true q)))
    · exact lv_if_gt hx hb hd1 ht (fun h => kt (decide_eq_true h)) (fun h => kf (fun q => h (of_decide_eq_true q)))
    · exact lv_if_le hx hb hd1 ht (fun h => kt (decide_eq_true h)) (fun h => kf (fun q => h (of_decide_eq_true q)))
  · obtain ⟨tgt, ht⟩ := tm_tgt (hh _ List.mem_cons_self)
    have kt : tm_cnd cd x z = true → W p l e R s m args below meth c H locs cells slots Q (F0 m tgt ls (st'.map (tm_t V))) := fun h => kj off tgt List.mem_cons_self (by rw [if_pos h]) ht
    have kf : ¬ tm_cnd cd x z = true → W p l e R s m args below meth c H locs cells slots Q (F0 m (pc + 3) ls (st'.map (tm_t V))) := fun h => kn (by rw [if_neg h])
    cases cd
    · exact lv_icmp_eq hx hb hd1 ht (fun h => kt (by simp [tm_cnd, h])) (fun h => kf (by simp [tm_cnd, h]))
    · exact lv_icmp_ne hx hb hd1 ht (fun h => kt (by simp [tm_cnd, h])) (fun h => kf (by simp [tm_cnd, h]))
    · exact lv_icmp_lt hx hb hd1 ht (fun h => kt (decide_eq_true h)) (fun h => kf (fun q => h (of_decide_eq_true q)))
    · exact lv_icmp_ge hx hb hd1 ht (fun h => kt (decide_eq_true h)) (fun h => kf (fun q => h (of_decide_eq_true q)))
    · exact lv_icmp_gt hx hb hd1 ht (fun h => kt (decide_eq_true h)) (fun h => kf (fun q => h (of_decide_eq_true q)))
    · exact lv_icmp_le hx hb hd1 ht (fun h => kt (decide_eq_true h)) (fun h => kf (fun q => h (of_decide_eq_true q)))
  · rcases hq with ⟨hq, rfl, rfl⟩ | ⟨hq, q, ho, rfl, rfl⟩
    · obtain ⟨tgt, ht⟩ := tm_tgt (hh _ List.mem_cons_self)
      exact lv_tableOut hx hb hd1 hq ht (kj df tgt List.mem_cons_self rfl ht)
    · rw [Array.getElem?_map] at ho
      obtain ⟨off, ho1, ho2⟩ := Option.map_eq_some_iff.mp ho
      subst ho2
      have hm : tm_lab y pc off ∈ tm_labs (.tableswitch (tm_lab y pc df) lo hi (offs.map (tm_lab y pc))) := by
        refine List.mem_cons_of_mem _ ?_
        rw [Array.toList_map]
        exact List.mem_map.mpr ⟨off, by have := Array.mem_of_getElem? ho1; simpa using this, rfl⟩
      obtain ⟨tgt, ht⟩ := tm_tgt (hh _ hm)
      exact lv_tableIn hx hb hd1 (fun h => hq (Or.inl h)) (fun h => hq (Or.inr h)) ho1 ht (kj off tgt hm rfl ht)
  · obtain ⟨e1, e2⟩ := tm_off y pc df x.toInt ps.toList
    have e3 : (ps.map (fun q => (q.1, tm_lab y pc q.2))).toList = ps.toList.map (fun q => (q.1, tm_lab y pc q.2)) := by simp
    have hm : tm_lab y pc (Op.lookupswitch.offset ps.toList df x.toInt) ∈ tm_labs (.lookupswitch (tm_lab y pc df) (ps.map (fun q => (q.1, tm_lab y pc q.2)))) := by
      rw [← e1]
      simp only [tm_labs, e3]
      exact e2
    obtain ⟨tgt, ht⟩ := tm_tgt (hh _ hm)
    exact lv_lookup hx hb hd1 hp rfl ht (kj _ tgt hm (by rw [e3, e1]) ht)
/-- behind a call -/
theorem tm_go {G1 : tm_G} {M1 : tm_M} {r1 : Option Value} {mc ms : Nat} {st0 rest0 : List Value} (hr : va_Run p l e R s m args below meth c H locs cells slots mc ms (F0 m pc ls st0) rest0 (fun sa o t => o = .returned r1 ∧ tm_H V G1 M1 t.heap ∧ va_F (tm_B V.2.2.2.1) sa t) (tm_B V.2.2.2.1)) (hS : va_S (tm_B V.2.2.2.1) s.heap H locs)
    (kk : ∀ (H1 : Heap) (locs1 : List Loc), tm_H V G1 M1 H1 → va_S (tm_B V.2.2.2.1) s.heap H1 locs1 → W p l e R s m args below meth c H1 locs1 (cells + mc) (slots + ms) Q (F0 m (pc + 3) ls (r1.toList ++ rest0))) : W p l e R s m args below meth c H locs cells slots Q (F0 m pc ls st0) := by
  intro T hT X
  obtain ⟨v, sa, t, T', L, h0, X', hL, e1, e2, ⟨hv, hH1, hF⟩, hst⟩ := hr T hT X
  cases hv
  obtain ⟨hz, hk⟩ := hF
  rw [h0] at hz hk
  obtain ⟨t2, a1, b1⟩ := kk T'.heap (locs ++ L) (by rw [e1]; exact hH1) ⟨Nat.le_trans hS.1 (by rw [e1]; exact hz), fun q h1 h2 => by rw [e1, hk q (Nat.lt_of_lt_of_le h1 hS.1) h2]; exact hS.2.1 q h1 h2, fun q hq => by
      rcases List.mem_append.mp hq with h | h
      · exact hS.2.2 q h
      · exact hL q h⟩ T' rfl X'
  exact ⟨t2, hst t2 a1, b1⟩
end TMX
theorem tm_okI_v {y pc x y2 wp nest len : Nat} {i0 i : Instr} (hd2 : decode (tm_cd y) pc = .ok (.invokevirtual x, 3)) (hd : decode (tm_cd y) pc = .ok (i0, len)) (hn : tm_nrm y pc i0 = some i) (hlk : tm_lk (tm_ML (tm_ci y)) x = some (y2, wp, nest)) (h : tm_okI i = true) : (tm_nm y2).name ≠ "<init>" := by
  rw [hd2] at hd
  cases hd
  simp only [tm_nrm, hlk, Option.map_some] at hn
  cases hn
  simpa [tm_okI] using h
theorem tm_okI_s {y pc x y2 wp nest len : Nat} {i0 i : Instr} (hd2 : decode (tm_cd y) pc = .ok (.invokespecial x, 3)) (hd : decode (tm_cd y) pc = .ok (i0, len)) (hn : tm_nrm y pc i0 = some i) (hlk : tm_lk (tm_ML (tm_ci y)) x = some (y2, wp, nest)) (h : tm_okI i = true) (h9 : y2 ≠ 999) : (tm_nm y2).name = "<init>" := by
  rw [hd2] at hd
  cases hd
  simp only [tm_nrm, hlk, Option.map_some] at hn
  cases hn
  simpa [tm_okI, h9] using h
def tm_wsY (y : Nat) : List Cond := Cond.code (tm_nm y) (tm_cd y) (tm_mx y) (tm_rt y) :: tm_WS
def tm_rm (d mc ms : Nat) : Room := { frames := d + 1, cells := mc, slots := ms, locals := (d + 1) * 64 }
def tm_Pc (V : tm_V) (as : List Value) (G : tm_G) (M : tm_M) : Array Value → State → Prop := fun a U => a = (as.map (tm_t V)).toArray ∧ tm_E V U ∧ tm_H V G M U.heap ∧ U.heap.size = V.2.2.2.1 + G.1.length
def tm_Qc (V : tm_V) (r : Option Value) (G : tm_G) (M : tm_M) : Array Value → State → Outcome → State → Prop := fun _ sa o t => o = .returned (r.map (tm_t V)) ∧ tm_H V G M t.heap ∧ va_F (tm_B V.2.2.2.1) sa t
theorem tm_goodIn {y : Nat} (hy : y < 259) : GoodIn tm_WS (tm_wsY y) := by
  intro w hw
  have hw : w ∈ tm_WS := by
    rcases List.mem_cons.mp hw with rfl | hw
    · exact (tm_okY_get hy).1
    · exact hw
  exact ⟨hw, tm_WS_good hw⟩
theorem tm_blind (V : tm_V) (as : List Value) (G : tm_G) (M : tm_M) : FrameBlind (tm_Pc V as G M) := by
  intro a U g mk h
  exact ⟨h.1, h.2.1.calling g mk a, h.2.2.1, h.2.2.2⟩
/-- what is to be shown of a run of n steps: the machine goes the same way -/
def tm_Snd (l : Launch) (V : tm_V) (n : Nat) : Prop := ∀ (d : Nat) (is : List Instr) (L st : List Value) (G : tm_G) (M : tm_M) (r : Option Value) (G' : tm_G) (M' : tm_M), tm_run n d is L st G M = some (r, G', M') →
  ∀ (p : Program) (e : Env) (R : Room) (s : State) (m : MethodId) (args : Array Value) (below : List Frame) (meth : Method) (c : Code) (Q : State → Prop) (y pc : Nat) (ls : Array Slot) (H : Heap) (locs : List Loc) (cells slots g0 : Nat),
    tm_C V p s m args meth c y → y < 260 → tm_chk y pc is = true → d + 1 ≤ R.frames → (d + 1) * 64 ≤ R.locals → s.heap.size = V.2.2.2.1 + g0 → cells + g0 = G.1.length → cells + (G'.1.length - G.1.length) ≤ R.cells → slots + (tm_sl G' - tm_sl G) ≤ R.slots →
    lv_has ls (tm_mx y) (tm_lv V.2.2.2.1 V.2.2.2.2.1 L) → L.length ≤ tm_mx y → tm_H V G M H → va_S (tm_B V.2.2.2.1) s.heap H locs →
    (∀ (pc' : Nat) (ls' : Array Slot) (H' : Heap) (locs' : List Loc), tm_H V G' M' H' → va_S (tm_B V.2.2.2.1) s.heap H' locs' → tm_rc y r pc' → W p l e R s m args below meth c H' locs' (cells + (G'.1.length - G.1.length)) (slots + (tm_sl G' - tm_sl G)) Q (F0 m pc' ls' (r.map (tm_t V)).toList)) →
    W p l e R s m args below meth c H locs cells slots Q (F0 m pc ls (st.map (tm_t V)))
set_option maxHeartbeats 4000000 in
/-- a method's contract, out of a run of its body -/
theorem tm_met {l : Launch} {V : tm_V} {n : Nat} (hI : tm_Snd l V n) (hB : ∀ y, y < 260 → tm_chkB y = true ∧ tm_hasB y ((y : Int) * 10000) = true) {y d : Nat} (hy : y < 259) {as : List Value} (hlen : (tm_ent y as).length ≤ tm_mx y) {G G1 : tm_G} {M M1 : tm_M} {r : Option Value} (h : tm_run n d (tm_blk (y * 10000)) (tm_ent y as) [] G M = some (r, G1, M1)) :
    Met l (tm_nm y) (tm_wsY y) (tm_rm d (G1.1.length - G.1.length) (tm_sl G1 - tm_sl G)) (tm_Pc V as G M) (tm_Qc V r G1 M1) (G1.1.length - G.1.length) (tm_sl G1 - tm_sl G) (tm_B V.2.2.2.1) := by
  obtain ⟨hcode, -, -, -, hini, hcls, -, -, -, hpl, hmx, -, -⟩ := tm_okY_get hy
  refine Met.ofW (cc := tm_cd y) (maxL := tm_mx y) (ret := tm_rt y) hpl rfl ?_
  intro p e s m args below meth c s₁ B hml hv
  obtain ⟨rfl, hE, hH, hsz⟩ := hv
  have hts := atoms_spec (ws := tm_wsY y) B.pre
  have hown : s.vm.findClass (tm_cn (tm_ci y)) = some m.cls := by
    rw [← hcls]
    exact findClass_of_methodNamed B.named
  have hci : tm_ci y < 18 := by
    have := tm_okCi y hy
    exact this
  have C : tm_C V p s m ((as.map (tm_t V)).toArray) meth c y := ⟨B.exec, B.bytes, B.returns, B.notSynchronized, hml, fun hq => (name_of_methodNamed B.named B.method).1.trans hq, hown, fun w hw => hts w (List.mem_cons_of_mem _ hw), hE, hci⟩
  obtain ⟨ls, hls, hl⟩ := tm_entry (sz := V.2.2.2.1) (b := V.2.2.2.2.1) hlen m
  rw [show entryFrame m (as.map (tm_t V)).toArray (tm_mx y) = F0 m 0 ls [] from hls]
  have hlocks := B.notSynchronized
  refine hI d _ _ [] G M r G1 M1 h p e _ s m _ below meth c _ y 0 ls s.heap [] 0 0 G.1.length C (by omega) (tm_blk_ent (hB y (by omega)).1 (hB y (by omega)).2) (Nat.le_refl _) (Nat.le_refl _) hsz (Nat.zero_add _) (by rw [Nat.zero_add]; exact Nat.le_refl _) (by rw [Nat.zero_add]; exact Nat.le_refl _) hl hlen hH va_S.rf ?_
  intro pc' ls' H' locs' hH' hS' hrc
  rw [Nat.zero_add, Nat.zero_add]
  have hQ : ∀ t : State, t.heap = H' → s.WarmedH t.vm → tm_Qc V r G1 M1 ((as.map (tm_t V)).toArray) s (.returned (r.map (tm_t V))) t := fun t ht _ => ⟨rfl, by rw [ht]; exact hH', hS'.F ht⟩
  have hr := B.returns
  cases r with
  | none => exact W.vret B.exec B.bytes (hr.trans hrc.2) hQ hS'.2.2 hrc.1 hlocks
  | some v =>
    cases v with
    | int x =>
      rcases hrc.2 with h1 | ⟨h1, h2⟩
      · exact W.iret B.exec B.bytes (hr.trans h1) hQ hS'.2.2 hrc.1 hlocks
      · exact W.zret B.exec B.bytes (hr.trans h1) (by rcases h2 with rfl | rfl <;> decide) hQ hS'.2.2 hrc.1 hlocks
    | long x => exact W.lret B.exec B.bytes (hr.trans hrc.2) hQ hS'.2.2 hrc.1 hlocks
    | float x => exact absurd hrc id
    | double x => exact absurd hrc id
    | null => exact absurd hrc id
    | ref x => exact absurd hrc id
    | retAddr x => exact absurd hrc id
set_option maxHeartbeats 8000000 in
/-- WHAT THE INTERPRETER TELLS, THE MACHINE DOES -/
theorem tm_sound (l : Launch) (V : tm_V) (hB : ∀ y, y < 260 → tm_chkB y = true ∧ tm_hasB y ((y : Int) * 10000) = true) : ∀ n, tm_Snd l V n := by
  intro n
  induction n with
  | zero => intro d is L st G M r G' M' h; cases h
  | succ n ih =>
    intro d is L st G M r G' M' h p e R s m args below meth c Q y pc ls H locs cells slots g0 C hy hchk hRf hRl hg hc hcl hsl hl hLn hH hS hret
    cases is with
    | nil => cases h
    | cons i is =>
      have hRl1 : 64 ≤ R.locals := by omega
      have hRf1 : 1 ≤ R.frames := by omega
      rcases tm_chk_cases hchk with ⟨t, rfl, rfl, hb⟩ | ⟨i0, len, hd, hlen, hn, hlabs, hokI, hchk2⟩
      · rcases tm_run_cases h with ⟨st', h1, h2⟩ | ⟨lab, st', h1, h2⟩ | ⟨r0, h1, h2⟩ | ⟨y2, as, rest, d', r1, G1, M1, h1, -, h2, h3⟩ | ⟨L', st', G1, M1, h1, h2, h3⟩
        · simp [tm_ctl] at h1
        · simp only [tm_ctl, Option.some.injEq, Sum.inl.injEq, Prod.mk.injEq] at h1
          obtain ⟨h1a, h1b⟩ := h1
          subst h1a; subst h1b
          obtain ⟨pc2, e1, e2⟩ := tm_blk_ok (hB y hy).1 hb
          have e3 : pc2 = pc := by unfold tm_lab at e1; omega
          subst e3
          exact ih d _ L st G M r G' M' h2 p e R s m args below meth c Q y pc2 ls H locs cells slots g0 C hy e2 hRf hRl hg hc hcl hsl hl hLn hH hS hret
        · simp [tm_ctl] at h1
        · simp [tm_ctl] at h1
        · simp [tm_ctl] at h1
      · rcases tm_run_cases h with ⟨st', h1, h2⟩ | ⟨lab, st', h1, h2⟩ | ⟨r0, h1, h2⟩ | ⟨y2, as, rest, d', r1, G1, M1, h1, hdd, h2, h3⟩ | ⟨L', st', G1, M1, h1, h2, h3⟩
        · refine tm_rjmp C hd hlen hn h1 (fun t ht => ?_) (fun _ => ?_) (fun off tgt _ h5 _ => by cases h5)
          · have := hlabs t ht
            simp only [tm_hasB, Bool.and_eq_true, decide_eq_true_eq] at this
            exact this.1.1
          · exact ih d is L st' G M r G' M' h2 p e R s m args below meth c Q y (pc + len) ls H locs cells slots g0 C hy hchk2 hRf hRl hg hc hcl hsl hl hLn hH hS hret
        · refine tm_rjmp C hd hlen hn h1 (fun t ht => ?_) (fun h5 => by cases h5) (fun off tgt hm h5 ht => ?_)
          · have := hlabs t ht
            simp only [tm_hasB, Bool.and_eq_true, decide_eq_true_eq] at this
            exact this.1.1
          · obtain ⟨pc2, e1, e2⟩ := tm_blk_ok (hB y hy).1 (hlabs _ hm)
            have e3 : pc2 = tgt := by unfold tm_lab at e1; omega
            subst e3
            have h6 := Option.some.inj h5
            subst h6
            exact ih d _ L st' G M r G' M' h2 p e R s m args below meth c Q y pc2 ls H locs cells slots g0 C hy e2 hRf hRl hg hc hcl hsl hl hLn hH hS hret
        · cases h2
          obtain ⟨hrc, e1⟩ := tm_ret_cases V hd hlen hn h1
          rw [e1]
          have := hret pc ls H locs hH hS hrc
          rw [Nat.sub_self, Nat.sub_self, Nat.add_zero, Nat.add_zero] at this
          exact this
        · subst hdd
          have g1 := tm_grow _ _ _ _ _ _ _ _ _ _ h2
          have g2 := tm_grow _ _ _ _ _ _ _ _ _ _ h3
          refine tm_size hH hS hg hc (fun hsz => ?_)
          have hmc : cells + (G1.1.length - G.1.length) ≤ R.cells ∧ slots + (tm_sl G1 - tm_sl G) ≤ R.slots := ⟨by omega, by omega⟩
          have goon : ∀ (H1 : Heap) (locs1 : List Loc), tm_H V G1 M1 H1 → va_S (tm_B V.2.2.2.1) s.heap H1 locs1 → len = 3 → W p l e R s m args below meth c H1 locs1 (cells + (G1.1.length - G.1.length)) (slots + (tm_sl G1 - tm_sl G)) Q (F0 m (pc + 3) ls ((r1.map (tm_t V)).toList ++ rest.map (tm_t V))) := by
            intro H1 locs1 hH1 hS1 hlen3
            subst hlen3
            have e1 : (r1.map (tm_t V)).toList ++ rest.map (tm_t V) = (r1.toList ++ rest).map (tm_t V) := by
              cases r1 <;> simp
            rw [e1]
            refine ih (d' + 1) is L (r1.toList ++ rest) G1 M1 r G' M' h3 p e R s m args below meth c Q y (pc + 3) ls H1 locs1 _ _ g0 C hy hchk2 hRf hRl hg (by omega) (by omega) (by omega) hl hLn hH1 hS1 ?_
            intro pc' ls' H' locs' a b c'
            have := hret pc' ls' H' locs' a b c'
            rw [show cells + (G1.1.length - G.1.length) + (G'.1.length - G1.1.length) = cells + (G'.1.length - G.1.length) by omega, show slots + (tm_sl G1 - tm_sl G) + (tm_sl G' - tm_sl G1) = slots + (tm_sl G' - tm_sl G) by omega]
            exact this
          have CC := C
          obtain ⟨hx, hb, hr, hlk, hml, hnm, hown, hts, hE, hci⟩ := C
          have hPc : ∀ U : State, U.heap = H → s.WarmedH U.vm → tm_Pc V as G M (as.map (tm_t V)).toArray U := fun U hU hW => ⟨rfl, hE.go hW hS hU, by rw [hU]; exact hH, by rw [hU]; exact hsz⟩
          rcases tm_call_cases hd hlen hn h1 with ⟨x, wp, nest, k, as0, hlk2, hd2, rfl, rfl, hpop, hy2, hst2, hisC, hsum, hent⟩ | ⟨x, wp, nest, k, as0, hlk2, hd2, rfl, rfl, hpop, hy2, hst2, hisC, hsum, hent⟩ | ⟨x, wp, nest, hlk2, hd2, rfl, hpop, hy2, hst2, hsum, hent⟩
          · obtain ⟨hcode, -, hinst, hsel, hini, hcls, hm1, hm2, hpar, hpl, hmx, hci2, hinit⟩ := tm_okY_get hy2
            have hM := tm_met ih hB hy2 hent h2
            obtain ⟨hlen0, hst0⟩ := tm_pop_st (V := V) hpop
            have hne : (tm_nm y2).name ≠ "<init>" := tm_okI_v hd2 hd hn hlk2 hokI
            have hat := tm_isC_at hisC
            have hws := tm_ws_at (dA := V.2.2.1) (sz := V.2.2.2.1) (b := V.2.2.2.2.1) (M := M) hat
            rw [tm_cell_o] at hws
            rw [← tm_ad_lt (b := V.2.2.2.2.1) (hH.lt hat)] at hws
            have hrecv := va_recv hE.1 hH.1 (tm_vw (hci2 hst2)) hws
            rw [show (tm_cn (tm_ci y2), tm_T (tm_ci y2), tm_nf (tm_ci y2)).1 = (tm_nm y2).cls from hcls.symm] at hrecv
            have hroom : (tm_rm d' (G1.1.length - G.1.length) (tm_sl G1 - tm_sl G)).frames + 1 ≤ R.frames ∧ 8 + (tm_mx y2 + 11) + (tm_rm d' (G1.1.length - G.1.length) (tm_sl G1 - tm_sl G)).locals ≤ R.locals := by
              simp only [tm_rm]
              omega
            rcases ((tm_mlink CC hlk2).2.2.2.2.2.2 (by omega)).2 with ⟨-, hlink⟩ | ⟨-, hlink⟩
            · refine tm_go (V := V) (G1 := G1) (M1 := M1) (r1 := r1.map (tm_t V)) (va_runV (As := as0.map (tm_t V)) (rest := rest.map (tm_t V)) (C := (tm_nm y2).cls) ⟨hx, hb, hml, hown, hts⟩ hM ⟨callB_of (tm_np y2) hts (tm_goodIn hy2) rfl rfl rfl (hts _ hini) hlink ⟨hm1, hm2, hpar⟩ hroom, hts _ (hinst hst2), hts _ (hsel hst2 hne)⟩ ⟨tm_blind _ _ _ _, hrecv, hPc⟩ rfl (by rw [List.length_map]; exact hlen0) hl.1 hst0 (lv_room (by rw [tm_tr_sum]; exact hsum)) hd2 hmc) hS (fun H1 locs1 a b => goon H1 locs1 a b rfl)
            · refine tm_go (V := V) (G1 := G1) (M1 := M1) (r1 := r1.map (tm_t V)) (va_runVN (As := as0.map (tm_t V)) (rest := rest.map (tm_t V)) (C := (tm_nm y2).cls) ⟨hx, hb, hml, hown, hts⟩ hM ⟨va_cnB (tm_np y2) hts (tm_goodIn hy2) rfl rfl rfl hlink (hts _ hini) ⟨hm1, hm2, hpar⟩ hroom, hts _ (hinst hst2), hts _ (hsel hst2 hne)⟩ ⟨tm_blind _ _ _ _, hrecv, hPc⟩ rfl (by rw [List.length_map]; exact hlen0) hl.1 hst0 (lv_room (by rw [tm_tr_sum]; exact hsum)) hd2 hmc) hS (fun H1 locs1 a b => goon H1 locs1 a b rfl)
          · obtain ⟨hcode, -, hinst, hsel, hini, hcls, hm1, hm2, hpar, hpl, hmx, hci2, hinit⟩ := tm_okY_get hy2
            have hM := tm_met ih hB hy2 hent h2
            obtain ⟨hlen0, hst0⟩ := tm_pop_st (V := V) hpop
            have hne : (tm_nm y2).name = "<init>" := tm_okI_s hd2 hd hn hlk2 hokI (by omega)
            have hrt : tm_wsY y2 = Cond.code (tm_nm y2) (tm_cd y2) (tm_mx y2) none :: tm_WS := by
              unfold tm_wsY
              rw [hinit hne]
            have hroom : (tm_rm d' (G1.1.length - G.1.length) (tm_sl G1 - tm_sl G)).frames + 1 ≤ R.frames ∧ 8 + (tm_mx y2 + 11) + (tm_rm d' (G1.1.length - G.1.length) (tm_sl G1 - tm_sl G)).locals ≤ R.locals := by
              simp only [tm_rm]
              omega
            rcases ((tm_mlink CC hlk2).2.2.2.2.2.2 (by omega)).2 with ⟨-, hlink⟩ | ⟨-, hlink⟩
            · refine tm_go (V := V) (G1 := G1) (M1 := M1) (r1 := r1.map (tm_t V)) (va_runI (As := as0.map (tm_t V)) (rest := rest.map (tm_t V)) ⟨hx, hb, hml, hown, hts⟩ hM ⟨callB_of (tm_np y2) hts (tm_goodIn hy2) hrt rfl rfl (hts _ hini) hlink ⟨hm1, hm2, hpar⟩ hroom, hne, hts _ (hinst hst2)⟩ ⟨tm_blind _ _ _ _, hPc⟩ rfl (by rw [List.length_map]; exact hlen0) hl.1 hst0 (lv_room (by rw [tm_tr_sum]; exact hsum)) hd2 hmc) hS (fun H1 locs1 a b => goon H1 locs1 a b rfl)
            · refine tm_go (V := V) (G1 := G1) (M1 := M1) (r1 := r1.map (tm_t V)) (va_runIN (As := as0.map (tm_t V)) (rest := rest.map (tm_t V)) ⟨hx, hb, hml, hown, hts⟩ hM ⟨va_cnB (tm_np y2) hts (tm_goodIn hy2) hrt rfl rfl hlink (hts _ hini) ⟨hm1, hm2, hpar⟩ hroom, hne, hts _ (hinst hst2)⟩ ⟨tm_blind _ _ _ _, hPc⟩ rfl (by rw [List.length_map]; exact hlen0) hl.1 hst0 (lv_room (by rw [tm_tr_sum]; exact hsum)) hd2 hmc) hS (fun H1 locs1 a b => goon H1 locs1 a b rfl)
          · obtain ⟨hcode, hstat, -, -, hini, hcls, hm1, hm2, hpar, hpl, hmx, hci2, hinit⟩ := tm_okY_get hy2
            have hM := tm_met ih hB hy2 hent h2
            obtain ⟨hlen0, hst0⟩ := tm_pop_st (V := V) hpop
            have hroom : (tm_rm d' (G1.1.length - G.1.length) (tm_sl G1 - tm_sl G)).frames + 1 ≤ R.frames ∧ 8 + (tm_mx y2 + 11) + (tm_rm d' (G1.1.length - G.1.length) (tm_sl G1 - tm_sl G)).locals ≤ R.locals := by
              simp only [tm_rm]
              omega
            rcases ((tm_mlink CC hlk2).2.2.2.2.2.2 (by omega)).2 with ⟨-, hlink⟩ | ⟨-, hlink⟩
            · refine tm_go (V := V) (G1 := G1) (M1 := M1) (r1 := r1.map (tm_t V)) (va_runS (As := as.map (tm_t V)) (rest := rest.map (tm_t V)) ⟨hx, hb, hml, hown, hts⟩ hM ⟨callB_of (tm_np y2) hts (tm_goodIn hy2) rfl rfl rfl (hts _ hini) hlink ⟨hm1, hm2, hpar⟩ hroom, hts _ (hstat hst2)⟩ ⟨tm_blind _ _ _ _, hPc⟩ rfl (by rw [List.length_map]; exact hlen0) hl.1 hst0 (lv_room (by rw [tm_tr_sum]; exact hsum)) hd2 hmc) hS (fun H1 locs1 a b => goon H1 locs1 a b rfl)
            · refine tm_go (V := V) (G1 := G1) (M1 := M1) (r1 := r1.map (tm_t V)) (va_runSN (As := as.map (tm_t V)) (rest := rest.map (tm_t V)) ⟨hx, hb, hml, hown, hts⟩ hM ⟨va_cnB (tm_np y2) hts (tm_goodIn hy2) rfl rfl rfl hlink (hts _ hini) ⟨hm1, hm2, hpar⟩ hroom, hts _ (hstat hst2), trivial⟩ ⟨tm_blind _ _ _ _, hPc⟩ rfl (by rw [List.length_map]; exact hlen0) hl.1 hst0 (lv_room (by rw [tm_tr_sum]; exact hsum)) hd2 hmc) hS (fun H1 locs1 a b => goon H1 locs1 a b rfl)
        · have g1 := tm_stp_grow h2
          have g2 := tm_grow _ _ _ _ _ _ _ _ _ _ h3
          have goon : ∀ (ls1 : Array Slot) (H1 : Heap) (locs1 : List Loc), lv_has ls1 (tm_mx y) (tm_lv V.2.2.2.1 V.2.2.2.2.1 L') → L'.length ≤ tm_mx y → tm_H V G1 M1 H1 → va_S (tm_B V.2.2.2.1) s.heap H1 locs1 → W p l e R s m args below meth c H1 locs1 (cells + (G1.1.length - G.1.length)) (slots + (tm_sl G1 - tm_sl G)) Q (F0 m (pc + len) ls1 (st'.map (tm_t V))) := by
            intro ls1 H1 locs1 hl1 hL1 hH1 hS1
            refine ih d is L' st' G1 M1 r G' M' h3 p e R s m args below meth c Q y (pc + len) ls1 H1 locs1 _ _ g0 C hy hchk2 hRf hRl hg (by omega) (by omega) (by omega) hl1 hL1 hH1 hS1 ?_
            intro pc' ls' H' locs' a b c'
            have := hret pc' ls' H' locs' a b c'
            rw [show cells + (G1.1.length - G.1.length) + (G'.1.length - G1.1.length) = cells + (G'.1.length - G.1.length) by omega, show slots + (tm_sl G1 - tm_sl G) + (tm_sl G' - tm_sl G1) = slots + (tm_sl G' - tm_sl G) by omega]
            exact this
          rcases tm_stp_cases h2 with ⟨hs, rfl, rfl, rfl⟩ | ⟨hs, rfl, rfl⟩ | ⟨hs, rfl, rfl, rfl⟩ | ⟨hs, rfl⟩
          · rw [Nat.sub_self, Nat.sub_self, Nat.add_zero, Nat.add_zero] at goon
            exact tm_step_stk C hS hl hRf1 hRl1 (by omega) (by omega) hd hlen hn hs (goon ls H locs hl hLn hH hS)
          · rw [Nat.sub_self, Nat.sub_self, Nat.add_zero, Nat.add_zero] at goon
            exact tm_step_loc C hl hLn hd hlen hn hs (fun ls1 a b => goon ls1 H locs a b hH hS)
          · rw [Nat.sub_self, Nat.sub_self, Nat.add_zero, Nat.add_zero] at goon
            exact tm_step_rdg C hH hS hd hlen hn hs (goon ls H locs hl hLn hH hS)
          · exact tm_step_wrg C hH hS hl hRf1 hRl1 hg hc (by omega) (by omega) hd hlen hn hs (fun H1 locs1 a b => goon ls H1 locs1 hl hLn a b)
