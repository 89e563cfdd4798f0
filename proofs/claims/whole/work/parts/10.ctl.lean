/-! part 10: branches, returns; what a run leaves of the cells (laid by wip/whole/gen10.py) -/
theorem tm_run_cons (n d : Nat) (i : Instr) (is : List Instr) (L st : List Value) (G : tm_G) (M : tm_M) : tm_run (n + 1) d (i :: is) L st G M = (match tm_ctl i st G with
    | some (.inl (none, st')) => tm_run n d is L st' G M
    | some (.inl (some lab, st')) => tm_run n d (tm_blk lab) L st' G M
    | some (.inr (.inl r)) => some (r, G, M)
    | some (.inr (.inr (y, as, rest))) => (match d with
      | 0 => none
      | d' + 1 => match tm_run n d' (tm_blk (y * 10000)) (tm_ent y as) [] G M with
        | some (r, G', M') => tm_run n (d' + 1) is L (r.toList ++ rest) G' M'
        | none => none)
    | none => match tm_stp i L st G M with
      | some (L', st', G', M') => tm_run n d is L' st' G' M'
      | none => none) := rfl
/-- a run of n + 1 steps, cut into its cases -/
theorem tm_run_cases {n d : Nat} {i : Instr} {is : List Instr} {L st : List Value} {G : tm_G} {M : tm_M} {z : Option Value × tm_G × tm_M} (h : tm_run (n + 1) d (i :: is) L st G M = some z) :
    (∃ st', tm_ctl i st G = some (.inl (none, st')) ∧ tm_run n d is L st' G M = some z) ∨ (∃ lab st', tm_ctl i st G = some (.inl (some lab, st')) ∧ tm_run n d (tm_blk lab) L st' G M = some z) ∨ (∃ r, tm_ctl i st G = some (.inr (.inl r)) ∧ z = (r, G, M)) ∨
    (∃ y as rest d' r G1 M1, tm_ctl i st G = some (.inr (.inr (y, as, rest))) ∧ d = d' + 1 ∧ tm_run n d' (tm_blk (y * 10000)) (tm_ent y as) [] G M = some (r, G1, M1) ∧ tm_run n (d' + 1) is L (r.toList ++ rest) G1 M1 = some z) ∨
    (∃ L' st' G' M', tm_ctl i st G = none ∧ tm_stp i L st G M = some (L', st', G', M') ∧ tm_run n d is L' st' G' M' = some z) := by
  rw [tm_run_cons] at h
  split at h
  · rename_i st' hc
    exact Or.inl ⟨st', hc, h⟩
  · rename_i lab st' hc
    exact Or.inr (Or.inl ⟨lab, st', hc, h⟩)
  · rename_i r hc
    exact Or.inr (Or.inr (Or.inl ⟨r, hc, (Option.some.inj h).symm⟩))
  · rename_i y as rest hc
    split at h
    · cases h
    · rename_i d'
      split at h
      · rename_i r G1 M1 hr
        exact Or.inr (Or.inr (Or.inr (Or.inl ⟨y, as, rest, d', r, G1, M1, hc, rfl, hr, h⟩)))
      · cases h
  · rename_i hc
    split at h
    · rename_i L' st' G' M' hs
      exact Or.inr (Or.inr (Or.inr (Or.inr ⟨L', st', G', M', hc, hs, h⟩)))
    · cases h
theorem tm_stp_cases {i : Instr} {L st L' st' : List Value} {G G' : tm_G} {M M' : tm_M} (h : tm_stp i L st G M = some (L', st', G', M')) :
    (tm_stk i st = some st' ∧ L' = L ∧ G' = G ∧ M' = M) ∨ (tm_loc i L st = some (L', st') ∧ G' = G ∧ M' = M) ∨ (tm_rdg i st G M = some st' ∧ L' = L ∧ G' = G ∧ M' = M) ∨ (tm_wrg i st G M = some (st', G', M') ∧ L' = L) := by
  unfold tm_stp at h
  split at h
  · rename_i hs; cases h; exact Or.inl ⟨hs, rfl, rfl, rfl⟩
  · split at h
    · rename_i hs; cases h; exact Or.inr (Or.inl ⟨hs, rfl, rfl⟩)
    · split at h
      · rename_i hs; cases h; exact Or.inr (Or.inr (Or.inl ⟨hs, rfl, rfl, rfl⟩))
      · split at h
        · rename_i hs; cases h; exact Or.inr (Or.inr (Or.inr ⟨hs, rfl⟩))
        · cases h
theorem tm_mk_grow {G G' : tm_G} {M M' : tm_M} {kd n : Nat} (h : tm_mk G M kd n = some (G', M')) : G.1.length ≤ G'.1.length ∧ tm_sl G ≤ tm_sl G' := by
  obtain ⟨-, rfl, -⟩ := tm_mk_eq h
  refine ⟨?_, ?_⟩
  · simp only [List.length_append, List.length_cons, List.length_nil]; omega
  · simp only [tm_sl, List.map_append, List.sum_append, List.map_cons, List.map_nil, List.sum_cons, List.sum_nil]; omega
theorem tm_wrg_grow {i : Instr} {st st' : List Value} {G G' : tm_G} {M M' : tm_M} (h : tm_wrg i st G M = some (st', G', M')) : G.1.length ≤ G'.1.length ∧ tm_sl G ≤ tm_sl G' := by
  have same : ∀ {o : Option tm_M} {r : List Value}, o.map (fun M' => (r, G, M')) = some (st', G', M') → G.1.length ≤ G'.1.length ∧ tm_sl G ≤ tm_sl G' := by
    intro o r h
    obtain ⟨q, -, h2⟩ := Option.map_eq_some_iff.mp h
    cases h2
    exact ⟨Nat.le_refl _, Nat.le_refl _⟩
  have same2 : ∀ {o : Option tm_G} {r : List Value}, (∀ q, o = some q → q.1 = G.1) → o.map (fun G' => (r, G', M)) = some (st', G', M') → G.1.length ≤ G'.1.length ∧ tm_sl G ≤ tm_sl G' := by
    intro o r ho h
    obtain ⟨q, h1, h2⟩ := Option.map_eq_some_iff.mp h
    cases h2
    have e := ho _ h1
    exact ⟨by rw [e]; exact Nat.le_refl _, by unfold tm_sl; rw [e]; exact Nat.le_refl _⟩
  have grow : ∀ {kd n a : Nat} {r : List Value}, (tm_mk G M kd n).map (fun q => (Value.ref a :: r, q.1, q.2)) = some (st', G', M') → G.1.length ≤ G'.1.length ∧ tm_sl G ≤ tm_sl G' := by
    intro kd n a r h
    obtain ⟨q, h1, h2⟩ := Option.map_eq_some_iff.mp h
    cases h2
    exact tm_mk_grow h1
  unfold tm_wrg at h
  split at h
  · split at h
    · exact same h
    · cases h
  · split at h
    · exact same2 (fun q hq => tm_putr_same hq) h
    · cases h
  · split at h
    · exact same h
    · cases h
  · split at h
    · exact same h
    · cases h
  · split at h
    · exact same2 (fun q hq => tm_ast_same hq) h
    · cases h
  · split at h
    · split at h
      · split at h
        · exact same h
        · cases h
      · cases h
    · cases h
  · split at h
    · exact grow h
    · cases h
  · split at h
    · split at h
      · cases h
      · split at h
        · cases h
        · split at h
          · exact grow h
          · exact grow h
          · exact grow h
          · cases h
    · cases h
  · split at h
    · split at h
      · cases h
      · split at h
        · cases h
        · split at h
          · exact grow h
          · cases h
    · cases h
  · cases h
theorem tm_stp_grow {i : Instr} {L st L' st' : List Value} {G G' : tm_G} {M M' : tm_M} (h : tm_stp i L st G M = some (L', st', G', M')) : G.1.length ≤ G'.1.length ∧ tm_sl G ≤ tm_sl G' := by
  rcases tm_stp_cases h with ⟨-, -, rfl, -⟩ | ⟨-, rfl, -⟩ | ⟨-, -, rfl, -⟩ | ⟨h1, -⟩
  · exact ⟨Nat.le_refl _, Nat.le_refl _⟩
  · exact ⟨Nat.le_refl _, Nat.le_refl _⟩
  · exact ⟨Nat.le_refl _, Nat.le_refl _⟩
  · exact tm_wrg_grow h1
theorem tm_grow : ∀ (n d : Nat) (is : List Instr) (L st : List Value) (G : tm_G) (M : tm_M) (r : Option Value) (G' : tm_G) (M' : tm_M), tm_run n d is L st G M = some (r, G', M') → G.1.length ≤ G'.1.length ∧ tm_sl G ≤ tm_sl G' := by
  intro n
  induction n with
  | zero => intro d is L st G M r G' M' h; cases h
  | succ n ih =>
    intro d is L st G M r G' M' h
    cases is with
    | nil => cases h
    | cons i is =>
      rcases tm_run_cases h with ⟨st', -, h2⟩ | ⟨lab, st', -, h2⟩ | ⟨r0, -, h2⟩ | ⟨y, as, rest, d', r1, G1, M1, -, -, h2, h3⟩ | ⟨L', st', G1, M1, -, h2, h3⟩
      · exact ih _ _ _ _ _ _ _ _ _ h2
      · exact ih _ _ _ _ _ _ _ _ _ h2
      · cases h2
        exact ⟨Nat.le_refl _, Nat.le_refl _⟩
      · have a := ih _ _ _ _ _ _ _ _ _ h2
        have b := ih _ _ _ _ _ _ _ _ _ h3
        exact ⟨Nat.le_trans a.1 b.1, Nat.le_trans a.2 b.2⟩
      · have a := tm_stp_grow h2
        have b := ih _ _ _ _ _ _ _ _ _ h3
        exact ⟨Nat.le_trans a.1 b.1, Nat.le_trans a.2 b.2⟩
theorem tm_off (y pc : Nat) (d : Int) (x : Int) : ∀ ps : List (Int × Int), Op.lookupswitch.offset (ps.map (fun q => (q.1, tm_lab y pc q.2))) (tm_lab y pc d) x = tm_lab y pc (Op.lookupswitch.offset ps d x) ∧ (Op.lookupswitch.offset (ps.map (fun q => (q.1, tm_lab y pc q.2))) (tm_lab y pc d) x) ∈ (tm_lab y pc d :: (ps.map (fun q => (q.1, tm_lab y pc q.2))).map (·.2)) := by
  intro ps
  induction ps with
  | nil => exact ⟨rfl, List.mem_cons_self⟩
  | cons q r ih =>
    obtain ⟨a, o⟩ := q
    rw [List.map_cons, Op.lookupswitch.offset_cons, Op.lookupswitch.offset_cons]
    split
    · exact ⟨rfl, by simp⟩
    · refine ⟨ih.1, ?_⟩
      have := ih.2
      simp only [List.map_cons, List.mem_cons] at this ⊢
      rcases this with h | h
      · exact Or.inl h
      · exact Or.inr (Or.inr h)
def tm_rc (y : Nat) (r : Option Value) (pc : Nat) : Prop := match r with
  | some (.int v) => decode (tm_cd y) pc = .ok (.ireturn, 1) ∧ (tm_rt y = some .int ∨ (tm_rt y = some .boolean ∧ (v = 0 ∨ v = 1)))
  | some (.long _) => decode (tm_cd y) pc = .ok (.lreturn, 1) ∧ tm_rt y = some .long
  | none => decode (tm_cd y) pc = .ok (.return_, 1) ∧ tm_rt y = none
  | _ => False
section TMJ
variable {V : tm_V} {p : Program} {l : Launch} {e : Env} {R : Room} {s : State} {m : MethodId} {args : Array Value} {below : List Frame} {meth : Method} {c : Code} {H : Heap} {locs : List Loc} {cells slots : Nat} {Q : State → Prop}
variable {pc : Nat} {ls : Array Slot} {st st' L L' rest : List Value} {y : Nat} {G G' : tm_G} {M M' : tm_M}
theorem tm_tgt {y pc : Nat} {off : Int} (h : (y : Int) * 10000 ≤ tm_lab y pc off) : ∃ tgt : Nat, (pc : Int) + off = (tgt : Int) := by
  unfold tm_lab at h
  exact ⟨((pc : Int) + off).toNat, by omega⟩
theorem tm_inv_sh {y : Nat} {st : List Value} {G : tm_G} {A : tm_A} (h : tm_inv y st G = some A) : ∃ k as rest, A = .inr (.inr (y, .ref k :: as, rest)) ∧ tm_pop (tm_np y) st [] = some (as, .ref k :: rest) ∧ y < 259 ∧ tm_st y = false ∧ tm_isC G k (tm_ci y) = true ∧ (rest.map fun v => v.category).sum ≤ 8 ∧ (tm_ent y (.ref k :: as)).length ≤ tm_mx y := by
  unfold tm_inv at h
  split at h
  · rename_i as k rest hp
    split at h
    · rename_i hq
      cases h
      exact ⟨k, as, rest, rfl, hp, hq⟩
    · cases h
  · cases h
theorem tm_ins_sh {y : Nat} {st : List Value} {A : tm_A} (h : tm_ins y st = some A) : ∃ as rest, A = .inr (.inr (y, as, rest)) ∧ tm_pop (tm_np y) st [] = some (as, rest) ∧ y < 259 ∧ tm_st y = true ∧ (rest.map fun v => v.category).sum ≤ 8 ∧ (tm_ent y as).length ≤ tm_mx y := by
  unfold tm_ins at h
  split at h
  · rename_i as rest hp
    split at h
    · rename_i hq
      cases h
      exact ⟨as, rest, rfl, hp, hq⟩
    · cases h
  · cases h
theorem tm_inv_cs {i : Instr} {st : List Value} {G : tm_G} {A : tm_A} (hi : (∃ k, i = .invokevirtual k) ∨ (∃ k, i = .invokespecial k) ∨ (∃ k, i = .invokestatic k)) (h : tm_ctl i st G = some A) : ∃ q, A = .inr (.inr q) := by
  rcases hi with ⟨k, rfl⟩ | ⟨k, rfl⟩ | ⟨k, rfl⟩
  · simp only [tm_ctl] at h
    obtain ⟨a, b, c, rfl, -⟩ := tm_inv_sh h
    exact ⟨_, rfl⟩
  · simp only [tm_ctl] at h
    split at h
    · cases h
    · obtain ⟨a, b, c, rfl, -⟩ := tm_inv_sh h
      exact ⟨_, rfl⟩
  · simp only [tm_ctl] at h
    split at h
    · cases h
    · obtain ⟨a, b, rfl, -⟩ := tm_ins_sh h
      exact ⟨_, rfl⟩
set_option maxHeartbeats 4000000 in
theorem tm_jmp_cases {o : Option Nat}
    {i0 i : Instr} {len : Nat} (hd : decode (tm_cd y) pc = .ok (i0, len)) (hlen : tm_len i0 = 0 ∨ len = tm_len i0) (hn : tm_nrm y pc i0 = some i) (hs : tm_ctl i st G = some (.inl (o, st')))
    : 
    (∃ off, i = .goto (tm_lab y pc off) ∧ o = some (tm_lab y pc off).toNat ∧ decode (tm_cd y) pc = .ok (.goto off, 3) ∧ len = 3 ∧ st' = st) ∨
    (∃ cd off x r, i = .ifCond cd (tm_lab y pc off) ∧ st = .int x :: r ∧ decode (tm_cd y) pc = .ok (.ifCond cd off, 3) ∧ o = (if tm_cnd cd x 0 then some (tm_lab y pc off).toNat else none) ∧ (len = 3 ∧ st' = r)) ∨
    (∃ cd off x z r, i = .if_icmp cd (tm_lab y pc off) ∧ st = .int z :: .int x :: r ∧ decode (tm_cd y) pc = .ok (.if_icmp cd off, 3) ∧ o = (if tm_cnd cd x z then some (tm_lab y pc off).toNat else none) ∧ (len = 3 ∧ st' = r)) ∨
    (∃ df lo hi offs x r, i = .tableswitch (tm_lab y pc df) lo hi (offs.map (tm_lab y pc)) ∧ st = .int x :: r ∧ decode (tm_cd y) pc = .ok (.tableswitch df lo hi offs, len) ∧ (((x.toInt < lo ∨ hi < x.toInt) ∧ o = some (tm_lab y pc df).toNat ∧ st' = r) ∨ (¬ (x.toInt < lo ∨ hi < x.toInt) ∧ ∃ q, (offs.map (tm_lab y pc))[(x.toInt - lo).toNat]? = some q ∧ o = some q.toNat ∧ st' = r))) ∨
    (∃ df ps x r, i = .lookupswitch (tm_lab y pc df) (ps.map (fun q => (q.1, tm_lab y pc q.2))) ∧ (ps.toList.zip (ps.toList.drop 1)).all (fun (a, next) => a.1 < next.1) = true ∧ st = .int x :: r ∧ decode (tm_cd y) pc = .ok (.lookupswitch df ps, len) ∧ o = some (Op.lookupswitch.offset (ps.map (fun q => (q.1, tm_lab y pc q.2))).toList (tm_lab y pc df) x.toInt).toNat ∧ st' = r) := by
  unfold tm_nrm at hn
  split at hn
  · cases hn
    first | (simp only [tm_ctl, reduceCtorEq] at hs; done) | (simp only [tm_ctl] at hs; cases hs; done) | (simp only [tm_ctl] at hs; split at hs <;> first | (cases hs; done) | (split at hs <;> first | (cases hs; done) | (split at hs <;> cases hs; done)))
  · cases hn
    first | (simp only [tm_ctl, reduceCtorEq] at hs; done) | (simp only [tm_ctl] at hs; cases hs; done) | (simp only [tm_ctl] at hs; split at hs <;> first | (cases hs; done) | (split at hs <;> first | (cases hs; done) | (split at hs <;> cases hs; done)))
  · cases hn
    first | (simp only [tm_ctl, reduceCtorEq] at hs; done) | (simp only [tm_ctl] at hs; cases hs; done) | (simp only [tm_ctl] at hs; split at hs <;> first | (cases hs; done) | (split at hs <;> first | (cases hs; done) | (split at hs <;> cases hs; done)))
  · cases hn
    first | (simp only [tm_ctl, reduceCtorEq] at hs; done) | (simp only [tm_ctl] at hs; cases hs; done) | (simp only [tm_ctl] at hs; split at hs <;> first | (cases hs; done) | (split at hs <;> first | (cases hs; done) | (split at hs <;> cases hs; done)))
  · cases hn
    first | (simp only [tm_ctl, reduceCtorEq] at hs; done) | (simp only [tm_ctl] at hs; cases hs; done) | (simp only [tm_ctl] at hs; split at hs <;> first | (cases hs; done) | (split at hs <;> first | (cases hs; done) | (split at hs <;> cases hs; done)))
  · cases hn
    first | (simp only [tm_ctl, reduceCtorEq] at hs; done) | (simp only [tm_ctl] at hs; cases hs; done) | (simp only [tm_ctl] at hs; split at hs <;> first | (cases hs; done) | (split at hs <;> first | (cases hs; done) | (split at hs <;> cases hs; done)))
  · cases hn
    first | (simp only [tm_ctl, reduceCtorEq] at hs; done) | (simp only [tm_ctl] at hs; cases hs; done) | (simp only [tm_ctl] at hs; split at hs <;> first | (cases hs; done) | (split at hs <;> first | (cases hs; done) | (split at hs <;> cases hs; done)))
  · cases hn
    first | (simp only [tm_ctl, reduceCtorEq] at hs; done) | (simp only [tm_ctl] at hs; cases hs; done) | (simp only [tm_ctl] at hs; split at hs <;> first | (cases hs; done) | (split at hs <;> first | (cases hs; done) | (split at hs <;> cases hs; done)))
  · cases hn
    first | (simp only [tm_ctl, reduceCtorEq] at hs; done) | (simp only [tm_ctl] at hs; cases hs; done) | (simp only [tm_ctl] at hs; split at hs <;> first | (cases hs; done) | (split at hs <;> first | (cases hs; done) | (split at hs <;> cases hs; done)))
  · cases hn
    first | (simp only [tm_ctl, reduceCtorEq] at hs; done) | (simp only [tm_ctl] at hs; cases hs; done) | (simp only [tm_ctl] at hs; split at hs <;> first | (cases hs; done) | (split at hs <;> first | (cases hs; done) | (split at hs <;> cases hs; done)))
  · cases hn
    first | (simp only [tm_ctl, reduceCtorEq] at hs; done) | (simp only [tm_ctl] at hs; cases hs; done) | (simp only [tm_ctl] at hs; split at hs <;> first | (cases hs; done) | (split at hs <;> first | (cases hs; done) | (split at hs <;> cases hs; done)))
  · cases hn
    first | (simp only [tm_ctl, reduceCtorEq] at hs; done) | (simp only [tm_ctl] at hs; cases hs; done) | (simp only [tm_ctl] at hs; split at hs <;> first | (cases hs; done) | (split at hs <;> first | (cases hs; done) | (split at hs <;> cases hs; done)))
  · cases hn
    first | (simp only [tm_ctl, reduceCtorEq] at hs; done) | (simp only [tm_ctl] at hs; cases hs; done) | (simp only [tm_ctl] at hs; split at hs <;> first | (cases hs; done) | (split at hs <;> first | (cases hs; done) | (split at hs <;> cases hs; done)))
  · cases hn
    first | (simp only [tm_ctl, reduceCtorEq] at hs; done) | (simp only [tm_ctl] at hs; cases hs; done) | (simp only [tm_ctl] at hs; split at hs <;> first | (cases hs; done) | (split at hs <;> first | (cases hs; done) | (split at hs <;> cases hs; done)))
  · split at hn
    · cases hn; first | (simp only [tm_ctl, reduceCtorEq] at hs; done) | (simp only [tm_ctl] at hs; cases hs; done) | (simp only [tm_ctl] at hs; split at hs <;> first | (cases hs; done) | (split at hs <;> first | (cases hs; done) | (split at hs <;> cases hs; done)))
    · cases hn
  · split at hn
    · cases hn; first | (simp only [tm_ctl, reduceCtorEq] at hs; done) | (simp only [tm_ctl] at hs; cases hs; done) | (simp only [tm_ctl] at hs; split at hs <;> first | (cases hs; done) | (split at hs <;> first | (cases hs; done) | (split at hs <;> cases hs; done)))
    · cases hn
  · obtain ⟨q, h1, h2⟩ := Option.map_eq_some_iff.mp hn
    cases h2
    first | (simp only [tm_ctl, reduceCtorEq] at hs; done) | (simp only [tm_ctl] at hs; cases hs; done) | (simp only [tm_ctl] at hs; split at hs <;> first | (cases hs; done) | (split at hs <;> first | (cases hs; done) | (split at hs <;> cases hs; done)))
  · obtain ⟨q, h1, h2⟩ := Option.map_eq_some_iff.mp hn
    cases h2
    first | (simp only [tm_ctl, reduceCtorEq] at hs; done) | (simp only [tm_ctl] at hs; cases hs; done) | (simp only [tm_ctl] at hs; split at hs <;> first | (cases hs; done) | (split at hs <;> first | (cases hs; done) | (split at hs <;> cases hs; done)))
  · cases hn
    first | (simp only [tm_ctl, reduceCtorEq] at hs; done) | (simp only [tm_ctl] at hs; cases hs; done) | (simp only [tm_ctl] at hs; split at hs <;> first | (cases hs; done) | (split at hs <;> first | (cases hs; done) | (split at hs <;> cases hs; done)))
  · obtain ⟨q, h1, h2⟩ := Option.map_eq_some_iff.mp hn
    cases h2
    first | (simp only [tm_ctl, reduceCtorEq] at hs; done) | (simp only [tm_ctl] at hs; cases hs; done) | (simp only [tm_ctl] at hs; split at hs <;> first | (cases hs; done) | (split at hs <;> first | (cases hs; done) | (split at hs <;> cases hs; done)))
  · obtain ⟨q, h1, h2⟩ := Option.map_eq_some_iff.mp hn
    cases h2
    first | (simp only [tm_ctl, reduceCtorEq] at hs; done) | (simp only [tm_ctl] at hs; cases hs; done) | (simp only [tm_ctl] at hs; split at hs <;> first | (cases hs; done) | (split at hs <;> first | (cases hs; done) | (split at hs <;> cases hs; done)))
  · split at hn
    · split at hn
      · split at hn
        · cases hn; first | (simp only [tm_ctl, reduceCtorEq] at hs; done) | (simp only [tm_ctl] at hs; cases hs; done) | (simp only [tm_ctl] at hs; split at hs <;> first | (cases hs; done) | (split at hs <;> first | (cases hs; done) | (split at hs <;> cases hs; done)))
        · cases hn
      · cases hn; first | (simp only [tm_ctl, reduceCtorEq] at hs; done) | (simp only [tm_ctl] at hs; cases hs; done) | (simp only [tm_ctl] at hs; split at hs <;> first | (cases hs; done) | (split at hs <;> first | (cases hs; done) | (split at hs <;> cases hs; done)))
    · cases hn
  · obtain ⟨q, h1, h2⟩ := Option.map_eq_some_iff.mp hn
    cases h2
    first | (simp only [tm_ctl, reduceCtorEq] at hs; done) | (simp only [tm_ctl] at hs; cases hs; done) | (simp only [tm_ctl] at hs; split at hs <;> first | (cases hs; done) | (split at hs <;> first | (cases hs; done) | (split at hs <;> cases hs; done)))
  · obtain ⟨q, h1, h2⟩ := Option.map_eq_some_iff.mp hn
    cases h2
    obtain ⟨q2, hq2⟩ := tm_inv_cs (Or.inl ⟨_, rfl⟩) hs
    cases hq2
  · obtain ⟨q, h1, h2⟩ := Option.map_eq_some_iff.mp hn
    cases h2
    obtain ⟨q2, hq2⟩ := tm_inv_cs (Or.inr (Or.inl ⟨_, rfl⟩)) hs
    cases hq2
  · obtain ⟨q, h1, h2⟩ := Option.map_eq_some_iff.mp hn
    cases h2
    obtain ⟨q2, hq2⟩ := tm_inv_cs (Or.inr (Or.inr ⟨_, rfl⟩)) hs
    cases hq2
  · obtain ⟨q, h1, h2⟩ := Option.map_eq_some_iff.mp hn
    cases h2
    first | (simp only [tm_ctl, reduceCtorEq] at hs; done) | (simp only [tm_ctl] at hs; cases hs; done) | (simp only [tm_ctl] at hs; split at hs <;> first | (cases hs; done) | (split at hs <;> first | (cases hs; done) | (split at hs <;> cases hs; done)))
  · split at hn
    · cases hn; first | (simp only [tm_ctl, reduceCtorEq] at hs; done) | (simp only [tm_ctl] at hs; cases hs; done) | (simp only [tm_ctl] at hs; split at hs <;> first | (cases hs; done) | (split at hs <;> first | (cases hs; done) | (split at hs <;> cases hs; done)))
    · cases hn; first | (simp only [tm_ctl, reduceCtorEq] at hs; done) | (simp only [tm_ctl] at hs; cases hs; done) | (simp only [tm_ctl] at hs; split at hs <;> first | (cases hs; done) | (split at hs <;> first | (cases hs; done) | (split at hs <;> cases hs; done)))
    · cases hn
  · cases hn
    first | (simp only [tm_ctl, reduceCtorEq] at hs; done) | (simp only [tm_ctl] at hs; cases hs; done) | (simp only [tm_ctl] at hs; split at hs <;> first | (cases hs; done) | (split at hs <;> first | (cases hs; done) | (split at hs <;> cases hs; done)))
  · cases hn
    obtain rfl : len = _ := hlen.resolve_left (by simp [tm_len])
    simp only [tm_ctl] at hs
    cases hs
    exact Or.inl ⟨_, rfl, rfl, hd, rfl, rfl⟩
  · cases hn
    obtain rfl : len = _ := hlen.resolve_left (by simp [tm_len])
    simp only [tm_ctl] at hs
    split at hs
    · cases hs; exact Or.inr (Or.inl ⟨_, _, _, _, rfl, rfl, hd, rfl, rfl, rfl⟩)
    · cases hs
  · cases hn
    obtain rfl : len = _ := hlen.resolve_left (by simp [tm_len])
    simp only [tm_ctl] at hs
    split at hs
    · cases hs; exact Or.inr (Or.inr (Or.inl ⟨_, _, _, _, _, rfl, rfl, hd, rfl, rfl, rfl⟩))
    · cases hs
  · cases hn
    simp only [tm_ctl] at hs
    split at hs
    · refine Or.inr (Or.inr (Or.inr (Or.inl ⟨_, _, _, _, _, _, rfl, rfl, hd, ?_⟩)))
      split at hs
      · rename_i hq; cases hs; exact Or.inl ⟨hq, rfl, rfl⟩
      · rename_i hq; split at hs
        · rename_i o ho; cases hs; exact Or.inr ⟨hq, o, ho, rfl, rfl⟩
        · cases hs
    · cases hs
  · split at hn
    · rename_i hp; cases hn
      simp only [tm_ctl] at hs
      split at hs
      · cases hs; exact Or.inr (Or.inr (Or.inr (Or.inr ⟨_, _, _, _, rfl, hp, rfl, hd, rfl, rfl⟩)))
      · cases hs
    · cases hn
  · split at hn
    · cases hn; first | (simp only [tm_ctl, reduceCtorEq] at hs; done) | (simp only [tm_ctl] at hs; cases hs; done) | (simp only [tm_ctl] at hs; split at hs <;> first | (cases hs; done) | (split at hs <;> first | (cases hs; done) | (split at hs <;> cases hs; done)))
    · split at hn
      · cases hn; first | (simp only [tm_ctl, reduceCtorEq] at hs; done) | (simp only [tm_ctl] at hs; cases hs; done) | (simp only [tm_ctl] at hs; split at hs <;> first | (cases hs; done) | (split at hs <;> first | (cases hs; done) | (split at hs <;> cases hs; done)))
      · cases hn
  · split at hn
    · cases hn; first | (simp only [tm_ctl, reduceCtorEq] at hs; done) | (simp only [tm_ctl] at hs; cases hs; done) | (simp only [tm_ctl] at hs; split at hs <;> first | (cases hs; done) | (split at hs <;> first | (cases hs; done) | (split at hs <;> cases hs; done)))
    · cases hn
  · split at hn
    · cases hn; first | (simp only [tm_ctl, reduceCtorEq] at hs; done) | (simp only [tm_ctl] at hs; cases hs; done) | (simp only [tm_ctl] at hs; split at hs <;> first | (cases hs; done) | (split at hs <;> first | (cases hs; done) | (split at hs <;> cases hs; done)))
    · cases hn
  · cases hn
    first | (simp only [tm_ctl, reduceCtorEq] at hs; done) | (simp only [tm_ctl] at hs; cases hs; done) | (simp only [tm_ctl] at hs; split at hs <;> first | (cases hs; done) | (split at hs <;> first | (cases hs; done) | (split at hs <;> cases hs; done)))
  · cases hn
    first | (simp only [tm_ctl, reduceCtorEq] at hs; done) | (simp only [tm_ctl] at hs; cases hs; done) | (simp only [tm_ctl] at hs; split at hs <;> first | (cases hs; done) | (split at hs <;> first | (cases hs; done) | (split at hs <;> cases hs; done)))
  · cases hn
    first | (simp only [tm_ctl, reduceCtorEq] at hs; done) | (simp only [tm_ctl] at hs; cases hs; done) | (simp only [tm_ctl] at hs; split at hs <;> first | (cases hs; done) | (split at hs <;> first | (cases hs; done) | (split at hs <;> cases hs; done)))
  · cases hn
    first | (simp only [tm_ctl, reduceCtorEq] at hs; done) | (simp only [tm_ctl] at hs; cases hs; done) | (simp only [tm_ctl] at hs; split at hs <;> first | (cases hs; done) | (split at hs <;> first | (cases hs; done) | (split at hs <;> cases hs; done)))
  · cases hn
    first | (simp only [tm_ctl, reduceCtorEq] at hs; done) | (simp only [tm_ctl] at hs; cases hs; done) | (simp only [tm_ctl] at hs; split at hs <;> first | (cases hs; done) | (split at hs <;> first | (cases hs; done) | (split at hs <;> cases hs; done)))
  · cases hn
    first | (simp only [tm_ctl, reduceCtorEq] at hs; done) | (simp only [tm_ctl] at hs; cases hs; done) | (simp only [tm_ctl] at hs; split at hs <;> first | (cases hs; done) | (split at hs <;> first | (cases hs; done) | (split at hs <;> cases hs; done)))
  · cases hn
    first | (simp only [tm_ctl, reduceCtorEq] at hs; done) | (simp only [tm_ctl] at hs; cases hs; done) | (simp only [tm_ctl] at hs; split at hs <;> first | (cases hs; done) | (split at hs <;> first | (cases hs; done) | (split at hs <;> cases hs; done)))
  · cases hn
    first | (simp only [tm_ctl, reduceCtorEq] at hs; done) | (simp only [tm_ctl] at hs; cases hs; done) | (simp only [tm_ctl] at hs; split at hs <;> first | (cases hs; done) | (split at hs <;> first | (cases hs; done) | (split at hs <;> cases hs; done)))
  · cases hn
    first | (simp only [tm_ctl, reduceCtorEq] at hs; done) | (simp only [tm_ctl] at hs; cases hs; done) | (simp only [tm_ctl] at hs; split at hs <;> first | (cases hs; done) | (split at hs <;> first | (cases hs; done) | (split at hs <;> cases hs; done)))
  · cases hn
    first | (simp only [tm_ctl, reduceCtorEq] at hs; done) | (simp only [tm_ctl] at hs; cases hs; done) | (simp only [tm_ctl] at hs; split at hs <;> first | (cases hs; done) | (split at hs <;> first | (cases hs; done) | (split at hs <;> cases hs; done)))
  · cases hn
    first | (simp only [tm_ctl, reduceCtorEq] at hs; done) | (simp only [tm_ctl] at hs; cases hs; done) | (simp only [tm_ctl] at hs; split at hs <;> first | (cases hs; done) | (split at hs <;> first | (cases hs; done) | (split at hs <;> cases hs; done)))
  · cases hn
    first | (simp only [tm_ctl, reduceCtorEq] at hs; done) | (simp only [tm_ctl] at hs; cases hs; done) | (simp only [tm_ctl] at hs; split at hs <;> first | (cases hs; done) | (split at hs <;> first | (cases hs; done) | (split at hs <;> cases hs; done)))
  · cases hn
    first | (simp only [tm_ctl, reduceCtorEq] at hs; done) | (simp only [tm_ctl] at hs; cases hs; done) | (simp only [tm_ctl] at hs; split at hs <;> first | (cases hs; done) | (split at hs <;> first | (cases hs; done) | (split at hs <;> cases hs; done)))
  · cases hn
    first | (simp only [tm_ctl, reduceCtorEq] at hs; done) | (simp only [tm_ctl] at hs; cases hs; done) | (simp only [tm_ctl] at hs; split at hs <;> first | (cases hs; done) | (split at hs <;> first | (cases hs; done) | (split at hs <;> cases hs; done)))
  · cases hn
    first | (simp only [tm_ctl, reduceCtorEq] at hs; done) | (simp only [tm_ctl] at hs; cases hs; done) | (simp only [tm_ctl] at hs; split at hs <;> first | (cases hs; done) | (split at hs <;> first | (cases hs; done) | (split at hs <;> cases hs; done)))
  · cases hn
    first | (simp only [tm_ctl, reduceCtorEq] at hs; done) | (simp only [tm_ctl] at hs; cases hs; done) | (simp only [tm_ctl] at hs; split at hs <;> first | (cases hs; done) | (split at hs <;> first | (cases hs; done) | (split at hs <;> cases hs; done)))
  · cases hn
    first | (simp only [tm_ctl, reduceCtorEq] at hs; done) | (simp only [tm_ctl] at hs; cases hs; done) | (simp only [tm_ctl] at hs; split at hs <;> first | (cases hs; done) | (split at hs <;> first | (cases hs; done) | (split at hs <;> cases hs; done)))
  · cases hn
    first | (simp only [tm_ctl, reduceCtorEq] at hs; done) | (simp only [tm_ctl] at hs; cases hs; done) | (simp only [tm_ctl] at hs; split at hs <;> first | (cases hs; done) | (split at hs <;> first | (cases hs; done) | (split at hs <;> cases hs; done)))
  · cases hn
    first | (simp only [tm_ctl, reduceCtorEq] at hs; done) | (simp only [tm_ctl] at hs; cases hs; done) | (simp only [tm_ctl] at hs; split at hs <;> first | (cases hs; done) | (split at hs <;> first | (cases hs; done) | (split at hs <;> cases hs; done)))
  · cases hn
    first | (simp only [tm_ctl, reduceCtorEq] at hs; done) | (simp only [tm_ctl] at hs; cases hs; done) | (simp only [tm_ctl] at hs; split at hs <;> first | (cases hs; done) | (split at hs <;> first | (cases hs; done) | (split at hs <;> cases hs; done)))
  · cases hn
    first | (simp only [tm_ctl, reduceCtorEq] at hs; done) | (simp only [tm_ctl] at hs; cases hs; done) | (simp only [tm_ctl] at hs; split at hs <;> first | (cases hs; done) | (split at hs <;> first | (cases hs; done) | (split at hs <;> cases hs; done)))
  · cases hn
    first | (simp only [tm_ctl, reduceCtorEq] at hs; done) | (simp only [tm_ctl] at hs; cases hs; done) | (simp only [tm_ctl] at hs; split at hs <;> first | (cases hs; done) | (split at hs <;> first | (cases hs; done) | (split at hs <;> cases hs; done)))
  · cases hn
    first | (simp only [tm_ctl, reduceCtorEq] at hs; done) | (simp only [tm_ctl] at hs; cases hs; done) | (simp only [tm_ctl] at hs; split at hs <;> first | (cases hs; done) | (split at hs <;> first | (cases hs; done) | (split at hs <;> cases hs; done)))
  · cases hn
    first | (simp only [tm_ctl, reduceCtorEq] at hs; done) | (simp only [tm_ctl] at hs; cases hs; done) | (simp only [tm_ctl] at hs; split at hs <;> first | (cases hs; done) | (split at hs <;> first | (cases hs; done) | (split at hs <;> cases hs; done)))
  · cases hn
    first | (simp only [tm_ctl, reduceCtorEq] at hs; done) | (simp only [tm_ctl] at hs; cases hs; done) | (simp only [tm_ctl] at hs; split at hs <;> first | (cases hs; done) | (split at hs <;> first | (cases hs; done) | (split at hs <;> cases hs; done)))
  · cases hn
    first | (simp only [tm_ctl, reduceCtorEq] at hs; done) | (simp only [tm_ctl] at hs; cases hs; done) | (simp only [tm_ctl] at hs; split at hs <;> first | (cases hs; done) | (split at hs <;> first | (cases hs; done) | (split at hs <;> cases hs; done)))
  · cases hn
    first | (simp only [tm_ctl, reduceCtorEq] at hs; done) | (simp only [tm_ctl] at hs; cases hs; done) | (simp only [tm_ctl] at hs; split at hs <;> first | (cases hs; done) | (split at hs <;> first | (cases hs; done) | (split at hs <;> cases hs; done)))
  · cases hn
    first | (simp only [tm_ctl, reduceCtorEq] at hs; done) | (simp only [tm_ctl] at hs; cases hs; done) | (simp only [tm_ctl] at hs; split at hs <;> first | (cases hs; done) | (split at hs <;> first | (cases hs; done) | (split at hs <;> cases hs; done)))
  · cases hn
    first | (simp only [tm_ctl, reduceCtorEq] at hs; done) | (simp only [tm_ctl] at hs; cases hs; done) | (simp only [tm_ctl] at hs; split at hs <;> first | (cases hs; done) | (split at hs <;> first | (cases hs; done) | (split at hs <;> cases hs; done)))
  · cases hn
    first | (simp only [tm_ctl, reduceCtorEq] at hs; done) | (simp only [tm_ctl] at hs; cases hs; done) | (simp only [tm_ctl] at hs; split at hs <;> first | (cases hs; done) | (split at hs <;> first | (cases hs; done) | (split at hs <;> cases hs; done)))
  · cases hn
    first | (simp only [tm_ctl, reduceCtorEq] at hs; done) | (simp only [tm_ctl] at hs; cases hs; done) | (simp only [tm_ctl] at hs; split at hs <;> first | (cases hs; done) | (split at hs <;> first | (cases hs; done) | (split at hs <;> cases hs; done)))
  · cases hn
    first | (simp only [tm_ctl, reduceCtorEq] at hs; done) | (simp only [tm_ctl] at hs; cases hs; done) | (simp only [tm_ctl] at hs; split at hs <;> first | (cases hs; done) | (split at hs <;> first | (cases hs; done) | (split at hs <;> cases hs; done)))
  · cases hn
    first | (simp only [tm_ctl, reduceCtorEq] at hs; done) | (simp only [tm_ctl] at hs; cases hs; done) | (simp only [tm_ctl] at hs; split at hs <;> first | (cases hs; done) | (split at hs <;> first | (cases hs; done) | (split at hs <;> cases hs; done)))
  · cases hn
    first | (simp only [tm_ctl, reduceCtorEq] at hs; done) | (simp only [tm_ctl] at hs; cases hs; done) | (simp only [tm_ctl] at hs; split at hs <;> first | (cases hs; done) | (split at hs <;> first | (cases hs; done) | (split at hs <;> cases hs; done)))
  · cases hn
set_option maxHeartbeats 4000000 in
theorem tm_ret_cases {r : Option Value} (V : tm_V)
    {i0 i : Instr} {len : Nat} (hd : decode (tm_cd y) pc = .ok (i0, len)) (hlen : tm_len i0 = 0 ∨ len = tm_len i0) (hn : tm_nrm y pc i0 = some i) (hs : tm_ctl i st G = some (.inr (.inl r)))
    : tm_rc y r pc ∧ st.map (tm_t V) = (r.map (tm_t V)).toList := by
  unfold tm_nrm at hn
  split at hn
  · cases hn
    first | (simp only [tm_ctl, reduceCtorEq] at hs; done) | (simp only [tm_ctl] at hs; cases hs; done) | (simp only [tm_ctl] at hs; split at hs <;> first | (cases hs; done) | (split at hs <;> first | (cases hs; done) | (split at hs <;> cases hs; done)))
  · cases hn
    first | (simp only [tm_ctl, reduceCtorEq] at hs; done) | (simp only [tm_ctl] at hs; cases hs; done) | (simp only [tm_ctl] at hs; split at hs <;> first | (cases hs; done) | (split at hs <;> first | (cases hs; done) | (split at hs <;> cases hs; done)))
  · cases hn
    first | (simp only [tm_ctl, reduceCtorEq] at hs; done) | (simp only [tm_ctl] at hs; cases hs; done) | (simp only [tm_ctl] at hs; split at hs <;> first | (cases hs; done) | (split at hs <;> first | (cases hs; done) | (split at hs <;> cases hs; done)))
  · cases hn
    first | (simp only [tm_ctl, reduceCtorEq] at hs; done) | (simp only [tm_ctl] at hs; cases hs; done) | (simp only [tm_ctl] at hs; split at hs <;> first | (cases hs; done) | (split at hs <;> first | (cases hs; done) | (split at hs <;> cases hs; done)))
  · cases hn
    first | (simp only [tm_ctl, reduceCtorEq] at hs; done) | (simp only [tm_ctl] at hs; cases hs; done) | (simp only [tm_ctl] at hs; split at hs <;> first | (cases hs; done) | (split at hs <;> first | (cases hs; done) | (split at hs <;> cases hs; done)))
  · cases hn
    first | (simp only [tm_ctl, reduceCtorEq] at hs; done) | (simp only [tm_ctl] at hs; cases hs; done) | (simp only [tm_ctl] at hs; split at hs <;> first | (cases hs; done) | (split at hs <;> first | (cases hs; done) | (split at hs <;> cases hs; done)))
  · cases hn
    first | (simp only [tm_ctl, reduceCtorEq] at hs; done) | (simp only [tm_ctl] at hs; cases hs; done) | (simp only [tm_ctl] at hs; split at hs <;> first | (cases hs; done) | (split at hs <;> first | (cases hs; done) | (split at hs <;> cases hs; done)))
  · cases hn
    first | (simp only [tm_ctl, reduceCtorEq] at hs; done) | (simp only [tm_ctl] at hs; cases hs; done) | (simp only [tm_ctl] at hs; split at hs <;> first | (cases hs; done) | (split at hs <;> first | (cases hs; done) | (split at hs <;> cases hs; done)))
  · cases hn
    first | (simp only [tm_ctl, reduceCtorEq] at hs; done) | (simp only [tm_ctl] at hs; cases hs; done) | (simp only [tm_ctl] at hs; split at hs <;> first | (cases hs; done) | (split at hs <;> first | (cases hs; done) | (split at hs <;> cases hs; done)))
  · cases hn
    first | (simp only [tm_ctl, reduceCtorEq] at hs; done) | (simp only [tm_ctl] at hs; cases hs; done) | (simp only [tm_ctl] at hs; split at hs <;> first | (cases hs; done) | (split at hs <;> first | (cases hs; done) | (split at hs <;> cases hs; done)))
  · cases hn
    first | (simp only [tm_ctl, reduceCtorEq] at hs; done) | (simp only [tm_ctl] at hs; cases hs; done) | (simp only [tm_ctl] at hs; split at hs <;> first | (cases hs; done) | (split at hs <;> first | (cases hs; done) | (split at hs <;> cases hs; done)))
  · cases hn
    first | (simp only [tm_ctl, reduceCtorEq] at hs; done) | (simp only [tm_ctl] at hs; cases hs; done) | (simp only [tm_ctl] at hs; split at hs <;> first | (cases hs; done) | (split at hs <;> first | (cases hs; done) | (split at hs <;> cases hs; done)))
  · cases hn
    first | (simp only [tm_ctl, reduceCtorEq] at hs; done) | (simp only [tm_ctl] at hs; cases hs; done) | (simp only [tm_ctl] at hs; split at hs <;> first | (cases hs; done) | (split at hs <;> first | (cases hs; done) | (split at hs <;> cases hs; done)))
  · cases hn
    first | (simp only [tm_ctl, reduceCtorEq] at hs; done) | (simp only [tm_ctl] at hs; cases hs; done) | (simp only [tm_ctl] at hs; split at hs <;> first | (cases hs; done) | (split at hs <;> first | (cases hs; done) | (split at hs <;> cases hs; done)))
  · split at hn
    · cases hn; first | (simp only [tm_ctl, reduceCtorEq] at hs; done) | (simp only [tm_ctl] at hs; cases hs; done) | (simp only [tm_ctl] at hs; split at hs <;> first | (cases hs; done) | (split at hs <;> first | (cases hs; done) | (split at hs <;> cases hs; done)))
    · cases hn
  · split at hn
    · cases hn; first | (simp only [tm_ctl, reduceCtorEq] at hs; done) | (simp only [tm_ctl] at hs; cases hs; done) | (simp only [tm_ctl] at hs; split at hs <;> first | (cases hs; done) | (split at hs <;> first | (cases hs; done) | (split at hs <;> cases hs; done)))
    · cases hn
  · obtain ⟨q, h1, h2⟩ := Option.map_eq_some_iff.mp hn
    cases h2
    first | (simp only [tm_ctl, reduceCtorEq] at hs; done) | (simp only [tm_ctl] at hs; cases hs; done) | (simp only [tm_ctl] at hs; split at hs <;> first | (cases hs; done) | (split at hs <;> first | (cases hs; done) | (split at hs <;> cases hs; done)))
  · obtain ⟨q, h1, h2⟩ := Option.map_eq_some_iff.mp hn
    cases h2
    first | (simp only [tm_ctl, reduceCtorEq] at hs; done) | (simp only [tm_ctl] at hs; cases hs; done) | (simp only [tm_ctl] at hs; split at hs <;> first | (cases hs; done) | (split at hs <;> first | (cases hs; done) | (split at hs <;> cases hs; done)))
  · cases hn
    first | (simp only [tm_ctl, reduceCtorEq] at hs; done) | (simp only [tm_ctl] at hs; cases hs; done) | (simp only [tm_ctl] at hs; split at hs <;> first | (cases hs; done) | (split at hs <;> first | (cases hs; done) | (split at hs <;> cases hs; done)))
  · obtain ⟨q, h1, h2⟩ := Option.map_eq_some_iff.mp hn
    cases h2
    first | (simp only [tm_ctl, reduceCtorEq] at hs; done) | (simp only [tm_ctl] at hs; cases hs; done) | (simp only [tm_ctl] at hs; split at hs <;> first | (cases hs; done) | (split at hs <;> first | (cases hs; done) | (split at hs <;> cases hs; done)))
  · obtain ⟨q, h1, h2⟩ := Option.map_eq_some_iff.mp hn
    cases h2
    first | (simp only [tm_ctl, reduceCtorEq] at hs; done) | (simp only [tm_ctl] at hs; cases hs; done) | (simp only [tm_ctl] at hs; split at hs <;> first | (cases hs; done) | (split at hs <;> first | (cases hs; done) | (split at hs <;> cases hs; done)))
  · split at hn
    · split at hn
      · split at hn
        · cases hn; first | (simp only [tm_ctl, reduceCtorEq] at hs; done) | (simp only [tm_ctl] at hs; cases hs; done) | (simp only [tm_ctl] at hs; split at hs <;> first | (cases hs; done) | (split at hs <;> first | (cases hs; done) | (split at hs <;> cases hs; done)))
        · cases hn
      · cases hn; first | (simp only [tm_ctl, reduceCtorEq] at hs; done) | (simp only [tm_ctl] at hs; cases hs; done) | (simp only [tm_ctl] at hs; split at hs <;> first | (cases hs; done) | (split at hs <;> first | (cases hs; done) | (split at hs <;> cases hs; done)))
    · cases hn
  · obtain ⟨q, h1, h2⟩ := Option.map_eq_some_iff.mp hn
    cases h2
    first | (simp only [tm_ctl, reduceCtorEq] at hs; done) | (simp only [tm_ctl] at hs; cases hs; done) | (simp only [tm_ctl] at hs; split at hs <;> first | (cases hs; done) | (split at hs <;> first | (cases hs; done) | (split at hs <;> cases hs; done)))
  · obtain ⟨q, h1, h2⟩ := Option.map_eq_some_iff.mp hn
    cases h2
    obtain ⟨q2, hq2⟩ := tm_inv_cs (Or.inl ⟨_, rfl⟩) hs
    cases hq2
  · obtain ⟨q, h1, h2⟩ := Option.map_eq_some_iff.mp hn
    cases h2
    obtain ⟨q2, hq2⟩ := tm_inv_cs (Or.inr (Or.inl ⟨_, rfl⟩)) hs
    cases hq2
  · obtain ⟨q, h1, h2⟩ := Option.map_eq_some_iff.mp hn
    cases h2
    obtain ⟨q2, hq2⟩ := tm_inv_cs (Or.inr (Or.inr ⟨_, rfl⟩)) hs
    cases hq2
  · obtain ⟨q, h1, h2⟩ := Option.map_eq_some_iff.mp hn
    cases h2
    first | (simp only [tm_ctl, reduceCtorEq] at hs; done) | (simp only [tm_ctl] at hs; cases hs; done) | (simp only [tm_ctl] at hs; split at hs <;> first | (cases hs; done) | (split at hs <;> first | (cases hs; done) | (split at hs <;> cases hs; done)))
  · split at hn
    · cases hn; first | (simp only [tm_ctl, reduceCtorEq] at hs; done) | (simp only [tm_ctl] at hs; cases hs; done) | (simp only [tm_ctl] at hs; split at hs <;> first | (cases hs; done) | (split at hs <;> first | (cases hs; done) | (split at hs <;> cases hs; done)))
    · cases hn; first | (simp only [tm_ctl, reduceCtorEq] at hs; done) | (simp only [tm_ctl] at hs; cases hs; done) | (simp only [tm_ctl] at hs; split at hs <;> first | (cases hs; done) | (split at hs <;> first | (cases hs; done) | (split at hs <;> cases hs; done)))
    · cases hn
  · cases hn
    first | (simp only [tm_ctl, reduceCtorEq] at hs; done) | (simp only [tm_ctl] at hs; cases hs; done) | (simp only [tm_ctl] at hs; split at hs <;> first | (cases hs; done) | (split at hs <;> first | (cases hs; done) | (split at hs <;> cases hs; done)))
  · cases hn
    first | (simp only [tm_ctl, reduceCtorEq] at hs; done) | (simp only [tm_ctl] at hs; cases hs; done) | (simp only [tm_ctl] at hs; split at hs <;> first | (cases hs; done) | (split at hs <;> first | (cases hs; done) | (split at hs <;> cases hs; done)))
  · cases hn
    first | (simp only [tm_ctl, reduceCtorEq] at hs; done) | (simp only [tm_ctl] at hs; cases hs; done) | (simp only [tm_ctl] at hs; split at hs <;> first | (cases hs; done) | (split at hs <;> first | (cases hs; done) | (split at hs <;> cases hs; done)))
  · cases hn
    first | (simp only [tm_ctl, reduceCtorEq] at hs; done) | (simp only [tm_ctl] at hs; cases hs; done) | (simp only [tm_ctl] at hs; split at hs <;> first | (cases hs; done) | (split at hs <;> first | (cases hs; done) | (split at hs <;> cases hs; done)))
  · cases hn
    first | (simp only [tm_ctl, reduceCtorEq] at hs; done) | (simp only [tm_ctl] at hs; cases hs; done) | (simp only [tm_ctl] at hs; split at hs <;> first | (cases hs; done) | (split at hs <;> first | (cases hs; done) | (split at hs <;> cases hs; done)))
  · split at hn
    · cases hn; first | (simp only [tm_ctl, reduceCtorEq] at hs; done) | (simp only [tm_ctl] at hs; cases hs; done) | (simp only [tm_ctl] at hs; split at hs <;> first | (cases hs; done) | (split at hs <;> first | (cases hs; done) | (split at hs <;> cases hs; done)))
    · cases hn
  · split at hn
    · rename_i hb; cases hn
      obtain rfl : len = _ := hlen.resolve_left (by simp [tm_len])
      simp only [tm_ctl] at hs
      split at hs
      · split at hs
        · rename_i hq; cases hs; exact ⟨⟨hd, Or.inr ⟨hb, hq⟩⟩, rfl⟩
        · cases hs
      · cases hs
    · split at hn
      · rename_i hb; cases hn
        obtain rfl : len = _ := hlen.resolve_left (by simp [tm_len])
        simp only [tm_ctl] at hs
        split at hs
        · cases hs; exact ⟨⟨hd, Or.inl hb⟩, rfl⟩
        · cases hs
      · cases hn
  · split at hn
    · rename_i hb; cases hn
      obtain rfl : len = _ := hlen.resolve_left (by simp [tm_len])
      simp only [tm_ctl] at hs
      split at hs
      · cases hs; exact ⟨⟨hd, hb⟩, rfl⟩
      · cases hs
    · cases hn
  · split at hn
    · rename_i hb; cases hn
      obtain rfl : len = _ := hlen.resolve_left (by simp [tm_len])
      simp only [tm_ctl] at hs
      split at hs
      · cases hs; exact ⟨⟨hd, hb⟩, rfl⟩
      · cases hs
    · cases hn
  · cases hn
    first | (simp only [tm_ctl, reduceCtorEq] at hs; done) | (simp only [tm_ctl] at hs; cases hs; done) | (simp only [tm_ctl] at hs; split at hs <;> first | (cases hs; done) | (split at hs <;> first | (cases hs; done) | (split at hs <;> cases hs; done)))
  · cases hn
    first | (simp only [tm_ctl, reduceCtorEq] at hs; done) | (simp only [tm_ctl] at hs; cases hs; done) | (simp only [tm_ctl] at hs; split at hs <;> first | (cases hs; done) | (split at hs <;> first | (cases hs; done) | (split at hs <;> cases hs; done)))
  · cases hn
    first | (simp only [tm_ctl, reduceCtorEq] at hs; done) | (simp only [tm_ctl] at hs; cases hs; done) | (simp only [tm_ctl] at hs; split at hs <;> first | (cases hs; done) | (split at hs <;> first | (cases hs; done) | (split at hs <;> cases hs; done)))
  · cases hn
    first | (simp only [tm_ctl, reduceCtorEq] at hs; done) | (simp only [tm_ctl] at hs; cases hs; done) | (simp only [tm_ctl] at hs; split at hs <;> first | (cases hs; done) | (split at hs <;> first | (cases hs; done) | (split at hs <;> cases hs; done)))
  · cases hn
    first | (simp only [tm_ctl, reduceCtorEq] at hs; done) | (simp only [tm_ctl] at hs; cases hs; done) | (simp only [tm_ctl] at hs; split at hs <;> first | (cases hs; done) | (split at hs <;> first | (cases hs; done) | (split at hs <;> cases hs; done)))
  · cases hn
    first | (simp only [tm_ctl, reduceCtorEq] at hs; done) | (simp only [tm_ctl] at hs; cases hs; done) | (simp only [tm_ctl] at hs; split at hs <;> first | (cases hs; done) | (split at hs <;> first | (cases hs; done) | (split at hs <;> cases hs; done)))
  · cases hn
    first | (simp only [tm_ctl, reduceCtorEq] at hs; done) | (simp only [tm_ctl] at hs; cases hs; done) | (simp only [tm_ctl] at hs; split at hs <;> first | (cases hs; done) | (split at hs <;> first | (cases hs; done) | (split at hs <;> cases hs; done)))
  · cases hn
    first | (simp only [tm_ctl, reduceCtorEq] at hs; done) | (simp only [tm_ctl] at hs; cases hs; done) | (simp only [tm_ctl] at hs; split at hs <;> first | (cases hs; done) | (split at hs <;> first | (cases hs; done) | (split at hs <;> cases hs; done)))
  · cases hn
    first | (simp only [tm_ctl, reduceCtorEq] at hs; done) | (simp only [tm_ctl] at hs; cases hs; done) | (simp only [tm_ctl] at hs; split at hs <;> first | (cases hs; done) | (split at hs <;> first | (cases hs; done) | (split at hs <;> cases hs; done)))
  · cases hn
    first | (simp only [tm_ctl, reduceCtorEq] at hs; done) | (simp only [tm_ctl] at hs; cases hs; done) | (simp only [tm_ctl] at hs; split at hs <;> first | (cases hs; done) | (split at hs <;> first | (cases hs; done) | (split at hs <;> cases hs; done)))
  · cases hn
    first | (simp only [tm_ctl, reduceCtorEq] at hs; done) | (simp only [tm_ctl] at hs; cases hs; done) | (simp only [tm_ctl] at hs; split at hs <;> first | (cases hs; done) | (split at hs <;> first | (cases hs; done) | (split at hs <;> cases hs; done)))
  · cases hn
    first | (simp only [tm_ctl, reduceCtorEq] at hs; done) | (simp only [tm_ctl] at hs; cases hs; done) | (simp only [tm_ctl] at hs; split at hs <;> first | (cases hs; done) | (split at hs <;> first | (cases hs; done) | (split at hs <;> cases hs; done)))
  · cases hn
    first | (simp only [tm_ctl, reduceCtorEq] at hs; done) | (simp only [tm_ctl] at hs; cases hs; done) | (simp only [tm_ctl] at hs; split at hs <;> first | (cases hs; done) | (split at hs <;> first | (cases hs; done) | (split at hs <;> cases hs; done)))
  · cases hn
    first | (simp only [tm_ctl, reduceCtorEq] at hs; done) | (simp only [tm_ctl] at hs; cases hs; done) | (simp only [tm_ctl] at hs; split at hs <;> first | (cases hs; done) | (split at hs <;> first | (cases hs; done) | (split at hs <;> cases hs; done)))
  · cases hn
    first | (simp only [tm_ctl, reduceCtorEq] at hs; done) | (simp only [tm_ctl] at hs; cases hs; done) | (simp only [tm_ctl] at hs; split at hs <;> first | (cases hs; done) | (split at hs <;> first | (cases hs; done) | (split at hs <;> cases hs; done)))
  · cases hn
    first | (simp only [tm_ctl, reduceCtorEq] at hs; done) | (simp only [tm_ctl] at hs; cases hs; done) | (simp only [tm_ctl] at hs; split at hs <;> first | (cases hs; done) | (split at hs <;> first | (cases hs; done) | (split at hs <;> cases hs; done)))
  · cases hn
    first | (simp only [tm_ctl, reduceCtorEq] at hs; done) | (simp only [tm_ctl] at hs; cases hs; done) | (simp only [tm_ctl] at hs; split at hs <;> first | (cases hs; done) | (split at hs <;> first | (cases hs; done) | (split at hs <;> cases hs; done)))
  · cases hn
    first | (simp only [tm_ctl, reduceCtorEq] at hs; done) | (simp only [tm_ctl] at hs; cases hs; done) | (simp only [tm_ctl] at hs; split at hs <;> first | (cases hs; done) | (split at hs <;> first | (cases hs; done) | (split at hs <;> cases hs; done)))
  · cases hn
    first | (simp only [tm_ctl, reduceCtorEq] at hs; done) | (simp only [tm_ctl] at hs; cases hs; done) | (simp only [tm_ctl] at hs; split at hs <;> first | (cases hs; done) | (split at hs <;> first | (cases hs; done) | (split at hs <;> cases hs; done)))
  · cases hn
    first | (simp only [tm_ctl, reduceCtorEq] at hs; done) | (simp only [tm_ctl] at hs; cases hs; done) | (simp only [tm_ctl] at hs; split at hs <;> first | (cases hs; done) | (split at hs <;> first | (cases hs; done) | (split at hs <;> cases hs; done)))
  · cases hn
    first | (simp only [tm_ctl, reduceCtorEq] at hs; done) | (simp only [tm_ctl] at hs; cases hs; done) | (simp only [tm_ctl] at hs; split at hs <;> first | (cases hs; done) | (split at hs <;> first | (cases hs; done) | (split at hs <;> cases hs; done)))
  · cases hn
    first | (simp only [tm_ctl, reduceCtorEq] at hs; done) | (simp only [tm_ctl] at hs; cases hs; done) | (simp only [tm_ctl] at hs; split at hs <;> first | (cases hs; done) | (split at hs <;> first | (cases hs; done) | (split at hs <;> cases hs; done)))
  · cases hn
    first | (simp only [tm_ctl, reduceCtorEq] at hs; done) | (simp only [tm_ctl] at hs; cases hs; done) | (simp only [tm_ctl] at hs; split at hs <;> first | (cases hs; done) | (split at hs <;> first | (cases hs; done) | (split at hs <;> cases hs; done)))
  · cases hn
    first | (simp only [tm_ctl, reduceCtorEq] at hs; done) | (simp only [tm_ctl] at hs; cases hs; done) | (simp only [tm_ctl] at hs; split at hs <;> first | (cases hs; done) | (split at hs <;> first | (cases hs; done) | (split at hs <;> cases hs; done)))
  · cases hn
    first | (simp only [tm_ctl, reduceCtorEq] at hs; done) | (simp only [tm_ctl] at hs; cases hs; done) | (simp only [tm_ctl] at hs; split at hs <;> first | (cases hs; done) | (split at hs <;> first | (cases hs; done) | (split at hs <;> cases hs; done)))
  · cases hn
    first | (simp only [tm_ctl, reduceCtorEq] at hs; done) | (simp only [tm_ctl] at hs; cases hs; done) | (simp only [tm_ctl] at hs; split at hs <;> first | (cases hs; done) | (split at hs <;> first | (cases hs; done) | (split at hs <;> cases hs; done)))
  · cases hn
    first | (simp only [tm_ctl, reduceCtorEq] at hs; done) | (simp only [tm_ctl] at hs; cases hs; done) | (simp only [tm_ctl] at hs; split at hs <;> first | (cases hs; done) | (split at hs <;> first | (cases hs; done) | (split at hs <;> cases hs; done)))
  · cases hn
    first | (simp only [tm_ctl, reduceCtorEq] at hs; done) | (simp only [tm_ctl] at hs; cases hs; done) | (simp only [tm_ctl] at hs; split at hs <;> first | (cases hs; done) | (split at hs <;> first | (cases hs; done) | (split at hs <;> cases hs; done)))
  · cases hn
    first | (simp only [tm_ctl, reduceCtorEq] at hs; done) | (simp only [tm_ctl] at hs; cases hs; done) | (simp only [tm_ctl] at hs; split at hs <;> first | (cases hs; done) | (split at hs <;> first | (cases hs; done) | (split at hs <;> cases hs; done)))
  · cases hn
    first | (simp only [tm_ctl, reduceCtorEq] at hs; done) | (simp only [tm_ctl] at hs; cases hs; done) | (simp only [tm_ctl] at hs; split at hs <;> first | (cases hs; done) | (split at hs <;> first | (cases hs; done) | (split at hs <;> cases hs; done)))
  · cases hn
    first | (simp only [tm_ctl, reduceCtorEq] at hs; done) | (simp only [tm_ctl] at hs; cases hs; done) | (simp only [tm_ctl] at hs; split at hs <;> first | (cases hs; done) | (split at hs <;> first | (cases hs; done) | (split at hs <;> cases hs; done)))
  · cases hn
    first | (simp only [tm_ctl, reduceCtorEq] at hs; done) | (simp only [tm_ctl] at hs; cases hs; done) | (simp only [tm_ctl] at hs; split at hs <;> first | (cases hs; done) | (split at hs <;> first | (cases hs; done) | (split at hs <;> cases hs; done)))
  · cases hn
    first | (simp only [tm_ctl, reduceCtorEq] at hs; done) | (simp only [tm_ctl] at hs; cases hs; done) | (simp only [tm_ctl] at hs; split at hs <;> first | (cases hs; done) | (split at hs <;> first | (cases hs; done) | (split at hs <;> cases hs; done)))
  · cases hn
    first | (simp only [tm_ctl, reduceCtorEq] at hs; done) | (simp only [tm_ctl] at hs; cases hs; done) | (simp only [tm_ctl] at hs; split at hs <;> first | (cases hs; done) | (split at hs <;> first | (cases hs; done) | (split at hs <;> cases hs; done)))
  · cases hn
set_option maxHeartbeats 4000000 in
theorem tm_call_cases {y2 : Nat} {as : List Value}
    {i0 i : Instr} {len : Nat} (hd : decode (tm_cd y) pc = .ok (i0, len)) (hlen : tm_len i0 = 0 ∨ len = tm_len i0) (hn : tm_nrm y pc i0 = some i) (hs : tm_ctl i st G = some (.inr (.inr (y2, as, rest))))
    : 
    (∃ x wp nest k as0, tm_lk (tm_ML (tm_ci y)) x = some (y2, wp, nest) ∧ decode (tm_cd y) pc = .ok (.invokevirtual x, 3) ∧ len = 3 ∧ as = .ref k :: as0 ∧ tm_pop (tm_np y2) st [] = some (as0, .ref k :: rest) ∧ y2 < 259 ∧ tm_st y2 = false ∧ tm_isC G k (tm_ci y2) = true ∧ (rest.map fun v => v.category).sum ≤ 8 ∧ (tm_ent y2 (.ref k :: as0)).length ≤ tm_mx y2) ∨
    (∃ x wp nest k as0, tm_lk (tm_ML (tm_ci y)) x = some (y2, wp, nest) ∧ decode (tm_cd y) pc = .ok (.invokespecial x, 3) ∧ len = 3 ∧ as = .ref k :: as0 ∧ tm_pop (tm_np y2) st [] = some (as0, .ref k :: rest) ∧ y2 < 259 ∧ tm_st y2 = false ∧ tm_isC G k (tm_ci y2) = true ∧ (rest.map fun v => v.category).sum ≤ 8 ∧ (tm_ent y2 (.ref k :: as0)).length ≤ tm_mx y2) ∨
    (∃ x wp nest, tm_lk (tm_ML (tm_ci y)) x = some (y2, wp, nest) ∧ decode (tm_cd y) pc = .ok (.invokestatic x, 3) ∧ len = 3 ∧ tm_pop (tm_np y2) st [] = some (as, rest) ∧ y2 < 259 ∧ tm_st y2 = true ∧ (rest.map fun v => v.category).sum ≤ 8 ∧ (tm_ent y2 as).length ≤ tm_mx y2) := by
  unfold tm_nrm at hn
  split at hn
  · cases hn
    first | (simp only [tm_ctl, reduceCtorEq] at hs; done) | (simp only [tm_ctl] at hs; cases hs; done) | (simp only [tm_ctl] at hs; split at hs <;> first | (cases hs; done) | (split at hs <;> first | (cases hs; done) | (split at hs <;> cases hs; done)))
  · cases hn
    first | (simp only [tm_ctl, reduceCtorEq] at hs; done) | (simp only [tm_ctl] at hs; cases hs; done) | (simp only [tm_ctl] at hs; split at hs <;> first | (cases hs; done) | (split at hs <;> first | (cases hs; done) | (split at hs <;> cases hs; done)))
  · cases hn
    first | (simp only [tm_ctl, reduceCtorEq] at hs; done) | (simp only [tm_ctl] at hs; cases hs; done) | (simp only [tm_ctl] at hs; split at hs <;> first | (cases hs; done) | (split at hs <;> first | (cases hs; done) | (split at hs <;> cases hs; done)))
  · cases hn
    first | (simp only [tm_ctl, reduceCtorEq] at hs; done) | (simp only [tm_ctl] at hs; cases hs; done) | (simp only [tm_ctl] at hs; split at hs <;> first | (cases hs; done) | (split at hs <;> first | (cases hs; done) | (split at hs <;> cases hs; done)))
  · cases hn
    first | (simp only [tm_ctl, reduceCtorEq] at hs; done) | (simp only [tm_ctl] at hs; cases hs; done) | (simp only [tm_ctl] at hs; split at hs <;> first | (cases hs; done) | (split at hs <;> first | (cases hs; done) | (split at hs <;> cases hs; done)))
  · cases hn
    first | (simp only [tm_ctl, reduceCtorEq] at hs; done) | (simp only [tm_ctl] at hs; cases hs; done) | (simp only [tm_ctl] at hs; split at hs <;> first | (cases hs; done) | (split at hs <;> first | (cases hs; done) | (split at hs <;> cases hs; done)))
  · cases hn
    first | (simp only [tm_ctl, reduceCtorEq] at hs; done) | (simp only [tm_ctl] at hs; cases hs; done) | (simp only [tm_ctl] at hs; split at hs <;> first | (cases hs; done) | (split at hs <;> first | (cases hs; done) | (split at hs <;> cases hs; done)))
  · cases hn
    first | (simp only [tm_ctl, reduceCtorEq] at hs; done) | (simp only [tm_ctl] at hs; cases hs; done) | (simp only [tm_ctl] at hs; split at hs <;> first | (cases hs; done) | (split at hs <;> first | (cases hs; done) | (split at hs <;> cases hs; done)))
  · cases hn
    first | (simp only [tm_ctl, reduceCtorEq] at hs; done) | (simp only [tm_ctl] at hs; cases hs; done) | (simp only [tm_ctl] at hs; split at hs <;> first | (cases hs; done) | (split at hs <;> first | (cases hs; done) | (split at hs <;> cases hs; done)))
  · cases hn
    first | (simp only [tm_ctl, reduceCtorEq] at hs; done) | (simp only [tm_ctl] at hs; cases hs; done) | (simp only [tm_ctl] at hs; split at hs <;> first | (cases hs; done) | (split at hs <;> first | (cases hs; done) | (split at hs <;> cases hs; done)))
  · cases hn
    first | (simp only [tm_ctl, reduceCtorEq] at hs; done) | (simp only [tm_ctl] at hs; cases hs; done) | (simp only [tm_ctl] at hs; split at hs <;> first | (cases hs; done) | (split at hs <;> first | (cases hs; done) | (split at hs <;> cases hs; done)))
  · cases hn
    first | (simp only [tm_ctl, reduceCtorEq] at hs; done) | (simp only [tm_ctl] at hs; cases hs; done) | (simp only [tm_ctl] at hs; split at hs <;> first | (cases hs; done) | (split at hs <;> first | (cases hs; done) | (split at hs <;> cases hs; done)))
  · cases hn
    first | (simp only [tm_ctl, reduceCtorEq] at hs; done) | (simp only [tm_ctl] at hs; cases hs; done) | (simp only [tm_ctl] at hs; split at hs <;> first | (cases hs; done) | (split at hs <;> first | (cases hs; done) | (split at hs <;> cases hs; done)))
  · cases hn
    first | (simp only [tm_ctl, reduceCtorEq] at hs; done) | (simp only [tm_ctl] at hs; cases hs; done) | (simp only [tm_ctl] at hs; split at hs <;> first | (cases hs; done) | (split at hs <;> first | (cases hs; done) | (split at hs <;> cases hs; done)))
  · split at hn
    · cases hn; first | (simp only [tm_ctl, reduceCtorEq] at hs; done) | (simp only [tm_ctl] at hs; cases hs; done) | (simp only [tm_ctl] at hs; split at hs <;> first | (cases hs; done) | (split at hs <;> first | (cases hs; done) | (split at hs <;> cases hs; done)))
    · cases hn
  · split at hn
    · cases hn; first | (simp only [tm_ctl, reduceCtorEq] at hs; done) | (simp only [tm_ctl] at hs; cases hs; done) | (simp only [tm_ctl] at hs; split at hs <;> first | (cases hs; done) | (split at hs <;> first | (cases hs; done) | (split at hs <;> cases hs; done)))
    · cases hn
  · obtain ⟨q, h1, h2⟩ := Option.map_eq_some_iff.mp hn
    cases h2
    first | (simp only [tm_ctl, reduceCtorEq] at hs; done) | (simp only [tm_ctl] at hs; cases hs; done) | (simp only [tm_ctl] at hs; split at hs <;> first | (cases hs; done) | (split at hs <;> first | (cases hs; done) | (split at hs <;> cases hs; done)))
  · obtain ⟨q, h1, h2⟩ := Option.map_eq_some_iff.mp hn
    cases h2
    first | (simp only [tm_ctl, reduceCtorEq] at hs; done) | (simp only [tm_ctl] at hs; cases hs; done) | (simp only [tm_ctl] at hs; split at hs <;> first | (cases hs; done) | (split at hs <;> first | (cases hs; done) | (split at hs <;> cases hs; done)))
  · cases hn
    first | (simp only [tm_ctl, reduceCtorEq] at hs; done) | (simp only [tm_ctl] at hs; cases hs; done) | (simp only [tm_ctl] at hs; split at hs <;> first | (cases hs; done) | (split at hs <;> first | (cases hs; done) | (split at hs <;> cases hs; done)))
  · obtain ⟨q, h1, h2⟩ := Option.map_eq_some_iff.mp hn
    cases h2
    first | (simp only [tm_ctl, reduceCtorEq] at hs; done) | (simp only [tm_ctl] at hs; cases hs; done) | (simp only [tm_ctl] at hs; split at hs <;> first | (cases hs; done) | (split at hs <;> first | (cases hs; done) | (split at hs <;> cases hs; done)))
  · obtain ⟨q, h1, h2⟩ := Option.map_eq_some_iff.mp hn
    cases h2
    first | (simp only [tm_ctl, reduceCtorEq] at hs; done) | (simp only [tm_ctl] at hs; cases hs; done) | (simp only [tm_ctl] at hs; split at hs <;> first | (cases hs; done) | (split at hs <;> first | (cases hs; done) | (split at hs <;> cases hs; done)))
  · split at hn
    · split at hn
      · split at hn
        · cases hn; first | (simp only [tm_ctl, reduceCtorEq] at hs; done) | (simp only [tm_ctl] at hs; cases hs; done) | (simp only [tm_ctl] at hs; split at hs <;> first | (cases hs; done) | (split at hs <;> first | (cases hs; done) | (split at hs <;> cases hs; done)))
        · cases hn
      · cases hn; first | (simp only [tm_ctl, reduceCtorEq] at hs; done) | (simp only [tm_ctl] at hs; cases hs; done) | (simp only [tm_ctl] at hs; split at hs <;> first | (cases hs; done) | (split at hs <;> first | (cases hs; done) | (split at hs <;> cases hs; done)))
    · cases hn
  · obtain ⟨q, h1, h2⟩ := Option.map_eq_some_iff.mp hn
    cases h2
    first | (simp only [tm_ctl, reduceCtorEq] at hs; done) | (simp only [tm_ctl] at hs; cases hs; done) | (simp only [tm_ctl] at hs; split at hs <;> first | (cases hs; done) | (split at hs <;> first | (cases hs; done) | (split at hs <;> cases hs; done)))
  · obtain ⟨q, h1, h2⟩ := Option.map_eq_some_iff.mp hn
    cases h2
    obtain rfl : len = _ := hlen.resolve_left (by simp [tm_len])
    obtain ⟨q, wp, nest⟩ := q
    simp only [tm_ctl] at hs
    obtain ⟨k, as0, rest0, hA, hp, hr⟩ := tm_inv_sh hs
    cases hA
    exact Or.inl ⟨_, wp, nest, k, as0, h1, hd, rfl, rfl, hp, hr⟩
  · obtain ⟨q, h1, h2⟩ := Option.map_eq_some_iff.mp hn
    cases h2
    obtain rfl : len = _ := hlen.resolve_left (by simp [tm_len])
    obtain ⟨q, wp, nest⟩ := q
    simp only [tm_ctl] at hs
    split at hs
    · cases hs
    · obtain ⟨k, as0, rest0, hA, hp, hr⟩ := tm_inv_sh hs
      cases hA
      exact Or.inr (Or.inl ⟨_, wp, nest, k, as0, h1, hd, rfl, rfl, hp, hr⟩)
  · obtain ⟨q, h1, h2⟩ := Option.map_eq_some_iff.mp hn
    cases h2
    obtain rfl : len = _ := hlen.resolve_left (by simp [tm_len])
    obtain ⟨q, wp, nest⟩ := q
    simp only [tm_ctl] at hs
    split at hs
    · cases hs
    · obtain ⟨as0, rest0, hA, hp, hr⟩ := tm_ins_sh hs
      cases hA
      exact Or.inr (Or.inr ⟨_, wp, nest, h1, hd, rfl, hp, hr⟩)
  · obtain ⟨q, h1, h2⟩ := Option.map_eq_some_iff.mp hn
    cases h2
    first | (simp only [tm_ctl, reduceCtorEq] at hs; done) | (simp only [tm_ctl] at hs; cases hs; done) | (simp only [tm_ctl] at hs; split at hs <;> first | (cases hs; done) | (split at hs <;> first | (cases hs; done) | (split at hs <;> cases hs; done)))
  · split at hn
    · cases hn; first | (simp only [tm_ctl, reduceCtorEq] at hs; done) | (simp only [tm_ctl] at hs; cases hs; done) | (simp only [tm_ctl] at hs; split at hs <;> first | (cases hs; done) | (split at hs <;> first | (cases hs; done) | (split at hs <;> cases hs; done)))
    · cases hn; first | (simp only [tm_ctl, reduceCtorEq] at hs; done) | (simp only [tm_ctl] at hs; cases hs; done) | (simp only [tm_ctl] at hs; split at hs <;> first | (cases hs; done) | (split at hs <;> first | (cases hs; done) | (split at hs <;> cases hs; done)))
    · cases hn
  · cases hn
    first | (simp only [tm_ctl, reduceCtorEq] at hs; done) | (simp only [tm_ctl] at hs; cases hs; done) | (simp only [tm_ctl] at hs; split at hs <;> first | (cases hs; done) | (split at hs <;> first | (cases hs; done) | (split at hs <;> cases hs; done)))
  · cases hn
    first | (simp only [tm_ctl, reduceCtorEq] at hs; done) | (simp only [tm_ctl] at hs; cases hs; done) | (simp only [tm_ctl] at hs; split at hs <;> first | (cases hs; done) | (split at hs <;> first | (cases hs; done) | (split at hs <;> cases hs; done)))
  · cases hn
    first | (simp only [tm_ctl, reduceCtorEq] at hs; done) | (simp only [tm_ctl] at hs; cases hs; done) | (simp only [tm_ctl] at hs; split at hs <;> first | (cases hs; done) | (split at hs <;> first | (cases hs; done) | (split at hs <;> cases hs; done)))
  · cases hn
    first | (simp only [tm_ctl, reduceCtorEq] at hs; done) | (simp only [tm_ctl] at hs; cases hs; done) | (simp only [tm_ctl] at hs; split at hs <;> first | (cases hs; done) | (split at hs <;> first | (cases hs; done) | (split at hs <;> cases hs; done)))
  · cases hn
    first | (simp only [tm_ctl, reduceCtorEq] at hs; done) | (simp only [tm_ctl] at hs; cases hs; done) | (simp only [tm_ctl] at hs; split at hs <;> first | (cases hs; done) | (split at hs <;> first | (cases hs; done) | (split at hs <;> cases hs; done)))
  · split at hn
    · cases hn; first | (simp only [tm_ctl, reduceCtorEq] at hs; done) | (simp only [tm_ctl] at hs; cases hs; done) | (simp only [tm_ctl] at hs; split at hs <;> first | (cases hs; done) | (split at hs <;> first | (cases hs; done) | (split at hs <;> cases hs; done)))
    · cases hn
  · split at hn
    · cases hn; first | (simp only [tm_ctl, reduceCtorEq] at hs; done) | (simp only [tm_ctl] at hs; cases hs; done) | (simp only [tm_ctl] at hs; split at hs <;> first | (cases hs; done) | (split at hs <;> first | (cases hs; done) | (split at hs <;> cases hs; done)))
    · split at hn
      · cases hn; first | (simp only [tm_ctl, reduceCtorEq] at hs; done) | (simp only [tm_ctl] at hs; cases hs; done) | (simp only [tm_ctl] at hs; split at hs <;> first | (cases hs; done) | (split at hs <;> first | (cases hs; done) | (split at hs <;> cases hs; done)))
      · cases hn
  · split at hn
    · cases hn; first | (simp only [tm_ctl, reduceCtorEq] at hs; done) | (simp only [tm_ctl] at hs; cases hs; done) | (simp only [tm_ctl] at hs; split at hs <;> first | (cases hs; done) | (split at hs <;> first | (cases hs; done) | (split at hs <;> cases hs; done)))
    · cases hn
  · split at hn
    · cases hn; first | (simp only [tm_ctl, reduceCtorEq] at hs; done) | (simp only [tm_ctl] at hs; cases hs; done) | (simp only [tm_ctl] at hs; split at hs <;> first | (cases hs; done) | (split at hs <;> first | (cases hs; done) | (split at hs <;> cases hs; done)))
    · cases hn
  · cases hn
    first | (simp only [tm_ctl, reduceCtorEq] at hs; done) | (simp only [tm_ctl] at hs; cases hs; done) | (simp only [tm_ctl] at hs; split at hs <;> first | (cases hs; done) | (split at hs <;> first | (cases hs; done) | (split at hs <;> cases hs; done)))
  · cases hn
    first | (simp only [tm_ctl, reduceCtorEq] at hs; done) | (simp only [tm_ctl] at hs; cases hs; done) | (simp only [tm_ctl] at hs; split at hs <;> first | (cases hs; done) | (split at hs <;> first | (cases hs; done) | (split at hs <;> cases hs; done)))
  · cases hn
    first | (simp only [tm_ctl, reduceCtorEq] at hs; done) | (simp only [tm_ctl] at hs; cases hs; done) | (simp only [tm_ctl] at hs; split at hs <;> first | (cases hs; done) | (split at hs <;> first | (cases hs; done) | (split at hs <;> cases hs; done)))
  · cases hn
    first | (simp only [tm_ctl, reduceCtorEq] at hs; done) | (simp only [tm_ctl] at hs; cases hs; done) | (simp only [tm_ctl] at hs; split at hs <;> first | (cases hs; done) | (split at hs <;> first | (cases hs; done) | (split at hs <;> cases hs; done)))
  · cases hn
    first | (simp only [tm_ctl, reduceCtorEq] at hs; done) | (simp only [tm_ctl] at hs; cases hs; done) | (simp only [tm_ctl] at hs; split at hs <;> first | (cases hs; done) | (split at hs <;> first | (cases hs; done) | (split at hs <;> cases hs; done)))
  · cases hn
    first | (simp only [tm_ctl, reduceCtorEq] at hs; done) | (simp only [tm_ctl] at hs; cases hs; done) | (simp only [tm_ctl] at hs; split at hs <;> first | (cases hs; done) | (split at hs <;> first | (cases hs; done) | (split at hs <;> cases hs; done)))
  · cases hn
    first | (simp only [tm_ctl, reduceCtorEq] at hs; done) | (simp only [tm_ctl] at hs; cases hs; done) | (simp only [tm_ctl] at hs; split at hs <;> first | (cases hs; done) | (split at hs <;> first | (cases hs; done) | (split at hs <;> cases hs; done)))
  · cases hn
    first | (simp only [tm_ctl, reduceCtorEq] at hs; done) | (simp only [tm_ctl] at hs; cases hs; done) | (simp only [tm_ctl] at hs; split at hs <;> first | (cases hs; done) | (split at hs <;> first | (cases hs; done) | (split at hs <;> cases hs; done)))
  · cases hn
    first | (simp only [tm_ctl, reduceCtorEq] at hs; done) | (simp only [tm_ctl] at hs; cases hs; done) | (simp only [tm_ctl] at hs; split at hs <;> first | (cases hs; done) | (split at hs <;> first | (cases hs; done) | (split at hs <;> cases hs; done)))
  · cases hn
    first | (simp only [tm_ctl, reduceCtorEq] at hs; done) | (simp only [tm_ctl] at hs; cases hs; done) | (simp only [tm_ctl] at hs; split at hs <;> first | (cases hs; done) | (split at hs <;> first | (cases hs; done) | (split at hs <;> cases hs; done)))
  · cases hn
    first | (simp only [tm_ctl, reduceCtorEq] at hs; done) | (simp only [tm_ctl] at hs; cases hs; done) | (simp only [tm_ctl] at hs; split at hs <;> first | (cases hs; done) | (split at hs <;> first | (cases hs; done) | (split at hs <;> cases hs; done)))
  · cases hn
    first | (simp only [tm_ctl, reduceCtorEq] at hs; done) | (simp only [tm_ctl] at hs; cases hs; done) | (simp only [tm_ctl] at hs; split at hs <;> first | (cases hs; done) | (split at hs <;> first | (cases hs; done) | (split at hs <;> cases hs; done)))
  · cases hn
    first | (simp only [tm_ctl, reduceCtorEq] at hs; done) | (simp only [tm_ctl] at hs; cases hs; done) | (simp only [tm_ctl] at hs; split at hs <;> first | (cases hs; done) | (split at hs <;> first | (cases hs; done) | (split at hs <;> cases hs; done)))
  · cases hn
    first | (simp only [tm_ctl, reduceCtorEq] at hs; done) | (simp only [tm_ctl] at hs; cases hs; done) | (simp only [tm_ctl] at hs; split at hs <;> first | (cases hs; done) | (split at hs <;> first | (cases hs; done) | (split at hs <;> cases hs; done)))
  · cases hn
    first | (simp only [tm_ctl, reduceCtorEq] at hs; done) | (simp only [tm_ctl] at hs; cases hs; done) | (simp only [tm_ctl] at hs; split at hs <;> first | (cases hs; done) | (split at hs <;> first | (cases hs; done) | (split at hs <;> cases hs; done)))
  · cases hn
    first | (simp only [tm_ctl, reduceCtorEq] at hs; done) | (simp only [tm_ctl] at hs; cases hs; done) | (simp only [tm_ctl] at hs; split at hs <;> first | (cases hs; done) | (split at hs <;> first | (cases hs; done) | (split at hs <;> cases hs; done)))
  · cases hn
    first | (simp only [tm_ctl, reduceCtorEq] at hs; done) | (simp only [tm_ctl] at hs; cases hs; done) | (simp only [tm_ctl] at hs; split at hs <;> first | (cases hs; done) | (split at hs <;> first | (cases hs; done) | (split at hs <;> cases hs; done)))
  · cases hn
    first | (simp only [tm_ctl, reduceCtorEq] at hs; done) | (simp only [tm_ctl] at hs; cases hs; done) | (simp only [tm_ctl] at hs; split at hs <;> first | (cases hs; done) | (split at hs <;> first | (cases hs; done) | (split at hs <;> cases hs; done)))
  · cases hn
    first | (simp only [tm_ctl, reduceCtorEq] at hs; done) | (simp only [tm_ctl] at hs; cases hs; done) | (simp only [tm_ctl] at hs; split at hs <;> first | (cases hs; done) | (split at hs <;> first | (cases hs; done) | (split at hs <;> cases hs; done)))
  · cases hn
    first | (simp only [tm_ctl, reduceCtorEq] at hs; done) | (simp only [tm_ctl] at hs; cases hs; done) | (simp only [tm_ctl] at hs; split at hs <;> first | (cases hs; done) | (split at hs <;> first | (cases hs; done) | (split at hs <;> cases hs; done)))
  · cases hn
    first | (simp only [tm_ctl, reduceCtorEq] at hs; done) | (simp only [tm_ctl] at hs; cases hs; done) | (simp only [tm_ctl] at hs; split at hs <;> first | (cases hs; done) | (split at hs <;> first | (cases hs; done) | (split at hs <;> cases hs; done)))
  · cases hn
    first | (simp only [tm_ctl, reduceCtorEq] at hs; done) | (simp only [tm_ctl] at hs; cases hs; done) | (simp only [tm_ctl] at hs; split at hs <;> first | (cases hs; done) | (split at hs <;> first | (cases hs; done) | (split at hs <;> cases hs; done)))
  · cases hn
    first | (simp only [tm_ctl, reduceCtorEq] at hs; done) | (simp only [tm_ctl] at hs; cases hs; done) | (simp only [tm_ctl] at hs; split at hs <;> first | (cases hs; done) | (split at hs <;> first | (cases hs; done) | (split at hs <;> cases hs; done)))
  · cases hn
    first | (simp only [tm_ctl, reduceCtorEq] at hs; done) | (simp only [tm_ctl] at hs; cases hs; done) | (simp only [tm_ctl] at hs; split at hs <;> first | (cases hs; done) | (split at hs <;> first | (cases hs; done) | (split at hs <;> cases hs; done)))
  · cases hn
    first | (simp only [tm_ctl, reduceCtorEq] at hs; done) | (simp only [tm_ctl] at hs; cases hs; done) | (simp only [tm_ctl] at hs; split at hs <;> first | (cases hs; done) | (split at hs <;> first | (cases hs; done) | (split at hs <;> cases hs; done)))
  · cases hn
    first | (simp only [tm_ctl, reduceCtorEq] at hs; done) | (simp only [tm_ctl] at hs; cases hs; done) | (simp only [tm_ctl] at hs; split at hs <;> first | (cases hs; done) | (split at hs <;> first | (cases hs; done) | (split at hs <;> cases hs; done)))
  · cases hn
    first | (simp only [tm_ctl, reduceCtorEq] at hs; done) | (simp only [tm_ctl] at hs; cases hs; done) | (simp only [tm_ctl] at hs; split at hs <;> first | (cases hs; done) | (split at hs <;> first | (cases hs; done) | (split at hs <;> cases hs; done)))
  · cases hn
    first | (simp only [tm_ctl, reduceCtorEq] at hs; done) | (simp only [tm_ctl] at hs; cases hs; done) | (simp only [tm_ctl] at hs; split at hs <;> first | (cases hs; done) | (split at hs <;> first | (cases hs; done) | (split at hs <;> cases hs; done)))
  · cases hn
    first | (simp only [tm_ctl, reduceCtorEq] at hs; done) | (simp only [tm_ctl] at hs; cases hs; done) | (simp only [tm_ctl] at hs; split at hs <;> first | (cases hs; done) | (split at hs <;> first | (cases hs; done) | (split at hs <;> cases hs; done)))
  · cases hn
    first | (simp only [tm_ctl, reduceCtorEq] at hs; done) | (simp only [tm_ctl] at hs; cases hs; done) | (simp only [tm_ctl] at hs; split at hs <;> first | (cases hs; done) | (split at hs <;> first | (cases hs; done) | (split at hs <;> cases hs; done)))
  · cases hn
    first | (simp only [tm_ctl, reduceCtorEq] at hs; done) | (simp only [tm_ctl] at hs; cases hs; done) | (simp only [tm_ctl] at hs; split at hs <;> first | (cases hs; done) | (split at hs <;> first | (cases hs; done) | (split at hs <;> cases hs; done)))
  · cases hn
    first | (simp only [tm_ctl, reduceCtorEq] at hs; done) | (simp only [tm_ctl] at hs; cases hs; done) | (simp only [tm_ctl] at hs; split at hs <;> first | (cases hs; done) | (split at hs <;> first | (cases hs; done) | (split at hs <;> cases hs; done)))
  · cases hn
    first | (simp only [tm_ctl, reduceCtorEq] at hs; done) | (simp only [tm_ctl] at hs; cases hs; done) | (simp only [tm_ctl] at hs; split at hs <;> first | (cases hs; done) | (split at hs <;> first | (cases hs; done) | (split at hs <;> cases hs; done)))
  · cases hn
    first | (simp only [tm_ctl, reduceCtorEq] at hs; done) | (simp only [tm_ctl] at hs; cases hs; done) | (simp only [tm_ctl] at hs; split at hs <;> first | (cases hs; done) | (split at hs <;> first | (cases hs; done) | (split at hs <;> cases hs; done)))
  · cases hn
end TMJ
