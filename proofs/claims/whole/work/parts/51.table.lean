/-! part 51: tables of the earliest minutes, purely -/
def LG : Int32 := nI 1000000000
/-- ways that are over by a mark -/
def cn (D : Nat → Int32) (m : Nat) : Nat → Nat → Nat
  | 0, _ => 0
  | c + 1, w => (if wT D w ≤ m then 1 else 0) + cn D m c (w + 1)
theorem cn_le (D : Nat → Int32) (m : Nat) : ∀ c w, cn D m c w ≤ c := by
  intro c
  induction c with
  | zero => intro w; exact Nat.le_refl _
  | succ c ih => intro w; unfold cn; have := ih (w + 1); split <;> omega
theorem cn_mono (D : Nat → Int32) {m m' : Nat} (h : m ≤ m') : ∀ c w, cn D m c w ≤ cn D m' c w := by
  intro c
  induction c with
  | zero => intro w; exact Nat.le_refl _
  | succ c ih =>
    intro w
    unfold cn
    have := ih (w + 1)
    by_cases q : wT D w ≤ m
    · rw [if_pos q, if_pos (by omega)]; omega
    · rw [if_neg q]; split <;> omega
theorem cn_strict (D : Nat → Int32) {m m' u : Nat} (h : m ≤ m') (h1 : wT D u ≤ m') (h2 : m < wT D u) : ∀ c w, w ≤ u → u < w + c → cn D m c w + 1 ≤ cn D m' c w := by
  intro c
  induction c with
  | zero => intro w a b; omega
  | succ c ih =>
    intro w a b
    unfold cn
    by_cases q : w = u
    · subst q
      have := cn_mono D h c (w + 1)
      rw [if_neg (by omega), if_pos h1]
      omega
    · have := ih (w + 1) (by omega) (by omega)
      by_cases q2 : wT D w ≤ m
      · rw [if_pos q2, if_pos (by omega)]; omega
      · rw [if_neg q2]; split <;> omega
/-- an entry: never, or a minute by so many ways -/
def okE (D : Nat → Int32) (W k m : Nat) (v : Int32) : Prop := v = LG ∨ ∃ t, v = nI t ∧ t ≤ 100000 + 1400 * m ∧ k ≤ cn D m W 0
def okT (ix : Nat → Nat → Nat) (D : Nat → Int32) (W : Nat) (f : Nat → Int32) : Prop := ∀ k m, k ≤ 12 → m ≤ 24 → okE D W k m (f (ix k m))
/-- places differ -/
def inj (ix : Nat → Nat → Nat) : Prop := ∀ k m k' m', k ≤ 12 → m ≤ 24 → k' ≤ 12 → m' ≤ 24 → ix k m = ix k' m' → k = k' ∧ m = m'
def ixc (k m : Nat) : Nat := k * 25 + m
def ixr (k m : Nat) : Nat := 13 * m + k
theorem inj_c : inj ixc := fun k m k' m' a b c d e => by unfold ixc at e; omega
theorem inj_r : inj ixr := fun k m k' m' a b c d e => by unfold ixr at e; omega
theorem okE_mn {D : Nat → Int32} {W k m t : Nat} {v : Int32} (h : okE D W k m v) (ht : t ≤ 100000 + 1400 * m) (hk : k ≤ cn D m W 0) : okE D W k m (mnI v (nI t)) := by
  unfold mnI
  split
  · exact Or.inr ⟨t, rfl, ht, hk⟩
  · exact h
def gW (ix : Nat → Nat → Nat) (D : Nat → Int32) (lim kx m k t : Nat) : Nat → Nat → (Nat → Int32) → (Nat → Int32)
  | 0, _, f => f
  | c + 1, w, f => gW ix D lim kx m k t c (w + 1) (if wF D w = m ∧ wT D w ≤ lim ∧ k < kx then upd f (ix (k + 1) (wT D w)) (mnI (f (ix (k + 1) (wT D w))) (nI (lvN D w t + wM D w))) else f)
def gF (ix : Nat → Nat → Nat) (v m k t : Nat) (f : Nat → Int32) : Nat → Int32 := if 0 < v then upd f (ix k (m + 1)) (mnI (f (ix k (m + 1))) (nI (t + v))) else f
def gS (ix : Nat → Nat → Nat) (D : Nat → Int32) (W lim kx v m k : Nat) (f : Nat → Int32) : Nat → Int32 := if f (ix k m) = LG then f else gW ix D lim kx m k (f (ix k m)).toNatClampNeg W 0 (gF ix v m k (f (ix k m)).toNatClampNeg f)
def gK (ix : Nat → Nat → Nat) (D : Nat → Int32) (W lim kx v m : Nat) : Nat → Nat → (Nat → Int32) → (Nat → Int32)
  | 0, _, f => f
  | c + 1, k, f => gK ix D W lim kx v m c (k + 1) (gS ix D W lim kx v m k f)
def gM (ix : Nat → Nat → Nat) (D : Nat → Int32) (W lim kx v K : Nat) : Nat → Nat → (Nat → Int32) → (Nat → Int32)
  | 0, _, f => f
  | c + 1, m, f => gM ix D W lim kx v K c (m + 1) (gK ix D W lim kx v m K 0 f)
section TMY
variable {D : Nat → Int32} {n W lim kx v : Nat} {ix : Nat → Nat → Nat}
theorem okT_up (hx : inj ix) {f : Nat → Int32} {k m : Nat} {y : Int32} (h : okT ix D W f) (hk : k ≤ 12) (hm : m ≤ 24) (hy : okE D W k m y) : okT ix D W (upd f (ix k m) y) := by
  intro k' m' h1 h2
  by_cases q : ix k' m' = ix k m
  · obtain ⟨rfl, rfl⟩ := hx k' m' k m h1 h2 hk hm q
    rw [upd_s]
    exact hy
  · rw [upd_n q]
    exact h k' m' h1 h2
theorem gW_ok (hx : inj ix) (kW : tm_kW D n W) (hn : n ≤ 24) (hkx : kx ≤ 12) {m k t : Nat} (hm : m < 24) (hk : k ≤ 12) (ht : t ≤ 100000 + 1400 * m) (hc : k ≤ cn D m W 0) : ∀ c w f, w + c = W → okT ix D W f → okT ix D W (gW ix D lim kx m k t c w f) := by
  intro c
  induction c with
  | zero => intro w f _ h; exact h
  | succ c ih =>
    intro w f hw h
    unfold gW
    refine ih (w + 1) _ (by omega) ?_
    by_cases q : wF D w = m ∧ wT D w ≤ lim ∧ k < kx
    · rw [if_pos q]
      obtain ⟨h1, h2, h3, h4, h5, h6, h7, h8, h9⟩ := wv kW hn (w := w) (by omega)
      have hl := lvN_le (t := t) kW hn (w := w) (by omega)
      have hs := cn_strict D (m := m) (m' := wT D w) (u := w) (by omega) (Nat.le_refl _) (by omega) W 0 (by omega) (by omega)
      exact okT_up hx h (by omega) (by omega) (okE_mn (h (k + 1) (wT D w) (by omega) (by omega)) (by omega) (by omega))
    · rw [if_neg q]
      exact h
theorem gF_ok (hx : inj ix) (hv : v ≤ 60) {m k t : Nat} {f : Nat → Int32} (hm : m < 24) (hk : k ≤ 12) (ht : t ≤ 100000 + 1400 * m) (hc : k ≤ cn D m W 0) (h : okT ix D W f) : okT ix D W (gF ix v m k t f) := by
  unfold gF
  split
  · exact okT_up hx h hk (by omega) (okE_mn (h k (m + 1) hk (by omega)) (by omega) (Nat.le_trans hc (cn_mono D (Nat.le_succ m) W 0)))
  · exact h
theorem okE_t {m k : Nat} {y : Int32} (hm : m ≤ 24) (h : okE D W k m y) (q : ¬ y = LG) : y = nI y.toNatClampNeg ∧ y.toNatClampNeg ≤ 100000 + 1400 * m ∧ k ≤ cn D m W 0 := by
  obtain ⟨t, rfl, h1, h2⟩ := h.resolve_left q
  rw [nI_clamp (by omega)]
  exact ⟨rfl, h1, h2⟩
theorem gS_ok (hx : inj ix) (kW : tm_kW D n W) (hn : n ≤ 24) (hkx : kx ≤ 12) (hv : v ≤ 60) {m k : Nat} {f : Nat → Int32} (hm : m < 24) (hk : k ≤ 12) (h : okT ix D W f) : okT ix D W (gS ix D W lim kx v m k f) := by
  unfold gS
  by_cases q : f (ix k m) = LG
  · rw [if_pos q]; exact h
  · rw [if_neg q]
    obtain ⟨_, h1, h2⟩ := okE_t (by omega) (h k m hk (by omega)) q
    exact gW_ok hx kW hn hkx hm hk h1 h2 W 0 _ (by omega) (gF_ok hx hv hm hk h1 h2 h)
theorem gK_ok (hx : inj ix) (kW : tm_kW D n W) (hn : n ≤ 24) (hkx : kx ≤ 12) (hv : v ≤ 60) {m : Nat} (hm : m < 24) : ∀ c k f, k + c ≤ 13 → okT ix D W f → okT ix D W (gK ix D W lim kx v m c k f) := by
  intro c
  induction c with
  | zero => intro k f _ h; exact h
  | succ c ih =>
    intro k f hk h
    exact ih (k + 1) _ (by omega) (gS_ok hx kW hn hkx hv hm (by omega) h)
theorem gM_ok (hx : inj ix) (kW : tm_kW D n W) (hn : n ≤ 24) (hkx : kx ≤ 12) (hv : v ≤ 60) {K : Nat} (hK : K ≤ 13) : ∀ c m f, m + c ≤ 24 → okT ix D W f → okT ix D W (gM ix D W lim kx v K c m f) := by
  intro c
  induction c with
  | zero => intro m f _ h; exact h
  | succ c ih =>
    intro m f hm h
    exact ih (m + 1) _ (by omega) (gK_ok hx kW hn hkx hv (by omega) K 0 _ (by omega) h)
/-! both tables tell the same up to a mark -/
def sam (to : Nat) (f g : Nat → Int32) : Prop := ∀ k m, k ≤ 12 → m ≤ to → f (ixc k m) = g (ixr k m)
theorem sam_up {to k m : Nat} {f g : Nat → Int32} {y : Int32} (hto : to ≤ 24) (h : sam to f g) (hk : k ≤ 12) (hm : m ≤ to) : sam to (upd f (ixc k m) y) (upd g (ixr k m) y) := by
  intro k' m' h1 h2
  by_cases q : k' = k ∧ m' = m
  · obtain ⟨rfl, rfl⟩ := q
    rw [upd_s, upd_s]
  · rw [upd_n (fun z => q (inj_c _ _ _ _ h1 (by omega) hk (by omega) z)), upd_n (fun z => q (inj_r _ _ _ _ h1 (by omega) hk (by omega) z))]
    exact h k' m' h1 h2
theorem sam_c {to k m : Nat} {f g : Nat → Int32} {y : Int32} (h : sam to f g) (hk : k ≤ 12) (hm : to < m) (hm2 : m ≤ 24) : sam to (upd f (ixc k m) y) g := by
  intro k' m' h1 h2
  rw [upd_n (fun z => by have := inj_c _ _ _ _ h1 (by omega) hk hm2 z; omega)]
  exact h k' m' h1 h2
theorem sam_W (kW : tm_kW D n W) (hn : n ≤ 24) (hW : W ≤ 12) {to m k t : Nat} (hto : to ≤ n) (hm : m < to) (hk : k < W) : ∀ c w f g, w + c = W → sam to f g → sam to (gW ixc D 24 W m k t c w f) (gW ixr D to 12 m k t c w g) := by
  intro c
  induction c with
  | zero => intro w f g _ h; exact h
  | succ c ih =>
    intro w f g hw h
    obtain ⟨h1, h2, h3, h4, h5, h6, h7, h8, h9⟩ := wv kW hn (w := w) (by omega)
    unfold gW
    refine ih (w + 1) _ _ (by omega) ?_
    by_cases q : wF D w = m
    · rw [if_pos ⟨q, by omega, hk⟩]
      by_cases q2 : wT D w ≤ to
      · rw [if_pos ⟨q, q2, by omega⟩, h (k + 1) (wT D w) (by omega) q2]
        exact sam_up (by omega) h (by omega) q2
      · rw [if_neg (fun z => q2 z.2.1)]
        exact sam_c h (by omega) (by omega) (by omega)
    · rw [if_neg (fun z => q z.1), if_neg (fun z => q z.1)]
      exact h
/-- no way begins: nothing changes -/
theorem gW_no {m k t : Nat} : ∀ c w f, (∀ u, w ≤ u → u < w + c → wF D u = m → wT D u ≤ lim → k < kx → False) → gW ix D lim kx m k t c w f = f := by
  intro c
  induction c with
  | zero => intro w f _; rfl
  | succ c ih =>
    intro w f h
    unfold gW
    rw [if_neg (fun z => h w (by omega) (by omega) z.1 z.2.1 z.2.2)]
    exact ih (w + 1) f (fun u a b => h u (by omega) (by omega))
theorem sam_S (kW : tm_kW D n W) (hn : n ≤ 24) (hW : W ≤ 12) {to m k : Nat} {f g : Nat → Int32} (hto : to ≤ n) (hm : m < to) (hk : k ≤ W) (hf : okT ixc D W f) (h : sam to f g) : sam to (gS ixc D W 24 W v m k f) (gS ixr D W to 12 v m k g) := by
  unfold gS
  have e := h k m (by omega) (by omega)
  by_cases q : f (ixc k m) = LG
  · rw [if_pos q, if_pos (by rw [← e]; exact q)]
    exact h
  · rw [if_neg q, if_neg (by rw [← e]; exact q), ← e]
    obtain ⟨_, h1, h2⟩ := okE_t (by omega) (hf k m (by omega) (by omega)) q
    have hF : sam to (gF ixc v m k (f (ixc k m)).toNatClampNeg f) (gF ixr v m k (f (ixc k m)).toNatClampNeg g) := by
      unfold gF
      by_cases q2 : 0 < v
      · rw [if_pos q2, if_pos q2, h k (m + 1) (by omega) (by omega)]
        exact sam_up (by omega) h (by omega) (by omega)
      · rw [if_neg q2, if_neg q2]
        exact h
    by_cases q3 : k < W
    · exact sam_W kW hn hW hto hm q3 W 0 _ _ (by omega) hF
    · rw [gW_no W 0 _ (fun u a b _ _ z => q3 z), gW_no W 0 _ (fun u a b z1 _ _ => ?_)]
      · exact hF
      · obtain ⟨_, _, _, _, h5, h6, _⟩ := wv kW hn (w := u) (by omega)
        have := cn_strict D (m := m) (m' := 24) (u := u) (by omega) (by omega) (by omega) W 0 (by omega) (by omega)
        have := cn_le D 24 W 0
        omega
theorem gS_big {m k : Nat} {f : Nat → Int32} (hf : okT ix D W f) (hm : m ≤ 24) (hk : k ≤ 12) (hkW : W < k) : gS ix D W lim kx v m k f = f := by
  unfold gS
  refine if_pos (Classical.byContradiction fun q => ?_)
  obtain ⟨_, _, h2⟩ := okE_t hm (hf k m hk hm) q
  have := cn_le D m W 0
  omega
theorem gK_big (hx : inj ix) {m : Nat} (hm : m ≤ 24) : ∀ c k f, W < k → k + c ≤ 13 → okT ix D W f → gK ix D W lim kx v m c k f = f := by
  intro c
  induction c with
  | zero => intro k f _ _ _; rfl
  | succ c ih =>
    intro k f h1 h2 h
    unfold gK
    rw [gS_big h hm (by omega) h1]
    exact ih (k + 1) f (by omega) (by omega) h
theorem sam_K (kW : tm_kW D n W) (hn : n ≤ 24) (hW : W ≤ 12) (hv : v ≤ 60) {to m : Nat} (hto : to ≤ n) (hm : m < to) : ∀ c k f g, k + c = W + 1 → okT ixc D W f → okT ixr D W g → sam to f g → sam to (gK ixc D W 24 W v m c k f) (gK ixr D W to 12 v m (13 - k) k g) := by
  intro c
  induction c with
  | zero =>
    intro k f g hk hf hg h
    rw [gK_big inj_r (by omega) (13 - k) k g (by omega) (by omega) hg]
    exact h
  | succ c ih =>
    intro k f g hk hf hg h
    rw [show 13 - k = (13 - (k + 1)) + 1 by omega]
    unfold gK
    exact ih (k + 1) _ _ (by omega) (gS_ok inj_c kW hn hW hv (by omega) (by omega) hf) (gS_ok inj_r kW hn (by decide) hv (by omega) (by omega) hg) (sam_S kW hn hW hto hm (by omega) hf h)
theorem sam_M (kW : tm_kW D n W) (hn : n ≤ 24) (hW : W ≤ 12) (hv : v ≤ 60) {to : Nat} (hto : to ≤ n) : ∀ c m f g, m + c = to → okT ixc D W f → okT ixr D W g → sam to f g → sam to (gM ixc D W 24 W v (W + 1) c m f) (gM ixr D W to 12 v 13 c m g) := by
  intro c
  induction c with
  | zero => intro m f g _ _ _ h; exact h
  | succ c ih =>
    intro m f g hm hf hg h
    unfold gM
    exact ih (m + 1) _ _ (by omega) (gK_ok inj_c kW hn hW hv (by omega) (W + 1) 0 f (by omega) hf) (gK_ok inj_r kW hn (by decide) hv (by omega) 13 0 g (by omega) hg) (sam_K kW hn hW hv hto (by omega) (W + 1) 0 f g (by omega) hf hg h)
/-- marks from 'to' on don't touch what lies up to it -/
theorem keep_W (kW : tm_kW D n W) (hn : n ≤ 24) (hW : W ≤ 12) {to m k t : Nat} (hm : to ≤ m) (hk : k < W) : ∀ c w f g, w + c = W → sam to f g → sam to (gW ixc D 24 W m k t c w f) g := by
  intro c
  induction c with
  | zero => intro w f g _ h; exact h
  | succ c ih =>
    intro w f g hw h
    obtain ⟨h1, h2, h3, h4, h5, h6, h7, h8, h9⟩ := wv kW hn (w := w) (by omega)
    unfold gW
    refine ih (w + 1) _ _ (by omega) ?_
    split
    · rename_i q
      exact sam_c h (by omega) (by omega) (by omega)
    · exact h
theorem keep_S (kW : tm_kW D n W) (hn : n ≤ 24) (hW : W ≤ 12) {to m k : Nat} {f g : Nat → Int32} (hm : to ≤ m) (hm2 : m < n) (hk : k ≤ W) (h : sam to f g) : sam to (gS ixc D W 24 W v m k f) g := by
  unfold gS
  split
  · exact h
  · have hF : sam to (gF ixc v m k (f (ixc k m)).toNatClampNeg f) g := by
      unfold gF
      split
      · exact sam_c h (by omega) (by omega) (by omega)
      · exact h
    by_cases q3 : k < W
    · exact keep_W kW hn hW hm q3 W 0 _ _ (by omega) hF
    · rw [gW_no W 0 _ (fun u a b _ _ z => q3 z)]
      exact hF
theorem keep_K (kW : tm_kW D n W) (hn : n ≤ 24) (hW : W ≤ 12) {to m : Nat} (hm : to ≤ m) (hm2 : m < n) : ∀ c k f g, k + c = W + 1 → sam to f g → sam to (gK ixc D W 24 W v m c k f) g := by
  intro c
  induction c with
  | zero => intro k f g _ h; exact h
  | succ c ih =>
    intro k f g hk h
    exact ih (k + 1) _ _ (by omega) (keep_S kW hn hW hm hm2 (by omega) h)
theorem keep_M (kW : tm_kW D n W) (hn : n ≤ 24) (hW : W ≤ 12) {to : Nat} : ∀ c m f g, m + c = n → to ≤ m → sam to f g → sam to (gM ixc D W 24 W v (W + 1) c m f) g := by
  intro c
  induction c with
  | zero => intro m f g _ _ h; exact h
  | succ c ih =>
    intro m f g hm hm2 h
    exact ih (m + 1) _ _ (by omega) (by omega) (keep_K kW hn hW hm2 (by omega) (W + 1) 0 _ _ (by omega) h)
theorem gM_add {K : Nat} : ∀ c e m f, gM ix D W lim kx v K (c + e) m f = gM ix D W lim kx v K e (m + c) (gM ix D W lim kx v K c m f) := by
  intro c
  induction c with
  | zero => intro e m f; rw [Nat.zero_add]; rfl
  | succ c ih =>
    intro e m f
    rw [show c + 1 + e = (c + e) + 1 by omega]
    show gM ix D W lim kx v K (c + e) (m + 1) (gK ix D W lim kx v m K 0 f) = gM ix D W lim kx v K e (m + (c + 1)) (gM ix D W lim kx v K c (m + 1) (gK ix D W lim kx v m K 0 f))
    rw [ih, show m + 1 + c = m + (c + 1) by omega]
theorem sam_all (kW : tm_kW D n W) (hn : n ≤ 24) (hW : W ≤ 12) (hv : v ≤ 60) {fr to : Nat} {f g : Nat → Int32} (hto : to ≤ n) (hfr : fr ≤ to) (hf : okT ixc D W f) (hg : okT ixr D W g) (h : sam to f g) : sam to (gM ixc D W 24 W v (W + 1) (n - fr) fr f) (gM ixr D W to 12 v 13 (to - fr) fr g) := by
  rw [show n - fr = (to - fr) + (n - to) by omega, gM_add, show fr + (to - fr) = to by omega]
  exact keep_M kW hn hW (n - to) to _ _ (by omega) (Nat.le_refl _) (sam_M kW hn hW hv hto (to - fr) fr f g (by omega) hf hg h)
end TMY
