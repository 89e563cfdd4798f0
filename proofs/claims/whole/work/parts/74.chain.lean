/-! part 74: the pure reader without fuel, as a chain of tails -/
section TCH
variable {b : Nat → Int32} {z : Nat}
theorem px_un {k o p : Nat} {bd : Bool} (hz : z ≤ 60) (hp : p ≤ z) (hk : k ≤ 5 ∨ 10 ≤ k ∧ k < 15) : px_P b z px_F k o (p, bd) = px_P b z (px_F + 1) k o (p, bd) := by
  refine (px_fuel px_F k o p bd hp ?_).symm
  unfold px_F
  omega
/-- as many codes as bytes, at most -/
theorem px_len : ∀ f k o p bd, k < 15 → p ≤ z → (px_P b z f k o (p, bd)).2.2 = false → (px_P b z f k o (p, bd)).1.length + p ≤ (px_P b z f k o (p, bd)).2.1 := by
  intro f
  induction f with
  | zero => intro k o p bd hk hp h; exact absurd h (by intro y; cases y)
  | succ f ih =>
    intro k o p bd hk hp
    rw [px_P]
    dsimp only
    by_cases h5 : k = 5
    · rw [if_pos h5]
      by_cases q : px_dg (px_byte b z (p, bd)) = true
      · rw [if_pos q]
        intro _
        have hb := (px_num_b (b := b) (z := z) (bd := bd) 3 (p + 1) (10 * 0 + ((b p).toNatClampNeg - 48))).2.1
        have e : (px_num b z bd 4 p 0) = px_num b z bd 3 (p + 1) (10 * 0 + ((b p).toNatClampNeg - 48)) := by rw [px_num, if_pos q]
        rw [e]
        simp only [List.length_cons, List.length_nil]
        omega
      rw [if_neg q]
      by_cases g : ¬ px_byte b z (p, bd) < nI 97 ∧ ¬ nI 102 < px_byte b z (p, bd)
      · rw [if_pos g]
        intro _
        simp only [List.length_cons, List.length_nil]
        omega
      rw [if_neg g]
      by_cases c3 : px_byte b z (p, bd) = nI 33 ∧ o < 5
      · rw [if_pos c3]
        intro h
        have := ih 5 (o + 1) (p + 1) bd (by decide) (px_at (by decide) c3.1).2.1 h
        simp only [List.length_append, List.length_cons, List.length_nil]
        omega
      rw [if_neg c3]
      by_cases c4 : px_byte b z (p, bd) = nI 40 ∧ o < 5
      · rw [if_pos c4]
        by_cases a : px_byte b z (px_P b z f 0 (o + 1) (p + 1, bd)).2 = nI 41
        · rw [if_pos a]
          intro h
          have := ih 0 (o + 1) (p + 1) bd (by decide) (px_at (by decide) c4.1).2.1 h
          simp only
          omega
        · rw [if_neg a]
          intro h
          cases h
      rw [if_neg c4]
      intro h
      cases h
    rw [if_neg h5]
    by_cases h4 : k < 5
    · rw [if_pos h4]
      intro h
      have e1 := px_b (b := b) f (k + 1) o p bd (by omega) hp
      have e2 := ih (10 + k) o (px_P b z f (k + 1) o (p, bd)).2.1 (px_P b z f (k + 1) o (p, bd)).2.2 (by omega) e1.2
      simp only [p_eta] at e2
      have e3 := e2 h
      have hb : (px_P b z f (k + 1) o (p, bd)).2.2 = false := by
        cases hh : (px_P b z f (k + 1) o (p, bd)).2.2 with
        | false => rfl
        | true =>
          have y := px_bad (b := b) (z := z) f (10 + k) o (px_P b z f (k + 1) o (p, bd)).2.1 (by omega)
          rw [← hh, p_eta] at y
          simp only [y, hh] at h
          exact h
      have e4 := ih (k + 1) o p bd (by omega) hp hb
      simp only [List.length_append]
      omega
    rw [if_neg h4]
    by_cases hl : px_lv (px_byte b z (p, bd)) = k - 10
    · have hpz := (px_lv_at (by omega) hl).2
      rw [if_pos hl]
      by_cases h2 : k = 12
      · rw [if_pos h2]
        intro h
        have := ih 3 o (p + 1) bd (by decide) hpz h
        simp only [List.length_append, List.length_cons, List.length_nil]
        omega
      · rw [if_neg h2]
        intro h
        have e1 := px_b (b := b) f (k - 10 + 1) o (p + 1) bd (by omega) hpz
        have e2 := ih k o (px_P b z f (k - 10 + 1) o (p + 1, bd)).2.1 (px_P b z f (k - 10 + 1) o (p + 1, bd)).2.2 hk e1.2
        simp only [p_eta] at e2
        have e3 := e2 h
        have hb : (px_P b z f (k - 10 + 1) o (p + 1, bd)).2.2 = false := by
          cases hh : (px_P b z f (k - 10 + 1) o (p + 1, bd)).2.2 with
          | false => rfl
          | true =>
            have y := px_bad (b := b) (z := z) f k o (px_P b z f (k - 10 + 1) o (p + 1, bd)).2.1 hk
            rw [← hh, p_eta] at y
            simp only [y, hh] at h
            exact h
        have e4 := ih (k - 10 + 1) o (p + 1) bd (by omega) hpz hb
        simp only [List.length_append, List.length_cons, List.length_nil]
        omega
    · rw [if_neg hl]
      intro _
      simp only [List.length_nil]
      omega
/-- the tails of the levels below n, down to k -/
def px_ch (b : Nat → Int32) (z k o : Nat) : Nat → Nat × Bool → List Int32 × Nat × Bool
  | 0, s => ([], s)
  | n + 1, s => if n < k then ([], s) else ((px_P b z px_F (10 + n) o s).1 ++ (px_ch b z k o n (px_P b z px_F (10 + n) o s).2).1, (px_ch b z k o n (px_P b z px_F (10 + n) o s).2).2)
theorem px_ch_no {k o p : Nat} {bd : Bool} (hz : z ≤ 60) (hp : p ≤ z) : ∀ n, n ≤ 5 → (∀ m, k ≤ m → m < n → ¬ px_lv (px_byte b z (p, bd)) = m) → px_ch b z k o n (p, bd) = ([], (p, bd)) := by
  intro n
  induction n with
  | zero => intro _ _; rfl
  | succ n ih =>
    intro hn h
    rw [px_ch]
    by_cases q : n < k
    · rw [if_pos q]
    · rw [if_neg q, px_un hz hp (by omega), pT_no (k := n) (by omega) rfl (h n (by omega) (by omega))]
      dsimp only
      rw [ih (by omega) (fun m a c => h m a (by omega))]
      rfl
theorem px_ch_yes {k o p m : Nat} {bd : Bool} (hz : z ≤ 60) (hp : p ≤ z) (hk : k ≤ m) (h : px_lv (px_byte b z (p, bd)) = m) : ∀ n, n ≤ 5 → m < n → px_ch b z k o n (p, bd) = ((px_P b z px_F (m + 1) o (p + 1, bd)).1 ++ ([-(px_byte b z (p, bd))] ++ (px_ch b z k o (if m = 2 then 2 else m + 1) (px_P b z px_F (m + 1) o (p + 1, bd)).2).1), (px_ch b z k o (if m = 2 then 2 else m + 1) (px_P b z px_F (m + 1) o (p + 1, bd)).2).2) := by
  intro n
  induction n with
  | zero => intro _ h; omega
  | succ n ih =>
    intro hn hm
    rw [px_ch, if_neg (by omega), px_un hz hp (by omega)]
    by_cases e : n = m
    · subst e
      by_cases h2 : n = 2
      · subst h2
        have eP : px_P b z (px_F + 1) (10 + 2) o (p, bd) = ((px_P b z px_F 3 o (p + 1, bd)).1 ++ [-(px_byte b z (p, bd))], (px_P b z px_F 3 o (p + 1, bd)).2) := by
          rw [px_P, if_neg (by decide), if_neg (by decide), if_pos h, if_pos rfl]
        rw [eP, if_pos rfl]
        dsimp only
        rw [List.append_assoc]
      · rw [if_neg h2, pT_yes (k := n) (k1 := n + 1) (K := 10 + n) (by omega) h2 rfl rfl h]
        dsimp only
        rw [show px_ch b z k o (n + 1) (px_P b z px_F (n + 1) o (p + 1, bd)).2 = _ from rfl, px_ch, if_neg (by omega)]
        simp only [List.append_assoc]
    · rw [pT_no (k := n) (by omega) rfl (by omega)]
      dsimp only
      rw [ih (by omega) (by omega)]
      rfl
/-- a level is a single one and a chain of tails -/
theorem px_lev {k o p : Nat} {bd : Bool} (hz : z ≤ 60) (hp : p ≤ z) (hk : k ≤ 5) : px_P b z px_F k o (p, bd) = ((px_P b z px_F 5 o (p, bd)).1 ++ (px_ch b z k o 5 (px_P b z px_F 5 o (p, bd)).2).1, (px_ch b z k o 5 (px_P b z px_F 5 o (p, bd)).2).2) := by
  have hu : ∀ j, j < 5 → px_P b z px_F j o (p, bd) = ((px_P b z px_F (j + 1) o (p, bd)).1 ++ (px_P b z px_F (10 + j) o (px_P b z px_F (j + 1) o (p, bd)).2).1, (px_P b z px_F (10 + j) o (px_P b z px_F (j + 1) o (p, bd)).2).2) := by
    intro j hj
    rw [px_un hz hp (by omega), pL_eq (k := j) (k1 := j + 1) (K := 10 + j) hj rfl rfl]
  rcases (by omega : k = 0 ∨ k = 1 ∨ k = 2 ∨ k = 3 ∨ k = 4 ∨ k = 5) with rfl | rfl | rfl | rfl | rfl | rfl
  · rw [hu 0 (by decide), hu 1 (by decide), hu 2 (by decide), hu 3 (by decide), hu 4 (by decide)]
    simp [px_ch, List.append_assoc]
  · rw [hu 1 (by decide), hu 2 (by decide), hu 3 (by decide), hu 4 (by decide)]
    simp [px_ch, List.append_assoc]
  · rw [hu 2 (by decide), hu 3 (by decide), hu 4 (by decide)]
    simp [px_ch, List.append_assoc]
  · rw [hu 3 (by decide), hu 4 (by decide)]
    simp [px_ch, List.append_assoc]
  · rw [hu 4 (by decide)]
    simp [px_ch, List.append_assoc]
  · simp [px_ch]
end TCH
