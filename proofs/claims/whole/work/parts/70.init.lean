/-! part 70: what holds behind the constructors -/
theorem i_c : ∀ c, c = 4 ∨ c = 5 ∨ c = 6 ∨ c = 7 ∨ c = 8 ∨ c = 9 ∨ c = 12 ∨ c = 13 ∨ c = 14 ∨ c = 15 ∨ c = 16 ∨ c = 17 ∨ c = 18 ∨ c = 20 ∨ c = 21 ∨ c = 22 ∨ c = 23 ∨ c = 24 ∨ c = 25 ∨ c = 27 ∨ c = 28 ∨ c = 30 ∨ c = 31 ∨ c = 33 ∨ c = 79 ∨ c = 80 ∨ c = 82 ∨ c = 83 ∨ c = 85 ∨ c = 86 ∨ c = 88 ∨ c = 89 ∨ c = 91 ∨ c = 92 ∨ c = 94 ∨ c = 95 ∨ c = 98 ∨ c = 105 ∨ c = 106 ∨ c = 107 ∨ c = 108 ∨ c = 0 → ∀ i, tm_MI c i = nI 0 := by
  rintro c (rfl | rfl | rfl | rfl | rfl | rfl | rfl | rfl | rfl | rfl | rfl | rfl | rfl | rfl | rfl | rfl | rfl | rfl | rfl | rfl | rfl | rfl | rfl | rfl | rfl | rfl | rfl | rfl | rfl | rfl | rfl | rfl | rfl | rfl | rfl | rfl | rfl | rfl | rfl | rfl | rfl | rfl) i <;> exact nI_0.symm
def tm_D0 : Nat → Int32 := upd (upd (fun _ => 0) 2 1) 8 3
theorem i_96 : tm_MI 96 = tm_bg 4 tm_D0 := rfl
theorem i_1 : tm_MI 1 = upd (upd (fun _ => 0) 9 1) 10 3 := rfl
theorem i_2 : tm_MI 2 = upd (upd (upd (fun _ => 0) 0 4) 2 ((1 : Int32) ||| ((1 : Int32) <<< ((4 : Int32) &&& 31)))) 3 0 := rfl
theorem i_D0 {q : Nat} (h2 : q ≠ 2) (h8 : q ≠ 8) : tm_D0 q = nI 0 := by
  unfold tm_D0
  rw [upd_n h8, upd_n h2, nI_0]
theorem i_n {q : Nat} (h : q ≠ 0 ∧ q ≠ 3 ∧ q ≠ 5 ∧ (q < 10 ∨ 59 ≤ q) ∧ (q < 368 ∨ 680 ≤ q)) (h2 : q ≠ 2) (h8 : q ≠ 8) : tm_MI 96 q = nI 0 := by
  rw [i_96, bg_n h, i_D0 h2 h8]
theorem i_4 : (4 : Int32) = nI 4 := by decide +kernel
theorem tm_I0W : tm_W tm_MI 0 (tm_MI 96) := by
  have z0 := fun c hc i => i_c c hc i
  refine ⟨fun c i q hq => ?_, ⟨17, by decide +kernel, by decide, fun m hm => ?_⟩, ⟨0, by rw [show tm_MI (1 + 0) = tm_MI 1 from rfl, i_1]; decide +kernel, by decide, fun s hs => ?_⟩, fun i hi => ⟨0, z0 18 (by omega) i, by decide, i_n (by omega) (by omega) (by omega), i_n (by omega) (by omega) (by omega)⟩, fun i hi => ⟨0, by decide, i_n (by omega) (by omega) (by omega), ?_⟩, ⟨0, by decide, i_n (by omega) (by omega) (by omega), fun _ => z0 27 (by omega) 1, fun q => absurd rfl q, fun k hk => ⟨0, by decide, i_n (by omega) (by omega) (by omega)⟩⟩, ⟨0, by decide, i_n (by omega) (by omega) (by omega), fun _ => z0 30 (by omega) 1, fun q => absurd rfl q, fun k hk => ⟨0, by decide, i_n (by omega) (by omega) (by omega)⟩⟩, ⟨4, by rw [i_96, bg_0]; exact i_4, by decide, fun m a b => ?_⟩⟩
  · show tm_MI c i = _
    rcases tm_ph_oth hq with ⟨rfl, rfl, rfl⟩ | ⟨rfl, rfl, rfl⟩ | ⟨rfl, rfl, rfl⟩ | ⟨rfl, rfl, rfl⟩ | rfl | rfl | hh
    · rw [i_96, bg_0, i_2]; decide +kernel
    · rw [i_n (by omega) (by omega) (by omega), i_2]; decide +kernel
    · rw [i_96, bg_3, i_2]; decide +kernel
    · rw [i_96, bg_5]; exact z0 20 (by omega) 0
    · obtain ⟨h1, rfl⟩ := tm_ph_3 hq
      rw [i_96, bg_c (by omega)]
      exact (fil_p (v := (0 : Int32)) (f := fun _ => 0) ⟨Nat.zero_le _, h1⟩).trans nI_0.symm
    · obtain ⟨h1, rfl⟩ := tm_ph_34 hq
      rw [i_96, bg_h (by omega)]
      exact fil_p (v := (-1 : Int32)) (f := fun _ => 0) ⟨Nat.zero_le _, h1⟩
    · obtain ⟨a1, a2, a3, a4, a5, a6, a7, a8, a9, a10⟩ := hh
      have hs := tm_psh hq
      by_cases c1 : c = 1
      · subst c1
        unfold tm_ph at hq
        simp only at hq
        split at hq
        · rename_i e; cases hq; subst e; rw [i_n (by omega) (by omega) (by omega), i_1]; decide +kernel
        · split at hq
          · rename_i e; cases hq; subst e; rw [i_n (by omega) (by omega) (by omega), i_1]; decide +kernel
          · split at hq
            · rename_i e; cases hq; subst e; rw [i_96, bg_n (by omega), i_1]; decide +kernel
            · split at hq
              · rename_i e; cases hq; subst e; rw [i_96, bg_n (by omega), i_1]; decide +kernel
              · cases hq
      · have q2 : q ≠ 2 := fun e => by subst e; cases hs; exact c1 rfl
        have q8 : q ≠ 8 := fun e => by subst e; cases hs; exact c1 rfl
        rw [i_n ⟨a6, a7, a8, a9, a10⟩ q2 q8]
        have hc : c = 4 ∨ c = 5 ∨ c = 6 ∨ c = 7 ∨ c = 8 ∨ c = 9 ∨ c = 12 ∨ c = 13 ∨ c = 14 ∨ c = 15 ∨ c = 16 ∨ c = 17 ∨ c = 21 ∨ c = 22 ∨ c = 23 ∨ c = 24 ∨ c = 25 := by
          unfold tm_ph at hq
          split at hq
          all_goals first
            | omega
            | cases hq
        exact z0 c (by omega) i
  · rw [i_96, bg_m hm, i_4]
    have t : ∀ m, m < 25 → ((if m = 0 ∨ nI m = nI 4 then nI 1 else nI 0) = if (17 : Nat).testBit m = true then nI 1 else nI 0) := by decide +kernel
    exact t m hm
  · rw [i_96, bg_o (by omega), Nat.zero_testBit]
    rfl
  · rw [show tm_MI (33 + 0) i = nI 0 from z0 33 (by omega) i]
    decide +kernel
  · rw [i_96, bg_m b, i_4, if_neg (fun q => q.elim (fun e => by omega) (fun e => by rw [nI_eq (by omega) (by omega)] at e; omega))]
theorem tm_I0 : tm_I 0 tm_MI := by
  have z0 := fun c hc i => i_c c hc i
  refine ⟨tm_I0W, ⟨4, 1, 0, 0, 0, 0, 3, ⟨by rw [i_96, bg_0]; exact i_4, by decide, by decide⟩, ⟨by rw [i_96, bg_n (by omega)]; decide +kernel, by decide⟩, ⟨by rw [i_96, bg_3], by decide⟩, ⟨i_n (by omega) (by omega) (by omega), by decide⟩, ⟨by rw [i_96, bg_5], by decide⟩, ⟨i_n (by omega) (by omega) (by omega), by decide⟩, ⟨by rw [i_96, bg_n (by omega)]; decide +kernel, by decide, by decide⟩, fun w hw => by omega, fun r hr => by omega, fun g hg => by omega, fun i hi => Or.inl (by rw [i_96, bg_h (by omega)]), ⟨fun r hr => ⟨0, by decide, i_n (by omega) (by omega) (by omega), fun _ => rfl⟩, fun i hi => ⟨0, by decide, i_n (by omega) (by omega) (by omega)⟩⟩, ⟨fun s m _ _ _ => by rw [i_96, bg_h (by omega)], fun s _ _ => by rw [i_96, bg_o (by omega)]⟩⟩, fun i hi => ?_, ⟨⟨0, by decide, z0 79 (by omega) 1, z0 95 (by omega) 23⟩, fun i hi => ?_⟩, ⟨⟨0, Or.inl rfl, z0 82 (by omega) 0, z0 106 (by omega) 0, fun q => absurd rfl q⟩, ⟨0, Or.inl rfl, z0 85 (by omega) 0, z0 106 (by omega) 1, fun q => absurd rfl q⟩, ⟨0, Or.inl rfl, z0 88 (by omega) 0, z0 106 (by omega) 2, fun q => absurd rfl q⟩, ⟨0, Or.inl rfl, z0 91 (by omega) 0, z0 106 (by omega) 3, fun q => absurd rfl q⟩⟩, ⟨0, by decide, z0 0 (by omega) 8, z0 95 (by omega) 3, z0 95 (by omega) 2, fun q => absurd rfl q⟩, ?_⟩
  · rw [z0 94 (by omega) i, z0 98 (by omega) i]
  · rw [z0 80 (by omega) i, z0 105 (by omega) i]
  · intro i hi
    have t : ∀ i, i < 6 → upd (upd (upd (upd (upd (upd (fun _ => (0 : Int32)) 0 97) 1 98) 2 99) 3 100) 4 101) 5 102 i = nI (97 + i) := by decide +kernel
    exact t i hi
