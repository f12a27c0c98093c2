/-! hearing, and a round held -/
abbrev okH (σ : Mem) (r : Int) : Prop := σ (44 + r) 1 = 0 ∧ σ (σ 0 8) 2 ≤ σ (44 + r) 3 ∧ okC (σ (44 + r + 8)) (σ (σ 0 8) 2).toNat = 1
theorem okC_01 {f : Int → Int} : ∀ i : Nat, okC f i = 0 ∨ okC f i = 1
  | 0 => .inr rfl
  | i + 1 => by simp only [okC]; (repeat' split) <;> simp
theorem okC_all {f : Int → Int} : ∀ i : Nat, okC f i = 1 → ∀ j : Int, 0 ≤ j → j < (i : Int) → 0 ≤ f j ∧ f j ≤ 5
  | 0, _, j, h0, h1 => by omega
  | i + 1, h, j, h0, h1 => by
    have h01 := okC_01 (f := f) i
    simp only [okC] at h
    by_cases e : okC f i = 0
    · rw [if_pos e] at h; omega
    · rw [if_neg e] at h
      by_cases e2 : f i < 0
      · rw [if_pos e2] at h; omega
      · rw [if_neg e2] at h
        by_cases e3 : 5 < f i
        · rw [if_pos e3] at h; omega
        · by_cases e4 : j = i
          · subst e4; omega
          · exact okC_all i (by omega) j h0 (by omega)
theorem hrR_ok {σ : Mem} {r : Int} (h : okH σ r) : hrR σ r = 0 := by
  unfold hrR
  rw [if_neg (by have := h.1; omega), if_neg (by have := h.2.1; omega), if_neg (by have := h.2.2; omega)]
theorem hrM_ok {σ : Mem} {r : Int} (h : okH σ r) : hrM σ r = mu (mr (mu σ 10 0 (σ (σ 0 8) 2)) 11 (cpy (σ (44 + r + 8)) (σ 11) 0 0 (σ (σ 0 8) 2))) 0 11 0 := by
  unfold hrM
  rw [if_neg (by have := h.1; omega), if_neg (by have := h.2.1; omega), if_neg (by have := h.2.2; omega)]
theorem hrR_no {σ : Mem} {r : Int} (h : ¬ okH σ r) : hrR σ r < 0 ∧ -1000020 ≤ hrR σ r := by
  have h01 := okC_01 (f := σ (44 + r + 8)) (σ (σ 0 8) 2).toNat
  unfold hrR
  (repeat' split) <;> first | omega | (exfalso; exact h ⟨by omega, by omega, by omega⟩)
theorem cpy_in {f g : Int → Int} {n : Int} (h : ∀ j, 0 ≤ j → j < n → 0 ≤ f j ∧ f j ≤ 5) : ∀ j, 0 ≤ j → j < n → 0 ≤ cpy f g 0 0 n j ∧ cpy f g 0 0 n j ≤ 5 := by
  intro j h0 h1
  unfold cpy
  rw [if_pos (by omega), show 0 + (j - 0) = j by omega]
  exact h j h0 h1
def hoW (said : Int → Int) (n seed : Int) : Int := syR said (loC said (-1000000) n.toNat) (((seed * 16807).tmod 2147483647).tmod (if 1 < maC said (loC said (-1000000) n.toNat) (-1000000) n.toNat then maC said (loC said (-1000000) n.toNat) (-1000000) n.toNat else 1)) n
theorem syR_in {f : Int → Int} {v pl n : Int} (hn : 0 ≤ n ∧ n ≤ 4) : 0 ≤ syR f v pl n ∧ syR f v pl n ≤ 3 := by
  have h := syC_in (f := f) (v := v) (pl := pl) n.toNat
  unfold syR; split <;> omega
theorem okH_sw {σ : Mem} {r : Int} (h : okH σ r) : ∀ j, 0 ≤ j → j < σ (σ 0 8) 2 → 0 ≤ cpy (σ (44 + r + 8)) (σ 11) 0 0 (σ (σ 0 8) 2) j ∧ cpy (σ (44 + r + 8)) (σ 11) 0 0 (σ (σ 0 8) 2) j ≤ 5 := cpy_in (fun j h0 h1 => okC_all _ h.2.2 j h0 (by omega))
