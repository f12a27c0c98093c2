/-! asking -/
def anF (k w : Int) : Nat → Int
  | 0 => k
  | i + 1 => if anF k w i = w then anF k w i else nearL.getD (anF k w i).toNat 0
theorem near_in : ∀ n, n < 6 → 0 ≤ nearL.getD n 0 ∧ nearL.getD n 0 ≤ 5 := by decide
theorem anF_in {k w : Int} (h : 0 ≤ k ∧ k ≤ 5) : ∀ i : Nat, 0 ≤ anF k w i ∧ anF k w i ≤ 5
  | 0 => h
  | i + 1 => by
    have ih := anF_in (w := w) h i
    simp only [anF]
    split
    · exact ih
    · exact near_in _ (by omega)
theorem anF_stay {k w : Int} {i n : Nat} (h : anF k w i = w) (hn : i ≤ n) : anF k w n = anF k w i := by
  induction n with
  | zero => have : i = 0 := by omega
            subst this; rfl
  | succ n ih =>
    by_cases e : i = n + 1
    · subst e; rfl
    · have h1 := ih (by omega)
      simp only [anF]
      rw [if_pos (by omega), h1]
def boF (L : List Int) (k : Int) : Nat → Int
  | 0 => k
  | i + 1 => if L.getD (boF L k i).toNat 0 = 0 then nearL.getD (boF L k i).toNat 0 else boF L k i
theorem boF_in {L : List Int} {k : Int} (h : 0 ≤ k ∧ k ≤ 5) : ∀ i : Nat, 0 ≤ boF L k i ∧ boF L k i ≤ 5
  | 0 => h
  | i + 1 => by
    have ih := boF_in (L := L) h i
    simp only [boF]
    split
    · exact near_in _ (by omega)
    · exact ih
theorem boF_stay {L : List Int} {k : Int} {i n : Nat} (h : ¬ L.getD (boF L k i).toNat 0 = 0) (hn : i ≤ n) : boF L k n = boF L k i := by
  induction n with
  | zero => have : i = 0 := by omega
            subst this; rfl
  | succ n ih =>
    by_cases e : i = n + 1
    · subst e; rfl
    · have h1 := ih (by omega)
      simp only [boF]
      rw [h1, if_neg h]
theorem sizeL_in (n : Nat) : 0 ≤ sizeL.getD n 0 ∧ sizeL.getD n 0 ≤ 14 := by
  by_cases h : n < 6
  · exact (by decide : ∀ n, n < 6 → 0 ≤ sizeL.getD n 0 ∧ sizeL.getD n 0 ≤ 14) n h
  · rw [show sizeL.getD n 0 = 0 from by simp [List.getD_eq_getElem?_getD, List.getElem?_eq_none (show sizeL.length ≤ n by show 6 ≤ n; omega)]]; omega
theorem markL_in (n : Nat) : 0 ≤ markL.getD n 0 ∧ markL.getD n 0 ≤ 24 := by
  by_cases h : n < 6
  · exact (by decide : ∀ n, n < 6 → 0 ≤ markL.getD n 0 ∧ markL.getD n 0 ≤ 24) n h
  · rw [show markL.getD n 0 = 0 from by simp [List.getD_eq_getElem?_getD, List.getElem?_eq_none (show markL.length ≤ n by show 6 ≤ n; omega)]]; omega
def sbF (k : Int) : Int := if k = 0 then 10 else if k = 1 then 11 else if k = 2 then 12 else if k = 3 then 11 else if k = 4 then 13 else 14
def mbF (k : Int) : Int := if k = 0 then 20 else if k = 1 then 21 else if k = 2 then 24 else if k = 3 then 22 else 23
theorem sbF_eq {k : Int} (h : 0 ≤ k ∧ k ≤ 5) : sbF k = sizeL.getD (boF sizeL k 6).toNat 0 := by
  rcases (show k = 0 ∨ k = 1 ∨ k = 2 ∨ k = 3 ∨ k = 4 ∨ k = 5 by omega) with h | h | h | h | h | h <;> subst h <;> decide
theorem mbF_eq {k : Int} (h : 0 ≤ k ∧ k ≤ 5) : mbF k = markL.getD (boF markL k 6).toNat 0 := by
  rcases (show k = 0 ∨ k = 1 ∨ k = 2 ∨ k = 3 ∨ k = 4 ∨ k = 5 by omega) with h | h | h | h | h | h <;> subst h <;> decide
