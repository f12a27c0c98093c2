/-! hearing a row -/
def okC (f : Int → Int) : Nat → Int
  | 0 => 1
  | i + 1 => if okC f i = 0 then 0 else if f i < 0 then 0 else if 5 < f i then 0 else 1
theorem okC_stay {f : Int → Int} {k n : Nat} (h : okC f k = 0) (hk : k ≤ n) : okC f n = 0 := by
  induction n with
  | zero => have : k = 0 := by omega
            subst this; exact h
  | succ n ih =>
    by_cases e : k = n + 1
    · subst e; exact h
    · show (if okC f n = 0 then 0 else _) = _
      rw [if_pos (ih (by omega))]
def hrR (σ : Mem) (r : Int) : Int := if ¬ σ (44 + r) 1 = 0 then -1000011 else if σ (44 + r) 3 < σ (σ 0 8) 2 then -1000012 else if okC (σ (44 + r + 8)) (σ (σ 0 8) 2).toNat = 0 then -1000001 else 0
def hrM (σ : Mem) (r : Int) : Mem := if ¬ σ (44 + r) 1 = 0 then mu σ 0 11 1 else if σ (44 + r) 3 < σ (σ 0 8) 2 then mu σ 0 11 2 else if okC (σ (44 + r + 8)) (σ (σ 0 8) 2).toNat = 0 then σ else mu (mr (mu σ 10 0 (σ (σ 0 8) 2)) 11 (cpy (σ (44 + r + 8)) (σ 11) 0 0 (σ (σ 0 8) 2))) 0 11 0
