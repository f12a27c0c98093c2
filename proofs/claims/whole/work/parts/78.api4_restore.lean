theorem a_restore {n : Int} {σ τ : Mem} {k : Int} (h : RR n σ τ) : (if ¬ (0 ≤ k ∧ k < 2) then -1000001 else if σ (20 + k) 2 = 0 then -1000002 else 1) = (if 0 ≤ k ∧ k ≤ 1 then (if τ 9 k = 0 then -1000002 else 1) else -1000001) ∧ RR (n + 1) (if ¬ (0 ≤ k ∧ k < 2) then σ else if σ (20 + k) 2 = 0 then σ else (mu (mr (mr (mr (mr (mr (mu (mu (mu (mu σ (σ 0 8) 0 (σ (20 + k) 0)) (σ 0 8) 1 (σ (20 + k) 1)) (σ 0 8) 2 (σ (20 + k) 2)) (σ 0 8) 3 (σ (20 + k) 3)) (σ 0 8 + 4) (cpy (σ (20 + k + 4)) (σ ((σ 0 8) + 4)) 0 0 4)) (σ 0 8 + 8) (cpy (σ (20 + k + 8)) (σ ((σ 0 8) + 8)) 0 0 4)) (σ 0 8 + 12) (cpy (σ (20 + k + 12)) (σ ((σ 0 8) + 12)) 0 0 20)) (σ 0 8 + 16) (cpy (σ (20 + k + 16)) (σ ((σ 0 8) + 16)) 0 0 5)) (σ 0 8 + 20) (cpy (σ (20 + k + 20)) (σ ((σ 0 8) + 20)) 0 0 5)) 5 0 0)) (if (0 ≤ k ∧ k ≤ 1) ∧ ¬ τ 9 k = 0 then mu (mr (mu τ 0 0 0) 4 (over (τ 4) (fun x => τ 10 (42 * k + x)) 0 42)) 0 8 0 else mu τ 0 0 0) := by
  obtain ⟨hH, ⟨e0, e1, e2, e3⟩, g2, g3, gp, g0, g1⟩ := RR_t h
  have h6 := h.2.2.2.2.2.1
  by_cases c : ¬ (0 ≤ k ∧ k < 2)
  · rw [if_pos c, if_pos c, if_neg (by omega), if_neg (by omega)]
    exact ⟨rfl, RR_0 h⟩
  · have c' : 0 ≤ k ∧ k ≤ 1 := by omega
    have hk := h6.1 k c'.1 (by omega)
    rw [if_neg c, if_neg c, if_pos c']
    by_cases d : σ (20 + k) 2 = 0
    · have d' : τ 9 k = 0 := by rcases hk with z | z; exact z.1; exact absurd d (by have := z.2.1; omega)
      rw [if_pos d, if_pos d, if_pos d', if_neg (fun z => z.2 d')]
      exact ⟨rfl, RR_0 h⟩
    · have d' : ¬ τ 9 k = 0 := by rcases hk with z | z; exact absurd z.2 d; rw [z.1]; decide
      rw [if_neg d, if_neg d, if_neg d', if_pos ⟨c', d'⟩]
      exact ⟨rfl, restore_up h (by omega) d⟩
