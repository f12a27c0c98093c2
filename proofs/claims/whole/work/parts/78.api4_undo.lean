theorem a_undo {n : Int} {σ τ : Mem} (h : RR n σ τ) : (if σ 5 0 = 0 then -1000002 else σ 5 0 - 1) = (if τ 0 8 = 0 then -1000002 else τ 0 8 - 1) ∧ RR (n + 1) (if σ 5 0 = 0 then σ else (mu (mu (mr (mu (mu σ (σ 0 8 + 16) (σ 6 (σ 5 1)) (σ 7 (σ 5 1))) (σ 0 8 + 20) (σ 6 (σ 5 1)) (σ 8 (σ 5 1))) (σ 0 8 + 8) (cpy (σ 9) (σ (σ 0 8 + 8)) (σ 5 1 * 4) 0 4)) 5 1 ((σ 5 1 + 24 - 1).tmod 24)) 5 0 (σ 5 0 - 1))) (if τ 0 8 = 0 then mu τ 0 0 0 else mr (mu (mu τ 0 0 0) 0 8 (τ 0 8 - 1)) 4 (over (τ 4) (fun k => τ 6 (42 * (τ 0 8 - 1) + k)) 0 42)) := by
  have ha := h.2.2.2.2.2.2.1.1
  by_cases c : σ 5 0 = 0
  · have c' : τ 0 8 = 0 := by omega
    rw [if_pos c, if_pos c, if_pos c', if_pos c']
    exact ⟨rfl, RR_0 h⟩
  · have c' : ¬ τ 0 8 = 0 := by omega
    rw [if_neg c, if_neg c, if_neg c', if_neg c']
    exact ⟨by omega, undo_up h c⟩
