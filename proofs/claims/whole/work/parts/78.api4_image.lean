theorem a_image {n : Int} {σ τ : Mem} {k : Int} (h : RR n σ τ) : (if ¬ (0 ≤ k ∧ k < 2) then -1000001 else if σ (σ 0 8) 2 = 0 then -1000002 else 1) = (if 0 ≤ k ∧ k ≤ 1 then (if 0 < τ 4 2 then 1 else -1000002) else -1000001) ∧ RR (n + 1) (if ¬ (0 ≤ k ∧ k < 2) then σ else if σ (σ 0 8) 2 = 0 then σ else (mr (mr (mr (mr (mr (mu (mu (mu (mu σ (20 + k) 0 (σ (σ 0 8) 0)) (20 + k) 1 (σ (σ 0 8) 1)) (20 + k) 2 (σ (σ 0 8) 2)) (20 + k) 3 (σ (σ 0 8) 3)) (20 + k + 4) (cpy (σ (σ 0 8 + 4)) (σ (20 + k + 4)) 0 0 4)) (20 + k + 8) (cpy (σ (σ 0 8 + 8)) (σ (20 + k + 8)) 0 0 4)) (20 + k + 12) (cpy (σ (σ 0 8 + 12)) (σ (20 + k + 12)) 0 0 20)) (20 + k + 16) (cpy (σ (σ 0 8 + 16)) (σ (20 + k + 16)) 0 0 5)) (20 + k + 20) (cpy (σ (σ 0 8 + 20)) (σ (20 + k + 20)) 0 0 5))) (if (0 ≤ k ∧ k ≤ 1) ∧ 0 < τ 4 2 then mu (mr (mu τ 0 0 0) 10 (over (τ 10) (fun x => τ 4 (x - 42 * k)) (42 * k) (42 * k + 42))) 9 k 1 else mu τ 0 0 0) := by
  obtain ⟨hH, ⟨e0, e1, e2, e3⟩, g2, g3, gp, g0, g1⟩ := RR_t h
  by_cases c : ¬ (0 ≤ k ∧ k < 2)
  · rw [if_pos c, if_pos c, if_neg (by omega), if_neg (by omega)]
    exact ⟨rfl, RR_0 h⟩
  · have c' : 0 ≤ k ∧ k ≤ 1 := by omega
    rw [if_neg c, if_neg c, if_pos c']
    by_cases d : σ (σ 0 8) 2 = 0
    · rw [if_pos d, if_pos d, if_neg (by omega), if_neg (by omega)]
      exact ⟨rfl, RR_0 h⟩
    · rw [if_neg d, if_neg d, if_pos (by omega), if_pos ⟨c', by omega⟩]
      exact ⟨rfl, image_up h (by omega) (by omega)⟩
