theorem a_back {n : Int} {σ τ : Mem} {t : Int} (h : RR n σ τ) (hn : n < 600) : (if (0 ≤ t ∧ t < σ (σ 0 8) 3) then (if σ (σ 0 8 + 16) t = -1000000 then -1000002 else σ (σ 0 8 + 16) t) else -1000001) = (if (0 ≤ t ∧ t ≤ τ 4 3 - 1) then (if τ 4 (12 + 6 * t + 4) = -1000000 then -1000002 else τ 4 (12 + 6 * t + 4)) else -1000001) ∧ RR (n + 1) (if (0 ≤ t ∧ t < σ (σ 0 8) 3) then (if σ (σ 0 8 + 16) t = -1000000 then σ else (mu (mu (mr (mu (mu (mu (mu (mu σ 5 1 ((σ 5 1 + 1).tmod 24)) 5 0 (if σ 5 0 + 1 < 24 then σ 5 0 + 1 else 24)) 6 ((σ 5 1 + 1).tmod 24) t) 7 ((σ 5 1 + 1).tmod 24) (σ (σ 0 8 + 16) t)) 8 ((σ 5 1 + 1).tmod 24) (σ (σ 0 8 + 20) t)) 9 (cpy (σ (σ 0 8 + 8)) (σ 9) 0 (((σ 5 1 + 1).tmod 24) * 4) 4)) (σ 0 8 + 16) t (-1000000)) (σ 0 8 + 20) t (σ (σ 0 8 + 20) t + 1))) else σ) (if (0 ≤ t ∧ t ≤ τ 4 3 - 1) ∧ ¬ τ 4 (12 + 6 * t + 4) = -1000000 then backM (mu τ 0 0 0) t else mu τ 0 0 0) := by
  obtain ⟨hH, ⟨e0, e1, e2, e3⟩, g2, g3, gp, g0, g1⟩ := RR_t h
  by_cases c : 0 ≤ t ∧ t < σ (σ 0 8) 3
  · have c' : 0 ≤ t ∧ t ≤ τ 4 3 - 1 := by omega
    have ht : 0 ≤ t ∧ t < τ 4 3 := by omega
    have e4 := ((RR_TR h).2.2 t ht.1 ht.2).1.1
    rw [if_pos c, if_pos c, if_pos c']
    by_cases d : σ (σ 0 8 + 16) t = -1000000
    · have d' : τ 4 (12 + 6 * t + 4) = -1000000 := by omega
      rw [if_pos d, if_pos d, if_pos d', if_neg (fun z => z.2 d')]
      exact ⟨rfl, RR_0 h⟩
    · have d' : ¬ τ 4 (12 + 6 * t + 4) = -1000000 := by omega
      have c4 : (0 ≤ t ∧ t ≤ τ 4 3 - 1) ∧ ¬ τ 4 (12 + 6 * t + 4) = -1000000 := ⟨c', d'⟩
      rw [if_neg d, if_neg d, if_neg d', if_pos c4]
      exact ⟨e4.symm, back_up h hn ht⟩
  · rw [if_neg c, if_neg c, if_neg (by omega), if_neg (by omega)]
    exact ⟨rfl, RR_0 h⟩
