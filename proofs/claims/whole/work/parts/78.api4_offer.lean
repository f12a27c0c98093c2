theorem a_offer {n : Int} {σ τ : Mem} {t seed : Int} (h : RR n σ τ) : (if (0 ≤ t ∧ t < σ (σ 0 8) 3) ∧ (1 ≤ seed ∧ seed ≤ 999999) then (if ¬ σ (σ 0 8 + 16) t = -1000000 then -1000002 else hoW (over (σ 11) (fun p => owC (σ (σ 0 8 + 4) p) (woC (σ (σ 0 8 + 12)) (σ (σ 0 8 + 20)) t p)) 0 (σ (σ 0 8) 2)) (σ (σ 0 8) 2) seed) else -1000001) = (if (0 ≤ t ∧ t ≤ τ 4 3 - 1) ∧ (1 ≤ seed ∧ seed ≤ 999999) then (if ¬ τ 4 (12 + 6 * t + 4) = -1000000 then -1000002 else toR (over (τ 8) (fun p => owF (τ 4) t p) 0 (τ 4 2)) (τ 4 2) seed) else -1000001) ∧ RR (n + 1) (if (0 ≤ t ∧ t < σ (σ 0 8) 3) ∧ (1 ≤ seed ∧ seed ≤ 999999) then (if ¬ σ (σ 0 8 + 16) t = -1000000 then σ else (mr (mu (mr (mu (mu (mu (mu (mu (mr (mu σ 10 0 (σ (σ 0 8) 2)) 11 (over (σ 11) (fun p => owC (σ (σ 0 8 + 4) p) (woC (σ (σ 0 8 + 12)) (σ (σ 0 8 + 20)) t p)) 0 (σ (σ 0 8) 2))) 5 1 ((σ 5 1 + 1).tmod 24)) 5 0 (if σ 5 0 + 1 < 24 then σ 5 0 + 1 else 24)) 6 ((σ 5 1 + 1).tmod 24) t) 7 ((σ 5 1 + 1).tmod 24) (σ (σ 0 8 + 16) t)) 8 ((σ 5 1 + 1).tmod 24) (σ (σ 0 8 + 20) t)) 9 (cpy (σ (σ 0 8 + 8)) (σ 9) 0 (((σ 5 1 + 1).tmod 24) * 4) 4)) (σ 0 8 + 16) t (hoW ((over (σ 11) (fun p => owC (σ (σ 0 8 + 4) p) (woC (σ (σ 0 8 + 12)) (σ (σ 0 8 + 20)) t p)) 0 (σ (σ 0 8) 2))) ((σ (σ 0 8) 2)) seed)) (σ 0 8 + 8) (over (σ (σ 0 8 + 8)) (fun x => σ (σ 0 8 + 8) x + (if x = (hoW ((over (σ 11) (fun p => owC (σ (σ 0 8 + 4) p) (woC (σ (σ 0 8 + 12)) (σ (σ 0 8 + 20)) t p)) 0 (σ (σ 0 8) 2))) ((σ (σ 0 8) 2)) seed) then wgC (σ (σ 0 8) 0) (σ (σ 0 8) 1) (σ (σ 0 8) 2) (nxC ((over (σ 11) (fun p => owC (σ (σ 0 8 + 4) p) (woC (σ (σ 0 8 + 12)) (σ (σ 0 8 + 20)) t p)) 0 (σ (σ 0 8) 2))) ((σ (σ 0 8) 2)) (hoW ((over (σ 11) (fun p => owC (σ (σ 0 8 + 4) p) (woC (σ (σ 0 8 + 12)) (σ (σ 0 8 + 20)) t p)) 0 (σ (σ 0 8) 2))) ((σ (σ 0 8) 2)) seed)) else ogC (σ (σ 0 8) 0) (σ (σ 0 8) 1))) 0 (σ (σ 0 8) 2)))) else σ) (if (0 ≤ t ∧ t ≤ τ 4 3 - 1) ∧ (1 ≤ seed ∧ seed ≤ 999999) ∧ τ 4 (12 + 6 * t + 4) = -1000000 then rndM (mr (mu τ 0 0 0) 8 (over (τ 8) (fun p => owF (τ 4) t p) 0 (τ 4 2))) t seed else mu τ 0 0 0) := by
  obtain ⟨hH, ⟨e0, e1, e2, e3⟩, g2, g3, gp, g0, g1⟩ := RR_t h
  by_cases c : (0 ≤ t ∧ t < σ (σ 0 8) 3) ∧ (1 ≤ seed ∧ seed ≤ 999999)
  · have c' : (0 ≤ t ∧ t ≤ τ 4 3 - 1) ∧ (1 ≤ seed ∧ seed ≤ 999999) := by omega
    have ht : 0 ≤ t ∧ t < τ 4 3 := by omega
    have e4 := ((RR_TR h).2.2 t ht.1 ht.2).1.1
    rw [if_pos c, if_pos c, if_pos c']
    by_cases d : ¬ σ (σ 0 8 + 16) t = -1000000
    · have d' : ¬ τ 4 (12 + 6 * t + 4) = -1000000 := by omega
      rw [if_pos d, if_pos d, if_pos d', if_neg (fun z => d' z.2.2)]
      exact ⟨rfl, RR_0 h⟩
    · have d' : ¬ ¬ τ 4 (12 + 6 * t + 4) = -1000000 := by omega
      have c4 : (0 ≤ t ∧ t ≤ τ 4 3 - 1) ∧ (1 ≤ seed ∧ seed ≤ 999999) ∧ τ 4 (12 + 6 * t + 4) = -1000000 := ⟨c'.1, c'.2, by omega⟩
      rw [if_neg d, if_neg d, if_neg d', if_pos c4]
      obtain ⟨A1, A2⟩ := AG_own h ht
      have hw : hoW (over (σ 11) (fun p => owC (σ (σ 0 8 + 4) p) (woC (σ (σ 0 8 + 12)) (σ (σ 0 8 + 20)) t p)) 0 (σ (σ 0 8) 2)) (σ (σ 0 8) 2) seed = toR (over (τ 8) (fun p => owF (τ 4) t p) 0 (τ 4 2)) (τ 4 2) seed := by
        have x1 := hoW_cg (seed := seed) A1 (by omega)
        rw [e2] at x1
        rw [x1, ← e2]
        exact win_eq A2 (by omega) c.2.1
      rw [hw]
      refine ⟨rfl, ?_⟩
      exact go_up (σ1 := mr (mu σ 10 0 (σ (σ 0 8) 2)) 11 (over (σ 11) (fun p => owC (σ (σ 0 8 + 4) p) (woC (σ (σ 0 8 + 12)) (σ (σ 0 8 + 20)) t p)) 0 (σ (σ 0 8) 2))) h ht A1 A2 c.2.1 (fun q a b => by funext x; simp only [mu_app, mr_app]; (repeat rw [if_neg (by omega)])) ⟨rfl, rfl, rfl⟩ (fun q a b => by rw [mr_row b, mu_row a]) mr_same (fun j a b => by rw [mr_row (by decide), mu_j a]) (by show σ 0 11 = τ 0 1; exact h.2.2.2.1.2)
  · rw [if_neg c, if_neg c, if_neg (by omega), if_neg (by omega)]
    exact ⟨rfl, RR_0 h⟩
