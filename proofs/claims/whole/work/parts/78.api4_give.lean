theorem a_give {n : Int} {σ τ : Mem} {t r seed : Int} (h : RR n σ τ) : (if (0 ≤ t ∧ t < σ (σ 0 8) 3) ∧ (0 ≤ r ∧ r < 8) ∧ (1 ≤ seed ∧ seed ≤ 999999) then (if ¬ σ (σ 0 8 + 16) t = -1000000 then -1000002 else if okH σ r then hoW (cpy (σ (44 + r + 8)) (σ 11) 0 0 (σ (σ 0 8) 2)) (σ (σ 0 8) 2) seed else hrR σ r) else -1000001) = (if (0 ≤ t ∧ t ≤ τ 4 3 - 1) ∧ (0 ≤ r ∧ r ≤ 7) ∧ (1 ≤ seed ∧ seed ≤ 999999) then (if ¬ τ 4 (12 + 6 * t + 4) = -1000000 then -1000002 else if okB τ r then toR (over (τ 8) (fun p => τ 3 (40 * r + p)) 0 (τ 4 2)) (τ 4 2) seed else barR τ r) else -1000001) ∧ RR (n + 1) (if (0 ≤ t ∧ t < σ (σ 0 8) 3) ∧ (0 ≤ r ∧ r < 8) ∧ (1 ≤ seed ∧ seed ≤ 999999) then (if ¬ σ (σ 0 8 + 16) t = -1000000 then σ else if okH σ r then (mr (mu (mr (mu (mu (mu (mu (mu (mu (mr (mu σ 10 0 (σ (σ 0 8) 2)) 11 (cpy (σ (44 + r + 8)) (σ 11) 0 0 (σ (σ 0 8) 2))) 0 11 0) 5 1 ((σ 5 1 + 1).tmod 24)) 5 0 (if σ 5 0 + 1 < 24 then σ 5 0 + 1 else 24)) 6 ((σ 5 1 + 1).tmod 24) t) 7 ((σ 5 1 + 1).tmod 24) (σ (σ 0 8 + 16) t)) 8 ((σ 5 1 + 1).tmod 24) (σ (σ 0 8 + 20) t)) 9 (cpy (σ (σ 0 8 + 8)) (σ 9) 0 (((σ 5 1 + 1).tmod 24) * 4) 4)) (σ 0 8 + 16) t (hoW ((cpy (σ (44 + r + 8)) (σ 11) 0 0 (σ (σ 0 8) 2))) ((σ (σ 0 8) 2)) seed)) (σ 0 8 + 8) (over (σ (σ 0 8 + 8)) (fun x => σ (σ 0 8 + 8) x + (if x = (hoW ((cpy (σ (44 + r + 8)) (σ 11) 0 0 (σ (σ 0 8) 2))) ((σ (σ 0 8) 2)) seed) then wgC (σ (σ 0 8) 0) (σ (σ 0 8) 1) (σ (σ 0 8) 2) (nxC ((cpy (σ (44 + r + 8)) (σ 11) 0 0 (σ (σ 0 8) 2))) ((σ (σ 0 8) 2)) (hoW ((cpy (σ (44 + r + 8)) (σ 11) 0 0 (σ (σ 0 8) 2))) ((σ (σ 0 8) 2)) seed)) else ogC (σ (σ 0 8) 0) (σ (σ 0 8) 1))) 0 (σ (σ 0 8) 2))) else hrM σ r) else σ) (if (0 ≤ t ∧ t ≤ τ 4 3 - 1) ∧ (0 ≤ r ∧ r ≤ 7) ∧ (1 ≤ seed ∧ seed ≤ 999999) ∧ τ 4 (12 + 6 * t + 4) = -1000000 then (if okB τ r then rndM (mu (mr (mu τ 0 0 0) 8 (over (τ 8) (fun p => τ 3 (40 * r + p)) 0 (τ 4 2))) 0 1 0) t seed else barM (mu τ 0 0 0) r) else mu τ 0 0 0) := by
  obtain ⟨hH, ⟨e0, e1, e2, e3⟩, g2, g3, gp, g0, g1⟩ := RR_t h
  by_cases c : (0 ≤ t ∧ t < σ (σ 0 8) 3) ∧ (0 ≤ r ∧ r < 8) ∧ (1 ≤ seed ∧ seed ≤ 999999)
  · have c' : (0 ≤ t ∧ t ≤ τ 4 3 - 1) ∧ (0 ≤ r ∧ r ≤ 7) ∧ (1 ≤ seed ∧ seed ≤ 999999) := by omega
    have hr : 0 ≤ r ∧ r < 8 := c.2.1
    have ht : 0 ≤ t ∧ t < τ 4 3 := by omega
    have e4 := ((RR_TR h).2.2 t ht.1 ht.2).1.1
    have ck := ok_iff h hr
    rw [if_pos c, if_pos c, if_pos c']
    by_cases d : ¬ σ (σ 0 8 + 16) t = -1000000
    · have d' : ¬ τ 4 (12 + 6 * t + 4) = -1000000 := by omega
      rw [if_pos d, if_pos d, if_pos d', if_neg (fun z => d' z.2.2.2)]
      exact ⟨rfl, RR_0 h⟩
    · have d' : ¬ ¬ τ 4 (12 + 6 * t + 4) = -1000000 := by omega
      have c4 : (0 ≤ t ∧ t ≤ τ 4 3 - 1) ∧ (0 ≤ r ∧ r ≤ 7) ∧ (1 ≤ seed ∧ seed ≤ 999999) ∧ τ 4 (12 + 6 * t + 4) = -1000000 := ⟨c'.1, c'.2.1, c'.2.2, by omega⟩
      rw [if_neg d, if_neg d, if_neg d', if_pos c4]
      by_cases k : okH σ r
      · rw [if_pos k, if_pos k, if_pos (ck.mp k), if_pos (ck.mp k)]
        obtain ⟨A1, A2⟩ := AG_hear h hr k
        have hw : hoW (cpy (σ (44 + r + 8)) (σ 11) 0 0 (σ (σ 0 8) 2)) (σ (σ 0 8) 2) seed = toR (over (τ 8) (fun p => τ 3 (40 * r + p)) 0 (τ 4 2)) (τ 4 2) seed := by
          have x1 := hoW_cg (seed := seed) A1 (by omega)
          rw [e2] at x1
          rw [x1, ← e2]
          exact win_eq A2 (by omega) c.2.2.1
        rw [hw]
        refine ⟨rfl, ?_⟩
        exact go_up (σ1 := mu (mr (mu σ 10 0 (σ (σ 0 8) 2)) 11 (cpy (σ (44 + r + 8)) (σ 11) 0 0 (σ (σ 0 8) 2))) 0 11 0) h ht A1 A2 c.2.2.1 (fun q a b => by funext x; simp only [mu_app, mr_app]; (repeat rw [if_neg (by omega)])) ⟨rfl, rfl, rfl⟩ (fun q a b => by rw [mu_row a, mr_row b, mu_row a]) (by rw [mu_row (by decide), mr_same]) (fun j a b => by rw [mu_j b, mr_row (by decide), mu_j a]) rfl
      · rw [if_neg k, if_neg k, if_neg (fun z => k (ck.mpr z)), if_neg (fun z => k (ck.mpr z))]
        exact ⟨bar_R h hr k, bar_M h hr k⟩
  · rw [if_neg c, if_neg c, if_neg (by omega), if_neg (by omega)]
    exact ⟨rfl, RR_0 h⟩
