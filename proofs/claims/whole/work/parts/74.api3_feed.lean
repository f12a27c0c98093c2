theorem a_feed {n : Int} {σ τ : Mem} {w m : Int} (h : RR n σ τ) : (if m < 1 ∨ 8 < m then -1000001 else if σ 3 1 + m ≤ 400 then σ 3 1 + m else -1000003) = (if ¬ (1 ≤ m ∧ m ≤ 8) then -1000001 else if 400 < τ 0 10 + m then -1000003 else τ 0 10 + m) ∧ RR (n + 1) (if m < 1 ∨ 8 < m then σ else if σ 3 1 + m ≤ 400 then (mu (mr σ 4 (over (σ 4) (fun k => bytC w (m - 1 - (k - σ 3 1))) (σ 3 1) (σ 3 1 + m))) 3 1 (σ 3 1 + m)) else σ) (if (1 ≤ m ∧ m ≤ 8) ∧ τ 0 10 + m ≤ 400 then mu (mr (mu τ 0 0 0) 7 (over (τ 7) (fun x => bytF w (m - 1 - (x - τ 0 10))) (τ 0 10) (τ 0 10 + m))) 0 10 (τ 0 10 + m) else mu τ 0 0 0) := by
  obtain ⟨t7, t10, t31, t4⟩ := h.2.2.1
  by_cases c : m < 1 ∨ 8 < m
  · rw [if_pos c, if_pos c, if_pos (by omega), if_neg (by omega)]
    exact ⟨rfl, RR_0 h⟩
  · have c' : ¬ ¬ (1 ≤ m ∧ m ≤ 8) := by omega
    rw [if_neg c, if_neg c, if_neg c']
    by_cases d : σ 3 1 + m ≤ 400
    · have d' : ¬ 400 < τ 0 10 + m := by omega
      rw [if_pos d, if_pos d, if_neg d', if_pos ⟨by omega, by omega⟩]
      refine ⟨by omega, ?_⟩
      have eb : (fun x => bytF w (m - 1 - (x - τ 0 10))) = (fun k => bytC w (m - 1 - (k - σ 3 1))) := by
        funext x; rw [(byt_eq _ _).1, t10]
      obtain ⟨r1, r2, r3, r4, r5, r6, r7, r8, r9⟩ := h
      have hσ : ∀ q : Int, q ≠ 3 → q ≠ 4 → mu (mr σ 4 (over (σ 4) (fun k => bytC w (m - 1 - (k - σ 3 1))) (σ 3 1) (σ 3 1 + m))) 3 1 (σ 3 1 + m) q = σ q := fun q a b => by funext x; rw [mu_k a, mr_app, if_neg b]
      have hτ : ∀ q : Int, q ≠ 0 → q ≠ 7 → mu (mr (mu τ 0 0 0) 7 (over (τ 7) (fun x => bytF w (m - 1 - (x - τ 0 10))) (τ 0 10) (τ 0 10 + m))) 0 10 (τ 0 10 + m) q = τ q := fun q a b => by funext x; rw [mu_k a, mr_app, if_neg b, mu_k a]
      have t0 : ∀ j : Int, j ≠ 0 → j ≠ 10 → mu (mr (mu τ 0 0 0) 7 (over (τ 7) (fun x => bytF w (m - 1 - (x - τ 0 10))) (τ 0 10) (τ 0 10 + m))) 0 10 (τ 0 10 + m) 0 j = τ 0 j := fun j a b => by rw [mu_j b, mr_app, if_neg (by decide), mu_j a]
      refine RR_mono (n := n) ⟨RRow_cg r1 (fun q a b => hσ q (by omega) (by omega)) (hτ 1 (by decide) (by decide)) (hτ 2 (by decide) (by decide)) (hτ 3 (by decide) (by decide)), ?_, ?_, ?_, RTw_cg r5 (by rw [hσ 0 (by decide) (by decide)]) (by rw [hσ 0 (by decide) (by decide)]) (fun q a b => hσ q (by omega) (by omega)) (hτ 4 (by decide) (by decide)), RIm_cg r6 (fun q a b => hσ q (by omega) (by omega)) (hτ 9 (by decide) (by decide)) (hτ 10 (by decide) (by decide)), RAc_cg r7 (fun q a b => hσ q (by omega) (by omega)) (t0 8 (by decide) (by decide)) (hτ 4 (by decide) (by decide)) (hτ 6 (by decide) (by decide)), ?_, ?_⟩ (by omega)
      · unfold RIt; rw [hτ 3 (by decide) (by decide)]; exact r2
      · refine ⟨?_, by show τ 0 10 + m = σ 3 1 + m; omega, by show 0 ≤ σ 3 1 + m ∧ σ 3 1 + m ≤ 400; omega, fun k => ?_⟩
        · have x1 : mu (mr (mu τ 0 0 0) 7 (over (τ 7) (fun x => bytF w (m - 1 - (x - τ 0 10))) (τ 0 10) (τ 0 10 + m))) 0 10 (τ 0 10 + m) 7 = over (τ 7) (fun x => bytF w (m - 1 - (x - τ 0 10))) (τ 0 10) (τ 0 10 + m) := by funext x; rw [mu_k (by decide), mr_app, if_pos rfl]
          have x2 : mu (mr σ 4 (over (σ 4) (fun k => bytC w (m - 1 - (k - σ 3 1))) (σ 3 1) (σ 3 1 + m))) 3 1 (σ 3 1 + m) 4 = over (σ 4) (fun k => bytC w (m - 1 - (k - σ 3 1))) (σ 3 1) (σ 3 1 + m) := by funext x; rw [mu_k (by decide), mr_app, if_pos rfl]
          rw [x1, x2, eb, t7, t10]
        · have x2 : mu (mr σ 4 (over (σ 4) (fun k => bytC w (m - 1 - (k - σ 3 1))) (σ 3 1) (σ 3 1 + m))) 3 1 (σ 3 1 + m) 4 k = over (σ 4) (fun k => bytC w (m - 1 - (k - σ 3 1))) (σ 3 1) (σ 3 1 + m) k := by rw [mu_k (by decide), mr_app, if_pos rfl]
          rw [x2]
          unfold over
          split
          · have hb := byt_eq w (m - 1 - (k - σ 3 1))
            show 0 ≤ bytC w (m - 1 - (k - σ 3 1)) ∧ bytC w (m - 1 - (k - σ 3 1)) ≤ 255
            rw [hb.1]; exact hb.2
          · exact t4 k
      · unfold RSt
        rw [hσ 0 (by decide) (by decide), t0 11 (by decide) (by decide), t0 1 (by decide) (by decide)]
        exact r4
      · unfold RTr
        rw [hσ 18 (by decide) (by decide), hσ 19 (by decide) (by decide), t0 23 (by decide) (by decide), hτ 11 (by decide) (by decide)]
        exact r8
      · unfold RFr
        rw [hτ 5 (by decide) (by decide)]
        exact r9
    · rw [if_neg d, if_neg d, if_pos (by omega), if_neg (by omega)]
      exact ⟨rfl, RR_0 h⟩
