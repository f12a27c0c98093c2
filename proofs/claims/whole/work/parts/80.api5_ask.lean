theorem RR_trc {n : Int} {σ τ σ' τ' : Mem} (h : RR n σ τ) (hσ : ∀ q : Int, q ≠ 18 → q ≠ 19 → σ' q = σ q) (hτ : ∀ q : Int, q ≠ 0 → q ≠ 11 → τ' q = τ q) (t0 : ∀ j : Int, j ≠ 0 → j ≠ 23 → τ' 0 j = τ 0 j) (hr : RTr σ' τ') : RR (n + 1) σ' τ' := by
  obtain ⟨r1, r2, r3, r4, r5, r6, r7, r8, r9⟩ := h
  refine RR_mono (n := n) ⟨RRow_cg r1 (fun q a b => hσ q (by omega) (by omega)) (hτ 1 (by decide) (by decide)) (hτ 2 (by decide) (by decide)) (hτ 3 (by decide) (by decide)), ?_, ?_, ?_, RTw_cg r5 (by rw [hσ 0 (by decide) (by decide)]) (by rw [hσ 0 (by decide) (by decide)]) (fun q a b => hσ q (by omega) (by omega)) (hτ 4 (by decide) (by decide)), RIm_cg r6 (fun q a b => hσ q (by omega) (by omega)) (hτ 9 (by decide) (by decide)) (hτ 10 (by decide) (by decide)), RAc_cg r7 (fun q a b => hσ q (by omega) (by omega)) (t0 8 (by decide) (by decide)) (hτ 4 (by decide) (by decide)) (hτ 6 (by decide) (by decide)), hr, ?_⟩ (by omega)
  · unfold RIt; rw [hτ 3 (by decide) (by decide)]; exact r2
  · unfold RTape
    rw [hτ 7 (by decide) (by decide), hσ 4 (by decide) (by decide), hσ 3 (by decide) (by decide), t0 10 (by decide) (by decide)]
    exact r3
  · unfold RSt
    rw [hσ 0 (by decide) (by decide), t0 11 (by decide) (by decide), t0 1 (by decide) (by decide)]
    exact r4
  · unfold RFr
    rw [hτ 5 (by decide) (by decide)]
    exact r9
theorem a_ask {n : Int} {σ τ : Mem} {p what : Int} (h : RR n σ τ) : (if (0 ≤ p ∧ p < σ (σ 0 8) 2) ∧ (what = 0 ∨ what = 1) then akV σ (σ 0 8) p what else -1000001) = (if (0 ≤ p ∧ p ≤ τ 4 2 - 1) ∧ (0 ≤ what ∧ what ≤ 1) then raV (τ 4) p what else -1000001) ∧ RR (n + 1) (if (0 ≤ p ∧ p < σ (σ 0 8) 2) ∧ (what = 0 ∨ what = 1) then akM σ (σ 0 8) p what else σ) (if (0 ≤ p ∧ p ≤ τ 4 2 - 1) ∧ (0 ≤ what ∧ what ≤ 1) then raM τ p what else mu τ 0 0 0) := by
  obtain ⟨hH, ⟨e0, e1, e2, e3⟩, g2, g3, gp, g0, g1⟩ := RR_t h
  by_cases c : (0 ≤ p ∧ p < σ (σ 0 8) 2) ∧ (what = 0 ∨ what = 1)
  · have c' : (0 ≤ p ∧ p ≤ τ 4 2 - 1) ∧ (0 ≤ what ∧ what ≤ 1) := by omega
    have hp : 0 ≤ p ∧ p < τ 4 2 := ⟨c.1.1, by omega⟩
    obtain ⟨ek, ec⟩ := (RR_TR h).2.1 p hp.1 hp.2
    have et := cb_tho (p := p) (RR_TR h) (τ 4 3).toNat (by omega)
    rw [if_pos c, if_pos c, if_pos c', if_pos c']
    have k1 := h.2.2.2.2.1.2.2.1.2.2.1 p hp.1 hp.2
    have k2 := ((RR_TW h).2.2.2.2.1 p hp.1 (by omega)).2
    have et2 : cbC (σ (σ 0 8 + 16)) p (σ (σ 0 8) 3).toNat = thoF (τ 4) p (τ 4 3).toNat := by rw [← e3]; exact et
    rcases (show τ 4 (4 + p) = 1 ∨ τ 4 (4 + p) = 2 ∨ τ 4 (4 + p) = 3 ∨ τ 4 (4 + p) = 4 ∨ τ 4 (4 + p) = 5 from by omega) with hk | hk | hk | hk | hk
    · unfold akV raV akM raM
      rw [← ek]
      (repeat rw [if_neg (show ¬ τ 4 (4 + p) = 0 by omega)])
      (repeat rw [if_pos hk])
      refine ⟨?_, ?_⟩
      · split <;> omega
      · split
        · refine RR_trc h (fun q a b => by funext x; simp only [mu_app]; (repeat rw [if_neg (by omega)])) (fun q a b => by funext x; simp only [trcM, mu_app]; (repeat rw [if_neg (by omega)])) (fun j a b => by simp only [trcM, mu_app]; (repeat rw [if_neg (by omega)])) ⟨by (simp only [trcM, mu_app]; simp), by (simp only [trcM, mu_app]; simp), fun i i0 i1 => ?_⟩
          have i2 : i < 4 := by have hx := i1; simp only [mu_app] at hx; simpa using hx
          rcases (show i = 0 ∨ i = 1 ∨ i = 2 ∨ i = 3 from by omega) with e | e | e | e <;> (subst e; (simp only [trcM, mu_app]; simp))
        · refine RR_trc h (fun q a b => by funext x; simp only [mu_app]; (repeat rw [if_neg (by omega)])) (fun q a b => by funext x; simp only [trcM, mu_app]; (repeat rw [if_neg (by omega)])) (fun j a b => by simp only [trcM, mu_app]; (repeat rw [if_neg (by omega)])) ⟨by (simp only [trcM, mu_app]; simp), by (simp only [trcM, mu_app]; simp), fun i i0 i1 => ?_⟩
          have i2 : i < 2 := by have hx := i1; simp only [mu_app] at hx; simpa using hx
          rcases (show i = 0 ∨ i = 1 from by omega) with e | e <;> (subst e; (simp only [trcM, mu_app]; simp))
    · unfold akV raV akM raM
      rw [← ek]
      (repeat rw [if_neg (show ¬ τ 4 (4 + p) = 0 by omega)])
      (repeat rw [if_neg (show ¬ τ 4 (4 + p) = 1 by omega)])
      (repeat rw [if_pos hk])
      refine ⟨?_, ?_⟩
      · split <;> omega
      · split
        · refine RR_trc h (fun q a b => by funext x; simp only [mu_app]; (repeat rw [if_neg (by omega)])) (fun q a b => by funext x; simp only [trcM, mu_app]; (repeat rw [if_neg (by omega)])) (fun j a b => by simp only [trcM, mu_app]; (repeat rw [if_neg (by omega)])) ⟨by (simp only [trcM, mu_app]; simp), by (simp only [trcM, mu_app]; simp), fun i i0 i1 => ?_⟩
          have i2 : i < 6 := by have hx := i1; simp only [mu_app] at hx; simpa using hx
          rcases (show i = 0 ∨ i = 1 ∨ i = 2 ∨ i = 3 ∨ i = 4 ∨ i = 5 from by omega) with e | e | e | e | e | e <;> (subst e; (simp only [trcM, mu_app]; simp))
        · refine RR_trc h (fun q a b => by funext x; simp only [mu_app]; (repeat rw [if_neg (by omega)])) (fun q a b => by funext x; simp only [trcM, mu_app]; (repeat rw [if_neg (by omega)])) (fun j a b => by simp only [trcM, mu_app]; (repeat rw [if_neg (by omega)])) ⟨by (simp only [trcM, mu_app]; simp), by (simp only [trcM, mu_app]; simp), fun i i0 i1 => ?_⟩
          have i2 : i < 3 := by have hx := i1; simp only [mu_app] at hx; simpa using hx
          rcases (show i = 0 ∨ i = 1 ∨ i = 2 from by omega) with e | e | e <;> (subst e; (simp only [trcM, mu_app]; simp))
    · unfold akV raV akM raM
      rw [← ek]
      (repeat rw [if_neg (show ¬ τ 4 (4 + p) = 0 by omega)])
      (repeat rw [if_neg (show ¬ τ 4 (4 + p) = 1 by omega)])
      (repeat rw [if_neg (show ¬ τ 4 (4 + p) = 2 by omega)])
      (repeat rw [if_pos hk])
      refine ⟨?_, ?_⟩
      · split <;> omega
      · split
        · refine RR_trc h (fun q a b => by funext x; simp only [mu_app]; (repeat rw [if_neg (by omega)])) (fun q a b => by funext x; simp only [trcM, mu_app]; (repeat rw [if_neg (by omega)])) (fun j a b => by simp only [trcM, mu_app]; (repeat rw [if_neg (by omega)])) ⟨by (simp only [trcM, mu_app]; simp), by (simp only [trcM, mu_app]; simp), fun i i0 i1 => ?_⟩
          have i2 : i < 5 := by have hx := i1; simp only [mu_app] at hx; simpa using hx
          rcases (show i = 0 ∨ i = 1 ∨ i = 2 ∨ i = 3 ∨ i = 4 from by omega) with e | e | e | e | e <;> (subst e; (simp only [trcM, mu_app]; simp))
        · refine RR_trc h (fun q a b => by funext x; simp only [mu_app]; (repeat rw [if_neg (by omega)])) (fun q a b => by funext x; simp only [trcM, mu_app]; (repeat rw [if_neg (by omega)])) (fun j a b => by simp only [trcM, mu_app]; (repeat rw [if_neg (by omega)])) ⟨by (simp only [trcM, mu_app]; simp), by (simp only [trcM, mu_app]; simp), fun i i0 i1 => ?_⟩
          have i2 : i < 3 := by have hx := i1; simp only [mu_app] at hx; simpa using hx
          rcases (show i = 0 ∨ i = 1 ∨ i = 2 from by omega) with e | e | e <;> (subst e; (simp only [trcM, mu_app]; simp))
    · unfold akV raV akM raM
      rw [← ek]
      (repeat rw [if_neg (show ¬ τ 4 (4 + p) = 0 by omega)])
      (repeat rw [if_neg (show ¬ τ 4 (4 + p) = 1 by omega)])
      (repeat rw [if_neg (show ¬ τ 4 (4 + p) = 2 by omega)])
      (repeat rw [if_neg (show ¬ τ 4 (4 + p) = 3 by omega)])
      (repeat rw [if_pos hk])
      refine ⟨?_, ?_⟩
      · split <;> omega
      · split
        · refine RR_trc h (fun q a b => by funext x; simp only [mu_app]; (repeat rw [if_neg (by omega)])) (fun q a b => by funext x; simp only [trcM, mu_app]; (repeat rw [if_neg (by omega)])) (fun j a b => by simp only [trcM, mu_app]; (repeat rw [if_neg (by omega)])) ⟨by (simp only [trcM, mu_app]; simp), by (simp only [trcM, mu_app]; simp), fun i i0 i1 => ?_⟩
          have i2 : i < 2 := by have hx := i1; simp only [mu_app] at hx; simpa using hx
          rcases (show i = 0 ∨ i = 1 from by omega) with e | e <;> (subst e; (simp only [trcM, mu_app]; simp))
        · refine RR_trc h (fun q a b => by funext x; simp only [mu_app]; (repeat rw [if_neg (by omega)])) (fun q a b => by funext x; simp only [trcM, mu_app]; (repeat rw [if_neg (by omega)])) (fun j a b => by simp only [trcM, mu_app]; (repeat rw [if_neg (by omega)])) ⟨by (simp only [trcM, mu_app]; simp), by (simp only [trcM, mu_app]; simp), fun i i0 i1 => ?_⟩
          have i2 : i < 4 := by have hx := i1; simp only [mu_app] at hx; simpa using hx
          rcases (show i = 0 ∨ i = 1 ∨ i = 2 ∨ i = 3 from by omega) with e | e | e | e <;> (subst e; (simp only [trcM, mu_app]; simp))
    · unfold akV raV akM raM
      rw [← ek]
      (repeat rw [if_neg (show ¬ τ 4 (4 + p) = 0 by omega)])
      (repeat rw [if_neg (show ¬ τ 4 (4 + p) = 1 by omega)])
      (repeat rw [if_neg (show ¬ τ 4 (4 + p) = 2 by omega)])
      (repeat rw [if_neg (show ¬ τ 4 (4 + p) = 3 by omega)])
      (repeat rw [if_neg (show ¬ τ 4 (4 + p) = 4 by omega)])
      refine ⟨?_, ?_⟩
      · split <;> omega
      · split
        · refine RR_trc h (fun q a b => by funext x; simp only [mu_app]; (repeat rw [if_neg (by omega)])) (fun q a b => by funext x; simp only [trcM, mu_app]; (repeat rw [if_neg (by omega)])) (fun j a b => by simp only [trcM, mu_app]; (repeat rw [if_neg (by omega)])) ⟨by (simp only [trcM, mu_app]; simp), by (simp only [trcM, mu_app]; simp), fun i i0 i1 => ?_⟩
          have i2 : i < 3 := by have hx := i1; simp only [mu_app] at hx; simpa using hx
          rcases (show i = 0 ∨ i = 1 ∨ i = 2 from by omega) with e | e | e <;> (subst e; (simp only [trcM, mu_app]; simp))
        · refine RR_trc h (fun q a b => by funext x; simp only [mu_app]; (repeat rw [if_neg (by omega)])) (fun q a b => by funext x; simp only [trcM, mu_app]; (repeat rw [if_neg (by omega)])) (fun j a b => by simp only [trcM, mu_app]; (repeat rw [if_neg (by omega)])) ⟨by (simp only [trcM, mu_app]; simp), by (simp only [trcM, mu_app]; simp), fun i i0 i1 => ?_⟩
          have i2 : i < 5 := by have hx := i1; simp only [mu_app] at hx; simpa using hx
          rcases (show i = 0 ∨ i = 1 ∨ i = 2 ∨ i = 3 ∨ i = 4 from by omega) with e | e | e | e | e <;> (subst e; (simp only [trcM, mu_app]; simp))
  · rw [if_neg c, if_neg c, if_neg (by omega), if_neg (by omega)]
    exact ⟨rfl, RR_0 h⟩
