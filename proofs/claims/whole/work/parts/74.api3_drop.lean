theorem a_drop {n : Int} {σ τ : Mem} {r : Int} (h : RR n σ τ) : (if ¬ (0 ≤ r ∧ r < 8) then -1000001 else if ¬ σ (44 + r) 1 = 0 then -1000011 else σ (44 + r) 3) = (if (0 ≤ r ∧ r ≤ 7) then (if τ 1 r < 0 then -1000011 else τ 2 r) else -1000001) ∧ RR (n + 1) (if ¬ (0 ≤ r ∧ r < 8) then σ else if ¬ σ (44 + r) 1 = 0 then mu σ 0 11 1 else mu (mu σ (44 + r) 1 1) 0 11 0) (if (0 ≤ r ∧ r ≤ 7) then (if τ 1 r < 0 then mu (mu τ 0 0 0) 0 1 1 else mu (mu (mu τ 0 0 0) 0 1 0) 1 r (-1)) else mu τ 0 0 0) := by
  by_cases c : 0 ≤ r ∧ r < 8
  · have c' : 0 ≤ r ∧ r ≤ 7 := by omega
    obtain ⟨o1, o2, o3, o4, o5⟩ := h.1 r c.1 c.2
    have nc : ¬ ¬ (0 ≤ r ∧ r < 8) := fun z => z c
    rw [if_neg nc, if_neg nc, if_pos c', if_pos c']
    by_cases d : σ (44 + r) 1 = 0
    · have d' : ¬ τ 1 r < 0 := by omega
      have nd : ¬ ¬ σ (44 + r) 1 = 0 := fun z => z d
      rw [if_neg nd, if_neg nd, if_neg d', if_neg d']
      refine ⟨o3.1.symm, RR_rows h ?_ ?_ (fun q a b => by funext x; simp only [mu_app, mr_app]; (repeat rw [if_neg (by omega)])) ⟨by (simp only [mu_app, mr_app, and_self, ↓reduceIte]; (repeat (first | rw [if_neg (by omega)] | rw [if_pos (by omega)]))), by (simp only [mu_app, mr_app, and_self, ↓reduceIte]; (repeat (first | rw [if_neg (by omega)] | rw [if_pos (by omega)]))), by (simp only [mu_app, mr_app, and_self, ↓reduceIte]; (repeat (first | rw [if_neg (by omega)] | rw [if_pos (by omega)])))⟩ (fun q a b c d => by funext x; simp only [mu_app, mr_app]; (repeat rw [if_neg (by omega)])) (fun j a b => by simp only [mu_app, mr_app]; (repeat rw [if_neg (by omega)])) (by (simp only [mu_app, mr_app, and_self, ↓reduceIte]; (repeat (first | rw [if_neg (by omega)] | rw [if_pos (by omega)]))))⟩
      · intro r' h0 h1
        obtain ⟨p1, p2, p3, p4, p5⟩ := h.1 r' h0 h1
        by_cases e : r' = r
        · subst e
          refine ⟨.inr ⟨by (simp only [mu_app, mr_app, and_self, ↓reduceIte]; (repeat (first | rw [if_neg (by omega)] | rw [if_pos (by omega)]))), by (simp only [mu_app, mr_app, and_self, ↓reduceIte]; (repeat (first | rw [if_neg (by omega)] | rw [if_pos (by omega)])))⟩, ⟨by (simp only [mu_app, mr_app, and_self, ↓reduceIte]; (repeat (first | rw [if_neg (by omega)] | rw [if_pos (by omega)]))); exact p2.1, by (simp only [mu_app, mr_app, and_self, ↓reduceIte]; (repeat (first | rw [if_neg (by omega)] | rw [if_pos (by omega)]))); exact p2.2⟩, ⟨by (simp only [mu_app, mr_app, and_self, ↓reduceIte]; (repeat (first | rw [if_neg (by omega)] | rw [if_pos (by omega)]))); exact p3.1, by (simp only [mu_app, mr_app, and_self, ↓reduceIte]; (repeat (first | rw [if_neg (by omega)] | rw [if_pos (by omega)]))); exact p3.2.1, by (simp only [mu_app, mr_app, and_self, ↓reduceIte]; (repeat (first | rw [if_neg (by omega)] | rw [if_pos (by omega)]))); exact p3.2.2⟩, fun j => by (simp only [mu_app, mr_app, and_self, ↓reduceIte]; (repeat (first | rw [if_neg (by omega)] | rw [if_pos (by omega)]))); exact p4 j, fun j j0 j1 => by (simp only [mu_app, mr_app, and_self, ↓reduceIte]; (repeat (first | rw [if_neg (by omega)] | rw [if_pos (by omega)]))); exact p5 j j0 j1⟩
        · refine ⟨by (simp only [mu_app, mr_app, and_self, ↓reduceIte]; (repeat (first | rw [if_neg (by omega)] | rw [if_pos (by omega)]))); exact p1, ⟨by (simp only [mu_app, mr_app, and_self, ↓reduceIte]; (repeat (first | rw [if_neg (by omega)] | rw [if_pos (by omega)]))); exact p2.1, by (simp only [mu_app, mr_app, and_self, ↓reduceIte]; (repeat (first | rw [if_neg (by omega)] | rw [if_pos (by omega)]))); exact p2.2⟩, ⟨by (simp only [mu_app, mr_app, and_self, ↓reduceIte]; (repeat (first | rw [if_neg (by omega)] | rw [if_pos (by omega)]))); exact p3.1, by (simp only [mu_app, mr_app, and_self, ↓reduceIte]; (repeat (first | rw [if_neg (by omega)] | rw [if_pos (by omega)]))); exact p3.2.1, by (simp only [mu_app, mr_app, and_self, ↓reduceIte]; (repeat (first | rw [if_neg (by omega)] | rw [if_pos (by omega)]))); exact p3.2.2⟩, fun j => by (simp only [mu_app, mr_app, and_self, ↓reduceIte]; (repeat (first | rw [if_neg (by omega)] | rw [if_pos (by omega)]))); exact p4 j, fun j j0 j1 => by (simp only [mu_app, mr_app, and_self, ↓reduceIte]; (repeat (first | rw [if_neg (by omega)] | rw [if_pos (by omega)]))); exact p5 j j0 j1⟩
      · intro j
        (simp only [mu_app, mr_app, and_self, ↓reduceIte]; (repeat (first | rw [if_neg (by omega)] | rw [if_pos (by omega)]))); exact h.2.1 j
    · have d' : τ 1 r < 0 := by omega
      rw [if_pos d, if_pos d, if_pos d', if_pos d']
      exact ⟨rfl, fnd_up h⟩
  · rw [if_pos c, if_pos c, if_neg (by omega), if_neg (by omega)]
    exact ⟨rfl, RR_0 h⟩
