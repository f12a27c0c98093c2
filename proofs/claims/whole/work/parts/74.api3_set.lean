theorem a_set {n : Int} {σ τ : Mem} {r i v : Int} (h : RR n σ τ) (hv : R3 v) : (if ¬ (0 ≤ r ∧ r < 8) then -1000001 else if ¬ σ (44 + r) 1 = 0 then -1000011 else if i < 0 ∨ σ (44 + r) 3 ≤ i then -1000012 else (cutC (σ (44 + r) 2) v)) = (if (0 ≤ r ∧ r ≤ 7) then (if τ 1 r < 0 then -1000011 else if ¬ (0 ≤ i ∧ i ≤ τ 2 r - 1) then -1000012 else (if τ 1 r = 0 then oI2B v else if τ 1 r = 1 then oI2S v else v)) else -1000001) ∧ RR (n + 1) (if ¬ (0 ≤ r ∧ r < 8) then σ else if ¬ σ (44 + r) 1 = 0 then mu σ 0 11 1 else if i < 0 ∨ σ (44 + r) 3 ≤ i then mu σ 0 11 2 else mu (mu σ (44 + r + 8) i (cutC (σ (44 + r) 2) v)) 0 11 0) (if (0 ≤ r ∧ r ≤ 7) then (if τ 1 r < 0 then mu (mu τ 0 0 0) 0 1 1 else if ¬ (0 ≤ i ∧ i ≤ τ 2 r - 1) then mu (mu τ 0 0 0) 0 1 2 else mu (mu (mu τ 0 0 0) 0 1 0) 3 (40 * r + i) (if τ 1 r = 0 then oI2B v else if τ 1 r = 1 then oI2S v else v)) else mu τ 0 0 0) := by
  by_cases c : 0 ≤ r ∧ r < 8
  · have c' : 0 ≤ r ∧ r ≤ 7 := by omega
    obtain ⟨o1, o2, o3, o4, o5⟩ := h.1 r c.1 c.2
    have nc : ¬ ¬ (0 ≤ r ∧ r < 8) := fun z => z c
    rw [if_neg nc, if_neg nc, if_pos c', if_pos c']
    by_cases d : σ (44 + r) 1 = 0
    · have d' : ¬ τ 1 r < 0 := by omega
      have nd : ¬ ¬ σ (44 + r) 1 = 0 := fun z => z d
      rw [if_neg nd, if_neg nd, if_neg d', if_neg d']
      by_cases f : i < 0 ∨ σ (44 + r) 3 ≤ i
      · have f' : ¬ (0 ≤ i ∧ i ≤ τ 2 r - 1) := by omega
        rw [if_pos f, if_pos f, if_pos f', if_pos f']
        exact ⟨rfl, fnd_up h⟩
      · have f' : ¬ ¬ (0 ≤ i ∧ i ≤ τ 2 r - 1) := by omega
        have ev : (if τ 1 r = 0 then oI2B v else if τ 1 r = 1 then oI2S v else v) = cutC (σ (44 + r) 2) v := by
          unfold cutC
          rw [show τ 1 r = σ (44 + r) 2 by omega]
        rw [if_neg f, if_neg f, if_neg f', if_neg f', ev]
        have hR := cutC_R (l := σ (44 + r) 2) hv
        refine ⟨rfl, RR_rows h ?_ ?_ (fun q a b => by funext x; simp only [mu_app, mr_app]; (repeat rw [if_neg (by omega)])) ⟨by (simp only [mu_app, mr_app, and_self, ↓reduceIte]; (repeat (first | rw [if_neg (by omega)] | rw [if_pos (by omega)]))), by (simp only [mu_app, mr_app, and_self, ↓reduceIte]; (repeat (first | rw [if_neg (by omega)] | rw [if_pos (by omega)]))), by (simp only [mu_app, mr_app, and_self, ↓reduceIte]; (repeat (first | rw [if_neg (by omega)] | rw [if_pos (by omega)])))⟩ (fun q a b c d => by funext x; simp only [mu_app, mr_app]; (repeat rw [if_neg (by omega)])) (fun j a b => by simp only [mu_app, mr_app]; (repeat rw [if_neg (by omega)])) (by (simp only [mu_app, mr_app, and_self, ↓reduceIte]; (repeat (first | rw [if_neg (by omega)] | rw [if_pos (by omega)]))))⟩
        · intro r' h0 h1
          obtain ⟨p1, p2, p3, p4, p5⟩ := h.1 r' h0 h1
          by_cases e : r' = r
          · subst e
            refine ⟨by (simp only [mu_app, mr_app, and_self, ↓reduceIte]; (repeat (first | rw [if_neg (by omega)] | rw [if_pos (by omega)]))); exact p1, ⟨by (simp only [mu_app, mr_app, and_self, ↓reduceIte]; (repeat (first | rw [if_neg (by omega)] | rw [if_pos (by omega)]))); exact p2.1, by (simp only [mu_app, mr_app, and_self, ↓reduceIte]; (repeat (first | rw [if_neg (by omega)] | rw [if_pos (by omega)]))); exact p2.2⟩, ⟨by (simp only [mu_app, mr_app, and_self, ↓reduceIte]; (repeat (first | rw [if_neg (by omega)] | rw [if_pos (by omega)]))); exact p3.1, by (simp only [mu_app, mr_app, and_self, ↓reduceIte]; (repeat (first | rw [if_neg (by omega)] | rw [if_pos (by omega)]))); exact p3.2.1, by (simp only [mu_app, mr_app, and_self, ↓reduceIte]; (repeat (first | rw [if_neg (by omega)] | rw [if_pos (by omega)]))); exact p3.2.2⟩, fun j => ?_, fun j j0 j1 => ?_⟩
            · by_cases g : j = i
              · subst g; (simp only [mu_app, mr_app, and_self, ↓reduceIte]; (repeat (first | rw [if_neg (by omega)] | rw [if_pos (by omega)]))); exact hR
              · (simp only [mu_app, mr_app, and_self, ↓reduceIte]; (repeat (first | rw [if_neg (by omega)] | rw [if_pos (by omega)]))); exact p4 j
            · by_cases g : j = i
              · subst g; (simp only [mu_app, mr_app, and_self, ↓reduceIte]; (repeat (first | rw [if_neg (by omega)] | rw [if_pos (by omega)])))
              · (simp only [mu_app, mr_app, and_self, ↓reduceIte]; (repeat (first | rw [if_neg (by omega)] | rw [if_pos (by omega)]))); exact p5 j j0 j1
          · refine ⟨by (simp only [mu_app, mr_app, and_self, ↓reduceIte]; (repeat (first | rw [if_neg (by omega)] | rw [if_pos (by omega)]))); exact p1, ⟨by (simp only [mu_app, mr_app, and_self, ↓reduceIte]; (repeat (first | rw [if_neg (by omega)] | rw [if_pos (by omega)]))); exact p2.1, by (simp only [mu_app, mr_app, and_self, ↓reduceIte]; (repeat (first | rw [if_neg (by omega)] | rw [if_pos (by omega)]))); exact p2.2⟩, ⟨by (simp only [mu_app, mr_app, and_self, ↓reduceIte]; (repeat (first | rw [if_neg (by omega)] | rw [if_pos (by omega)]))); exact p3.1, by (simp only [mu_app, mr_app, and_self, ↓reduceIte]; (repeat (first | rw [if_neg (by omega)] | rw [if_pos (by omega)]))); exact p3.2.1, by (simp only [mu_app, mr_app, and_self, ↓reduceIte]; (repeat (first | rw [if_neg (by omega)] | rw [if_pos (by omega)]))); exact p3.2.2⟩, fun j => by (simp only [mu_app, mr_app, and_self, ↓reduceIte]; (repeat (first | rw [if_neg (by omega)] | rw [if_pos (by omega)]))); exact p4 j, fun j j0 j1 => by (simp only [mu_app, mr_app, and_self, ↓reduceIte]; (repeat (first | rw [if_neg (by omega)] | rw [if_pos (by omega)]))); exact p5 j j0 j1⟩
        · intro j
          by_cases g : j = 40 * r + i
          · subst g; (simp only [mu_app, mr_app, and_self, ↓reduceIte]; (repeat (first | rw [if_neg (by omega)] | rw [if_pos (by omega)]))); exact hR
          · (simp only [mu_app, mr_app, and_self, ↓reduceIte]; (repeat (first | rw [if_neg (by omega)] | rw [if_pos (by omega)]))); exact h.2.1 j
    · have d' : τ 1 r < 0 := by omega
      rw [if_pos d, if_pos d, if_pos d', if_pos d']
      exact ⟨rfl, fnd_up h⟩
  · rw [if_pos c, if_pos c, if_neg (by omega), if_neg (by omega)]
    exact ⟨rfl, RR_0 h⟩
