theorem a_row {n : Int} {σ τ : Mem} {r ln m : Int} (h : RR n σ τ) : (if ¬ (0 ≤ r ∧ r < 8) ∨ ln < 0 ∨ 3 ≤ ln ∨ 40 < m then -1000001 else if m < 0 then -1000014 else m) = (if ¬ (0 ≤ r ∧ r ≤ 7) ∨ ¬ (0 ≤ ln ∧ ln ≤ 2) ∨ 40 < m then -1000001 else if m < 0 then -1000014 else m) ∧ RR (n + 1) (if ¬ (0 ≤ r ∧ r < 8) ∨ ln < 0 ∨ 3 ≤ ln ∨ 40 < m then σ else if m < 0 then mu σ 0 11 4 else mu (mr (mu (mu (mu σ (44 + r) 1 0) (44 + r) 2 ln) (44 + r) 3 m) (44 + r + 8) (over (σ (44 + r + 8)) (fun _ => 0) 0 40)) 0 11 0) (if ¬ (0 ≤ r ∧ r ≤ 7) ∨ ¬ (0 ≤ ln ∧ ln ≤ 2) ∨ 40 < m then mu τ 0 0 0 else if m < 0 then mu (mu τ 0 0 0) 0 1 4 else mr (mu (mu (mu (mu τ 0 0 0) 0 1 0) 1 r ln) 2 r m) 3 (over (τ 3) (fun _ => 0) (40 * r) (40 * r + 40))) := by
  have nr : ∀ r', 0 ≤ r' → r' < 8 → RRow σ τ := fun _ _ _ => h.1
  by_cases c : ¬ (0 ≤ r ∧ r < 8) ∨ ln < 0 ∨ 3 ≤ ln ∨ 40 < m
  · have c' : ¬ (0 ≤ r ∧ r ≤ 7) ∨ ¬ (0 ≤ ln ∧ ln ≤ 2) ∨ 40 < m := by omega
    rw [if_pos c, if_pos c, if_pos c', if_pos c']
    exact ⟨rfl, RR_0 h⟩
  · have c' : ¬ (¬ (0 ≤ r ∧ r ≤ 7) ∨ ¬ (0 ≤ ln ∧ ln ≤ 2) ∨ 40 < m) := by omega
    rw [if_neg c, if_neg c, if_neg c', if_neg c']
    by_cases d : m < 0
    · (repeat rw [if_pos d])
      exact ⟨rfl, fnd_up h⟩
    · (repeat rw [if_neg d])
      refine ⟨rfl, RR_rows h ?_ ?_ (fun q a b => by funext x; simp only [mu_app, mr_app]; (repeat rw [if_neg (by omega)])) ⟨by (simp only [mu_app, mr_app, and_self, ↓reduceIte]; (repeat (first | rw [if_neg (by omega)] | rw [if_pos (by omega)]))), by (simp only [mu_app, mr_app, and_self, ↓reduceIte]; (repeat (first | rw [if_neg (by omega)] | rw [if_pos (by omega)]))), by (simp only [mu_app, mr_app, and_self, ↓reduceIte]; (repeat (first | rw [if_neg (by omega)] | rw [if_pos (by omega)])))⟩ (fun q a b c d => by funext x; simp only [mu_app, mr_app]; (repeat rw [if_neg (by omega)])) (fun j a b => by simp only [mu_app, mr_app]; (repeat rw [if_neg (by omega)])) (by (simp only [mu_app, mr_app, and_self, ↓reduceIte]; (repeat (first | rw [if_neg (by omega)] | rw [if_pos (by omega)]))))⟩
      · intro r' h0 h1
        obtain ⟨o1, o2, o3, o4, o5⟩ := h.1 r' h0 h1
        by_cases e : r' = r
        · subst e
          refine ⟨.inl ⟨by (simp only [mu_app, mr_app, and_self, ↓reduceIte]; (repeat (first | rw [if_neg (by omega)] | rw [if_pos (by omega)]))), by (simp only [mu_app, mr_app, and_self, ↓reduceIte]; (repeat (first | rw [if_neg (by omega)] | rw [if_pos (by omega)])))⟩, ⟨by (simp only [mu_app, mr_app, and_self, ↓reduceIte]; (repeat (first | rw [if_neg (by omega)] | rw [if_pos (by omega)]))); omega, by (simp only [mu_app, mr_app, and_self, ↓reduceIte]; (repeat (first | rw [if_neg (by omega)] | rw [if_pos (by omega)]))); omega⟩, ⟨by (simp only [mu_app, mr_app, and_self, ↓reduceIte]; (repeat (first | rw [if_neg (by omega)] | rw [if_pos (by omega)]))), by (simp only [mu_app, mr_app, and_self, ↓reduceIte]; (repeat (first | rw [if_neg (by omega)] | rw [if_pos (by omega)]))); omega, by (simp only [mu_app, mr_app, and_self, ↓reduceIte]; (repeat (first | rw [if_neg (by omega)] | rw [if_pos (by omega)]))); omega⟩, fun j => ?_, fun j j0 j1 => ?_⟩
          · have hj : R3 (over (σ (44 + r' + 8)) (fun _ => 0) 0 40 j) := by
              unfold over
              split
              · exact (show R3 0 from ⟨by decide, by decide⟩)
              · exact o4 j
            (simp only [mu_app, mr_app, ↓reduceIte]; (repeat (first | rw [if_neg (by omega)] | rw [if_pos (by omega)])); exact hj)
          · simp only [mu_app, mr_app, ↓reduceIte]
            (repeat (first | rw [if_neg (by omega)] | rw [if_pos (by omega)]))
            rw [over_in (by omega) (by omega), over_in j0 j1]
        · have q1 : ∀ x, mu (mr (mu (mu (mu σ (44 + r) 1 0) (44 + r) 2 ln) (44 + r) 3 m) (44 + r + 8) (over (σ (44 + r + 8)) (fun _ => 0) 0 40)) 0 11 0 (44 + r') x = σ (44 + r') x := fun x => by (simp only [mu_app, mr_app, and_self, ↓reduceIte]; (repeat (first | rw [if_neg (by omega)] | rw [if_pos (by omega)])))
          have q8 : ∀ x, mu (mr (mu (mu (mu σ (44 + r) 1 0) (44 + r) 2 ln) (44 + r) 3 m) (44 + r + 8) (over (σ (44 + r + 8)) (fun _ => 0) 0 40)) 0 11 0 (44 + r' + 8) x = σ (44 + r' + 8) x := fun x => by (simp only [mu_app, mr_app, and_self, ↓reduceIte]; (repeat (first | rw [if_neg (by omega)] | rw [if_pos (by omega)])))
          refine ⟨?_, ?_, ?_, fun j => ?_, fun j j0 j1 => ?_⟩
          · rw [q1, q1]
            have : mr (mu (mu (mu (mu τ 0 0 0) 0 1 0) 1 r ln) 2 r m) 3 (over (τ 3) (fun _ => 0) (40 * r) (40 * r + 40)) 1 r' = τ 1 r' := by (simp only [mu_app, mr_app, and_self, ↓reduceIte]; (repeat (first | rw [if_neg (by omega)] | rw [if_pos (by omega)])))
            rw [this]; exact o1
          · rw [q1]; exact o2
          · rw [q1]
            have : mr (mu (mu (mu (mu τ 0 0 0) 0 1 0) 1 r ln) 2 r m) 3 (over (τ 3) (fun _ => 0) (40 * r) (40 * r + 40)) 2 r' = τ 2 r' := by (simp only [mu_app, mr_app, and_self, ↓reduceIte]; (repeat (first | rw [if_neg (by omega)] | rw [if_pos (by omega)])))
            rw [this]; exact o3
          · rw [q8]; exact o4 j
          · rw [q8]
            have : mr (mu (mu (mu (mu τ 0 0 0) 0 1 0) 1 r ln) 2 r m) 3 (over (τ 3) (fun _ => 0) (40 * r) (40 * r + 40)) 3 (40 * r' + j) = τ 3 (40 * r' + j) := by
              rw [mr_app, if_pos rfl, over_out (by omega)]
            rw [this]; exact o5 j j0 j1
      · intro j
        have hj : R3 (over (τ 3) (fun _ => 0) (40 * r) (40 * r + 40) j) := by
          unfold over
          split
          · exact (show R3 0 from ⟨by decide, by decide⟩)
          · exact h.2.1 j
        rw [mr_app, if_pos rfl]; exact hj
