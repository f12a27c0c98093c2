theorem a_copy {n : Int} {σ τ : Mem} {a i b j m : Int} (h : RR n σ τ) : (if ¬ (0 ≤ a ∧ a < 8) ∨ ¬ (0 ≤ b ∧ b < 8) then -1000001 else if ¬ σ (44 + a) 1 = 0 ∨ ¬ σ (44 + b) 1 = 0 then -1000011 else if ¬ σ (44 + a) 2 = σ (44 + b) 2 then -1000015 else if ¬ (0 ≤ i ∧ 0 ≤ m ∧ i ≤ σ (44 + a) 3 - m) ∨ ¬ (0 ≤ j ∧ 0 ≤ m ∧ j ≤ σ (44 + b) 3 - m) then -1000012 else m) = (if ¬ (0 ≤ a ∧ a ≤ 7) ∨ ¬ (0 ≤ b ∧ b ≤ 7) then -1000001 else if τ 1 a < 0 ∨ τ 1 b < 0 then -1000011 else if ¬ τ 1 a = τ 1 b then -1000015 else if i < 0 ∨ j < 0 ∨ m < 0 ∨ τ 2 a < i + m ∨ τ 2 b < j + m then -1000012 else m) ∧ RR (n + 1) (if ¬ (0 ≤ a ∧ a < 8) ∨ ¬ (0 ≤ b ∧ b < 8) then σ else if ¬ σ (44 + a) 1 = 0 ∨ ¬ σ (44 + b) 1 = 0 then mu σ 0 11 1 else if ¬ σ (44 + a) 2 = σ (44 + b) 2 then mu σ 0 11 5 else if ¬ (0 ≤ i ∧ 0 ≤ m ∧ i ≤ σ (44 + a) 3 - m) ∨ ¬ (0 ≤ j ∧ 0 ≤ m ∧ j ≤ σ (44 + b) 3 - m) then mu σ 0 11 2 else mu (mr σ (44 + b + 8) (cpy (σ (44 + a + 8)) (σ (44 + b + 8)) i j m)) 0 11 0) (if ¬ (0 ≤ a ∧ a ≤ 7) ∨ ¬ (0 ≤ b ∧ b ≤ 7) then mu τ 0 0 0 else if τ 1 a < 0 ∨ τ 1 b < 0 then mu (mu τ 0 0 0) 0 1 1 else if ¬ τ 1 a = τ 1 b then mu (mu τ 0 0 0) 0 1 5 else if i < 0 ∨ j < 0 ∨ m < 0 ∨ τ 2 a < i + m ∨ τ 2 b < j + m then mu (mu τ 0 0 0) 0 1 2 else mr (mu (mu τ 0 0 0) 0 1 0) 3 (over (τ 3) (fun x => τ 3 (x + (40 * a + i - (40 * b + j)))) (40 * b + j) (40 * b + j + m))) := by
  by_cases c : ¬ (0 ≤ a ∧ a < 8) ∨ ¬ (0 ≤ b ∧ b < 8)
  · have c' : ¬ (0 ≤ a ∧ a ≤ 7) ∨ ¬ (0 ≤ b ∧ b ≤ 7) := by omega
    rw [if_pos c, if_pos c, if_pos c', if_pos c']
    exact ⟨rfl, RR_0 h⟩
  · have c' : ¬ (¬ (0 ≤ a ∧ a ≤ 7) ∨ ¬ (0 ≤ b ∧ b ≤ 7)) := by omega
    obtain ⟨o1, o2, o3, o4, o5⟩ := h.1 a (by omega) (by omega)
    obtain ⟨u1, u2, u3, u4, u5⟩ := h.1 b (by omega) (by omega)
    rw [if_neg c, if_neg c, if_neg c', if_neg c']
    by_cases d : ¬ σ (44 + a) 1 = 0 ∨ ¬ σ (44 + b) 1 = 0
    · have d' : τ 1 a < 0 ∨ τ 1 b < 0 := by omega
      rw [if_pos d, if_pos d, if_pos d', if_pos d']
      exact ⟨rfl, fnd_up h⟩
    · have d' : ¬ (τ 1 a < 0 ∨ τ 1 b < 0) := by omega
      rw [if_neg d, if_neg d, if_neg d', if_neg d']
      by_cases f : ¬ σ (44 + a) 2 = σ (44 + b) 2
      · have f' : ¬ τ 1 a = τ 1 b := by omega
        rw [if_pos f, if_pos f, if_pos f', if_pos f']
        exact ⟨rfl, fnd_up h⟩
      · have f' : ¬ ¬ τ 1 a = τ 1 b := by omega
        rw [if_neg f, if_neg f, if_neg f', if_neg f']
        by_cases g : ¬ (0 ≤ i ∧ 0 ≤ m ∧ i ≤ σ (44 + a) 3 - m) ∨ ¬ (0 ≤ j ∧ 0 ≤ m ∧ j ≤ σ (44 + b) 3 - m)
        · have g' : i < 0 ∨ j < 0 ∨ m < 0 ∨ τ 2 a < i + m ∨ τ 2 b < j + m := by omega
          rw [if_pos g, if_pos g, if_pos g', if_pos g']
          exact ⟨rfl, fnd_up h⟩
        · have g' : ¬ (i < 0 ∨ j < 0 ∨ m < 0 ∨ τ 2 a < i + m ∨ τ 2 b < j + m) := by omega
          rw [if_neg g, if_neg g, if_neg g', if_neg g']
          refine ⟨rfl, RR_rows h ?_ ?_ (fun q a b => by funext x; simp only [mu_app, mr_app]; (repeat rw [if_neg (by omega)])) ⟨by (simp only [mu_app, mr_app, and_self, ↓reduceIte]; (repeat (first | rw [if_neg (by omega)] | rw [if_pos (by omega)]))), by (simp only [mu_app, mr_app, and_self, ↓reduceIte]; (repeat (first | rw [if_neg (by omega)] | rw [if_pos (by omega)]))), by (simp only [mu_app, mr_app, and_self, ↓reduceIte]; (repeat (first | rw [if_neg (by omega)] | rw [if_pos (by omega)])))⟩ (fun q a b c d => by funext x; simp only [mu_app, mr_app]; (repeat rw [if_neg (by omega)])) (fun j a b => by simp only [mu_app, mr_app]; (repeat rw [if_neg (by omega)])) (by (simp only [mu_app, mr_app, and_self, ↓reduceIte]; (repeat (first | rw [if_neg (by omega)] | rw [if_pos (by omega)]))))⟩
          · intro r' h0 h1
            obtain ⟨p1, p2, p3, p4, p5⟩ := h.1 r' h0 h1
            by_cases e : r' = b
            · subst e
              refine ⟨by (simp only [mu_app, mr_app, and_self, ↓reduceIte]; (repeat (first | rw [if_neg (by omega)] | rw [if_pos (by omega)]))); exact p1, ⟨by (simp only [mu_app, mr_app, and_self, ↓reduceIte]; (repeat (first | rw [if_neg (by omega)] | rw [if_pos (by omega)]))); exact p2.1, by (simp only [mu_app, mr_app, and_self, ↓reduceIte]; (repeat (first | rw [if_neg (by omega)] | rw [if_pos (by omega)]))); exact p2.2⟩, ⟨by (simp only [mu_app, mr_app, and_self, ↓reduceIte]; (repeat (first | rw [if_neg (by omega)] | rw [if_pos (by omega)]))); exact p3.1, by (simp only [mu_app, mr_app, and_self, ↓reduceIte]; (repeat (first | rw [if_neg (by omega)] | rw [if_pos (by omega)]))); exact p3.2.1, by (simp only [mu_app, mr_app, and_self, ↓reduceIte]; (repeat (first | rw [if_neg (by omega)] | rw [if_pos (by omega)]))); exact p3.2.2⟩, fun x => ?_, fun x x0 x1 => ?_⟩
              · have hx : R3 ((cpy (σ (44 + a + 8)) (σ (44 + r' + 8)) i j m) x) := by
                  unfold cpy
                  split
                  · exact o4 _
                  · exact p4 x
                (simp only [mu_app, mr_app, ↓reduceIte]; (repeat (first | rw [if_neg (by omega)] | rw [if_pos (by omega)])); exact hx)
              · simp only [mu_app, mr_app, ↓reduceIte]
                (repeat rw [if_neg (by omega)])
                unfold cpy over
                by_cases z : j ≤ x ∧ x < j + m
                · rw [if_pos z, if_pos (by omega), ← o5 (i + (x - j)) (by omega) (by omega)]
                  show τ 3 (40 * r' + x + (40 * a + i - (40 * r' + j))) = τ 3 (40 * a + (i + (x - j)))
                  congr 1; omega
                · rw [if_neg z, if_neg (by omega)]; exact p5 x x0 x1
            · refine ⟨by (simp only [mu_app, mr_app, and_self, ↓reduceIte]; (repeat (first | rw [if_neg (by omega)] | rw [if_pos (by omega)]))); exact p1, ⟨by (simp only [mu_app, mr_app, and_self, ↓reduceIte]; (repeat (first | rw [if_neg (by omega)] | rw [if_pos (by omega)]))); exact p2.1, by (simp only [mu_app, mr_app, and_self, ↓reduceIte]; (repeat (first | rw [if_neg (by omega)] | rw [if_pos (by omega)]))); exact p2.2⟩, ⟨by (simp only [mu_app, mr_app, and_self, ↓reduceIte]; (repeat (first | rw [if_neg (by omega)] | rw [if_pos (by omega)]))); exact p3.1, by (simp only [mu_app, mr_app, and_self, ↓reduceIte]; (repeat (first | rw [if_neg (by omega)] | rw [if_pos (by omega)]))); exact p3.2.1, by (simp only [mu_app, mr_app, and_self, ↓reduceIte]; (repeat (first | rw [if_neg (by omega)] | rw [if_pos (by omega)]))); exact p3.2.2⟩, fun x => by (simp only [mu_app, mr_app, and_self, ↓reduceIte]; (repeat (first | rw [if_neg (by omega)] | rw [if_pos (by omega)]))); exact p4 x, fun x x0 x1 => ?_⟩
              simp only [mu_app, mr_app, ↓reduceIte]
              (repeat rw [if_neg (by omega)])
              rw [over_out (by omega)]; exact p5 x x0 x1
          · intro x
            have hx : R3 (over (τ 3) (fun x => τ 3 (x + (40 * a + i - (40 * b + j)))) (40 * b + j) (40 * b + j + m) x) := by
              unfold over
              split
              · exact h.2.1 _
              · exact h.2.1 x
            rw [mr_app, if_pos rfl]; exact hx
