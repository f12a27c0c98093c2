/-! the relation at the start -/
theorem TWn_0 {n : Int} (hn : 0 ≤ n) : TWn n (fun _ => 0) := by
  refine ⟨⟨by decide, by decide, by decide, by decide, fun p _ _ => (show (0 : Int) ≤ 0 ∧ (0 : Int) ≤ 5 from by decide), fun t p _ _ _ _ => (show (0 : Int) ≤ 0 ∧ (0 : Int) ≤ 60 from by decide), fun t _ _ => (show (-1000000 : Int) ≤ 0 ∧ (0 : Int) ≤ 3 from by decide), fun t _ _ => (show (0 : Int) ≤ 0 ∧ (0 : Int) ≤ 600 from by decide)⟩, .inl rfl, fun p p0 p1 => absurd (show p < (0 : Int) from p1) (by omega), fun t _ _ => hn⟩
theorem c0_0 {k j : Int} (h0 : k ≠ 0) (h1 : ¬ (44 ≤ k ∧ k < 52)) : mem0C k j = 0 := by unfold mem0C; rw [if_neg h0, if_neg h1]
theorem c0_r {k j : Int} (h1 : 44 ≤ k ∧ k < 52) : mem0C k j = if j = 1 then 1 else 0 := by unfold mem0C; rw [if_neg (by omega), if_pos h1]
theorem m0_0 {k j : Int} (h : k ≠ 1) : mem0M k j = 0 := if_neg h
theorem RR_start : RR 0 mem0C mem0M := by
  have m : ∀ k : Int, k ≠ 1 → mem0M k = fun _ => 0 := fun k hk => by funext j; exact m0_0 hk
  have c : ∀ k : Int, k ≠ 0 → ¬ (44 ≤ k ∧ k < 52) → mem0C k = fun _ => 0 := fun k h0 h1 => by funext j; exact c0_0 h0 h1
  have r3 : R3 0 := ⟨by decide, by decide⟩
  refine ⟨fun r r0 r1 => ⟨.inr ⟨?_, ?_⟩, ?_, ⟨?_, ?_⟩, fun j => ?_, fun j j0 j1 => ?_⟩, fun j => ?_, ⟨?_, ?_, ?_, fun k => ?_⟩, ⟨?_, ?_⟩, ⟨⟨by decide, by decide, by decide⟩, ?_, ?_, fun q q0 q1 => ⟨?_, fun t => ?_⟩⟩, ⟨fun k k0 k1 => .inl ⟨?_, ?_⟩, fun k => ?_⟩, ⟨?_, ?_, ?_, fun j j0 j1 => ?_, fun j j0 j1 => ?_⟩, ⟨?_, ?_, fun i i0 i1 => ?_⟩, ?_⟩
  · rw [c0_r (by omega)]; rfl
  · rfl
  · rw [c0_r (by omega)]; decide
  · rw [m0_0 (by decide), c0_r (by omega)]; rfl
  · rw [c0_r (by omega)]; decide
  · rw [c0_0 (by omega) (by omega)]; exact r3
  · rw [m0_0 (by decide), c0_0 (by omega) (by omega)]
  · rw [m0_0 (by decide)]; exact r3
  · rw [m 7 (by decide), c 4 (by decide) (by decide)]
  · rw [m0_0 (by decide), c0_0 (by decide) (by decide)]
  · rw [c0_0 (by decide) (by decide)]; decide
  · rw [c0_0 (by decide) (by decide)]; decide
  · rfl
  · rfl
  · have e : mem0C 0 8 = 22 := rfl
    rw [e, m 4 (by decide)]
    unfold TR
    rw [c 22 (by decide) (by decide), c (22 + 4) (by decide) (by decide), c (22 + 8) (by decide) (by decide), c (22 + 12) (by decide) (by decide), c (22 + 16) (by decide) (by decide), c (22 + 20) (by decide) (by decide)]
    exact ⟨⟨rfl, rfl, rfl, rfl⟩, fun p p0 p1 => absurd (show p < (0 : Int) from p1) (by omega), fun t t0 t1 => absurd (show t < (0 : Int) from t1) (by omega)⟩
  · rw [m 4 (by decide)]; exact TWn_0 (by decide)
  · unfold TC
    rw [c q (by omega) (by omega), c (q + 4) (by omega) (by omega), c (q + 12) (by omega) (by omega), c (q + 20) (by omega) (by omega)]
    exact ⟨by decide, by decide, by decide, by decide, fun _ _ _ => (show (0 : Int) ≤ 0 ∧ (0 : Int) ≤ 5 from by decide), fun _ _ _ => (show (-30 : Int) ≤ 0 ∧ (0 : Int) ≤ 30 from by decide), fun _ _ _ => (show (0 : Int) ≤ 0 ∧ (0 : Int) ≤ 1000000 from by decide)⟩
  · rw [c0_0 (by omega) (by omega)]; exact r3
  · exact m0_0 (by decide)
  · exact c0_0 (by omega) (by omega)
  · rw [m0_0 (by decide)]; decide
  · rw [m0_0 (by decide), c0_0 (by decide) (by decide)]
  · rw [c0_0 (by decide) (by decide)]; decide
  · rw [c0_0 (by decide) (by decide)]; decide
  · rw [c0_0 (by decide) (by decide)]; decide
  · rw [c0_0 (by decide) (by decide)] at j1; omega
  · rw [m0_0 (by decide), c0_0 (by decide) (by decide)]
  · rw [c0_0 (by decide) (by decide)]; decide
  · rw [c0_0 (by decide) (by decide)] at i1; omega
  · unfold RFr
    rw [m 5 (by decide)]
    decide
