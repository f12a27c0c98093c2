theorem q_hrw {n : Int} {σ τ : Mem} (h : RR n σ τ) : ∀ r, 0 ≤ r → r < 8 → (0 ≤ σ (44 + r) 1 ∧ σ (44 + r) 1 ≤ 1) ∧ (0 ≤ σ (44 + r) 2 ∧ σ (44 + r) 2 ≤ 2) ∧ (0 ≤ σ (44 + r) 3 ∧ σ (44 + r) 3 ≤ 40) := by
  intro r r0 r1
  obtain ⟨a, b, c, d, e⟩ := h.1 r r0 r1
  exact ⟨by omega, b, c.2⟩
theorem q_h31 {n : Int} {σ τ : Mem} (h : RR n σ τ) : 0 ≤ σ 3 1 ∧ σ 3 1 ≤ 400 := by
  exact h.2.2.1.2.2.1
theorem q_hH {n : Int} {σ τ : Mem} (h : RR n σ τ) : 22 ≤ σ 0 8 ∧ σ 0 8 < 24 := by
  exact h.2.2.2.2.1.1.1
theorem q_hH9 {n : Int} {σ τ : Mem} (h : RR n σ τ) : 22 ≤ σ 0 9 ∧ σ 0 9 < 24 := by
  exact h.2.2.2.2.1.1.2.1
theorem q_hb4 {n : Int} {σ τ : Mem} (h : RR n σ τ) : ∀ k : Int, 0 ≤ σ 4 k ∧ σ 4 k ≤ 255 := by
  exact h.2.2.1.2.2.2
theorem q_hH2 {n : Int} {σ τ : Mem} (h : RR n σ τ) : 20 ≤ σ 0 8 ∧ σ 0 8 < 24 := by
  have := h.2.2.2.2.1.1.1
  omega
theorem q_hT {n : Int} {σ τ : Mem} (h : RR n σ τ) : TC σ (σ 0 8) := by
  have := h.2.2.2.2.1.1.1
  exact (h.2.2.2.2.1.2.2.2 _ (by omega) (by omega)).1
theorem q_hit {n : Int} {σ τ : Mem} (h : RR n σ τ) : ∀ r j, 0 ≤ r → r < 8 → R3 (σ (44 + r + 8) j) := by
  intro r j r0 r1
  exact (h.1 r r0 r1).2.2.2.1 j
theorem q_hho {n : Int} {σ τ : Mem} (h : RR n σ τ) : ∀ t, R3 (σ (σ 0 8 + 16) t) := by
  have := h.2.2.2.2.1.1.1
  exact (h.2.2.2.2.1.2.2.2 _ (by omega) (by omega)).2
theorem q_hl {n : Int} {σ τ : Mem} (h : RR n σ τ) : 0 ≤ σ 5 1 ∧ σ 5 1 < 24 := by
  exact h.2.2.2.2.2.2.1.2.2.1
theorem q_hm {n : Int} {σ τ : Mem} (h : RR n σ τ) : 0 ≤ σ 5 0 ∧ σ 5 0 ≤ 24 := by
  exact h.2.2.2.2.2.2.1.2.1
theorem q_hts {n : Int} {σ τ : Mem} (h : RR n σ τ) : ∀ j, 0 ≤ j → j < 24 → 0 ≤ σ 6 j ∧ σ 6 j < 5 := by
  exact h.2.2.2.2.2.2.1.2.2.2.1
theorem q_h2 {n : Int} {σ τ : Mem} (h : RR n σ τ) : 0 ≤ σ (σ 0 8) 2 ∧ σ (σ 0 8) 2 ≤ 4 := by
  exact (q_hT h).2.2.1
theorem q_h3 {n : Int} {σ τ : Mem} (h : RR n σ τ) : 0 ≤ σ (σ 0 8) 3 ∧ σ (σ 0 8) 3 ≤ 5 := by
  exact (q_hT h).2.2.2.1
theorem q_hpe {n : Int} {σ τ : Mem} (h : RR n σ τ) : σ (σ 0 8) 3 = 0 ∨ 1 ≤ σ (σ 0 8) 2 := by
  have := RR_t h
  omega
theorem q_him {n : Int} {σ τ : Mem} (h : RR n σ τ) : ∀ k, 0 ≤ k → k < 2 → 0 ≤ σ (20 + k) 2 ∧ σ (20 + k) 2 ≤ 4 := by
  intro k k0 k1
  exact (h.2.2.2.2.1.2.2.2 _ (by omega) (by omega)).1.2.2.1
theorem q_htr {n : Int} {σ τ : Mem} (h : RR n σ τ) : 0 ≤ σ 18 0 ∧ σ 18 0 ≤ 16 := by
  exact h.2.2.2.2.2.2.2.1.2.1
theorem p_hm {n : Int} {σ τ : Mem} (h : RR n σ τ) : ∀ r : Int, 0 ≤ r → r ≤ 7 → (-1 ≤ τ 1 r ∧ τ 1 r ≤ 2) ∧ (0 ≤ τ 2 r ∧ τ 2 r ≤ 40) := by
  intro r r0 r1
  obtain ⟨a, b, c, d, e⟩ := h.1 r r0 (by omega)
  omega
theorem p_hta {n : Int} {σ τ : Mem} (h : RR n σ τ) : 0 ≤ τ 0 10 ∧ τ 0 10 ≤ 400 := by
  rw [h.2.2.1.2.1]
  exact h.2.2.1.2.2.1
theorem p_hb7 {n : Int} {σ τ : Mem} (h : RR n σ τ) : ∀ k : Int, 0 ≤ τ 7 k ∧ τ 7 k ≤ 255 := by
  rw [h.2.2.1.1]
  exact h.2.2.1.2.2.2
theorem p_hfr {n : Int} {σ τ : Mem} (h : RR n σ τ) : (0 ≤ τ 5 2 ∧ τ 5 2 ≤ 4) ∧ (0 ≤ τ 5 3 ∧ τ 5 3 ≤ 5) := by
  exact h.2.2.2.2.2.2.2.2
theorem p_hT {n : Int} {σ τ : Mem} (h : RR n σ τ) : TW (τ 4) := by
  exact RR_TW h
theorem p_hpe {n : Int} {σ τ : Mem} (h : RR n σ τ) : τ 4 3 = 0 ∨ 1 ≤ τ 4 2 := by
  exact h.2.2.2.2.1.2.2.1.2.1
theorem p_hit {n : Int} {σ τ : Mem} (h : RR n σ τ) : ∀ j : Int, R3 (τ 3 j) := by
  exact h.2.1
theorem p_hac {n : Int} {σ τ : Mem} (h : RR n σ τ) : 0 ≤ τ 0 8 ∧ τ 0 8 ≤ 24 := by
  rw [h.2.2.2.2.2.2.1.1]
  exact h.2.2.2.2.2.2.1.2.1
theorem p_hp {n : Int} {σ τ : Mem} (h : RR n σ τ) : 0 ≤ τ 4 2 ∧ τ 4 2 ≤ 4 := by
  exact (RR_TW h).2.2.1
theorem p_ht3 {n : Int} {σ τ : Mem} (h : RR n σ τ) : 0 ≤ τ 4 3 ∧ τ 4 3 ≤ 5 := by
  exact (RR_TW h).2.2.2.1
theorem p_hkp {n : Int} {σ τ : Mem} (h : RR n σ τ) : ∀ k : Int, 0 ≤ τ 9 k ∧ τ 9 k ≤ 1 := by
  exact h.2.2.2.2.2.1.2
theorem p_hk1 {n : Int} {σ τ : Mem} (h : RR n σ τ) : ∀ p : Int, 0 ≤ p → p < τ 4 2 → 1 ≤ τ 4 (4 + p) := by
  exact h.2.2.2.2.1.2.2.1.2.2.1
theorem p_htr {n : Int} {σ τ : Mem} (h : RR n σ τ) : 0 ≤ τ 0 23 ∧ τ 0 23 ≤ 16 := by
  have := h.2.2.2.2.2.2.2.1
  have e := this.1
  have f := this.2.1
  omega
