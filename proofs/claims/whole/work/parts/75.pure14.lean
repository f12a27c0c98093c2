/-! towns: what they stand on; a town copied; an act kept -/
theorem TR_row {σ σ' : Mem} {q q' : Int} {T T' : Int → Int} (h : TR σ q T) (hT : ∀ k : Int, 0 ≤ k → k < 42 → T' k = T k) (h3 : T 2 ≤ 4 ∧ T 3 ≤ 5) (e0 : ∀ j : Int, 0 ≤ j → j < 4 → σ' q' j = σ q j) (e4 : ∀ p : Int, 0 ≤ p → p < 4 → σ' (q' + 4) p = σ (q + 4) p ∧ σ' (q' + 8) p = σ (q + 8) p) (e12 : ∀ j : Int, 0 ≤ j → j < 20 → σ' (q' + 12) j = σ (q + 12) j) (e16 : ∀ t : Int, 0 ≤ t → t < 5 → σ' (q' + 16) t = σ (q + 16) t ∧ σ' (q' + 20) t = σ (q + 20) t) : TR σ' q' T' := by
  have n2 := hT 2 (by decide) (by decide)
  have n3 := hT 3 (by decide) (by decide)
  obtain ⟨⟨a0, a1, a2, a3⟩, b, c⟩ := h
  refine ⟨⟨?_, ?_, ?_, ?_⟩, fun p p0 p1 => ?_, fun t t0 t1 => ?_⟩
  · rw [hT 0 (by decide) (by decide), e0 0 (by decide) (by decide)]; exact a0
  · rw [hT 1 (by decide) (by decide), e0 1 (by decide) (by decide)]; exact a1
  · rw [n2, e0 2 (by decide) (by decide)]; exact a2
  · rw [n3, e0 3 (by decide) (by decide)]; exact a3
  · rw [n2] at p1
    rw [hT (4 + p) (by omega) (by omega), hT (8 + p) (by omega) (by omega), (e4 p p0 (by omega)).1, (e4 p p0 (by omega)).2]
    exact b p p0 p1
  · rw [n3] at t1
    rw [hT (12 + 6 * t + 4) (by omega) (by omega), hT (12 + 6 * t + 5) (by omega) (by omega), (e16 t t0 (by omega)).1, (e16 t t0 (by omega)).2]
    refine ⟨(c t t0 t1).1, fun p p0 p1 => ?_⟩
    rw [n2] at p1
    rw [hT (12 + 6 * t + p) (by omega) (by omega), e12 (t * 4 + p) (by omega) (by omega)]
    exact (c t t0 t1).2 p p0 p1
theorem TW_T {T T' : Int → Int} (h : TW T) (hT : ∀ k : Int, 0 ≤ k → k < 42 → T' k = T k) : TW T' := by
  obtain ⟨w0, w1, w2, w3, w4, w5, w6, w7⟩ := h
  refine ⟨?_, ?_, ?_, ?_, fun p a b => ?_, fun t p a b c d => ?_, fun t a b => ?_, fun t a b => ?_⟩
  · rw [hT 0 (by decide) (by decide)]; exact w0
  · rw [hT 1 (by decide) (by decide)]; exact w1
  · rw [hT 2 (by decide) (by decide)]; exact w2
  · rw [hT 3 (by decide) (by decide)]; exact w3
  · rw [hT (4 + p) (by omega) (by omega)]; exact w4 p a b
  · rw [hT (12 + 6 * t + p) (by omega) (by omega)]; exact w5 t p a b c d
  · rw [hT (12 + 6 * t + 4) (by omega) (by omega)]; exact w6 t a b
  · rw [hT (12 + 6 * t + 5) (by omega) (by omega)]; exact w7 t a b
theorem TWn_T {n : Int} {T T' : Int → Int} (h : TWn n T) (hT : ∀ k : Int, 0 ≤ k → k < 42 → T' k = T k) : TWn n T' := by
  have n2 := hT 2 (by decide) (by decide)
  have n3 := hT 3 (by decide) (by decide)
  refine ⟨TW_T h.1 hT, by rw [n2, n3]; exact h.2.1, fun p a b => ?_, fun t a b => ?_⟩
  · rw [n2] at b
    have := h.1.2.2.1
    rw [hT (4 + p) (by omega) (by omega)]; exact h.2.2.1 p a b
  · rw [hT (12 + 6 * t + 5) (by omega) (by omega)]; exact h.2.2.2 t a b
theorem TC_row {σ σ' : Mem} {q q' : Int} (h : TC σ q) (e0 : ∀ j : Int, 0 ≤ j → j < 4 → σ' q' j = σ q j) (e4 : ∀ p : Int, 0 ≤ p → p < 4 → σ' (q' + 4) p = σ (q + 4) p) (e12 : ∀ j : Int, 0 ≤ j → j < 20 → σ' (q' + 12) j = σ (q + 12) j) (e20 : ∀ t : Int, 0 ≤ t → t < 5 → σ' (q' + 20) t = σ (q + 20) t) : TC σ' q' := by
  obtain ⟨a, b, c, d, e, f, g⟩ := h
  unfold TC
  rw [e0 0 (by decide) (by decide), e0 1 (by decide) (by decide), e0 2 (by decide) (by decide), e0 3 (by decide) (by decide)]
  refine ⟨a, b, c, d, fun p x y => ?_, fun j x y => ?_, fun t x y => ?_⟩
  · rw [e4 p x y]; exact e p x y
  · rw [e12 j x y]; exact f j x y
  · rw [e20 t x y]; exact g t x y
/-- town a's places laid over town b's -/
def lkM (σ : Mem) (b a : Int) : Mem := mr (mr (mr (mr (mr (mu (mu (mu (mu σ b 0 (σ a 0)) b 1 (σ a 1)) b 2 (σ a 2)) b 3 (σ a 3)) (b + 4) (cpy (σ (a + 4)) (σ (b + 4)) 0 0 4)) (b + 8) (cpy (σ (a + 8)) (σ (b + 8)) 0 0 4)) (b + 12) (cpy (σ (a + 12)) (σ (b + 12)) 0 0 20)) (b + 16) (cpy (σ (a + 16)) (σ (b + 16)) 0 0 5)) (b + 20) (cpy (σ (a + 20)) (σ (b + 20)) 0 0 5)
theorem mr_row {σ : Mem} {k q : Int} {f : Int → Int} (h : q ≠ k) : mr σ k f q = σ q := if_neg h
theorem mr_same {σ : Mem} {k : Int} {f : Int → Int} : mr σ k f k = f := if_pos rfl
theorem lkM_c {σ : Mem} {b a q : Int} (h : q ≠ b ∧ q ≠ b + 4 ∧ q ≠ b + 8 ∧ q ≠ b + 12 ∧ q ≠ b + 16 ∧ q ≠ b + 20) : lkM σ b a q = σ q := by
  unfold lkM
  rw [mr_row h.2.2.2.2.2, mr_row h.2.2.2.2.1, mr_row h.2.2.2.1, mr_row h.2.2.1, mr_row h.2.1, mu_row h.1, mu_row h.1, mu_row h.1, mu_row h.1]
theorem cpy0 {f g : Int → Int} {n j : Int} (h0 : 0 ≤ j) (h1 : j < n) : cpy f g 0 0 n j = f j := by
  unfold cpy
  rw [if_pos (by omega), show 0 + (j - 0) = j by omega]
theorem lkM_0 {σ : Mem} {b a j : Int} (h0 : 0 ≤ j) (h1 : j < 4) : lkM σ b a b j = σ a j := by
  unfold lkM
  rw [mr_row (by omega), mr_row (by omega), mr_row (by omega), mr_row (by omega), mr_row (by omega)]
  rcases (show j = 0 ∨ j = 1 ∨ j = 2 ∨ j = 3 by omega) with e | e | e | e <;> subst e
  · rw [mu_j (by decide), mu_j (by decide), mu_j (by decide), mu_s]
  · rw [mu_j (by decide), mu_j (by decide), mu_s]
  · rw [mu_j (by decide), mu_s]
  · rw [mu_s]
theorem lkM_4 {σ : Mem} {b a : Int} : lkM σ b a (b + 4) = cpy (σ (a + 4)) (σ (b + 4)) 0 0 4 := by
  unfold lkM
  rw [mr_row (by omega), mr_row (by omega), mr_row (by omega), mr_row (by omega), mr_same]
theorem lkM_8 {σ : Mem} {b a : Int} : lkM σ b a (b + 8) = cpy (σ (a + 8)) (σ (b + 8)) 0 0 4 := by
  unfold lkM
  rw [mr_row (by omega), mr_row (by omega), mr_row (by omega), mr_same]
theorem lkM_12 {σ : Mem} {b a : Int} : lkM σ b a (b + 12) = cpy (σ (a + 12)) (σ (b + 12)) 0 0 20 := by
  unfold lkM
  rw [mr_row (by omega), mr_row (by omega), mr_same]
theorem lkM_16 {σ : Mem} {b a : Int} : lkM σ b a (b + 16) = cpy (σ (a + 16)) (σ (b + 16)) 0 0 5 := by
  unfold lkM
  rw [mr_row (by omega), mr_same]
theorem lkM_20 {σ : Mem} {b a : Int} : lkM σ b a (b + 20) = cpy (σ (a + 20)) (σ (b + 20)) 0 0 5 := by
  unfold lkM
  rw [mr_same]
theorem lkM_TR {σ : Mem} {b a : Int} {T T' : Int → Int} (h : TR σ a T) (hT : ∀ k : Int, 0 ≤ k → k < 42 → T' k = T k) (h3 : T 2 ≤ 4 ∧ T 3 ≤ 5) : TR (lkM σ b a) b T' :=
  TR_row h hT h3 (fun j x y => lkM_0 x y) (fun p x y => ⟨by rw [lkM_4, cpy0 x y], by rw [lkM_8, cpy0 x y]⟩) (fun j x y => by rw [lkM_12, cpy0 x y]) (fun t x y => ⟨by rw [lkM_16, cpy0 x y], by rw [lkM_20, cpy0 x y]⟩)
theorem lkM_TC {σ : Mem} {b a : Int} (h : TC σ a) : TC (lkM σ b a) b := TC_row h (fun j x y => lkM_0 x y) (fun p x y => by rw [lkM_4, cpy0 x y]) (fun j x y => by rw [lkM_12, cpy0 x y]) (fun t x y => by rw [lkM_20, cpy0 x y])
theorem lkM_R3 {σ : Mem} {b a : Int} (ha : ∀ t : Int, R3 (σ (a + 16) t)) (hb : ∀ t : Int, R3 (σ (b + 16) t)) : ∀ t : Int, R3 (lkM σ b a (b + 16) t) := by
  intro t
  rw [lkM_16]
  unfold cpy
  split
  · exact ha _
  · exact hb t
theorem TR_keep {σ σ' : Mem} {q : Int} {T : Int → Int} (h : TR σ q T) (h0 : σ' q = σ q) (h4 : σ' (q + 4) = σ (q + 4)) (h8 : σ' (q + 8) = σ (q + 8)) (h12 : σ' (q + 12) = σ (q + 12)) (h16 : σ' (q + 16) = σ (q + 16)) (h20 : σ' (q + 20) = σ (q + 20)) : TR σ' q T := by
  unfold TR
  rw [h0, h4, h8, h12, h16, h20]
  exact h
/-- an act kept, then another town -/
theorem keep_sim {n t : Int} {σ τ σ' τ' : Mem} (h : RAc n σ τ) (hTn : TWn n (τ 4)) (ht : 0 ≤ t ∧ t < τ 4 3) (hTR : TR σ (σ 0 8) (τ 4))
    (c5 : σ' 5 1 = (σ 5 1 + 1) % 24 ∧ σ' 5 0 = if σ 5 0 + 1 < 24 then σ 5 0 + 1 else 24) (c6 : σ' 6 = ru (σ 6) ((σ 5 1 + 1) % 24) t) (c7 : σ' 7 = ru (σ 7) ((σ 5 1 + 1) % 24) (σ (σ 0 8 + 16) t)) (c8 : σ' 8 = ru (σ 8) ((σ 5 1 + 1) % 24) (σ (σ 0 8 + 20) t)) (c9 : σ' 9 = cpy (σ (σ 0 8 + 8)) (σ 9) 0 ((σ 5 1 + 1) % 24 * 4) 4)
    (r8 : τ' 0 8 = kepN τ) (r6 : τ' 6 = kepF τ) (hv : ∀ k : Int, 0 ≤ k → k < 42 → k ≠ 12 + 6 * t + 4 → k ≠ 12 + 6 * t + 5 → (k < 8 ∨ 8 + τ 4 2 ≤ k) → τ' 4 k = τ 4 k) : RAc n σ' τ' := by
  obtain ⟨a, b, c, d, e⟩ := h
  have h3 := hTn.1.2.2.2.1
  have h2 := hTn.1.2.2.1
  have eN : kepN τ = if σ 5 0 + 1 < 24 then σ 5 0 + 1 else 24 := by
    unfold kepN
    rw [a]
    (repeat' split) <;> omega
  have W0 : ∀ k : Int, 0 ≤ k → k < 42 → unW σ' τ' 0 k = τ 4 k := by
    intro k k0 k1
    unfold unW
    rw [r6, c5.2]
    unfold kepF
    rw [a]
    by_cases z : σ 5 0 = 24
    · rw [if_pos z, if_neg (by omega)]
      rw [over_in (by omega) (by omega)]
      congr 1; omega
    · rw [if_neg z]
      have : (if σ 5 0 + 1 < 24 then σ 5 0 + 1 else 24) = σ 5 0 + 1 := by split <;> omega
      rw [this, over_in (by omega) (by omega)]
      congr 1; omega
  have Wj : ∀ j k : Int, 1 ≤ j → j < σ' 5 0 → 0 ≤ k → k < 42 → unW σ' τ' j k = unW σ τ (j - 1) k := by
    intro j k j0 j1 k0 k1
    rw [c5.2] at j1
    unfold unW
    rw [r6, c5.2]
    unfold kepF
    rw [a]
    by_cases z : σ 5 0 = 24
    · rw [if_neg (by omega)] at j1
      rw [if_pos z, if_neg (by omega), over_out (by omega), over_in (by omega) (by omega)]
      congr 1; omega
    · have e1 : (if σ 5 0 + 1 < 24 then σ 5 0 + 1 else 24) = σ 5 0 + 1 := by split <;> omega
      rw [e1] at j1 ⊢
      rw [if_neg z, over_out (by omega)]
      congr 1; omega
  have X0 : unX σ' 0 = (σ 5 1 + 1) % 24 := by
    unfold unX
    rw [c5.1]; omega
  have Xj : ∀ j : Int, 1 ≤ j → j < 24 → unX σ' j = unX σ (j - 1) ∧ unX σ (j - 1) ≠ (σ 5 1 + 1) % 24 ∧ 0 ≤ unX σ (j - 1) ∧ unX σ (j - 1) < 24 := by
    intro j j0 j1
    unfold unX
    rw [c5.1]; omega
  have hA : σ' 5 0 ≤ 24 ∧ σ' 5 0 ≤ σ 5 0 + 1 ∧ 1 ≤ σ' 5 0 := by rw [c5.2]; split <;> omega
  refine ⟨by rw [r8, eN, c5.2], by omega, by rw [c5.1]; omega, fun j j0 j1 => ?_, fun j j0 j1 => ?_⟩
  · rw [c6]
    unfold ru
    split
    · omega
    · exact d j j0 j1
  · by_cases z : j = 0
    · subst z
      obtain ⟨⟨x1, x2⟩, x3⟩ := hTR.2.2 t ht.1 ht.2
      have s6 : σ' 6 ((σ 5 1 + 1) % 24) = t := by rw [c6]; exact if_pos rfl
      have s7 : σ' 7 ((σ 5 1 + 1) % 24) = σ (σ 0 8 + 16) t := by rw [c7]; exact if_pos rfl
      have s8 : σ' 8 ((σ 5 1 + 1) % 24) = σ (σ 0 8 + 20) t := by rw [c8]; exact if_pos rfl
      unfold UN
      rw [X0, s6, s7, s8, W0 3 (by decide) (by decide), W0 (12 + 6 * t + 4) (by omega) (by omega), W0 (12 + 6 * t + 5) (by omega) (by omega), W0 2 (by decide) (by decide)]
      refine ⟨TWn_T hTn W0, ht.2, x1, x2, fun p p0 p1 => ?_, fun k k0 k1 k2 k3 k4 => ?_⟩
      · rw [W0 (8 + p) (by omega) (by omega), (hTR.2.1 p p0 p1).2, c9]
        unfold cpy
        rw [if_pos (by omega)]
        congr 1; omega
      · rw [W0 k k0 k1]
        exact (hv k k0 k1 k2 k3 k4).symm
    · obtain ⟨y1, y2, y3, y4, y5, y6⟩ := e (j - 1) (by omega) (by omega)
      obtain ⟨z1, z2, z3, z4⟩ := Xj j (by omega) (by omega)
      have hd := d (unX σ (j - 1)) z3 z4
      have w2 := y1.1.2.2.1
      have w3 := y1.1.2.2.2.1
      have s6 : σ' 6 (unX σ (j - 1)) = σ 6 (unX σ (j - 1)) := by rw [c6]; exact if_neg z2
      have s7 : σ' 7 (unX σ (j - 1)) = σ 7 (unX σ (j - 1)) := by rw [c7]; exact if_neg z2
      have s8 : σ' 8 (unX σ (j - 1)) = σ 8 (unX σ (j - 1)) := by rw [c8]; exact if_neg z2
      have WW : ∀ k : Int, 0 ≤ k → k < 42 → unW σ' τ' j k = unW σ τ (j - 1) k := fun k k0 k1 => Wj j k (by omega) j1 k0 k1
      unfold UN
      rw [z1, s6, s7, s8, WW 3 (by decide) (by decide), WW (12 + 6 * σ 6 (unX σ (j - 1)) + 4) (by omega) (by omega), WW (12 + 6 * σ 6 (unX σ (j - 1)) + 5) (by omega) (by omega), WW 2 (by decide) (by decide)]
      refine ⟨TWn_T y1 WW, y2, y3, y4, fun p p0 p1 => ?_, fun k k0 k1 k2 k3 k4 => ?_⟩
      · rw [WW (8 + p) (by omega) (by omega), y5 p p0 p1, c9]
        unfold cpy
        rw [if_neg (by omega)]
      · rw [WW k k0 k1, y6 k k0 k1 k2 k3 k4]
        unfold unV
        by_cases q : j = 1
        · subst q
          rw [if_pos (by decide), if_neg (by decide)]
          exact (W0 k k0 k1).symm
        · rw [if_neg (by omega), if_neg (by omega)]
          exact (Wj (j - 1) k (by omega) (by omega) k0 k1).symm
