theorem TR_c2 {σ σ' : Mem} {q : Int} {T : Int → Int} (h : TR σ q T) (hσ : ∀ k : Int, (k = q ∨ k = q + 4 ∨ k = q + 8 ∨ k = q + 12 ∨ k = q + 16 ∨ k = q + 20) → σ' k = σ k) : TR σ' q T := by
  unfold TR
  rw [hσ q (by omega), hσ (q + 4) (by omega), hσ (q + 8) (by omega), hσ (q + 12) (by omega), hσ (q + 16) (by omega), hσ (q + 20) (by omega)]
  exact h
theorem town_up {n : Int} {σ τ σ' τ' : Mem} (h : RR n σ τ) (hσ : ∀ q : Int, q ≠ 0 → q ≠ 3 → q ≠ 5 → q ≠ σ 0 9 → q ≠ σ 0 9 + 4 → q ≠ σ 0 9 + 8 → q ≠ σ 0 9 + 12 → q ≠ σ 0 9 + 16 → q ≠ σ 0 9 + 20 → σ' q = σ q) (hj : JT (σ 0 9) σ') (hw : (22 ≤ σ' 0 8 ∧ σ' 0 8 < 24) ∧ (22 ≤ σ' 0 9 ∧ σ' 0 9 < 24) ∧ σ' 0 8 ≠ σ' 0 9) (hR : TR σ' (σ' 0 8) (τ' 4)) (hW : TWn (n + 1) (τ' 4)) (h31 : σ' 3 1 = 0) (h10 : τ' 0 10 = 0) (hτ : ∀ q : Int, q ≠ 0 → q ≠ 4 → q ≠ 5 → τ' q = τ q) (h23 : τ' 0 23 = τ 0 23) (hs : RSt σ' τ') (hA : RAc (n + 1) σ' τ') (hf : RFr τ') : RR (n + 1) σ' τ' := by
  obtain ⟨r1, r2, r3, r4, r5, r6, r7, r8, r9⟩ := RR_mono h (show n ≤ n + 1 by omega)
  have hS := r5.1.2.1
  refine ⟨RRow_cg r1 (fun q a b => hσ q (by omega) (by omega) (by omega) (by omega) (by omega) (by omega) (by omega) (by omega) (by omega)) (hτ 1 (by decide) (by decide) (by decide)) (hτ 2 (by decide) (by decide) (by decide)) (hτ 3 (by decide) (by decide) (by decide)), ?_, ?_, hs, ⟨hw, hR, hW, fun q q0 q1 => ?_⟩, ⟨fun k k0 k1 => ?_, ?_⟩, hA, ?_, hf⟩
  · unfold RIt; rw [hτ 3 (by decide) (by decide) (by decide)]; exact r2
  · unfold RTape
    rw [hτ 7 (by decide) (by decide) (by decide), hσ 4 (by decide) (by decide) (by decide) (by omega) (by omega) (by omega) (by omega) (by omega) (by omega), h31, h10]
    exact ⟨r3.1, rfl, by decide, r3.2.2.2⟩
  · by_cases e : q = σ 0 9
    · rw [e]; exact hj
    · obtain ⟨a, b⟩ := r5.2.2.2 q q0 q1
      have z : ∀ i : Int, (i = 0 ∨ i = 4 ∨ i = 12 ∨ i = 16 ∨ i = 20) → σ' (q + i) = σ (q + i) := fun i hi => hσ _ (by omega) (by omega) (by omega) (by omega) (by omega) (by omega) (by omega) (by omega) (by omega)
      have z0 := z 0 (by simp)
      rw [show q + 0 = q by omega] at z0
      refine ⟨TC_of a z0 (z 4 (by simp)) (z 12 (by simp)) (z 20 (by simp)), fun t => ?_⟩
      rw [z 16 (by simp)]; exact b t
  · have e : σ' (20 + k) = σ (20 + k) := hσ _ (by omega) (by omega) (by omega) (by omega) (by omega) (by omega) (by omega) (by omega) (by omega)
    rw [e, hτ 9 (by decide) (by decide) (by decide), hτ 10 (by decide) (by decide) (by decide)]
    rcases r6.1 k k0 k1 with z | ⟨a, b, c, d⟩
    · exact .inl z
    · exact .inr ⟨a, b, TR_c2 c (fun j hj => hσ j (by omega) (by omega) (by omega) (by omega) (by omega) (by omega) (by omega) (by omega) (by omega)), d⟩
  · rw [hτ 9 (by decide) (by decide) (by decide)]; exact r6.2
  · unfold RTr
    rw [hσ 18 (by decide) (by decide) (by decide) (by omega) (by omega) (by omega) (by omega) (by omega) (by omega), hσ 19 (by decide) (by decide) (by decide) (by omega) (by omega) (by omega) (by omega) (by omega) (by omega), hτ 11 (by decide) (by decide) (by decide), h23]
    exact r8
theorem a_town {n : Int} {σ τ : Mem} (h : RR n σ τ) : (if (riS σ (σ 0 9)).1 = 0 then -1000100 - (riS σ (σ 0 9)).2 3 3 else (riS σ (σ 0 9)).2 (σ 0 9) 2) = (twR τ) ∧ RR (n + 1) (if (riS σ (σ 0 9)).1 = 0 then mu (mu (riS σ (σ 0 9)).2 3 1 0) 0 10 ((riS σ (σ 0 9)).2 3 2) else mu (mu (mu (mu (riS σ (σ 0 9)).2 3 1 0) 0 8 (σ 0 9)) 0 9 (σ 0 8)) 5 0 0) (twM τ) := by
  have h1 := RR_mono h (show n ≤ n + 1 by omega)
  have hT := h.2.2.1
  have h5 := h.2.2.2.2.1
  have hH := h5.1.1
  have hS := h5.1.2.1
  have hne := h5.1.2.2
  have ha : 20 ≤ σ 0 9 ∧ σ 0 9 < 24 := by omega
  have hQ := h5.2.2.2 _ ha.1 ha.2
  have hb7 : ∀ k : Int, 0 ≤ τ 7 k ∧ τ 7 k ≤ 255 := by rw [hT.1]; exact hT.2.2.2
  have ht10 : 0 ≤ τ 0 10 ∧ τ 0 10 ≤ 400 := by rw [hT.2.1]; exact hT.2.2.1
  have hj := JT_ri ha hT.2.2.2 hT.2.2.1 hQ
  have hk := KP_9 τ
  have hp := PW_9 hb7 ht10
  have hc : ∀ q : Int, q ≠ 3 → (q ≠ σ 0 9 ∧ q ≠ σ 0 9 + 4 ∧ q ≠ σ 0 9 + 8 ∧ q ≠ σ 0 9 + 12 ∧ q ≠ σ 0 9 + 16 ∧ q ≠ σ 0 9 + 20) → (riS σ (σ 0 9)).2 q = σ q := fun q a b => riS_c2 a b
  have hs := town_sim ha hT.1 hT.2.1 hT.2.2.2 hT.2.2.1 hQ.1.2.2.2.2.1 hQ.1.2.2.2.2.2.1
  have h0 := hc 0 (by decide) (by omega)
  have n0 : 0 ≤ n := by
    have e1 := h5.2.2.1.2.2.2 0 (by decide) (by decide)
    have e2 := h5.2.2.1.1.2.2.2.2.2.2.2 0 (by decide) (by decide)
    omega
  revert hs hj hc h0
  generalize (riS σ (σ 0 9)) = X
  intro hj hc hs h0
  have k0 : ∀ j : Int, (j = 1 ∨ j = 8 ∨ j = 11 ∨ j = 23) → tw9 τ 0 j = τ 0 j := fun j hj => by rw [hk.2 j (by omega), mu_j (by omega)]
  have k10 : tw9 τ 0 10 = 0 := by rw [hk.2 10 (by simp), mu_s]
  have kq : ∀ q : Int, q ≠ 0 → q ≠ 5 → tw9 τ q = τ q := fun q a b => by rw [hk.1 q a b, mu_row a]
  unfold twR twM
  generalize tw9 τ = t at hs hp k0 k10 kq ⊢
  rcases hs with ⟨s1, s2, s3, s4⟩ | ⟨s1, s2, s3, s4⟩
  · rw [if_neg (by omega), if_neg (by omega), if_neg (by omega), if_neg (by omega)]
    refine ⟨s3.1.1.2.2.1.symm, ?_⟩
    have o4 : ∀ k : Int, 0 ≤ k → k < 42 → over (t 4) (fun k => t 5 k) 0 42 k = t 5 k := fun k a b => over_in a b
    have e4 : mr (mu t 0 8 0) 4 (over (t 4) (fun k => t 5 k) 0 42) 4 = over (t 4) (fun k => t 5 k) 0 42 := by funext x; rw [mr_app, if_pos rfl]
    obtain ⟨⟨i1, i2, i3⟩, i4, i5, i6, i7, i8⟩ := s3
    obtain ⟨w0, w1, w2, w3, w4, w5, w6, w7⟩ := i4
    have hTW : TW (over (t 4) (fun k => t 5 k) 0 42) := by
      refine ⟨?_, ?_, ?_, ?_, fun p p0 p1 => ?_, fun s p s0 s1 p0 p1 => ?_, fun s s0 s1 => ?_, fun s s0 s1 => ?_⟩
      · rw [o4 0 (by omega) (by omega)]; exact w0
      · rw [o4 1 (by omega) (by omega)]; exact w1
      · rw [o4 2 (by omega) (by omega)]; exact w2
      · rw [o4 3 (by omega) (by omega)]; exact w3
      · rw [o4 _ (by omega) (by omega)]; exact w4 p p0 p1
      · rw [o4 _ (by omega) (by omega)]; exact w5 s p s0 s1 p0 p1
      · rw [o4 _ (by omega) (by omega)]; exact w6 s s0 s1
      · rw [o4 _ (by omega) (by omega)]; exact w7 s s0 s1
    have c0 : ∀ q : Int, q ≠ 0 → q ≠ 3 → q ≠ 5 → mu (mu (mu (mu X.2 3 1 0) 0 8 (σ 0 9)) 0 9 (σ 0 8)) 5 0 0 q = X.2 q := fun q a b c => by rw [mu_row c, mu_row a, mu_row a, mu_row b]
    have x8 : mu (mu (mu (mu X.2 3 1 0) 0 8 (σ 0 9)) 0 9 (σ 0 8)) 5 0 0 0 8 = σ 0 9 := by simp [mu_app]
    have x9 : mu (mu (mu (mu X.2 3 1 0) 0 8 (σ 0 9)) 0 9 (σ 0 8)) 5 0 0 0 9 = σ 0 8 := by simp [mu_app]
    refine town_up h (fun q a b c d e f g i j => (c0 q a b c).trans (hc q b ⟨d, e, f, g, i, j⟩)) (JT_of hj (c0 _ (by omega) (by omega) (by omega)) (c0 _ (by omega) (by omega) (by omega)) (c0 _ (by omega) (by omega) (by omega)) (c0 _ (by omega) (by omega) (by omega)) (c0 _ (by omega) (by omega) (by omega))) ?_ ?_ ?_ ?_ ?_ (fun q a b c => ?_) ?_ ?_ ?_ ?_
    · rw [x8, x9]; exact ⟨hS, hH, fun z => hne z.symm⟩
    · rw [x8, e4]
      unfold TR
      rw [c0 _ (by omega) (by omega) (by omega), c0 _ (by omega) (by omega) (by omega), c0 _ (by omega) (by omega) (by omega), c0 _ (by omega) (by omega) (by omega), c0 _ (by omega) (by omega) (by omega), c0 _ (by omega) (by omega) (by omega), o4 0 (by omega) (by omega), o4 1 (by omega) (by omega), o4 2 (by omega) (by omega), o4 3 (by omega) (by omega)]
      refine ⟨i1, fun p p0 p1 => ?_, fun s s0 s1 => ⟨?_, fun p p0 p1 => ?_⟩⟩
      · rw [o4 _ (by omega) (by omega), o4 _ (by omega) (by omega)]
        have a := i2 p p0 p1
        have b := i5 p p0 (by omega)
        exact ⟨a.1, by omega⟩
      · rw [o4 _ (by omega) (by omega), o4 _ (by omega) (by omega)]
        have a := i3 s s0 s1
        have b := i6 s s0 (by omega)
        exact ⟨by omega, by omega⟩
      · rw [o4 _ (by omega) (by omega)]
        exact (i3 s s0 s1).2 p p0 p1
    · rw [e4]
      refine ⟨hTW, .inr (by rw [o4 2 (by omega) (by omega)]; exact s4), fun p p0 p1 => ?_, fun s s0 s1 => ?_⟩
      · rw [o4 2 (by omega) (by omega)] at p1
        rw [o4 _ (by omega) (by omega)]; exact (i2 p p0 p1).2
      · rw [o4 _ (by omega) (by omega)]
        have := (i6 s s0 s1).2.2
        omega
    · simp [mu_app]
    · rw [mr_app, if_neg (by decide), mu_j (by decide)]; exact k10
    · funext x
      rw [mr_app, if_neg b, mu_k a, kq q a c]
    · rw [mr_app, if_neg (by decide), mu_j (by decide)]; exact k0 23 (by simp)
    · have r4 := h.2.2.2.1
      refine ⟨?_, ?_⟩
      · rw [mu_k (by decide), mu_j (by decide), mu_j (by decide), mu_k (by decide), h0, mr_app, if_neg (by decide), mu_j (by decide), k0 11 (by simp)]; exact r4.1
      · rw [mu_k (by decide), mu_j (by decide), mu_j (by decide), mu_k (by decide), h0, mr_app, if_neg (by decide), mu_j (by decide), k0 1 (by simp)]; exact r4.2
    · have r7 := h1.2.2.2.2.2.2.1
      have x5 : mu (mu (mu (mu X.2 3 1 0) 0 8 (σ 0 9)) 0 9 (σ 0 8)) 5 0 0 5 0 = 0 := by rw [mu_s]
      have x51 : mu (mu (mu (mu X.2 3 1 0) 0 8 (σ 0 9)) 0 9 (σ 0 8)) 5 0 0 5 1 = σ 5 1 := by rw [mu_j (by decide), mu_k (by decide), mu_k (by decide), mu_k (by decide), hc 5 (by decide) (by omega)]
      have x6 : mu (mu (mu (mu X.2 3 1 0) 0 8 (σ 0 9)) 0 9 (σ 0 8)) 5 0 0 6 = σ 6 := (c0 6 (by decide) (by decide) (by decide)).trans (hc 6 (by decide) (by omega))
      unfold RAc
      rw [x5, x51, x6]
      refine ⟨by rw [mr_app, if_neg (by decide)]; rw [mu_s], by decide, r7.2.2.1, r7.2.2.2.1, fun j j0 j1 => by omega⟩
    · unfold RFr
      rw [show mr (mu t 0 8 0) 4 (over (t 4) (fun k => t 5 k) 0 42) 5 = t 5 from by funext x; rw [mr_app, if_neg (by decide), mu_k (by decide)]]
      exact ⟨hp.2.2.2.2.2.1, hp.2.2.2.2.2.2⟩
  · rw [if_pos s1, if_pos s1, if_pos s4, if_pos s4]
    refine ⟨by omega, ?_⟩
    have c0 : ∀ q : Int, q ≠ 0 → q ≠ 3 → mu (mu X.2 3 1 0) 0 10 (X.2 3 2) q = X.2 q := fun q a b => by rw [mu_row a, mu_row b]
    have x0 : ∀ j : Int, j ≠ 10 → mu (mu X.2 3 1 0) 0 10 (X.2 3 2) 0 j = σ 0 j := fun j hj => by rw [mu_j hj, mu_k (by decide), h0]
    have e4 : mu t 0 11 (t 0 17) 4 = τ 4 := by rw [mu_row (by decide), kq 4 (by decide) (by decide)]
    refine town_up h (fun q a b c d e f g i j => (c0 q a b).trans (hc q b ⟨d, e, f, g, i, j⟩)) (JT_of hj (c0 _ (by omega) (by omega)) (c0 _ (by omega) (by omega)) (c0 _ (by omega) (by omega)) (c0 _ (by omega) (by omega)) (c0 _ (by omega) (by omega))) ?_ ?_ ?_ ?_ ?_ (fun q a b c => ?_) ?_ ?_ ?_ ?_
    · rw [x0 8 (by decide), x0 9 (by decide)]; exact ⟨hH, hS, hne⟩
    · rw [x0 8 (by decide), e4]
      exact TR_c2 h5.2.1 (fun k hk => (c0 k (by omega) (by omega)).trans (hc k (by omega) (by omega)))
    · rw [e4]; exact h1.2.2.2.2.1.2.2.1
    · simp [mu_app]
    · rw [mu_j (by decide)]; exact k10
    · rw [mu_row a, kq q a c]
    · rw [mu_j (by decide)]; exact k0 23 (by simp)
    · have r4 := h.2.2.2.1
      refine ⟨?_, ?_⟩
      · rw [mu_s, mu_s]; exact s2
      · rw [x0 11 (by decide), mu_j (by decide), k0 1 (by simp)]; exact r4.2
    · exact RAc_cg h1.2.2.2.2.2.2.1 (fun q a b => (c0 q (by omega) (by omega)).trans (hc q (by omega) (by omega))) (by rw [mu_j (by decide)]; exact k0 8 (by simp)) e4 (by rw [mu_row (by decide), kq 6 (by decide) (by decide)])
    · unfold RFr
      rw [show mu t 0 11 (t 0 17) 5 = t 5 from mu_row (by decide)]
      exact ⟨hp.2.2.2.2.2.1, hp.2.2.2.2.2.2⟩
