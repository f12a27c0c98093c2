theorem image_up {n k : Int} {σ τ : Mem} (h : RR n σ τ) (hk : 0 ≤ k ∧ k < 2) (hp : 0 < τ 4 2) : RR (n + 1) (lkM σ (20 + k) (σ 0 8)) (mu (mr (mu τ 0 0 0) 10 (over (τ 10) (fun x => τ 4 (x - 42 * k)) (42 * k) (42 * k + 42))) 9 k 1) := by
  obtain ⟨hH, ⟨e0, e1, e2, e3⟩, g2, g3, gp, g0, g1⟩ := RR_t h
  have hTR := RR_TR h
  obtain ⟨r1, r2, r3, r4, ⟨⟨u1, u2, u3⟩, u4, u5, u6⟩, r6, r7, r8, r9⟩ := h
  have hc : ∀ q : Int, ¬ (20 ≤ q ∧ q < 44) → lkM σ (20 + k) (σ 0 8) q = σ q := fun q hq => lkM_c (by omega)
  have hτ : ∀ q : Int, q ≠ 0 → q ≠ 9 → q ≠ 10 → mu (mr (mu τ 0 0 0) 10 (over (τ 10) (fun x => τ 4 (x - 42 * k)) (42 * k) (42 * k + 42))) 9 k 1 q = τ q := fun q a b c => by rw [mu_row b, mr_row c, mu_row a]
  have t0 : ∀ j : Int, j ≠ 0 → mu (mr (mu τ 0 0 0) 10 (over (τ 10) (fun x => τ 4 (x - 42 * k)) (42 * k) (42 * k + 42))) 9 k 1 0 j = τ 0 j := fun j a => by rw [mu_row (by decide), mr_row (by decide), mu_j a]
  have t9 : mu (mr (mu τ 0 0 0) 10 (over (τ 10) (fun x => τ 4 (x - 42 * k)) (42 * k) (42 * k + 42))) 9 k 1 9 = ru (τ 9) k 1 := by rw [mu_same, mr_row (by decide), mu_row (by decide)]
  have t10 : mu (mr (mu τ 0 0 0) 10 (over (τ 10) (fun x => τ 4 (x - 42 * k)) (42 * k) (42 * k + 42))) 9 k 1 10 = over (τ 10) (fun x => τ 4 (x - 42 * k)) (42 * k) (42 * k + 42) := by rw [mu_row (by decide), mr_same]
  have e4 := hτ 4 (by decide) (by decide) (by decide)
  refine RR_mono (n := n) ⟨RRow_cg r1 (fun q a b => hc q (by omega)) (hτ 1 (by decide) (by decide) (by decide)) (hτ 2 (by decide) (by decide) (by decide)) (hτ 3 (by decide) (by decide) (by decide)), ?_, ?_, ?_, ?_, ?_, RAc_cg r7 (fun q a b => hc q (by omega)) (t0 8 (by decide)) e4 (hτ 6 (by decide) (by decide) (by decide)), ?_, ?_⟩ (by omega)
  · unfold RIt; rw [hτ 3 (by decide) (by decide) (by decide)]; exact r2
  · unfold RTape
    rw [hτ 7 (by decide) (by decide) (by decide), hc 4 (by omega), hc 3 (by omega), t0 10 (by decide)]
    exact r3
  · unfold RSt
    rw [hc 0 (by omega), t0 11 (by decide), t0 1 (by decide)]
    exact r4
  · unfold RTw
    rw [hc 0 (by omega), e4]
    refine ⟨⟨u1, u2, u3⟩, TR_keep u4 (lkM_c (by omega)) (lkM_c (by omega)) (lkM_c (by omega)) (lkM_c (by omega)) (lkM_c (by omega)) (lkM_c (by omega)), u5, fun q q0 q1 => ?_⟩
    by_cases e : q = 20 + k
    · subst e
      exact ⟨lkM_TC (u6 (σ 0 8) (by omega) (by omega)).1, lkM_R3 (u6 (σ 0 8) (by omega) (by omega)).2 (u6 (20 + k) (by omega) (by omega)).2⟩
    · refine ⟨TC_of (u6 q q0 q1).1 (lkM_c (by omega)) (lkM_c (by omega)) (lkM_c (by omega)) (lkM_c (by omega)), fun t => ?_⟩
      rw [lkM_c (q := q + 16) (by omega)]
      exact (u6 q q0 q1).2 t
  · refine ⟨fun i i0 i1 => ?_, fun i => ?_⟩
    · rw [t9, t10]
      by_cases e : i = k
      · subst e
        have eT : ∀ x : Int, 0 ≤ x → x < 42 → over (τ 10) (fun x => τ 4 (x - 42 * i)) (42 * i) (42 * i + 42) (42 * i + x) = τ 4 x := fun x x0 x1 => by
          rw [over_in (by omega) (by omega)]
          show τ 4 _ = τ 4 _
          congr 1; omega
        refine .inr ⟨if_pos rfl, ?_, lkM_TR hTR eT ⟨by omega, by omega⟩, TWn_T u5 eT⟩
        rw [lkM_0 (by decide) (by decide)]; omega
      · have eo : ∀ x : Int, 0 ≤ x → x < 42 → over (τ 10) (fun x => τ 4 (x - 42 * k)) (42 * k) (42 * k + 42) (42 * i + x) = τ 10 (42 * i + x) := fun x x0 x1 => over_out (by omega)
        rw [lkM_c (q := 20 + i) (by omega), show ru (τ 9) k 1 i = τ 9 i from if_neg e]
        rcases r6.1 i i0 i1 with z | ⟨x, y, z, w⟩
        · exact .inl z
        · have wb := w.1.2.2.1
          have wc := w.1.2.2.2.1
          have z' : TR (lkM σ (20 + k) (σ 0 8)) (20 + i) (fun x => τ 10 (42 * i + x)) := TR_keep z (lkM_c (by omega)) (lkM_c (by omega)) (lkM_c (by omega)) (lkM_c (by omega)) (lkM_c (by omega)) (lkM_c (by omega))
          exact .inr ⟨x, y, TR_row z' eo ⟨wb.2, wc.2⟩ (fun _ _ _ => rfl) (fun _ _ _ => ⟨rfl, rfl⟩) (fun _ _ _ => rfl) (fun _ _ _ => ⟨rfl, rfl⟩), TWn_T w eo⟩
    · rw [t9]
      unfold ru
      split
      · omega
      · exact r6.2 i
  · unfold RTr
    rw [hc 18 (by omega), hc 19 (by omega), t0 23 (by decide), hτ 11 (by decide) (by decide) (by decide)]
    exact r8
  · unfold RFr
    rw [hτ 5 (by decide) (by decide) (by decide)]
    exact r9
theorem restore_up {n k : Int} {σ τ : Mem} (h : RR n σ τ) (hk : 0 ≤ k ∧ k < 2) (hp : ¬ σ (20 + k) 2 = 0) : RR (n + 1) (mu (lkM σ (σ 0 8) (20 + k)) 5 0 0) (mu (mr (mu τ 0 0 0) 4 (over (τ 4) (fun x => τ 10 (42 * k + x)) 0 42)) 0 8 0) := by
  obtain ⟨hH, ⟨e0, e1, e2, e3⟩, g2, g3, gp, g0, g1⟩ := RR_t h
  obtain ⟨r1, r2, r3, r4, ⟨⟨u1, u2, u3⟩, u4, u5, u6⟩, r6, r7, r8, r9⟩ := h
  have hc : ∀ q : Int, q ≠ 5 → ¬ (20 ≤ q ∧ q < 44) → mu (lkM σ (σ 0 8) (20 + k)) 5 0 0 q = σ q := fun q h5 hq => by rw [mu_row h5]; exact lkM_c (by omega)
  have hc2 : ∀ q : Int, q ≠ 5 → mu (lkM σ (σ 0 8) (20 + k)) 5 0 0 q = lkM σ (σ 0 8) (20 + k) q := fun q h5 => mu_row h5
  have hτ : ∀ q : Int, q ≠ 0 → q ≠ 4 → mu (mr (mu τ 0 0 0) 4 (over (τ 4) (fun x => τ 10 (42 * k + x)) 0 42)) 0 8 0 q = τ q := fun q a b => by rw [mu_row a, mr_row b, mu_row a]
  have t0 : ∀ j : Int, j ≠ 0 → j ≠ 8 → mu (mr (mu τ 0 0 0) 4 (over (τ 4) (fun x => τ 10 (42 * k + x)) 0 42)) 0 8 0 0 j = τ 0 j := fun j a b => by rw [mu_j b, mr_row (by decide), mu_j a]
  have t4 : mu (mr (mu τ 0 0 0) 4 (over (τ 4) (fun x => τ 10 (42 * k + x)) 0 42)) 0 8 0 4 = over (τ 4) (fun x => τ 10 (42 * k + x)) 0 42 := by rw [mu_row (by decide), mr_same]
  have eT : ∀ x : Int, 0 ≤ x → x < 42 → over (τ 4) (fun x => τ 10 (42 * k + x)) 0 42 x = (fun x => τ 10 (42 * k + x)) x := fun x x0 x1 => over_in x0 x1
  rcases r6.1 k hk.1 hk.2 with z | ⟨x, y, z, w⟩
  · exact absurd z.2 hp
  have wb := w.1.2.2.1
  have wc := w.1.2.2.2.1
  refine RR_mono (n := n) ⟨RRow_cg r1 (fun q a b => hc q (by omega) (by omega)) (hτ 1 (by decide) (by decide)) (hτ 2 (by decide) (by decide)) (hτ 3 (by decide) (by decide)), ?_, ?_, ?_, ?_, ?_, ?_, ?_, ?_⟩ (by omega)
  · unfold RIt; rw [hτ 3 (by decide) (by decide)]; exact r2
  · unfold RTape
    rw [hτ 7 (by decide) (by decide), hc 4 (by omega) (by omega), hc 3 (by omega) (by omega), t0 10 (by decide) (by decide)]
    exact r3
  · unfold RSt
    rw [hc 0 (by omega) (by omega), t0 11 (by decide) (by decide), t0 1 (by decide) (by decide)]
    exact r4
  · unfold RTw
    rw [hc 0 (by omega) (by omega), t4]
    refine ⟨⟨u1, u2, u3⟩, ?_, TWn_T w eT, fun q q0 q1 => ?_⟩
    · have hl := lkM_TR (b := σ 0 8) z eT ⟨wb.2, wc.2⟩
      exact TR_keep hl (hc2 _ (by omega)) (hc2 _ (by omega)) (hc2 _ (by omega)) (hc2 _ (by omega)) (hc2 _ (by omega)) (hc2 _ (by omega))
    · by_cases e : q = σ 0 8
      · rw [e]
        refine ⟨TC_of (lkM_TC (b := σ 0 8) (u6 (20 + k) (by omega) (by omega)).1) (hc2 _ (by omega)) (hc2 _ (by omega)) (hc2 _ (by omega)) (hc2 _ (by omega)), fun t => ?_⟩
        rw [hc2 _ (by omega)]
        exact lkM_R3 (u6 (20 + k) (by omega) (by omega)).2 (u6 (σ 0 8) (by omega) (by omega)).2 t
      · refine ⟨TC_of (u6 q q0 q1).1 (by rw [hc2 _ (by omega)]; exact lkM_c (by omega)) (by rw [hc2 _ (by omega)]; exact lkM_c (by omega)) (by rw [hc2 _ (by omega)]; exact lkM_c (by omega)) (by rw [hc2 _ (by omega)]; exact lkM_c (by omega)), fun t => ?_⟩
        rw [hc2 (q + 16) (by omega), lkM_c (q := q + 16) (by omega)]
        exact (u6 q q0 q1).2 t
  · unfold RIm
    rw [hτ 9 (by decide) (by decide), hτ 10 (by decide) (by decide)]
    refine ⟨fun i i0 i1 => ?_, r6.2⟩
    rw [hc2 (20 + i) (by omega), lkM_c (q := 20 + i) (by omega)]
    rcases r6.1 i i0 i1 with z | ⟨x, y, z, w⟩
    · exact .inl z
    · exact .inr ⟨x, y, TR_keep z (by rw [hc2 _ (by omega)]; exact lkM_c (by omega)) (by rw [hc2 _ (by omega)]; exact lkM_c (by omega)) (by rw [hc2 _ (by omega)]; exact lkM_c (by omega)) (by rw [hc2 _ (by omega)]; exact lkM_c (by omega)) (by rw [hc2 _ (by omega)]; exact lkM_c (by omega)) (by rw [hc2 _ (by omega)]; exact lkM_c (by omega)), w⟩
  · refine ⟨by rw [mu_s, mu_s], by rw [mu_s]; omega, ?_, fun j j0 j1 => ?_, fun j j0 j1 => ?_⟩
    · rw [mu_j (by decide), lkM_c (by omega)]; exact r7.2.2.1
    · rw [hc 6 (by omega) (by omega)]; exact r7.2.2.2.1 j j0 j1
    · rw [mu_s] at j1; omega
  · unfold RTr
    rw [hc 18 (by omega) (by omega), hc 19 (by omega) (by omega), t0 23 (by decide) (by decide), hτ 11 (by decide) (by decide)]
    exact r8
  · unfold RFr
    rw [hτ 5 (by decide) (by decide)]
    exact r9
