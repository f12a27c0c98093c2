/-! returned, undone, images -/
theorem back_up {n t : Int} {σ τ : Mem} (h : RR n σ τ) (hn : n < 600) (ht : 0 ≤ t ∧ t < τ 4 3) : RR (n + 1) (mu (mu (kpM σ σ t) (σ 0 8 + 16) t (-1000000)) (σ 0 8 + 20) t (σ (σ 0 8 + 20) t + 1)) (backM (mu τ 0 0 0) t) := by
  obtain ⟨hH, ⟨e0, e1, e2, e3⟩, g2, g3, gp, g0, g1⟩ := RR_t h
  have hTR := RR_TR h
  have hTn := h.2.2.2.2.1.2.2.1
  have hAc := h.2.2.2.2.2.2.1
  have hAc2 := hAc.2.2.1
  have hTC := (h.2.2.2.2.1.2.2.2 (σ 0 8) (by omega) (by omega))
  have kf := kpM_f (σ := σ) (σ1 := σ) (t := t) (fun q a b => rfl) hAc2.1
  have e4 : mu τ 0 0 0 4 = τ 4 := mu_row (by decide)
  have e6 : mu τ 0 0 0 6 = τ 6 := mu_row (by decide)
  have eK : kepF (mu τ 0 0 0) = kepF τ := by unfold kepF; rw [e6, e4]; rfl
  have eN : kepN (mu τ 0 0 0) = kepN τ := rfl
  have hr : backM (mu τ 0 0 0) t = mu (mu (mu (mr (mu τ 0 0 0) 6 (kepF τ)) 0 8 (kepN τ)) 4 (12 + 6 * t + 4) (-1000000)) 4 (12 + 6 * t + 5) (τ 4 (12 + 6 * t + 5) + 1) := by
    unfold backM
    rw [eK, eN, e4]
  rw [hr]
  have T4 : mu (mu (mu (mr (mu τ 0 0 0) 6 (kepF τ)) 0 8 (kepN τ)) 4 (12 + 6 * t + 4) (-1000000)) 4 (12 + 6 * t + 5) (τ 4 (12 + 6 * t + 5) + 1) 4 = ru (ru (τ 4) (12 + 6 * t + 4) (-1000000)) (12 + 6 * t + 5) (τ 4 (12 + 6 * t + 5) + 1) := by rw [mu_same, mu_same, mu_row (by decide), mr_row (by decide), e4]
  have TK : ∀ k : Int, k ≠ 12 + 6 * t + 4 → k ≠ 12 + 6 * t + 5 → ru (ru (τ 4) (12 + 6 * t + 4) (-1000000)) (12 + 6 * t + 5) (τ 4 (12 + 6 * t + 5) + 1) k = τ 4 k := fun k a b => (if_neg b).trans (if_neg a)
  have TH : ru (ru (τ 4) (12 + 6 * t + 4) (-1000000)) (12 + 6 * t + 5) (τ 4 (12 + 6 * t + 5) + 1) (12 + 6 * t + 4) = -1000000 := (if_neg (by omega)).trans (if_pos rfl)
  have TW5 : ru (ru (τ 4) (12 + 6 * t + 4) (-1000000)) (12 + 6 * t + 5) (τ 4 (12 + 6 * t + 5) + 1) (12 + 6 * t + 5) = τ 4 (12 + 6 * t + 5) + 1 := if_pos rfl
  have gc : ∀ q : Int, q ≠ σ 0 8 + 20 → q ≠ σ 0 8 + 16 → mu (mu (kpM σ σ t) (σ 0 8 + 16) t (-1000000)) (σ 0 8 + 20) t (σ (σ 0 8 + 20) t + 1) q = kpM σ σ t q := fun q a b => by rw [mu_row a, mu_row b]
  have gc2 : ∀ q : Int, ¬ (5 ≤ q ∧ q ≤ 9) → q ≠ σ 0 8 + 20 → q ≠ σ 0 8 + 16 → mu (mu (kpM σ σ t) (σ 0 8 + 16) t (-1000000)) (σ 0 8 + 20) t (σ (σ 0 8 + 20) t + 1) q = σ q := fun q a b c => by rw [gc q b c, kpM_c (by omega)]
  have g16 : mu (mu (kpM σ σ t) (σ 0 8 + 16) t (-1000000)) (σ 0 8 + 20) t (σ (σ 0 8 + 20) t + 1) (σ 0 8 + 16) = ru (σ (σ 0 8 + 16)) t (-1000000) := by rw [mu_row (by omega), mu_same, kpM_c (by omega)]
  have g20 : mu (mu (kpM σ σ t) (σ 0 8 + 16) t (-1000000)) (σ 0 8 + 20) t (σ (σ 0 8 + 20) t + 1) (σ 0 8 + 20) = ru (σ (σ 0 8 + 20)) t (σ (σ 0 8 + 20) t + 1) := by rw [mu_same, mu_row (by omega), kpM_c (by omega)]
  obtain ⟨⟨x1, x2⟩, x3⟩ := hTR.2.2 t ht.1 ht.2
  have hwn := hTn.2.2.2 t ht.1 (by omega)
  have hw7 := hTn.1.2.2.2.2.2.2.2 t ht.1 (by omega)
  refine RR_act h (fun q a b c d e => gc2 q (by omega) e d) ⟨by rw [gc2 0 (by omega) (by omega) (by omega)], by rw [gc2 0 (by omega) (by omega) (by omega)], by rw [gc2 0 (by omega) (by omega) (by omega)]⟩ (fun q a b c d => by rw [mu_row b, mu_row b, mu_row a, mr_row c, mu_row a]) (fun j a b c => by rw [mu_row (by decide), mu_row (by decide), mu_j c, mr_row (by decide), mu_j a]) ?_ ?_ ?_ ?_ ?_ ?_
  · rw [gc2 0 (by omega) (by omega) (by omega), mu_row (by decide), mu_row (by decide), mu_j (by decide), mr_row (by decide), mu_j (by decide)]
    exact h.2.2.2.1.2
  · obtain ⟨k1, k2, k3, k4, k5⟩ := kf
    have hk := keep_sim (σ' := mu (mu (kpM σ σ t) (σ 0 8 + 16) t (-1000000)) (σ 0 8 + 20) t (σ (σ 0 8 + 20) t + 1)) (τ' := mu (mu (mu (mr (mu τ 0 0 0) 6 (kepF τ)) 0 8 (kepN τ)) 4 (12 + 6 * t + 4) (-1000000)) 4 (12 + 6 * t + 5) (τ 4 (12 + 6 * t + 5) + 1)) hAc hTn ht hTR (by rw [gc 5 (by omega) (by omega)]; exact k1) (by rw [gc 6 (by omega) (by omega)]; exact k2) (by rw [gc 7 (by omega) (by omega)]; exact k3) (by rw [gc 8 (by omega) (by omega)]; exact k4) (by rw [gc 9 (by omega) (by omega)]; exact k5) (by rw [mu_row (by decide), mu_row (by decide), mu_s]) (by rw [mu_row (by decide), mu_row (by decide), mu_row (by decide), mr_same]) (fun k k0 k1 k2 k3 k4 => by rw [T4]; exact TK k k2 k3)
    refine ⟨hk.1, hk.2.1, hk.2.2.1, hk.2.2.2.1, fun j a b => ?_⟩
    obtain ⟨x, y⟩ := hk.2.2.2.2 j a b
    exact ⟨TWn_mono x (by omega), y⟩
  · rw [T4]
    obtain ⟨⟨a0, a1, a2, a3⟩, b, c⟩ := hTR
    refine ⟨⟨?_, ?_, ?_, ?_⟩, fun p p0 p1 => ?_, fun u u0 u1 => ?_⟩
    · rw [TK 0 (by omega) (by omega), gc2 _ (by omega) (by omega) (by omega)]; exact a0
    · rw [TK 1 (by omega) (by omega), gc2 _ (by omega) (by omega) (by omega)]; exact a1
    · rw [TK 2 (by omega) (by omega), gc2 _ (by omega) (by omega) (by omega)]; exact a2
    · rw [TK 3 (by omega) (by omega), gc2 _ (by omega) (by omega) (by omega)]; exact a3
    · rw [TK 2 (by omega) (by omega)] at p1
      rw [TK (4 + p) (by omega) (by omega), TK (8 + p) (by omega) (by omega), gc2 (σ 0 8 + 4) (by omega) (by omega) (by omega), gc2 (σ 0 8 + 8) (by omega) (by omega) (by omega)]
      exact b p p0 p1
    · rw [TK 3 (by omega) (by omega)] at u1
      rw [g16, g20, gc2 (σ 0 8 + 12) (by omega) (by omega) (by omega)]
      refine ⟨?_, fun p p0 p1 => ?_⟩
      · by_cases z : u = t
        · rw [z, TH, TW5]
          exact ⟨(if_pos rfl).symm, by rw [x2]; exact (if_pos rfl).symm⟩
        · rw [TK (12 + 6 * u + 4) (by omega) (by omega), TK (12 + 6 * u + 5) (by omega) (by omega), (c u u0 u1).1.1, (c u u0 u1).1.2]
          exact ⟨(if_neg z).symm, (if_neg z).symm⟩
      · rw [TK 2 (by omega) (by omega)] at p1
        rw [TK (12 + 6 * u + p) (by omega) (by omega)]
        exact (c u u0 u1).2 p p0 p1
  · rw [T4]
    obtain ⟨⟨w0, w1, w2, w3, w4, w5, w6, w7⟩, v1, v2, v3⟩ := hTn
    refine ⟨⟨?_, ?_, ?_, ?_, fun p a b => ?_, fun u p a b c d => ?_, fun u a b => ?_, fun u a b => ?_⟩, ?_, fun p a b => ?_, fun u a b => ?_⟩
    · rw [TK 0 (by omega) (by omega)]; exact w0
    · rw [TK 1 (by omega) (by omega)]; exact w1
    · rw [TK 2 (by omega) (by omega)]; exact w2
    · rw [TK 3 (by omega) (by omega)]; exact w3
    · rw [TK (4 + p) (by omega) (by omega)]; exact w4 p a b
    · rw [TK (12 + 6 * u + p) (by omega) (by omega)]; exact w5 u p a b c d
    · by_cases z : u = t
      · rw [z, TH]; omega
      · rw [TK (12 + 6 * u + 4) (by omega) (by omega)]; exact w6 u a b
    · by_cases z : u = t
      · rw [z, TW5]; omega
      · rw [TK (12 + 6 * u + 5) (by omega) (by omega)]; exact w7 u a b
    · rw [TK 2 (by omega) (by omega), TK 3 (by omega) (by omega)]; exact v1
    · rw [TK 2 (by omega) (by omega)] at b
      rw [TK (4 + p) (by omega) (by omega)]; exact v2 p a b
    · by_cases z : u = t
      · rw [z, TW5]; omega
      · rw [TK (12 + 6 * u + 5) (by omega) (by omega)]
        have := v3 u a b
        omega
  · obtain ⟨c0, c1, c2, c3, c4, c5, c6⟩ := hTC.1
    unfold TC
    rw [gc2 (σ 0 8) (by omega) (by omega) (by omega), gc2 (σ 0 8 + 4) (by omega) (by omega) (by omega), gc2 (σ 0 8 + 12) (by omega) (by omega) (by omega), g20]
    refine ⟨c0, c1, c2, c3, c4, c5, fun u a b => ?_⟩
    unfold ru
    split
    · omega
    · exact c6 u a b
  · intro u
    rw [g16]
    unfold ru
    split
    · constructor <;> omega
    · exact hTC.2 u
theorem undo_up {n : Int} {σ τ : Mem} (h : RR n σ τ) (ha : ¬ σ 5 0 = 0) : RR (n + 1) (mu (mu (mr (mu (mu σ (σ 0 8 + 16) (σ 6 (σ 5 1)) (σ 7 (σ 5 1))) (σ 0 8 + 20) (σ 6 (σ 5 1)) (σ 8 (σ 5 1))) (σ 0 8 + 8) (cpy (σ 9) (σ (σ 0 8 + 8)) (σ 5 1 * 4) 0 4)) 5 1 ((σ 5 1 + 24 - 1).tmod 24)) 5 0 (σ 5 0 - 1)) (mr (mu (mu τ 0 0 0) 0 8 (τ 0 8 - 1)) 4 (over (τ 4) (fun k => τ 6 (42 * (τ 0 8 - 1) + k)) 0 42)) := by
  obtain ⟨hH, ⟨e0, e1, e2, e3⟩, g2, g3, gp, g0, g1⟩ := RR_t h
  have hTR := RR_TR h
  have hTn := h.2.2.2.2.1.2.2.1
  have hAc := h.2.2.2.2.2.2.1
  have hTC := (h.2.2.2.2.1.2.2.2 (σ 0 8) (by omega) (by omega))
  obtain ⟨b1, b2, b3, b4, b5⟩ := hAc
  obtain ⟨y1, y2, y3, y4, y5, y6⟩ := b5 0 (by omega) (by omega)
  have x0 : unX σ 0 = σ 5 1 := by unfold unX; omega
  rw [x0] at y2 y3 y4 y5 y6
  have hx := b4 (σ 5 1) b3.1 b3.2
  have y2w := y1.1.2.2.1
  have y3w := y1.1.2.2.2.1
  have hv : ∀ k, unV σ τ 0 k = τ 4 k := fun k => rfl
  rw [tm24 (by omega)]
  generalize hM : mu (mu (mr (mu (mu σ (σ 0 8 + 16) (σ 6 (σ 5 1)) (σ 7 (σ 5 1))) (σ 0 8 + 20) (σ 6 (σ 5 1)) (σ 8 (σ 5 1))) (σ 0 8 + 8) (cpy (σ 9) (σ (σ 0 8 + 8)) (σ 5 1 * 4) 0 4)) 5 1 ((σ 5 1 + 24 - 1) % 24)) 5 0 (σ 5 0 - 1) = σ'
  have gc : ∀ q : Int, q ≠ 5 → q ≠ σ 0 8 + 8 → q ≠ σ 0 8 + 16 → q ≠ σ 0 8 + 20 → σ' q = σ q := fun q a b c d => by rw [← hM, mu_row a, mu_row a, mr_row b, mu_row d, mu_row c]
  have g8 : σ' (σ 0 8 + 8) = cpy (σ 9) (σ (σ 0 8 + 8)) (σ 5 1 * 4) 0 4 := by rw [← hM, mu_row (by omega), mu_row (by omega), mr_same]
  have g16 : σ' (σ 0 8 + 16) = ru (σ (σ 0 8 + 16)) (σ 6 (σ 5 1)) (σ 7 (σ 5 1)) := by rw [← hM, mu_row (by omega), mu_row (by omega), mr_row (by omega), mu_row (by omega), mu_same]
  have g20 : σ' (σ 0 8 + 20) = ru (σ (σ 0 8 + 20)) (σ 6 (σ 5 1)) (σ 8 (σ 5 1)) := by rw [← hM, mu_row (by omega), mu_row (by omega), mr_row (by omega), mu_same, mu_row (by omega)]
  have g51 : σ' 5 1 = (σ 5 1 + 24 - 1) % 24 := by rw [← hM, mu_j (by decide), mu_s]
  have g50 : σ' 5 0 = σ 5 0 - 1 := by rw [← hM, mu_s]
  have T4 : ∀ k : Int, 0 ≤ k → k < 42 → over (τ 4) (fun k => τ 6 (42 * (τ 0 8 - 1) + k)) 0 42 k = unW σ τ 0 k := fun k k0 k1 => by
    rw [over_in k0 k1]
    unfold unW
    rw [b1]
    show τ 6 _ = τ 6 _
    congr 1; omega
  have hWn := TWn_T y1 T4
  have t4 : mr (mu (mu τ 0 0 0) 0 8 (τ 0 8 - 1)) 4 (over (τ 4) (fun k => τ 6 (42 * (τ 0 8 - 1) + k)) 0 42) 4 = over (τ 4) (fun k => τ 6 (42 * (τ 0 8 - 1) + k)) 0 42 := mr_same
  have t6 : mr (mu (mu τ 0 0 0) 0 8 (τ 0 8 - 1)) 4 (over (τ 4) (fun k => τ 6 (42 * (τ 0 8 - 1) + k)) 0 42) 6 = τ 6 := by rw [mr_row (by decide), mu_row (by decide), mu_row (by decide)]
  have k2 := y6 2 (by decide) (by decide) (by omega) (by omega) (by omega)
  have k3 := y6 3 (by decide) (by decide) (by omega) (by omega) (by omega)
  rw [hv] at k2 k3
  have hTR' : TR σ' (σ 0 8) (unW σ τ 0) := by
    obtain ⟨⟨a0, a1, a2, a3⟩, b, c⟩ := hTR
    refine ⟨⟨?_, ?_, ?_, ?_⟩, fun p p0 p1 => ?_, fun u u0 u1 => ?_⟩
    · rw [gc _ (by omega) (by omega) (by omega) (by omega), y6 0 (by decide) (by decide) (by omega) (by omega) (by omega)]; exact a0
    · rw [gc _ (by omega) (by omega) (by omega) (by omega), y6 1 (by decide) (by decide) (by omega) (by omega) (by omega)]; exact a1
    · rw [gc _ (by omega) (by omega) (by omega) (by omega), k2]; exact a2
    · rw [gc _ (by omega) (by omega) (by omega) (by omega), k3]; exact a3
    · rw [gc (σ 0 8 + 4) (by omega) (by omega) (by omega) (by omega), g8, y6 (4 + p) (by omega) (by omega) (by omega) (by omega) (by omega), y5 p p0 p1]
      refine ⟨(b p p0 (by omega)).1, ?_⟩
      unfold cpy
      rw [if_pos (by omega), show σ 5 1 * 4 + (p - 0) = σ 5 1 * 4 + p by omega]
    · rw [gc (σ 0 8 + 12) (by omega) (by omega) (by omega) (by omega), g16, g20]
      refine ⟨?_, fun p p0 p1 => ?_⟩
      · by_cases z : u = σ 6 (σ 5 1)
        · rw [z, y3, y4]
          exact ⟨(if_pos rfl).symm, (if_pos rfl).symm⟩
        · rw [y6 (12 + 6 * u + 4) (by omega) (by omega) (by omega) (by omega) (by omega), y6 (12 + 6 * u + 5) (by omega) (by omega) (by omega) (by omega) (by omega), hv, hv, (c u u0 (by omega)).1.1, (c u u0 (by omega)).1.2]
          exact ⟨(if_neg z).symm, (if_neg z).symm⟩
      · rw [y6 (12 + 6 * u + p) (by omega) (by omega) (by omega) (by omega) (by omega)]
        exact (c u u0 (by omega)).2 p p0 (by omega)
  have y6w := y1.1.2.2.2.2.2.2.1 (σ 6 (σ 5 1)) hx.1 hx.2
  have y7w := y1.1.2.2.2.2.2.2.2 (σ 6 (σ 5 1)) hx.1 hx.2
  rw [y3] at y6w
  rw [y4] at y7w
  refine RR_act h (fun q a b c d e => gc q (by omega) c d e) ⟨by rw [gc 0 (by omega) (by omega) (by omega) (by omega)], by rw [gc 0 (by omega) (by omega) (by omega) (by omega)], by rw [gc 0 (by omega) (by omega) (by omega) (by omega)]⟩ (fun q a b c d => by rw [mr_row b, mu_row a, mu_row a]) (fun j a b c => by rw [mr_row (by decide), mu_j c, mu_j a]) ?_ ?_ ?_ ?_ ?_ ?_
  · rw [gc 0 (by omega) (by omega) (by omega) (by omega), mr_row (by decide), mu_j (by decide), mu_j (by decide)]
    exact h.2.2.2.1.2
  · refine ⟨?_, by omega, by omega, fun j j0 j1 => ?_, fun j j0 j1 => ?_⟩
    · rw [g50, mr_row (by decide), mu_s, b1]
    · rw [gc 6 (by omega) (by omega) (by omega) (by omega)]; exact b4 j j0 j1
    · rw [g50] at j1
      obtain ⟨z1, z2, z3, z4, z5, z6⟩ := b5 (j + 1) (by omega) (by omega)
      have eX : unX σ' j = unX σ (j + 1) := by unfold unX; rw [g51]; omega
      have eW : unW σ' (mr (mu (mu τ 0 0 0) 0 8 (τ 0 8 - 1)) 4 (over (τ 4) (fun k => τ 6 (42 * (τ 0 8 - 1) + k)) 0 42)) j = unW σ τ (j + 1) := by
        funext k
        unfold unW
        rw [g50, t6]
        congr 1; omega
      unfold UN
      rw [eX, eW, gc 6 (by omega) (by omega) (by omega) (by omega), gc 7 (by omega) (by omega) (by omega) (by omega), gc 8 (by omega) (by omega) (by omega) (by omega), gc 9 (by omega) (by omega) (by omega) (by omega)]
      refine ⟨TWn_mono z1 (by omega), z2, z3, z4, z5, fun k k0 k1 k2 k3 k4 => ?_⟩
      rw [z6 k k0 k1 k2 k3 k4]
      unfold unV
      rw [if_neg (by omega)]
      by_cases e : j = 0
      · rw [if_pos e, t4, T4 k k0 k1, e]; rfl
      · rw [if_neg e]
        unfold unW
        rw [g50, t6]
        congr 1; omega
  · rw [t4]
    exact TR_row hTR' T4 ⟨by omega, by omega⟩ (fun _ _ _ => rfl) (fun _ _ _ => ⟨rfl, rfl⟩) (fun _ _ _ => rfl) (fun _ _ _ => ⟨rfl, rfl⟩)
  · rw [t4]; exact TWn_mono hWn (by omega)
  · obtain ⟨c0, c1, c2, c3, c4, c5, c6⟩ := hTC.1
    unfold TC
    rw [gc (σ 0 8) (by omega) (by omega) (by omega) (by omega), gc (σ 0 8 + 4) (by omega) (by omega) (by omega) (by omega), gc (σ 0 8 + 12) (by omega) (by omega) (by omega) (by omega), g20]
    refine ⟨c0, c1, c2, c3, c4, c5, fun u a b => ?_⟩
    unfold ru
    split
    · omega
    · exact c6 u a b
  · intro u
    rw [g16]
    unfold ru
    split
    · constructor <;> omega
    · exact hTC.2 u
