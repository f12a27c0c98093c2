/-! acts -/
theorem RR_act {n : Int} {σ τ σ' τ' : Mem} (h : RR n σ τ) (hσ : ∀ q : Int, q ≠ 0 → ¬ (5 ≤ q ∧ q ≤ 17) → q ≠ σ 0 8 + 8 → q ≠ σ 0 8 + 16 → q ≠ σ 0 8 + 20 → σ' q = σ q) (h0 : σ' 0 8 = σ 0 8 ∧ σ' 0 9 = σ 0 9 ∧ σ' 0 10 = σ 0 10) (hτ : ∀ q : Int, q ≠ 0 → q ≠ 4 → q ≠ 6 → q ≠ 8 → τ' q = τ q) (t0 : ∀ j : Int, j ≠ 0 → j ≠ 1 → j ≠ 8 → τ' 0 j = τ 0 j) (hs : σ' 0 11 = τ' 0 1)
    (hA : RAc (n + 1) σ' τ') (hR : TR σ' (σ 0 8) (τ' 4)) (hW : TWn (n + 1) (τ' 4)) (hC : TC σ' (σ 0 8)) (h3 : ∀ t : Int, R3 (σ' (σ 0 8 + 16) t)) : RR (n + 1) σ' τ' := by
  obtain ⟨r1, r2, r3, r4, r5, r6, r7, r8, r9⟩ := h
  obtain ⟨⟨u1, u2, u3⟩, u4, u5, u6⟩ := r5
  refine ⟨RRow_cg r1 (fun q a b => hσ q (by omega) (by omega) (by omega) (by omega) (by omega)) (hτ 1 (by decide) (by decide) (by decide) (by decide)) (hτ 2 (by decide) (by decide) (by decide) (by decide)) (hτ 3 (by decide) (by decide) (by decide) (by decide)), ?_, ?_, ?_, ?_, ?_, hA, ?_, ?_⟩
  · unfold RIt; rw [hτ 3 (by decide) (by decide) (by decide) (by decide)]; exact r2
  · unfold RTape
    rw [hτ 7 (by decide) (by decide) (by decide) (by decide), hσ 4 (by decide) (by decide) (by omega) (by omega) (by omega), hσ 3 (by decide) (by decide) (by omega) (by omega) (by omega), t0 10 (by decide) (by decide) (by decide)]
    exact r3
  · unfold RSt
    rw [h0.2.2, t0 11 (by decide) (by decide) (by decide)]
    exact ⟨r4.1, hs⟩
  · unfold RTw
    rw [h0.1, h0.2.1]
    refine ⟨⟨u1, u2, u3⟩, hR, hW, fun q q0 q1 => ?_⟩
    by_cases e : q = σ 0 8
    · rw [e]; exact ⟨hC, h3⟩
    · refine ⟨TC_of (u6 q q0 q1).1 (hσ _ (by omega) (by omega) (by omega) (by omega) (by omega)) (hσ _ (by omega) (by omega) (by omega) (by omega) (by omega)) (hσ _ (by omega) (by omega) (by omega) (by omega) (by omega)) (hσ _ (by omega) (by omega) (by omega) (by omega) (by omega)), fun t => ?_⟩
      rw [hσ (q + 16) (by omega) (by omega) (by omega) (by omega) (by omega)]
      exact (u6 q q0 q1).2 t
  · unfold RIm
    rw [hτ 9 (by decide) (by decide) (by decide) (by decide), hτ 10 (by decide) (by decide) (by decide) (by decide)]
    refine ⟨fun k k0 k1 => ?_, r6.2⟩
    rw [hσ (20 + k) (by omega) (by omega) (by omega) (by omega) (by omega)]
    rcases r6.1 k k0 k1 with z | ⟨x, y, z, w⟩
    · exact .inl z
    · exact .inr ⟨x, y, TR_keep z (hσ _ (by omega) (by omega) (by omega) (by omega) (by omega)) (hσ _ (by omega) (by omega) (by omega) (by omega) (by omega)) (hσ _ (by omega) (by omega) (by omega) (by omega) (by omega)) (hσ _ (by omega) (by omega) (by omega) (by omega) (by omega)) (hσ _ (by omega) (by omega) (by omega) (by omega) (by omega)) (hσ _ (by omega) (by omega) (by omega) (by omega) (by omega)), TWn_mono w (by omega)⟩
  · unfold RTr
    rw [hσ 18 (by decide) (by decide) (by omega) (by omega) (by omega), hσ 19 (by decide) (by decide) (by omega) (by omega) (by omega), t0 23 (by decide) (by decide) (by decide), hτ 11 (by decide) (by decide) (by decide) (by decide)]
    exact r8
  · unfold RFr
    rw [hτ 5 (by decide) (by decide) (by decide) (by decide)]
    exact r9
theorem tm24 {a : Int} (h : 0 ≤ a) : a.tmod 24 = a % 24 := Int.tmod_eq_emod_of_nonneg h
/-- an act kept by the class: on σ1, the values out of σ -/
def kpM (σ σ1 : Mem) (t : Int) : Mem := mr (mu (mu (mu (mu (mu σ1 5 1 ((σ 5 1 + 1).tmod 24)) 5 0 (if σ 5 0 + 1 < 24 then σ 5 0 + 1 else 24)) 6 ((σ 5 1 + 1).tmod 24) t) 7 ((σ 5 1 + 1).tmod 24) (σ (σ 0 8 + 16) t)) 8 ((σ 5 1 + 1).tmod 24) (σ (σ 0 8 + 20) t)) 9 (cpy (σ (σ 0 8 + 8)) (σ 9) 0 ((σ 5 1 + 1).tmod 24 * 4) 4)
theorem kpM_c {σ σ1 : Mem} {t q : Int} (h : ¬ (5 ≤ q ∧ q < 10)) : kpM σ σ1 t q = σ1 q := by
  unfold kpM
  rw [mr_row (by omega), mu_row (by omega), mu_row (by omega), mu_row (by omega), mu_row (by omega), mu_row (by omega)]
theorem kpM_f {σ σ1 : Mem} {t : Int} (h : ∀ q : Int, 5 ≤ q → q < 10 → σ1 q = σ q) (hl : 0 ≤ σ 5 1) :
    (kpM σ σ1 t 5 1 = (σ 5 1 + 1) % 24 ∧ kpM σ σ1 t 5 0 = if σ 5 0 + 1 < 24 then σ 5 0 + 1 else 24) ∧ kpM σ σ1 t 6 = ru (σ 6) ((σ 5 1 + 1) % 24) t ∧ kpM σ σ1 t 7 = ru (σ 7) ((σ 5 1 + 1) % 24) (σ (σ 0 8 + 16) t) ∧ kpM σ σ1 t 8 = ru (σ 8) ((σ 5 1 + 1) % 24) (σ (σ 0 8 + 20) t) ∧ kpM σ σ1 t 9 = cpy (σ (σ 0 8 + 8)) (σ 9) 0 ((σ 5 1 + 1) % 24 * 4) 4 := by
  unfold kpM
  rw [tm24 (by omega)]
  refine ⟨⟨?_, ?_⟩, ?_, ?_, ?_, ?_⟩
  · rw [mr_row (by decide), mu_row (by decide), mu_row (by decide), mu_row (by decide), mu_j (by decide), mu_s]
  · rw [mr_row (by decide), mu_row (by decide), mu_row (by decide), mu_row (by decide), mu_s]
  · rw [mr_row (by decide), mu_row (by decide), mu_row (by decide), mu_same, mu_row (by decide), mu_row (by decide), h 6 (by decide) (by decide)]
  · rw [mr_row (by decide), mu_row (by decide), mu_same, mu_row (by decide), mu_row (by decide), mu_row (by decide), h 7 (by decide) (by decide)]
  · rw [mr_row (by decide), mu_same, mu_row (by decide), mu_row (by decide), mu_row (by decide), mu_row (by decide), h 8 (by decide) (by decide)]
  · rw [mr_same]
/-- a round held by the class -/
def gwM (σ σ1 : Mem) (t W : Int) (S : Int → Int) : Mem := mr (mu (kpM σ σ1 t) (σ 0 8 + 16) t W) (σ 0 8 + 8) (over (σ (σ 0 8 + 8)) (fun x => σ (σ 0 8 + 8) x + (if x = W then wgC (σ (σ 0 8) 0) (σ (σ 0 8) 1) (σ (σ 0 8) 2) (nxC S (σ (σ 0 8) 2) W) else ogC (σ (σ 0 8) 0) (σ (σ 0 8) 1))) 0 (σ (σ 0 8) 2))
theorem go_up {n t seed : Int} {σ τ σ1 τ1 : Mem} {S S8 : Int → Int} (h : RR n σ τ) (ht : 0 ≤ t ∧ t < τ 4 3) (hA : AG (τ 4 2) S S8) (hS : SW (τ 4 2) S8) (hs : 1 ≤ seed) (s1 : ∀ q : Int, q ≠ 0 → ¬ (10 ≤ q ∧ q ≤ 17) → σ1 q = σ q) (s0 : σ1 0 8 = σ 0 8 ∧ σ1 0 9 = σ 0 9 ∧ σ1 0 10 = σ 0 10) (t1 : ∀ q : Int, q ≠ 0 → q ≠ 8 → τ1 q = τ q) (t8 : τ1 8 = S8) (t0 : ∀ j : Int, j ≠ 0 → j ≠ 1 → τ1 0 j = τ 0 j) (st : σ1 0 11 = τ1 0 1) : RR (n + 1) (gwM σ σ1 t (toR S8 (τ 4 2) seed) S) (rndM τ1 t seed) := by
  obtain ⟨hH, ⟨e0, e1, e2, e3⟩, g2, g3, gp, g0, g1⟩ := RR_t h
  have hTR := RR_TR h
  have hTn := h.2.2.2.2.1.2.2.1
  have hAc := h.2.2.2.2.2.2.1
  have hAc2 := hAc.2.2.1
  have hTC := (h.2.2.2.2.1.2.2.2 (σ 0 8) (by omega) (by omega))
  have hn1 : 1 ≤ τ 4 2 := by omega
  have hw := toR_in hS hn1 hs
  have kf := kpM_f (σ := σ) (σ1 := σ1) (t := t) (fun q a b => s1 q (by omega) (by omega)) hAc2.1
  have e4 : τ1 4 = τ 4 := t1 4 (by decide) (by decide)
  have e6 : τ1 6 = τ 6 := t1 6 (by decide) (by decide)
  have e08 : τ1 0 8 = τ 0 8 := t0 8 (by decide) (by decide)
  have eK : kepF τ1 = kepF τ := by unfold kepF; rw [e08, e6, e4]
  have eN : kepN τ1 = kepN τ := by unfold kepN; rw [e08]
  have hr : rndM τ1 t seed = mu (mr (mu (mr τ1 6 (kepF τ)) 0 8 (kepN τ)) 4 (over (τ 4) (fun x => τ 4 x + coiB (τ 4 1) (τ 4 2) S8 (τ 4 0) (x - 8) (toR S8 (τ 4 2) seed)) 8 (8 + τ 4 2))) 4 (12 + 6 * t + 4) (toR S8 (τ 4 2) seed) := by
    unfold rndM
    rw [eK, eN, e4, t8]
  rw [hr]
  generalize toR S8 (τ 4 2) seed = W at hw ⊢
  have T4 : mu (mr (mu (mr τ1 6 (kepF τ)) 0 8 (kepN τ)) 4 (over (τ 4) (fun x => τ 4 x + coiB (τ 4 1) (τ 4 2) S8 (τ 4 0) (x - 8) W) 8 (8 + τ 4 2))) 4 (12 + 6 * t + 4) W 4 = ru (over (τ 4) (fun x => τ 4 x + coiB (τ 4 1) (τ 4 2) S8 (τ 4 0) (x - 8) W) 8 (8 + τ 4 2)) (12 + 6 * t + 4) W := by rw [mu_same, mr_same]
  have TK : ∀ k : Int, k ≠ 12 + 6 * t + 4 → (k < 8 ∨ 8 + τ 4 2 ≤ k) → ru (over (τ 4) (fun x => τ 4 x + coiB (τ 4 1) (τ 4 2) S8 (τ 4 0) (x - 8) W) 8 (8 + τ 4 2)) (12 + 6 * t + 4) W k = τ 4 k := fun k a b => (if_neg a).trans (over_out b)
  have TH : ru (over (τ 4) (fun x => τ 4 x + coiB (τ 4 1) (τ 4 2) S8 (τ 4 0) (x - 8) W) 8 (8 + τ 4 2)) (12 + 6 * t + 4) W (12 + 6 * t + 4) = W := if_pos rfl
  have TCo : ∀ p : Int, 0 ≤ p → p < τ 4 2 → ru (over (τ 4) (fun x => τ 4 x + coiB (τ 4 1) (τ 4 2) S8 (τ 4 0) (x - 8) W) 8 (8 + τ 4 2)) (12 + 6 * t + 4) W (8 + p) = τ 4 (8 + p) + coiB (τ 4 1) (τ 4 2) S8 (τ 4 0) p W := fun p a b => by
    refine (if_neg (by omega)).trans ((over_in (by omega) (by omega)).trans ?_)
    show τ 4 (8 + p) + coiB (τ 4 1) (τ 4 2) S8 (τ 4 0) (8 + p - 8) W = _
    rw [show (8 : Int) + p - 8 = p by omega]
  have gc : ∀ q : Int, q ≠ σ 0 8 + 8 → q ≠ σ 0 8 + 16 → gwM σ σ1 t W S q = kpM σ σ1 t q := fun q a b => by unfold gwM; rw [mr_row a, mu_row b]
  have gc2 : ∀ q : Int, q ≠ 0 → ¬ (5 ≤ q ∧ q ≤ 17) → q ≠ σ 0 8 + 8 → q ≠ σ 0 8 + 16 → gwM σ σ1 t W S q = σ q := fun q a b c d => by rw [gc q c d, kpM_c (by omega), s1 q a (by omega)]
  have g16 : gwM σ σ1 t W S (σ 0 8 + 16) = ru (σ (σ 0 8 + 16)) t W := by unfold gwM; rw [mr_row (by omega), mu_same, kpM_c (by omega), s1 _ (by omega) (by omega)]
  have g8 : gwM σ σ1 t W S (σ 0 8 + 8) = over (σ (σ 0 8 + 8)) (fun x => σ (σ 0 8 + 8) x + (if x = W then wgC (σ (σ 0 8) 0) (σ (σ 0 8) 1) (σ (σ 0 8) 2) (nxC S (σ (σ 0 8) 2) W) else ogC (σ (σ 0 8) 0) (σ (σ 0 8) 1))) 0 (σ (σ 0 8) 2) := by unfold gwM; rw [mr_same]
  have g00 : ∀ j, gwM σ σ1 t W S 0 j = σ1 0 j := fun j => by rw [gc 0 (by omega) (by omega), kpM_c (by decide)]
  have tt4 : ∀ q : Int, q ≠ 0 → q ≠ 4 → q ≠ 6 → q ≠ 8 → mu (mr (mu (mr τ1 6 (kepF τ)) 0 8 (kepN τ)) 4 (over (τ 4) (fun x => τ 4 x + coiB (τ 4 1) (τ 4 2) S8 (τ 4 0) (x - 8) W) 8 (8 + τ 4 2))) 4 (12 + 6 * t + 4) W q = τ q := fun q a b c d => by rw [mu_row b, mr_row b, mu_row a, mr_row c, t1 q a d]
  have tt0 : ∀ j : Int, j ≠ 0 → j ≠ 1 → j ≠ 8 → mu (mr (mu (mr τ1 6 (kepF τ)) 0 8 (kepN τ)) 4 (over (τ 4) (fun x => τ 4 x + coiB (τ 4 1) (τ 4 2) S8 (τ 4 0) (x - 8) W) 8 (8 + τ 4 2))) 4 (12 + 6 * t + 4) W 0 j = τ 0 j := fun j a b c => by rw [mu_row (by decide), mr_row (by decide), mu_j c, mr_row (by decide), t0 j a b]
  refine RR_act h (fun q a b c d e => gc2 q a b c d) ⟨by rw [g00]; exact s0.1, by rw [g00]; exact s0.2.1, by rw [g00]; exact s0.2.2⟩ tt4 tt0 ?_ ?_ ?_ ?_ ?_ ?_
  · rw [g00, st, mu_row (by decide), mr_row (by decide), mu_j (by decide), mr_row (by decide)]
  · obtain ⟨k1, k2, k3, k4, k5⟩ := kf
    have hk := keep_sim (σ' := gwM σ σ1 t W S) (τ' := mu (mr (mu (mr τ1 6 (kepF τ)) 0 8 (kepN τ)) 4 (over (τ 4) (fun x => τ 4 x + coiB (τ 4 1) (τ 4 2) S8 (τ 4 0) (x - 8) W) 8 (8 + τ 4 2))) 4 (12 + 6 * t + 4) W) hAc hTn ht hTR (by rw [gc 5 (by omega) (by omega)]; exact k1) (by rw [gc 6 (by omega) (by omega)]; exact k2) (by rw [gc 7 (by omega) (by omega)]; exact k3) (by rw [gc 8 (by omega) (by omega)]; exact k4) (by rw [gc 9 (by omega) (by omega)]; exact k5) (by rw [mu_row (by decide), mr_row (by decide), mu_s]) (by rw [mu_row (by decide), mr_row (by decide), mu_row (by decide), mr_same]) (fun k k0 k1 k2 k3 k4 => by rw [T4]; exact TK k k2 k4)
    refine ⟨hk.1, hk.2.1, hk.2.2.1, hk.2.2.2.1, fun j a b => ?_⟩
    obtain ⟨x, y⟩ := hk.2.2.2.2 j a b
    exact ⟨TWn_mono x (by omega), y⟩
  · rw [T4]
    obtain ⟨⟨a0, a1, a2, a3⟩, b, c⟩ := hTR
    refine ⟨⟨?_, ?_, ?_, ?_⟩, fun p p0 p1 => ?_, fun u u0 u1 => ?_⟩
    · rw [TK 0 (by omega) (by omega), gc2 _ (by omega) (by omega) (by omega) (by omega)]; exact a0
    · rw [TK 1 (by omega) (by omega), gc2 _ (by omega) (by omega) (by omega) (by omega)]; exact a1
    · rw [TK 2 (by omega) (by omega), gc2 _ (by omega) (by omega) (by omega) (by omega)]; exact a2
    · rw [TK 3 (by omega) (by omega), gc2 _ (by omega) (by omega) (by omega) (by omega)]; exact a3
    · rw [TK 2 (by omega) (by omega)] at p1
      rw [TK (4 + p) (by omega) (by omega), gc2 _ (by omega) (by omega) (by omega) (by omega), TCo p p0 p1, g8, over_in p0 (by omega)]
      refine ⟨(b p p0 p1).1, ?_⟩
      rw [coiB_c hS hn1 ⟨hw.1, hw.2⟩ g0, (b p p0 p1).2, ← e0, ← e1, ← e2, nxC_cg hA]
    · rw [TK 3 (by omega) (by omega)] at u1
      rw [g16, gc2 (σ 0 8 + 20) (by omega) (by omega) (by omega) (by omega), gc2 (σ 0 8 + 12) (by omega) (by omega) (by omega) (by omega), TK (12 + 6 * u + 5) (by omega) (by omega)]
      refine ⟨⟨?_, (c u u0 u1).1.2⟩, fun p p0 p1 => ?_⟩
      · by_cases z : u = t
        · rw [z, TH]; exact (if_pos rfl).symm
        · rw [TK (12 + 6 * u + 4) (by omega) (by omega), (c u u0 u1).1.1]
          exact (if_neg z).symm
      · rw [TK 2 (by omega) (by omega)] at p1
        rw [TK (12 + 6 * u + p) (by omega) (by omega)]
        exact (c u u0 u1).2 p p0 p1
  · rw [T4]
    obtain ⟨⟨w0, w1, w2, w3, w4, w5, w6, w7⟩, v1, v2, v3⟩ := hTn
    refine ⟨⟨?_, ?_, ?_, ?_, fun p a b => ?_, fun u p a b c d => ?_, fun u a b => ?_, fun u a b => ?_⟩, ?_, fun p a b => ?_, fun u a b => ?_⟩
    · rw [TK 0 (by omega) (by omega)]; exact w0
    · rw [TK 1 (by omega) (by omega)]; exact w1
    · rw [TK 2 (by omega) (by omega)]; exact w2
    · rw [TK 3 (by omega) (by omega)]; exact w3
    · rw [TK (4 + p) (by omega) (by omega)]; exact w4 p a b
    · rw [TK (12 + 6 * u + p) (by omega) (by omega)]; exact w5 u p a b c d
    · by_cases z : u = t
      · rw [z, TH]; omega
      · rw [TK (12 + 6 * u + 4) (by omega) (by omega)]; exact w6 u a b
    · rw [TK (12 + 6 * u + 5) (by omega) (by omega)]; exact w7 u a b
    · rw [TK 2 (by omega) (by omega), TK 3 (by omega) (by omega)]; exact v1
    · rw [TK 2 (by omega) (by omega)] at b
      rw [TK (4 + p) (by omega) (by omega)]; exact v2 p a b
    · rw [TK (12 + 6 * u + 5) (by omega) (by omega)]
      have := v3 u a b
      omega
  · exact TC_of hTC.1 (gc2 _ (by omega) (by omega) (by omega) (by omega)) (gc2 _ (by omega) (by omega) (by omega) (by omega)) (gc2 _ (by omega) (by omega) (by omega) (by omega)) (gc2 _ (by omega) (by omega) (by omega) (by omega))
  · intro u
    rw [g16]
    unfold ru
    split
    · constructor <;> omega
    · exact hTC.2 u
