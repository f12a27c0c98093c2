/-! a whole text read by both -/
theorem mu_same {σ : Mem} {k j v : Int} : mu σ k j v k = ru (σ k) j v := by
  unfold mu mr
  exact if_pos rfl
theorem mu_row {σ : Mem} {k j v q : Int} (h : q ≠ k) : mu σ k j v q = σ q := by
  unfold mu mr
  exact if_neg h
theorem TIm_of {M τ M' τ' : Mem} {a : Int} (h : TIm M τ a) (ha : 20 ≤ a ∧ a < 24) (hM : ∀ q, q ≠ 3 → M' q = M q) (ht : τ' 5 = τ 5) : TIm M' τ' a := by
  unfold TIm
  rw [hM a (by omega), hM (a + 4) (by omega), hM (a + 8) (by omega), hM (a + 12) (by omega), hM (a + 16) (by omega), hM (a + 20) (by omega), ht]
  exact h
theorem TIm_law {M τ : Mem} {a j v : Int} (h : TIm M τ a) (ha : 20 ≤ a ∧ a < 24) (hj : (j = 0 ∧ 0 ≤ v ∧ v ≤ 3) ∨ (j = 1 ∧ 0 ≤ v ∧ v ≤ 20)) : TIm (mu M a j v) (mu τ 5 j v) a := by
  unfold TIm
  rw [mu_same, mu_same, mu_row (by omega), mu_row (by omega), mu_row (by omega), mu_row (by omega), mu_row (by omega)]
  exact TI_law h hj
theorem law_sim {M τ : Mem} {a : Int} (ha : 20 ≤ a ∧ a < 24) (h : PP M τ) (hT : TIm M τ a) (t2 t3 t4 t5 : Mem) (e2 : t2 = mustM τ (if namR τ = 7102839 then 1 else 0)) (e3 : t3 = mu (numM t2 0 3) 5 0 (numR t2)) (e4 : t4 = mu (numM t3 0 20) 5 1 (numR t3)) (e5 : t5 = endM t4) :
    ((rlS M a).1 = 1 ∧ PP (rlS M a).2 t5 ∧ TIm (rlS M a).2 t5 a ∧ t5 5 2 = τ 5 2 ∧ t5 5 3 = τ 5 3) ∨ ((rlS M a).1 = 0 ∧ FF (rlS M a).2 t5) := by
  rcases word_sim h (nam_0 h) with ⟨w1, w2, w3⟩ | ⟨w1, w2, w3⟩
  · rw [if_pos w1] at e2
    obtain ⟨m1, m2⟩ := (must_sim (so := 1) h).1 (by decide)
    rw [← e2] at m1 m2
    have T2 : TIm (stM M) t2 a := TIm_of hT ha (fun q hq => stM_c hq) (by rw [m2]; exact nxtM_c (by decide))
    have r2 : t2 5 = τ 5 := by rw [m2]; exact nxtM_c (by decide)
    rcases num_sim (most := 3) m1 with ⟨n1, n2, n3, n4, n5⟩ | ⟨n1, n2⟩
    · have T2b : TIm (pnS (stM M) 3).2 (numM t2 0 3) a := TIm_of T2 ha (fun q hq => pnS_c hq) (n5 5 (by decide))
      have P3 : PP (mu (pnS (stM M) 3).2 a 0 (numR t2)) t3 := by rw [e3]; exact PP_ref (PP_cls n2 (by omega) (by omega)) (by decide) (by decide)
      have T3 : TIm (mu (pnS (stM M) 3).2 a 0 (numR t2)) t3 a := by rw [e3]; exact TIm_law T2b ha (.inl ⟨rfl, n4⟩)
      have r3 : t3 5 = ru (τ 5) 0 (numR t2) := by rw [e3, mu_same, n5 5 (by decide), r2]
      rcases num_sim (most := 20) P3 with ⟨k1, k2, k3, k4, k5⟩ | ⟨k1, k2⟩
      · have T3b : TIm (pnS (mu (pnS (stM M) 3).2 a 0 (numR t2)) 20).2 (numM t3 0 20) a := TIm_of T3 ha (fun q hq => pnS_c hq) (k5 5 (by decide))
        have P4 : PP (mu (pnS (mu (pnS (stM M) 3).2 a 0 (numR t2)) 20).2 a 1 (numR t3)) t4 := by rw [e4]; exact PP_ref (PP_cls k2 (by omega) (by omega)) (by decide) (by decide)
        have T4 : TIm (mu (pnS (mu (pnS (stM M) 3).2 a 0 (numR t2)) 20).2 a 1 (numR t3)) t4 a := by rw [e4]; exact TIm_law T3b ha (.inr ⟨rfl, k4⟩)
        have r4 : t4 5 = ru (ru (τ 5) 0 (numR t2)) 1 (numR t3) := by rw [e4, mu_same, k5 5 (by decide), r3]
        have eL : rlS M a = psS (mu (pnS (mu (pnS (stM M) 3).2 a 0 (numR t2)) 20).2 a 1 (numR t3)) := by
          unfold rlS
          rw [if_neg (by omega), w3, if_neg (by omega), n3, if_neg (by omega), k3]
        rw [eL]
        rcases sign_sim P4 with ⟨s1, s2, s3, s4⟩ | ⟨s1, s2⟩
        · rw [← e5] at s2 s3
          refine .inl ⟨s1, s2, TIm_of T4 ha (fun q hq => psS_c hq) (by rw [s3]; exact nxtM_c (by decide)), ?_, ?_⟩
          · rw [s3, nxtM_c (by decide), r4]; rfl
          · rw [s3, nxtM_c (by decide), r4]; rfl
        · rw [← e5] at s2
          exact .inr ⟨s1, s2⟩
      · have eL : rlS M a = (0, (pnS (mu (pnS (stM M) 3).2 a 0 (numR t2)) 20).2) := by
          unfold rlS
          rw [if_neg (by omega), w3, if_neg (by omega), n3, if_pos k1]
        have f4 : FF (pnS (mu (pnS (stM M) 3).2 a 0 (numR t2)) 20).2 t4 := by rw [e4]; exact FF_ref k2
        rw [eL, e5, end_stay f4.2.2]
        exact .inr ⟨rfl, f4⟩
    · have eL : rlS M a = (0, (pnS (stM M) 3).2) := by
        unfold rlS
        rw [if_neg (by omega), w3, if_pos n1]
      have f3 : FF (pnS (stM M) 3).2 t3 := by rw [e3]; exact FF_ref n2
      have f4 : FF (pnS (stM M) 3).2 t4 := by rw [e4, num_stay f3.2.2]; exact FF_ref f3
      rw [eL, e5, end_stay f4.2.2]
      exact .inr ⟨rfl, f4⟩
  · rw [if_neg w1] at e2
    have m1 := ((must_sim (so := 0) h).2 rfl).1
    rw [← e2] at m1
    have eL : rlS M a = (0, wrM M 1) := by
      unfold rlS
      rw [if_pos w2, w3]
    have f3 : FF (wrM M 1) t3 := by rw [e3, num_stay m1.2.2]; exact FF_ref m1
    have f4 : FF (wrM M 1) t4 := by rw [e4, num_stay f3.2.2]; exact FF_ref f3
    rw [eL, e5, end_stay f4.2.2]
    exact .inr ⟨rfl, f4⟩
theorem kin_in (w : Int) : kinB w = -1000000 ∨ (1 ≤ kinB w ∧ kinB w ≤ 5) := by
  unfold kinB
  (repeat' split) <;> omega
theorem per_sim {M τ : Mem} {a i : Int} (ha : 20 ≤ a ∧ a < 24) (h : PP M τ) (hT : TIm M τ a) (h2 : τ 5 2 = i) (h3 : τ 5 3 = 0) (hi : 0 ≤ i ∧ i ≤ 4) :
    (i = 4 → FF (wrM M 3) (rpM τ)) ∧ (i ≤ 3 →
      (((rsoS (stM M) a i).1 = 0 ∧ FF (rsoS (stM M) a i).2 (rpM τ)) ∨
       ((rsoS (stM M) a i).1 = 1 ∧ (psS (rsoS (stM M) a i).2).1 = 0 ∧ FF (psS (rsoS (stM M) a i).2).2 (rpM τ)) ∨
       ((rsoS (stM M) a i).1 = 1 ∧ (psS (rsoS (stM M) a i).2).1 = 1 ∧ PP (mu (psS (rsoS (stM M) a i).2).2 a 2 (i + 1)) (rpM τ) ∧ TIm (mu (psS (rsoS (stM M) a i).2).2 a 2 (i + 1)) (rpM τ) a ∧ rpM τ 5 2 = i + 1 ∧ rpM τ 5 3 = 0))) := by
  constructor
  · intro c
    have hf := FF_bad h (k := 3) (by decide)
    have eb : begM τ 2 4 = badM τ 3 := by
      unfold begM
      rw [if_pos (by omega), must_stay hf.2.2]
    have ex : rpX τ = badM τ 3 := by
      unfold rpX
      rw [eb, if_neg (by have := hf.2.2; omega)]
    have ey : rpY τ = badM τ 3 := by
      unfold rpY
      rw [ex, end_stay hf.2.2]
    have em : rpM τ = badM τ 3 := by
      unfold rpM
      rw [ey, if_neg (by have := hf.2.2; omega)]
    rw [em]; exact hf
  · intro c
    obtain ⟨m1, m2⟩ := (must_sim (so := 1) h).1 (by decide)
    have eb : begM τ 2 4 = nxtM τ := by
      unfold begM
      rw [if_neg (by omega), m2]
    rw [m2] at m1
    have h17 := m1.1.2.2.2.2.2.2.2
    have ek := so_kin m1
    have ex : rpX τ = mustM (nxtM τ) (if kinB (namR (nxtM τ)) = -1000000 then 0 else 1) := by
      unfold rpX
      rw [eb, if_pos h17]
    rcases kin_in (namR (nxtM τ)) with k1 | k1
    · rw [if_pos k1] at ek ex
      have eR : rsoS (stM M) a i = (0, wrM (stM M) 1) := by unfold rsoS; rw [if_pos ek]
      have hf := ((must_sim (so := 0) m1).2 rfl).1
      rw [← ex] at hf
      have ey : rpY τ = rpX τ := by unfold rpY; rw [end_stay hf.2.2]
      have em : rpM τ = rpX τ := by unfold rpM; rw [ey, if_neg (by have := hf.2.2; omega)]
      rw [eR, em]
      exact .inl ⟨rfl, hf⟩
    · rw [if_neg (by omega)] at ek ex
      have eR : rsoS (stM M) a i = (1, stM (mu (stM M) (a + 4) i (kinB (namR (nxtM τ))))) := by unfold rsoS; rw [if_neg (by omega), ek]
      have hp := (must_sim (so := 1) (PP_cls (q := a + 4) (j := i) (v := kinB (namR (nxtM τ))) m1 (by omega) (by omega))).1 (by decide)
      rw [← ex] at hp
      rw [eR]
      have r5 : rpX τ 5 = τ 5 := by rw [hp.2, nxtM_c (by decide), nxtM_c (by decide)]
      rcases sign_sim hp.1 with ⟨s1, s2, s3, s4⟩ | ⟨s1, s2⟩
      · have ey : rpY τ = endM (rpX τ) := rfl
        rw [← ey] at s2 s3
        have y17 := s2.1.2.2.2.2.2.2.2
        have y5 : rpY τ 5 = τ 5 := by rw [s3, nxtM_c (by decide), r5]
        have em : rpM τ = mu (mu (rpY τ) 5 (4 + i) (kinB (namR (nxtM τ)))) 5 2 (i + 1) := by
          unfold rpM
          rw [if_pos y17, eb, y5, h2, mu_j (by omega), y5, h2]
        have em5 : rpM τ 5 = ru (ru (τ 5) (4 + i) (kinB (namR (nxtM τ)))) 2 (i + 1) := by rw [em, mu_same, mu_same, y5]
        refine .inr (.inr ⟨rfl, s1, ?_, ?_, ?_, ?_⟩)
        · rw [em]; exact PP_ref (PP_ref (PP_cls s2 (by omega) (by omega)) (by decide) (by decide)) (by decide) (by decide)
        · unfold TIm
          have e1 : (psS (stM (mu (stM M) (a + 4) i (kinB (namR (nxtM τ)))))).2 (a + 4) = ru (M (a + 4)) i (kinB (namR (nxtM τ))) := by rw [psS_c (by omega), stM_c (by omega), mu_same, stM_c (by omega)]
          have e0 : ∀ q, q ≠ 3 → q ≠ a + 4 → (psS (stM (mu (stM M) (a + 4) i (kinB (namR (nxtM τ)))))).2 q = M q := fun q q3 q4 => by rw [psS_c q3, stM_c q3, mu_row q4, stM_c q3]
          rw [em5, mu_same, mu_row (by omega), mu_row (by omega), mu_row (by omega), mu_row (by omega), mu_row (by omega)]
          show TI (ru ((psS (stM (mu (stM M) (a + 4) i (kinB (namR (nxtM τ)))))).2 a) 2 (i + 1)) ((psS (stM (mu (stM M) (a + 4) i (kinB (namR (nxtM τ)))))).2 (a + 4)) ((psS (stM (mu (stM M) (a + 4) i (kinB (namR (nxtM τ)))))).2 (a + 8)) ((psS (stM (mu (stM M) (a + 4) i (kinB (namR (nxtM τ)))))).2 (a + 12)) ((psS (stM (mu (stM M) (a + 4) i (kinB (namR (nxtM τ)))))).2 (a + 16)) ((psS (stM (mu (stM M) (a + 4) i (kinB (namR (nxtM τ)))))).2 (a + 20)) _
          rw [e1, e0 a (by omega) (by omega), e0 (a + 8) (by omega) (by omega), e0 (a + 12) (by omega) (by omega), e0 (a + 16) (by omega) (by omega), e0 (a + 20) (by omega) (by omega)]
          exact TI_person hT ⟨h2, by omega, c⟩ h3 k1
        · rw [em5]; rfl
        · rw [em5]
          show (if (3 : Int) = 2 then i + 1 else ru (τ 5) (4 + i) (kinB (namR (nxtM τ))) 3) = 0
          rw [if_neg (by decide)]
          exact (if_neg (by omega)).trans h3
      · have ey : rpY τ = endM (rpX τ) := rfl
        rw [← ey] at s2
        have em : rpM τ = rpY τ := by unfold rpM; rw [if_neg (by have := s2.2.2; omega)]
        rw [em]
        exact .inr (.inl ⟨rfl, s1, s2⟩)
theorem peo_sim {a : Int} (ha : 20 ≤ a ∧ a < 24) : ∀ (k : Nat) (i : Int) (M τ : Mem) (K : Nat), i + k = 5 → 0 ≤ i → k ≤ K → PP M τ → TIm M τ a → τ 5 2 = i → τ 5 3 = 0 → (i = 0 → namR τ = 123581014175598) →
    ((rpG a k i M).1 = 1 ∧ PP (rpG a k i M).2 (itM rpM 123581014175598 K τ) ∧ TIm (rpG a k i M).2 (itM rpM 123581014175598 K τ) a ∧ 1 ≤ itM rpM 123581014175598 K τ 5 2 ∧ itM rpM 123581014175598 K τ 5 3 = 0) ∨ ((rpG a k i M).1 = 0 ∧ FF (rpG a k i M).2 (itM rpM 123581014175598 K τ))
  | 0, i, M, τ, K, hk, h0, hK, h, hT, h2, h3, hn => by
    have := hT.2.1.2.2.1
    omega
  | k + 1, i, M, τ, K, hk, h0, hK, h, hT, h2, h3, hn => by
    have hw := word_sim h (nam_1 h)
    have h01 := isW_01 (σ := M) (w := 1)
    simp only [rpG]
    by_cases c : ¬ i = 0 ∧ isW M 1 = 0
    · rw [if_pos c]
      have hne : ¬ namR τ = 123581014175598 := fun z => by have := (nam_1 h).mpr z; omega
      rw [itM_stop hne]
      exact .inl ⟨rfl, h, hT, by omega, h3⟩
    · rw [if_neg c]
      have hnm : namR τ = 123581014175598 := by
        by_cases e : i = 0
        · exact hn e
        · exact (nam_1 h).mp (by omega)
      rw [itM_go hnm (by omega)]
      have hp := per_sim ha h hT h2 h3 ⟨h0, by omega⟩
      by_cases c4 : i = 4
      · rw [if_pos c4]
        have hf := hp.1 c4
        rw [FF_it hf (by decide)]
        exact .inr ⟨rfl, hf⟩
      · rw [if_neg c4]
        rcases hw with ⟨w1, w2, w3⟩ | ⟨w1, w2, w3⟩
        · rw [if_neg (by omega), w3]
          rcases hp.2 (by omega) with ⟨p1, p2⟩ | ⟨p1, p2, p3⟩ | ⟨p1, p2, p3, p4, p5, p6⟩
          · rw [if_pos p1, FF_it p2 (by decide)]
            exact .inr ⟨rfl, p2⟩
          · rw [if_neg (by omega), if_pos p2, FF_it p3 (by decide)]
            exact .inr ⟨rfl, p3⟩
          · rw [if_neg (by omega), if_neg (by omega)]
            exact peo_sim ha k (i + 1) _ (rpM τ) (K - 1) (by omega) (by omega) (by omega) p3 p4 p5 p6 (fun z => by omega)
        · exact absurd hnm w1
