/-! things; the whole town -/
theorem rtL_FF {σ s : Mem} {A : Int} {p : Nat} (h : FF σ (rtL s A p)) : ∀ j : Nat, FF σ (rtL s A (p + j))
  | 0 => h
  | j + 1 => by
    have ih := rtL_FF h j
    show FF σ (mu (numM (rtL s A (p + j)) 0 60) 5 _ _)
    rw [num_stay ih.2.2]
    exact FF_ref ih
theorem nums_sim {a i A : Int} {s : Mem} {N : Nat} (ha : 20 ≤ a ∧ a < 24) (hN : N ≤ 4) (hi : 0 ≤ i ∧ i ≤ 4) (hA : A = 12 + 6 * i) : ∀ (k p : Nat) (M : Mem), p + k = N → PP M (rtL s A p) → TIm M (rtL s A p) a → rtL s A p 5 3 = i → rtL s A p 5 2 = N → (∀ q : Int, 0 ≤ q → q < p → rtL s A p 5 (12 + 6 * i + q) - 30 = M (a + 12) (i * 4 + q)) →
    ((rnG a i k p M).1 = 1 ∧ PP (rnG a i k p M).2 (rtL s A N) ∧ TIm (rnG a i k p M).2 (rtL s A N) a ∧ rtL s A N 5 3 = i ∧ rtL s A N 5 2 = N ∧ (∀ q : Int, 0 ≤ q → q < N → rtL s A N 5 (12 + 6 * i + q) - 30 = (rnG a i k p M).2 (a + 12) (i * 4 + q))) ∨ ((rnG a i k p M).1 = 0 ∧ FF (rnG a i k p M).2 (rtL s A N))
  | 0, p, M, hp, h, hT, h3, h2, hq => by
    have e : p = N := by omega
    subst e
    exact .inl ⟨rfl, h, hT, h3, h2, hq⟩
  | k + 1, p, M, hp, h, hT, h3, h2, hq => by
    simp only [rnG]
    have eS : rtL s A (p + 1) = mu (numM (rtL s A p) 0 60) 5 (A + p) (if numM (rtL s A p) 0 60 0 17 = 0 then numR (rtL s A p) else 0) := rfl
    rcases num_sim (most := 60) h with ⟨n1, n2, n3, n4, n5⟩ | ⟨n1, n2⟩
    · rw [if_neg (by omega), n3]
      have n17 := n2.1.2.2.2.2.2.2.2
      rw [if_pos n17] at eS
      have Tb : TIm (pnS M 60).2 (numM (rtL s A p) 0 60) a := TIm_of hT ha (fun q hq => pnS_c hq) (n5 5 (by decide))
      have P1 : PP (mu (pnS M 60).2 (a + 12) (i * 4 + p) (numR (rtL s A p) - 30)) (rtL s A (p + 1)) := by
        rw [eS]; exact PP_ref (PP_cls n2 (by omega) (by omega)) (by decide) (by decide)
      have r5 : rtL s A (p + 1) 5 = ru (rtL s A p 5) (12 + 6 * i + p) (numR (rtL s A p)) := by rw [eS, mu_same, n5 5 (by decide), hA]
      have T1 : TIm (mu (pnS M 60).2 (a + 12) (i * 4 + p) (numR (rtL s A p) - 30)) (rtL s A (p + 1)) a := by
        unfold TIm
        rw [r5, mu_row (by omega), mu_row (by omega), mu_row (by omega), mu_same, mu_row (by omega), mu_row (by omega), pnS_c (by omega), pnS_c (by omega), pnS_c (by omega), pnS_c (by omega), pnS_c (by omega), pnS_c (by omega)]
        exact TI_num hT ⟨h3, hi.1, hi.2⟩ ⟨by omega, by omega⟩ n4
      have h3' : rtL s A (p + 1) 5 3 = i := by rw [r5]; exact (if_neg (by omega)).trans h3
      have h2' : rtL s A (p + 1) 5 2 = N := by rw [r5]; exact (if_neg (by omega)).trans h2
      have hq' : ∀ q : Int, 0 ≤ q → q < ((p + 1 : Nat) : Int) → rtL s A (p + 1) 5 (12 + 6 * i + q) - 30 = mu (pnS M 60).2 (a + 12) (i * 4 + p) (numR (rtL s A p) - 30) (a + 12) (i * 4 + q) := by
        intro q q0 q1
        rw [r5, mu_same, pnS_c (by omega)]
        unfold ru
        by_cases c : q = p
        · rw [c, if_pos rfl, if_pos rfl]
        · rw [if_neg (by omega), if_neg (by omega)]
          exact hq q q0 (by omega)
      exact nums_sim ha hN hi hA k (p + 1) _ (by omega) P1 T1 h3' h2' hq'
    · rw [if_pos n1]
      have f1 : FF (pnS M 60).2 (rtL s A (p + 1)) := by rw [eS]; exact FF_ref n2
      have := rtL_FF f1 (N - (p + 1))
      rw [show p + 1 + (N - (p + 1)) = N by omega] at this
      exact .inr ⟨rfl, this⟩
theorem thi_sim {a : Int} (ha : 20 ≤ a ∧ a < 24) : ∀ (k : Nat) (i : Int) (M τ : Mem) (K : Nat), i + k = 6 → 0 ≤ i → k ≤ K → PP M τ → TIm M τ a → τ 5 3 = i → 1 ≤ τ 5 2 →
    ((rtG a k i M).1 = 1 ∧ PP (rtG a k i M).2 (itM rtM 499967946343 K τ) ∧ TIm (rtG a k i M).2 (itM rtM 499967946343 K τ) a ∧ 1 ≤ itM rtM 499967946343 K τ 5 2) ∨ ((rtG a k i M).1 = 0 ∧ FF (rtG a k i M).2 (itM rtM 499967946343 K τ))
  | 0, i, M, τ, K, hk, h0, hK, h, hT, h3, hp => by
    have := hT.2.1.2.2.2.1
    omega
  | k + 1, i, M, τ, K, hk, h0, hK, h, hT, h3, hp => by
    have h01 := isW_01 (σ := M) (w := 7)
    have h2 := hT.2.1.2.2.1
    have eM2 : M a 2 = τ 5 2 := hT.1.1.2.2.1.symm
    simp only [rtG]
    by_cases c : isW M 7 = 0
    · rw [if_pos c]
      have hne : ¬ namR τ = 499967946343 := fun z => by have := (nam_7 h).mpr z; omega
      rw [itM_stop hne]
      exact .inl ⟨rfl, h, hT, hp⟩
    · rw [if_neg c]
      have hnm : namR τ = 499967946343 := (nam_7 h).mp (by omega)
      rw [itM_go hnm (by omega)]
      by_cases c5 : i = 5
      · rw [if_pos c5]
        have hf := FF_bad h (k := 3) (by decide)
        have eb : begM τ 3 5 = badM τ 3 := by
          unfold begM
          rw [if_pos (by omega), must_stay hf.2.2]
        have hl := rtL_FF (s := badM τ 3) (A := rtA τ) (p := 0) hf (τ 5 2).toNat
        rw [Nat.zero_add] at hl
        have ex : FF (wrM M 3) (rtX τ) := by unfold rtX; rw [eb]; exact hl
        have ey : rtY τ = rtX τ := by unfold rtY; rw [end_stay ex.2.2]
        have em : rtM τ = rtX τ := by unfold rtM; rw [ey, if_neg (by have := ex.2.2; omega)]
        rw [em, FF_it ex (by decide)]
        exact .inr ⟨rfl, ex⟩
      · rw [if_neg c5]
        obtain ⟨m1, m2⟩ := (must_sim (so := 1) h).1 (by decide)
        rw [m2] at m1
        have eb : begM τ 3 5 = nxtM τ := by
          unfold begM
          rw [if_neg (by omega), m2]
        have h17 := m1.1.2.2.2.2.2.2.2
        have n5 : nxtM τ 5 = τ 5 := nxtM_c (by decide)
        have eA : rtA τ = 12 + 6 * i := by
          unfold rtA
          rw [eb, if_pos h17, n5, h3]
        have T1 : TIm (stM M) (nxtM τ) a := TIm_of hT ha (fun q hq => stM_c hq) n5
        have hs := nums_sim (s := nxtM τ) (N := (τ 5 2).toNat) ha (by omega) ⟨h0, by omega⟩ eA (τ 5 2).toNat 0 (stM M) (by omega) m1 T1 (by show nxtM τ 5 3 = i; rw [n5]; exact h3) (by show nxtM τ 5 2 = _; rw [n5]; omega) (fun q q0 q1 => by omega)
        have exX : rtX τ = rtL (nxtM τ) (rtA τ) (τ 5 2).toNat := by unfold rtX; rw [eb]
        rw [← exX] at hs
        rw [eM2]
        rcases hs with ⟨s1, s2, s3, s4, s5, s6⟩ | ⟨s1, s2⟩
        · have s1' : ¬ (rnG a i (τ 5 2).toNat 0 (stM M)).1 = 0 := by rw [show (0 : Int) = ((0 : Nat) : Int) from rfl]; omega
          rw [if_neg s1']
          rcases sign_sim s2 with ⟨g1, g2, g3, g4⟩ | ⟨g1, g2⟩
          · rw [if_neg (by rw [show (0 : Int) = ((0 : Nat) : Int) from rfl] at *; omega)]
            have ey : rtY τ = endM (rtX τ) := rfl
            rw [← ey] at g2 g3
            have y17 := g2.1.2.2.2.2.2.2.2
            have y5 : rtY τ 5 = rtX τ 5 := by rw [g3, nxtM_c (by decide)]
            have em : rtM τ = mu (mu (mu (rtY τ) 5 (12 + 6 * i + 4) (-1000000)) 5 (12 + 6 * i + 5) 0) 5 3 (i + 1) := by
              unfold rtM
              rw [if_pos y17, eA, mu_j (show (3 : Int) ≠ 12 + 6 * i + 5 by omega), mu_j (show (3 : Int) ≠ 12 + 6 * i + 4 by omega), y5, s4]
            have em5 : rtM τ 5 = ru (ru (ru (rtX τ 5) (12 + 6 * i + 4) (-1000000)) (12 + 6 * i + 5) 0) 3 (i + 1) := by rw [em, mu_same, mu_same, mu_same, y5]
            have P1 : PP (mu (psS (rnG a i (τ 5 2).toNat 0 (stM M)).2).2 a 3 (i + 1)) (rtM τ) := by
              rw [em]; exact PP_ref (PP_ref (PP_ref (PP_cls g2 (by omega) (by omega)) (by decide) (by decide)) (by decide) (by decide)) (by decide) (by decide)
            have T2 : TIm (mu (psS (rnG a i (τ 5 2).toNat 0 (stM M)).2).2 a 3 (i + 1)) (rtM τ) a := by
              unfold TIm
              rw [em5, mu_same, mu_row (by omega), mu_row (by omega), mu_row (by omega), mu_row (by omega), mu_row (by omega), psS_c (by omega), psS_c (by omega), psS_c (by omega), psS_c (by omega), psS_c (by omega), psS_c (by omega)]
              exact TI_thing s3 ⟨s4, h0, by omega⟩ (fun q q0 q1 => s6 q q0 (by rw [s5] at q1; exact q1))
            have h3' : rtM τ 5 3 = i + 1 := by rw [em5]; rfl
            have h2' : 1 ≤ rtM τ 5 2 := by
              rw [em5]
              have : ru (ru (ru (rtX τ 5) (12 + 6 * i + 4) (-1000000)) (12 + 6 * i + 5) 0) 3 (i + 1) 2 = rtX τ 5 2 := (if_neg (by decide)).trans ((if_neg (by omega)).trans (if_neg (by omega)))
              rw [this, s5]; omega
            exact thi_sim ha k (i + 1) _ (rtM τ) (K - 1) (by omega) (by omega) (by omega) P1 T2 h3' h2'
          · have g1' : (psS (rnG a i (τ 5 2).toNat 0 (stM M)).2).1 = 0 := g1
            rw [if_pos g1']
            have ey : rtY τ = endM (rtX τ) := rfl
            rw [← ey] at g2
            have em : rtM τ = rtY τ := by unfold rtM; rw [if_neg (by have := g2.2.2; omega)]
            rw [em, FF_it g2 (by decide)]
            exact .inr ⟨rfl, g2⟩
        · have s1' : (rnG a i (τ 5 2).toNat 0 (stM M)).1 = 0 := s1
          rw [if_pos s1']
          have ey : rtY τ = rtX τ := by unfold rtY; rw [end_stay s2.2.2]
          have em : rtM τ = rtX τ := by unfold rtM; rw [ey, if_neg (by have := s2.2.2; omega)]
          rw [em, FF_it s2 (by decide)]
          exact .inr ⟨rfl, s2⟩
theorem TI_0 {A A4 A8 A12 A16 A20 T : Int → Int} (hT : ∀ j : Int, 0 ≤ j → j < 42 → T j = 0) (a : A 0 = 0 ∧ A 1 = 0 ∧ A 2 = 0 ∧ A 3 = 0) (b : ∀ p : Int, 0 ≤ p → p < 4 → A8 p = 0) (c : ∀ t : Int, 0 ≤ t → t < 5 → A16 t = -1000000 ∧ A20 t = 0) (d : ∀ p : Int, 0 ≤ p → p < 4 → 0 ≤ A4 p ∧ A4 p ≤ 5) (e : ∀ j : Int, 0 ≤ j → j < 20 → -30 ≤ A12 j ∧ A12 j ≤ 30) : TI A A4 A8 A12 A16 A20 T := by
  have t0 := hT 0 (by decide) (by decide)
  have t1 := hT 1 (by decide) (by decide)
  have t2 := hT 2 (by decide) (by decide)
  have t3 := hT 3 (by decide) (by decide)
  refine ⟨⟨by omega, fun p p0 p1 => by omega, fun t q0 q1 => by omega⟩, ⟨by omega, by omega, by omega, by omega, fun p p0 p1 => ?_, fun t p a0 a1 b0 b1 => ?_, fun t a0 a1 => ?_, fun t a0 a1 => ?_⟩, fun p p0 p1 => ⟨b p p0 p1, hT _ (by omega) (by omega)⟩, fun t a0 a1 => ⟨(c t a0 a1).1, (c t a0 a1).2, hT _ (by omega) (by omega)⟩, d, e⟩
  · rw [hT (4 + p) (by omega) (by omega)]; omega
  · rw [hT (12 + 6 * t + p) (by omega) (by omega)]; omega
  · rw [hT (12 + 6 * t + 4) (by omega) (by omega)]; omega
  · rw [hT (12 + 6 * t + 5) (by omega) (by omega)]; omega
theorem town_sim {σ τ : Mem} {a : Int} (ha : 20 ≤ a ∧ a < 24) (h7 : τ 7 = σ 4) (h10 : τ 0 10 = σ 3 1) (hb : ∀ k : Int, 0 ≤ σ 4 k ∧ σ 4 k ≤ 255) (h31 : 0 ≤ σ 3 1 ∧ σ 3 1 ≤ 400) (hk : ∀ p : Int, 0 ≤ p → p < 4 → 0 ≤ σ (a + 4) p ∧ σ (a + 4) p ≤ 5) (ht : ∀ j : Int, 0 ≤ j → j < 20 → -30 ≤ σ (a + 12) j ∧ σ (a + 12) j ≤ 30) :
    ((riS σ a).1 = 1 ∧ tw9 τ 0 17 = 0 ∧ TIm (riS σ a).2 (tw9 τ) a ∧ 1 ≤ tw9 τ 5 2) ∨ ((riS σ a).1 = 0 ∧ FF (riS σ a).2 (tw9 τ)) := by
  have hTR := ri0_TRC (σ := σ) ha hb h31
  have eM : ∀ q, q ≠ 3 → (mu (mu (emM σ a) 3 2 0) 3 4 0) q = emM σ a q := fun q hq => by rw [mu_row hq, mu_row hq]
  have P0 : PP (ri0 σ a) (tw1 τ) := by
    have e4 : emM σ a 4 = σ 4 := emM_c (by omega)
    have e3 : emM σ a 3 = σ 3 := emM_c (by omega)
    have hs := st_nx (σ := mu (mu (emM σ a) 3 2 0) 3 4 0) (τ := mu (mu (mu (mu (mu τ 0 0 0) 0 12 (mu τ 0 0 0 0 10)) 0 10 0) 0 13 0) 0 17 0) (by rw [eM 4 (by decide), e4, ← h7]; rfl) (by show τ 0 10 = emM σ a 3 1; rw [e3]; exact h10) rfl rfl hTR
    exact PP_of hs (fun _ _ => rfl) rfl (by unfold tw1 bgnM; funext x; rw [mr_app, if_neg (by decide)]) (fun j _ _ => by unfold tw1 bgnM; rw [mr_app, if_neg (by decide)])
  have T0 : TIm (ri0 σ a) (tw1 τ) a := by
    unfold TIm
    rw [ri0_c (by omega), ri0_c (by omega), ri0_c (by omega), ri0_c (by omega), ri0_c (by omega), ri0_c (by omega)]
    refine TI_0 ?_ ?_ ?_ ?_ ?_ ?_
    · intro j j0 j1
      unfold tw1
      rw [mr_app, if_pos rfl]
      exact over_in j0 j1
    · unfold emM
      refine ⟨?_, ?_, ?_, ?_⟩ <;> (simp only [mr_app, mu_app, and_self, ↓reduceIte]; (repeat (first | rw [if_neg (by omega)] | rw [if_pos (by omega)])))
    · intro p p0 p1
      unfold emM
      simp only [mr_app, mu_app, ↓reduceIte]
      (repeat rw [if_neg (by omega)])
      exact over_in p0 p1
    · intro t t0 t1
      unfold emM
      simp only [mr_app, mu_app, ↓reduceIte]
      (repeat rw [if_neg (by omega)])
      exact ⟨over_in t0 t1, over_in t0 t1⟩
    · intro p p0 p1
      have e : emM σ a (a + 4) p = σ (a + 4) p := by
        unfold emM
        simp only [mr_app, mu_app]
        (repeat (first | rw [if_neg (by omega)] | rw [if_pos (by omega)]))
      rw [e]; exact hk p p0 p1
    · intro j j0 j1
      have e : emM σ a (a + 12) j = σ (a + 12) j := by
        unfold emM
        simp only [mr_app, mu_app]
        (repeat (first | rw [if_neg (by omega)] | rw [if_pos (by omega)]))
      rw [e]; exact ht j j0 j1
  have r2 : tw1 τ 5 2 = 0 := by unfold tw1; rw [mr_app, if_pos rfl]; exact over_in (by decide) (by decide)
  have r3 : tw1 τ 5 3 = 0 := by unfold tw1; rw [mr_app, if_pos rfl]; exact over_in (by decide) (by decide)
  have hl := law_sim ha P0 T0 (tw2 τ) (tw3 τ) (tw4 τ) (tw5 τ) rfl rfl rfl rfl
  have e9 : ∀ {M : Mem}, FF M (tw8 τ) → FF M (tw9 τ) := fun hf => by
    unfold tw9
    rw [if_neg (fun z => by have := hf.2.2; omega)]
    exact hf
  have e8 : ∀ {M : Mem}, FF M (tw7 τ) → FF M (tw9 τ) := fun hf => e9 (by unfold tw8; rw [FF_it hf (by decide)]; exact hf)
  have e7 : ∀ {M : Mem}, FF M (tw6 τ) → FF M (tw9 τ) := fun hf => e8 (by unfold tw7; rw [FF_it hf (by decide)]; exact hf)
  unfold riS
  rcases hl with ⟨l1, l2, l3, l4, l5⟩ | ⟨l1, l2⟩
  · have l1' : ¬ (ri1 σ a).1 = 0 := by unfold ri1; omega
    rw [if_neg l1']
    rw [r2] at l4
    rw [r3] at l5
    have hpp : ((ri2 σ a).1 = 1 ∧ PP (ri2 σ a).2 (tw7 τ) ∧ TIm (ri2 σ a).2 (tw7 τ) a ∧ 1 ≤ tw7 τ 5 2 ∧ tw7 τ 5 3 = 0) ∨ ((ri2 σ a).1 = 0 ∧ FF (ri2 σ a).2 (tw9 τ)) := by
      by_cases c : namR (tw5 τ) = 123581014175598
      · have e6 : tw6 τ = tw5 τ := by unfold tw6; rw [if_pos c]
        have hs := peo_sim ha 5 0 (ri1 σ a).2 (tw6 τ) 6 (by decide) (by decide) (by decide) (by rw [e6]; exact l2) (by rw [e6]; exact l3) (by rw [e6]; exact l4) (by rw [e6]; exact l5) (fun _ => by rw [e6]; exact c)
        rcases hs with ⟨s1, s2, s3, s4, s5⟩ | ⟨s1, s2⟩
        · exact .inl ⟨s1, s2, s3, s4, s5⟩
        · exact .inr ⟨s1, e8 s2⟩
      · have e6 : tw6 τ = badM (tw5 τ) 1 := by unfold tw6; rw [if_neg c]
        have hf := FF_bad l2 (k := 1) (by decide)
        rw [← e6] at hf
        have hw := word_sim l2 (nam_1 l2)
        rcases hw with ⟨w1, w2, w3⟩ | ⟨w1, w2, w3⟩
        · exact absurd w1 c
        · have eR : ri2 σ a = (0, wrM (ri1 σ a).2 1) := by
            unfold ri2
            rw [rpG_eq (by decide), if_neg (fun z => z.1 rfl), if_neg (by decide)]
            have w2' : (pwS (ri1 σ a).2 1).1 = 0 := w2
            have w3' : (pwS (ri1 σ a).2 1).2 = wrM (ri1 σ a).2 1 := w3
            rw [if_pos w2', w3']
          rw [eR]
          exact .inr ⟨rfl, e7 hf⟩
    rcases hpp with ⟨p1, p2, p3, p4, p5⟩ | ⟨p1, p2⟩
    · rw [if_neg (by omega)]
      have hs := thi_sim ha 6 0 (ri2 σ a).2 (tw7 τ) 7 (by decide) (by decide) (by decide) p2 p3 p5 p4
      rcases hs with ⟨s1, s2, s3, s4⟩ | ⟨s1, s2⟩
      · have s1' : ¬ (ri3 σ a).1 = 0 := by unfold ri3; omega
        rw [if_neg s1']
        have hk1 := tok s2 (k := 1) (by omega)
        have h17 : tw8 τ 0 17 = 0 := s2.1.2.2.2.2.2.2.2
        have hk2 : tw8 τ 0 14 = 1 ↔ (ri3 σ a).2 3 5 = 0 := hk1
        by_cases c : (ri3 σ a).2 3 5 = 0
        · rw [if_pos c]
          have e : tw9 τ = tw8 τ := by unfold tw9; rw [if_neg (fun z => z.2 (hk2.mpr c))]
          rw [e]
          exact .inl ⟨rfl, h17, s3, s4⟩
        · rw [if_neg c]
          have e : tw9 τ = badM (tw8 τ) 1 := by unfold tw9; rw [if_pos ⟨h17, fun z => c (hk2.mp z)⟩]
          rw [e]
          exact .inr ⟨rfl, FF_bad s2 (by decide)⟩
      · have s1' : (ri3 σ a).1 = 0 := s1
        rw [if_pos s1']
        exact .inr ⟨rfl, e9 s2⟩
    · rw [if_pos p1]
      exact .inr ⟨rfl, p2⟩
  · have l1' : (ri1 σ a).1 = 0 := l1
    rw [if_pos l1']
    have hf : FF (ri1 σ a).2 (tw6 τ) := by
      unfold tw6
      split
      · exact l2
      · rw [bad_stay l2.2.2]; exact l2
    exact .inr ⟨rfl, e7 hf⟩
