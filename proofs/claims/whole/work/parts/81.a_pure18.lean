/-! a town half read keeps its bounds -/
def DG (M : Mem) : Prop := RPC M ∧ (M 3 5 = 2 → ∀ k : Int, M 3 3 ≤ k → k < M 3 4 → 48 ≤ M 4 k ∧ M 4 k ≤ 57)
def JT (a : Int) (M : Mem) : Prop := TC M a ∧ ∀ t, R3 (M (a + 16) t)
def JJ (a : Int) (M : Mem) : Prop := DG M ∧ JT a M
theorem DG_st {M : Mem} (h : TRC M) : DG (stM M) := by
  have hs := st_nx (σ := M) (τ := fun q j => if q = 7 then M 4 j else if q = 0 then (if j = 12 then M 3 1 else if j = 13 then M 3 4 else 0) else 0) (by funext x; exact if_pos rfl) rfl rfl rfl h
  exact ⟨hs.2.1, hs.2.2.2⟩
theorem JT_of {a : Int} {M M' : Mem} (h : JT a M) (h0 : M' a = M a) (h4 : M' (a + 4) = M (a + 4)) (h12 : M' (a + 12) = M (a + 12)) (h16 : M' (a + 16) = M (a + 16)) (h20 : M' (a + 20) = M (a + 20)) : JT a M' := ⟨TC_of h.1 h0 h4 h12 h20, fun t => by rw [h16]; exact h.2 t⟩
theorem JT_c {a : Int} {M M' : Mem} (ha : 20 ≤ a ∧ a < 24) (h : JT a M) (hM : ∀ q, q ≠ 3 → M' q = M q) : JT a M' := JT_of h (hM a (by omega)) (hM _ (by omega)) (hM _ (by omega)) (hM _ (by omega)) (hM _ (by omega))
theorem DG_of {M M' : Mem} (h : DG M) (h3 : ∀ j, j = 1 ∨ j = 3 ∨ j = 4 ∨ j = 5 → M' 3 j = M 3 j) (h4 : M' 4 = M 4) : DG M' := by
  refine ⟨RPC_of h.1 h3 h4, ?_⟩
  rw [h3 5 (by simp), h3 3 (by simp), h3 4 (by simp), h4]
  exact h.2
theorem DG_mu {M : Mem} {q j v : Int} (h : DG M) (h3 : q ≠ 3) (h4 : q ≠ 4) : DG (mu M q j v) := DG_of h (fun i _ => mu_k (Ne.symm h3)) (by funext x; exact mu_k (Ne.symm h4))
theorem DG_26 {M : Mem} {j v : Int} (h : DG M) (hj : j = 2 ∨ j = 6) : DG (mu M 3 j v) := DG_of h (fun i hi => mu_j (by omega)) (by funext x; exact mu_k (by decide))
theorem JJ_st {a : Int} {M : Mem} (ha : 20 ≤ a ∧ a < 24) (h : JJ a M) : JJ a (stM M) := ⟨DG_st h.1.1.1, JT_c ha h.2 (fun _ hq => stM_c hq)⟩
theorem JJ_26 {a j v : Int} {M : Mem} (ha : 20 ≤ a ∧ a < 24) (h : JJ a M) (hj : j = 2 ∨ j = 6) : JJ a (mu M 3 j v) := ⟨DG_26 h.1 hj, JT_c ha h.2 (fun _ hq => mu3_c hq)⟩
theorem JJ_wr {a k : Int} {M : Mem} (ha : 20 ≤ a ∧ a < 24) (h : JJ a M) : JJ a (wrM M k) := JJ_26 ha h (.inl rfl)
theorem JJ_pw {a : Int} {w : Nat} {M : Mem} (ha : 20 ≤ a ∧ a < 24) (h : JJ a M) : JJ a (pwS M w).2 := by
  unfold pwS
  split
  · exact JJ_wr ha h
  · exact JJ_st ha h
theorem JJ_ps {a : Int} {M : Mem} (ha : 20 ≤ a ∧ a < 24) (h : JJ a M) : JJ a (psS M).2 := by
  unfold psS
  split
  · exact JJ_st ha h
  · exact JJ_wr ha h
theorem nuT_0 {M : Mem} (h : DG M) (h2 : M 3 5 = 2) : 0 ≤ nuT M := by
  have hd := h.2 h2
  have h8 := h.1.2.2.2 h2
  unfold nuT
  rcases (show (M 3 4 - M 3 3).toNat = 0 ∨ (M 3 4 - M 3 3).toNat = 1 ∨ (M 3 4 - M 3 3).toNat = 2 ∨ (M 3 4 - M 3 3).toNat = 3 by omega) with e | e | e | e
  · rw [e]; simp only [fgF]; omega
  · have a0 := hd (M 3 3) (by omega) (by omega)
    rw [e]; simp only [fgF]; simp; omega
  · have a0 := hd (M 3 3) (by omega) (by omega)
    have a1 := hd (M 3 3 + 1) (by omega) (by omega)
    rw [e]; simp only [fgF]; simp; omega
  · have a0 := hd (M 3 3) (by omega) (by omega)
    have a1 := hd (M 3 3 + 1) (by omega) (by omega)
    have a2 := hd (M 3 3 + 2) (by omega) (by omega)
    rw [e]; simp only [fgF]; simp; omega
theorem JJ_pn {a most : Int} {M : Mem} (ha : 20 ≤ a ∧ a < 24) (h : JJ a M) : JJ a (pnS M most).2 ∧ (¬ (pnS M most).1 = 0 → 0 ≤ (pnS M most).2 3 6 ∧ (pnS M most).2 3 6 ≤ most) := by
  unfold pnS
  by_cases c : ¬ M 3 5 = 2
  · rw [if_pos c]; exact ⟨JJ_wr ha h, fun z => absurd rfl z⟩
  · rw [if_neg c]
    by_cases d : most < nuT M
    · rw [if_pos d]; exact ⟨JJ_wr ha (JJ_26 ha h (.inr rfl)), fun z => absurd rfl z⟩
    · rw [if_neg d]
      refine ⟨JJ_st ha (JJ_26 ha h (.inr rfl)), fun _ => ?_⟩
      have h0 := nuT_0 h.1 (by omega)
      show 0 ≤ nuT M ∧ nuT M ≤ most
      omega
theorem JT_law {a j v : Int} {M : Mem} (ha : 20 ≤ a ∧ a < 24) (h : JT a M) (hj : (j = 0 ∧ 0 ≤ v ∧ v ≤ 3) ∨ (j = 1 ∧ 0 ≤ v ∧ v ≤ 20) ∨ True ∧ (j = 2 ∧ 0 ≤ v ∧ v ≤ 4) ∨ (j = 3 ∧ 0 ≤ v ∧ v ≤ 5)) : JT a (mu M a j v) := by
  have r : ∀ q, q ≠ a → mu M a j v q = M q := fun q hq => by funext x; exact mu_k hq
  obtain ⟨⟨t0, t1, t2, t3, t4, t5, t6⟩, t7⟩ := h
  refine ⟨⟨?_, ?_, ?_, ?_, ?_, ?_, ?_⟩, ?_⟩
  · rw [mu_app]; split <;> omega
  · rw [mu_app]; split <;> omega
  · rw [mu_app]; split <;> omega
  · rw [mu_app]; split <;> omega
  · rw [r _ (by omega)]; exact t4
  · rw [r _ (by omega)]; exact t5
  · rw [r _ (by omega)]; exact t6
  · rw [r _ (by omega)]; exact t7
theorem JT_kin {a j v : Int} {M : Mem} (ha : 20 ≤ a ∧ a < 24) (h : JT a M) (hv : 0 ≤ v ∧ v ≤ 5) : JT a (mu M (a + 4) j v) := by
  have r : ∀ q, q ≠ a + 4 → mu M (a + 4) j v q = M q := fun q hq => by funext x; exact mu_k hq
  obtain ⟨⟨t0, t1, t2, t3, t4, t5, t6⟩, t7⟩ := h
  refine ⟨⟨?_, ?_, ?_, ?_, ?_, ?_, ?_⟩, ?_⟩
  · rw [r _ (by omega)]; exact t0
  · rw [r _ (by omega)]; exact t1
  · rw [r _ (by omega)]; exact t2
  · rw [r _ (by omega)]; exact t3
  · intro p p0 p1; have := t4 p p0 p1; rw [mu_app]; split <;> omega
  · rw [r _ (by omega)]; exact t5
  · rw [r _ (by omega)]; exact t6
  · rw [r _ (by omega)]; exact t7
theorem JT_num {a j v : Int} {M : Mem} (ha : 20 ≤ a ∧ a < 24) (h : JT a M) (hv : -30 ≤ v ∧ v ≤ 30) : JT a (mu M (a + 12) j v) := by
  have r : ∀ q, q ≠ a + 12 → mu M (a + 12) j v q = M q := fun q hq => by funext x; exact mu_k hq
  obtain ⟨⟨t0, t1, t2, t3, t4, t5, t6⟩, t7⟩ := h
  refine ⟨⟨?_, ?_, ?_, ?_, ?_, ?_, ?_⟩, ?_⟩
  · rw [r _ (by omega)]; exact t0
  · rw [r _ (by omega)]; exact t1
  · rw [r _ (by omega)]; exact t2
  · rw [r _ (by omega)]; exact t3
  · rw [r _ (by omega)]; exact t4
  · intro p p0 p1; have := t5 p p0 p1; rw [mu_app]; split <;> omega
  · rw [r _ (by omega)]; exact t6
  · rw [r _ (by omega)]; exact t7
theorem JJ_rso {a p : Int} {M : Mem} (ha : 20 ≤ a ∧ a < 24) (h : JJ a M) : JJ a (rsoS M a p).2 := by
  have hs := soT_in M
  unfold rsoS
  split
  · exact JJ_wr ha h
  · exact JJ_st ha ⟨DG_mu h.1 (by omega) (by omega), JT_kin ha h.2 hs⟩
theorem JJ_rl {a : Int} {M : Mem} (ha : 20 ≤ a ∧ a < 24) (h : JJ a M) : JJ a (rlS M a).2 := by
  have h1 := JJ_pw (w := 0) ha h
  have h2 := JJ_pn (most := 3) ha h1
  unfold rlS
  split
  · exact h1
  · split
    · exact h2.1
    · have b2 := h2.2 (by assumption)
      have h3 : JJ a (mu (pnS (pwS M 0).2 3).2 a 0 ((pnS (pwS M 0).2 3).2 3 6)) := ⟨DG_mu h2.1.1 (by omega) (by omega), JT_law ha h2.1.2 (.inl ⟨rfl, b2⟩)⟩
      have h4 := JJ_pn (most := 20) ha h3
      split
      · exact h4.1
      · have b4 := h4.2 (by assumption)
        exact JJ_ps ha ⟨DG_mu h4.1.1 (by omega) (by omega), JT_law ha h4.1.2 (.inr (.inl ⟨rfl, b4⟩))⟩
theorem JJ_rp {a : Int} (ha : 20 ≤ a ∧ a < 24) : ∀ (k : Nat) (i : Int) (M : Mem), 0 ≤ i → i + k = 5 → JJ a M → JJ a (rpG a k i M).2
  | 0, _, _, _, _, h => h
  | k + 1, i, M, h0, hk, h => by
    have e1 := JJ_pw (w := 1) ha h
    have e2 := JJ_rso (p := i) ha e1
    have e3 := JJ_ps ha e2
    simp only [rpG]
    split
    · exact h
    · split
      · exact JJ_wr ha h
      · split
        · exact e1
        · split
          · exact e2
          · split
            · exact e3
            · exact JJ_rp ha k _ _ (by omega) (by omega) ⟨DG_mu e3.1 (by omega) (by omega), JT_law ha e3.2 (.inr (.inr (.inl ⟨trivial, rfl, by omega, by omega⟩)))⟩
theorem JJ_rn {a i : Int} (ha : 20 ≤ a ∧ a < 24) : ∀ (k : Nat) (p : Int) (M : Mem), JJ a M → JJ a (rnG a i k p M).2
  | 0, _, _, h => h
  | k + 1, p, M, h => by
    have e1 := JJ_pn (most := 60) ha h
    simp only [rnG]
    split
    · exact e1.1
    · have b := e1.2 (by assumption)
      exact JJ_rn ha k _ _ ⟨DG_mu e1.1.1 (by omega) (by omega), JT_num ha e1.1.2 (by omega)⟩
theorem JJ_rt {a : Int} (ha : 20 ≤ a ∧ a < 24) : ∀ (k : Nat) (i : Int) (M : Mem), 0 ≤ i → i + k = 6 → JJ a M → JJ a (rtG a k i M).2
  | 0, _, _, _, _, h => h
  | k + 1, i, M, h0, hk, h => by
    have e1 := JJ_rn (i := i) ha (M a 2).toNat 0 _ (JJ_st ha h)
    have e2 := JJ_ps ha e1
    simp only [rtG]
    split
    · exact h
    · split
      · exact JJ_wr ha h
      · split
        · exact e1
        · split
          · exact e2
          · exact JJ_rt ha k _ _ (by omega) (by omega) ⟨DG_mu e2.1 (by omega) (by omega), JT_law ha e2.2 (.inr (.inr (.inr ⟨rfl, by omega, by omega⟩)))⟩
theorem emM_c2 {σ : Mem} {a q : Int} (h : q ≠ a ∧ q ≠ a + 8 ∧ q ≠ a + 16 ∧ q ≠ a + 20) : emM σ a q = σ q := by
  funext x
  unfold emM
  simp only [mr_app, mu_app]
  rw [if_neg (by omega), if_neg (by omega), if_neg (by omega), if_neg (by omega), if_neg (by omega), if_neg (by omega), if_neg (by omega)]
theorem riS_c2 {σ : Mem} {a q : Int} (h3 : q ≠ 3) (ha : q ≠ a ∧ q ≠ a + 4 ∧ q ≠ a + 8 ∧ q ≠ a + 12 ∧ q ≠ a + 16 ∧ q ≠ a + 20) : (riS σ a).2 q = σ q := by
  have e0 : (ri0 σ a) q = σ q := (ri0_c h3).trans (emM_c2 (by omega))
  have e1 : (ri1 σ a).2 q = σ q := (rlS_c h3 (by omega)).trans e0
  have e2 : (ri2 σ a).2 q = σ q := (rpG_c h3 (by omega) (by omega) _ _ _).trans e1
  have e3 : (ri3 σ a).2 q = σ q := (rtG_c h3 (by omega) (by omega) _ _ _).trans e2
  unfold riS
  (repeat' split)
  · exact e1
  · exact e2
  · exact e3
  · exact e3
  · exact (wrM_c h3).trans e3
theorem JT_em {a : Int} {σ : Mem} (ha : 20 ≤ a ∧ a < 24) (h : JT a σ) : JT a (emM σ a) := by
  obtain ⟨⟨t0, t1, t2, t3, t4, t5, t6⟩, t7⟩ := h
  have z : ∀ j, (j = 0 ∨ j = 1 ∨ j = 2 ∨ j = 3) → emM σ a a j = 0 := fun j hj => by
    unfold emM
    simp only [mr_app, mu_app]
    rcases hj with e | e | e | e <;> subst e <;> (rw [if_neg (by omega), if_neg (by omega), if_neg (by omega)]; simp)
  refine ⟨⟨?_, ?_, ?_, ?_, ?_, ?_, ?_⟩, ?_⟩
  · rw [z 0 (by simp)]; omega
  · rw [z 1 (by simp)]; omega
  · rw [z 2 (by simp)]; omega
  · rw [z 3 (by simp)]; omega
  · rw [emM_c2 (by omega)]; exact t4
  · rw [emM_c2 (by omega)]; exact t5
  · intro t q0 q1
    have e : emM σ a (a + 20) t = 0 := by
      unfold emM
      simp only [mr_app, mu_app, ↓reduceIte]
      exact over_in q0 q1
    rw [e]; omega
  · intro t
    have e : emM σ a (a + 16) t = over (σ (a + 16)) (fun _ => -1000000) 0 5 t := by
      unfold emM
      simp only [mr_app, mu_app, ↓reduceIte]
      (repeat rw [if_neg (by omega)])
    rw [e]
    unfold over
    split
    · exact (show R3 (-1000000) from ⟨by decide, by decide⟩)
    · exact t7 t
theorem JT_ri {a : Int} {σ : Mem} (ha : 20 ≤ a ∧ a < 24) (hb : ∀ k : Int, 0 ≤ σ 4 k ∧ σ 4 k ≤ 255) (h31 : 0 ≤ σ 3 1 ∧ σ 3 1 ≤ 400) (h : JT a σ) : JT a (riS σ a).2 := by
  have h0 : JJ a (ri0 σ a) := ⟨DG_st (ri0_TRC ha hb h31), JT_c ha (JT_em ha h) (fun q hq => ri0_c hq)⟩
  have h1 : JJ a (ri1 σ a).2 := JJ_rl ha h0
  have h2 : JJ a (ri2 σ a).2 := JJ_rp ha 5 0 _ (by decide) (by decide) h1
  have h3 : JJ a (ri3 σ a).2 := JJ_rt ha 6 0 _ (by decide) (by decide) h2
  unfold riS
  (repeat' split)
  · exact h1.2
  · exact h2.2
  · exact h3.2
  · exact h3.2
  · exact (JJ_wr ha h3).2
/-! what the reference's reader leaves alone -/
def KP (s t : Mem) : Prop := (∀ q : Int, q ≠ 0 → q ≠ 5 → t q = s q) ∧ ∀ j : Int, (j = 1 ∨ j = 8 ∨ j = 10 ∨ j = 11 ∨ j = 23) → t 0 j = s 0 j
theorem KP_r (s : Mem) : KP s s := ⟨fun _ _ _ => rfl, fun _ _ => rfl⟩
theorem KP_5 {s t : Mem} {j v : Int} (h : KP s t) : KP s (mu t 5 j v) := ⟨fun q a b => (mu_row b).trans (h.1 q a b), fun j' hj => (mu_k (by decide)).trans (h.2 j' hj)⟩
theorem KP_0 {s t : Mem} {j v : Int} (h : KP s t) (hj : 12 ≤ j ∧ j ≤ 18) : KP s (mu t 0 j v) := ⟨fun q a b => (mu_row a).trans (h.1 q a b), fun j' hj' => (mu_j (by omega)).trans (h.2 j' hj')⟩
theorem KP_nxt {s t : Mem} (h : KP s t) : KP s (nxtM t) := ⟨fun q a b => (nxtM_c a).trans (h.1 q a b), fun j hj => by
  rw [← h.2 j hj]
  show mr t 0 _ 0 j = _
  rw [mr_app, if_pos rfl]
  unfold nxR
  rw [if_neg (by omega), if_neg (by omega), if_neg (by omega), if_neg (by omega)]⟩
theorem KP_bad {s t : Mem} {k : Int} (h : KP s t) : KP s (badM t k) := by
  unfold badM
  split
  · exact KP_0 (KP_0 h (by omega)) (by omega)
  · exact h
theorem KP_go {s t : Mem} (h : KP s t) : KP s (goM t) := by
  unfold goM
  split
  · exact KP_nxt h
  · exact h
theorem KP_must {s t : Mem} {so : Int} (h : KP s t) : KP s (mustM t so) := by
  unfold mustM
  apply KP_go
  split
  · exact KP_bad h
  · exact h
theorem KP_num {s t : Mem} {lo hi : Int} (h : KP s t) : KP s (numM t lo hi) := by
  unfold numM
  split
  · exact h
  · apply KP_must
    unfold numX
    split
    · exact KP_bad h
    · exact h
theorem KP_end {s t : Mem} (h : KP s t) : KP s (endM t) := by
  unfold endM
  split
  · exact KP_must h
  · exact h
theorem KP_beg {s t : Mem} {so room : Int} (h : KP s t) : KP s (begM t so room) := by
  unfold begM
  apply KP_must
  split
  · exact KP_bad h
  · exact h
theorem KP_rp {s t : Mem} (h : KP s t) : KP s (rpM t) := by
  have hx : KP s (rpX t) := by
    unfold rpX
    split
    · exact KP_must (KP_beg h)
    · exact KP_beg h
  have hy : KP s (rpY t) := KP_end hx
  unfold rpM
  split
  · exact KP_5 (KP_5 hy)
  · exact hy
theorem KP_rtL {s t : Mem} {a : Int} (h : KP s t) : ∀ i : Nat, KP s (rtL t a i)
  | 0 => h
  | i + 1 => KP_5 (KP_num (KP_rtL h i))
theorem KP_rt {s t : Mem} (h : KP s t) : KP s (rtM t) := by
  have hy : KP s (rtY t) := KP_end (KP_rtL (KP_beg h) _)
  unfold rtM
  split
  · exact KP_5 (KP_5 (KP_5 hy))
  · exact hy
theorem KP_it {step : Mem → Mem} {nm : Int} {s : Mem} (hs : ∀ t, KP s t → KP s (step t)) : ∀ (k : Nat) (t : Mem), KP s t → KP s (itM step nm k t)
  | 0, t, h => h
  | k + 1, t, h => by
    simp only [itM]
    split
    · exact KP_it hs k _ (hs t h)
    · exact h
theorem KP_1 (τ : Mem) : KP (mu τ 0 10 0) (tw1 τ) := by
  have h : KP (mu τ 0 10 0) (bgnM (mu τ 0 0 0)) := by
    unfold bgnM
    refine KP_nxt (KP_0 (KP_0 ⟨fun q a b => ?_, fun j hj => ?_⟩ (by omega)) (by omega))
    · rw [mu_row a, mu_row a, mu_row a, mu_row a]
    · simp only [mu_app]
      rcases hj with e | e | e | e | e <;> subst e <;> simp
  unfold tw1
  refine ⟨fun q a b => ?_, fun j hj => ?_⟩
  · rw [← h.1 q a b]; funext x; rw [mr_app, if_neg b]
  · rw [← h.2 j hj, mr_app, if_neg (by decide)]
theorem KP_9 (τ : Mem) : KP (mu τ 0 10 0) (tw9 τ) := by
  have h5 : KP (mu τ 0 10 0) (tw5 τ) := KP_end (KP_5 (KP_num (KP_5 (KP_num (KP_must (KP_1 τ))))))
  have h6 : KP (mu τ 0 10 0) (tw6 τ) := by
    unfold tw6
    split
    · exact h5
    · exact KP_bad h5
  have h7 : KP (mu τ 0 10 0) (tw7 τ) := KP_it (fun t ht => KP_rp ht) _ _ h6
  have h8 : KP (mu τ 0 10 0) (tw8 τ) := KP_it (fun t ht => KP_rt ht) _ _ h7
  unfold tw9
  split
  · exact KP_bad h8
  · exact h8
theorem itM_PW {step : Mem → Mem} {nm : Int} (hs : ∀ t, PW t → PW (step t)) : ∀ (k : Nat) (t : Mem), PW t → PW (itM step nm k t)
  | 0, t, h => h
  | k + 1, t, h => by
    simp only [itM]
    split
    · exact itM_PW hs k _ (hs t h)
    · exact h
theorem PW_9 {τ : Mem} (hb : ∀ k : Int, 0 ≤ τ 7 k ∧ τ 7 k ≤ 255) (ht : 0 ≤ τ 0 10 ∧ τ 0 10 ≤ 400) : PW (tw9 τ) := by
  have h5 : PW (tw5 τ) := endM_PW (PW_mu5s (numM_PW (PW_mu5s (numM_PW (mustM_PW (tw1_PW hb ht))) (Or.inl rfl))) (Or.inr rfl))
  have h6 : PW (tw6 τ) := by
    unfold tw6
    split
    · exact h5
    · exact badM_PW h5 (by decide)
  have h8 : PW (tw8 τ) := itM_PW (fun t ht => rtM_PW ht) _ _ (itM_PW (fun t ht => rpM_PW ht) _ _ h6)
  unfold tw9
  split
  · exact badM_PW h8 (by decide)
  · exact h8
