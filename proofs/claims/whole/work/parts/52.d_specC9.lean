/-! the reader reads all -/
theorem emM_c {σ : Mem} {a q : Int} (h : q < a ∨ a + 20 < q) : emM σ a q = σ q := by
  funext x
  unfold emM
  simp only [mr_app, mu_app]
  rw [if_neg (by omega), if_neg (by omega), if_neg (by omega), if_neg (by omega), if_neg (by omega), if_neg (by omega), if_neg (by omega)]
theorem ri0_TRC {σ : Mem} {a : Int} (ha : 20 ≤ a ∧ a < 24) (h4 : ∀ k : Int, 0 ≤ σ 4 k ∧ σ 4 k ≤ 255) (h31 : 0 ≤ σ 3 1 ∧ σ 3 1 ≤ 400) : TRC (mu (mu (emM σ a) 3 2 0) 3 4 0) := by
  have e4 := emM_c (σ := σ) (a := a) (q := 4) (by omega)
  have e3 := emM_c (σ := σ) (a := a) (q := 3) (by omega)
  refine ⟨fun k => ?_, ?_, ?_⟩
  · show 0 ≤ emM σ a 4 k ∧ emM σ a 4 k ≤ 255
    rw [e4]; exact h4 k
  · show 0 ≤ emM σ a 3 1 ∧ emM σ a 3 1 ≤ 400
    rw [e3]; exact h31
  · show (0 : Int) ≤ 0 ∧ 0 ≤ emM σ a 3 1
    rw [e3]; omega
theorem ri0_RPC {σ : Mem} {a : Int} (ha : 20 ≤ a ∧ a < 24) (h4 : ∀ k : Int, 0 ≤ σ 4 k ∧ σ 4 k ≤ 255) (h31 : 0 ≤ σ 3 1 ∧ σ 3 1 ≤ 400) : RPC (ri0 σ a) := stM_RPC (ri0_TRC ha h4 h31)
theorem ri0_c {σ : Mem} {a q : Int} (h : q ≠ 3) : ri0 σ a q = emM σ a q := by
  unfold ri0
  rw [stM_c h, mu3_c h, mu3_c h]
theorem rlS_c {σ : Mem} {a q : Int} (h : q ≠ 3) (ha : q ≠ a) : (rlS σ a).2 q = σ q := by
  have e1 := pwS_c (σ := σ) (w := 0) h
  have e2 : (pnS (pwS σ 0).2 3).2 q = σ q := (pnS_c h).trans e1
  have e3 : ∀ v, mu (pnS (pwS σ 0).2 3).2 a 0 v q = σ q := fun v => Eq.trans (by funext x; exact mu_k ha) e2
  have e4 : ∀ v, (pnS (mu (pnS (pwS σ 0).2 3).2 a 0 v) 20).2 q = σ q := fun v => (pnS_c h).trans (e3 v)
  unfold rlS
  (repeat' split)
  · exact e1
  · exact e2
  · exact e4 _
  · exact (psS_c h).trans (Eq.trans (by funext x; exact mu_k ha) (e4 _))
/-- the law touches only two places of its town -/
theorem rlS_2 {σ : Mem} {a j : Int} (ha : a ≠ 3) (hj : j ≠ 0 ∧ j ≠ 1) : (rlS σ a).2 a j = σ a j := by
  have e1 : (pwS σ 0).2 a j = σ a j := by rw [pwS_c ha]
  have e2 : (pnS (pwS σ 0).2 3).2 a j = σ a j := by rw [pnS_c ha, e1]
  have e3 : ∀ v, mu (pnS (pwS σ 0).2 3).2 a 0 v a j = σ a j := fun v => by rw [mu_j hj.1, e2]
  have e4 : ∀ v, (pnS (mu (pnS (pwS σ 0).2 3).2 a 0 v) 20).2 a j = σ a j := fun v => by rw [pnS_c ha, e3]
  unfold rlS
  (repeat' split)
  · exact e1
  · exact e2
  · exact e4 _
  · show (psS _).2 a j = _
    rw [psS_c ha, mu_j hj.2, e4]
theorem rpG_2 {a : Int} (ha : 20 ≤ a ∧ a < 24) : ∀ (k : Nat) (i : Int) (M : Mem), 0 ≤ i → i + k = 5 → (0 ≤ M a 2 ∧ M a 2 ≤ 4) → 0 ≤ (rpG a k i M).2 a 2 ∧ (rpG a k i M).2 a 2 ≤ 4
  | 0, _, _, _, _, h => h
  | k + 1, i, M, h0, hk, h => by
    have e1 : (pwS M 1).2 a = M a := pwS_c (by omega)
    have e2 : (rsoS (pwS M 1).2 a i).2 a = M a := (rsoS_c (by omega) (by omega)).trans e1
    have e3 : (psS (rsoS (pwS M 1).2 a i).2).2 a = M a := (psS_c (by omega)).trans e2
    simp only [rpG]
    split
    · exact h
    · split
      · show 0 ≤ wrM M 3 a 2 ∧ wrM M 3 a 2 ≤ 4
        rw [wrM_c (show a ≠ 3 by omega)]; exact h
      · split
        · show 0 ≤ (pwS M 1).2 a 2 ∧ (pwS M 1).2 a 2 ≤ 4
          rw [e1]; exact h
        · split
          · show 0 ≤ (rsoS (pwS M 1).2 a i).2 a 2 ∧ (rsoS (pwS M 1).2 a i).2 a 2 ≤ 4
            rw [e2]; exact h
          · split
            · show 0 ≤ (psS (rsoS (pwS M 1).2 a i).2).2 a 2 ∧ (psS (rsoS (pwS M 1).2 a i).2).2 a 2 ≤ 4
              rw [e3]; exact h
            · exact rpG_2 ha k _ _ (by omega) (by omega) (by rw [mu_s]; omega)
theorem ri2_2 {σ : Mem} {a : Int} (ha : 20 ≤ a ∧ a < 24) : 0 ≤ (ri2 σ a).2 a 2 ∧ (ri2 σ a).2 a 2 ≤ 4 := by
  refine rpG_2 ha 5 0 _ (by omega) (by decide) ?_
  have e : (ri1 σ a).2 a 2 = 0 := by
    unfold ri1
    rw [rlS_2 (by omega) (by decide), ri0_c (by omega)]
    unfold emM
    simp only [mr_app, mu_app, and_self, ↓reduceIte]
    (repeat (first | rw [if_neg (by omega)] | rw [if_pos (by omega)]))
  rw [e]; omega
theorem rpG_c {a q : Int} (h3 : q ≠ 3) (ha : q ≠ a) (h4 : q ≠ a + 4) : ∀ (k : Nat) (i : Int) (M : Mem), (rpG a k i M).2 q = M q
  | 0, _, _ => rfl
  | k + 1, i, M => by
    have e1 : (pwS M 1).2 q = M q := pwS_c h3
    have e2 : (rsoS (pwS M 1).2 a i).2 q = M q := (rsoS_c h3 h4).trans e1
    have e3 : (psS (rsoS (pwS M 1).2 a i).2).2 q = M q := (psS_c h3).trans e2
    simp only [rpG]
    (repeat' split)
    · rfl
    · exact wrM_c h3
    · exact e1
    · exact e2
    · exact e3
    · rw [rpG_c h3 ha h4 k]
      exact Eq.trans (by funext x; exact mu_k ha) e3
theorem rtG_c {a q : Int} (h3 : q ≠ 3) (ha : q ≠ a) (h12 : q ≠ a + 12) : ∀ (k : Nat) (i : Int) (M : Mem), (rtG a k i M).2 q = M q
  | 0, _, _ => rfl
  | k + 1, i, M => by
    have e1 : (rnG a i (M a 2).toNat 0 (stM M)).2 q = M q := (rnG_c h3 h12 _ _ _).trans (stM_c h3)
    have e2 : (psS (rnG a i (M a 2).toNat 0 (stM M)).2).2 q = M q := (psS_c h3).trans e1
    simp only [rtG]
    (repeat' split)
    · rfl
    · exact wrM_c h3
    · exact e1
    · exact e2
    · rw [rtG_c h3 ha h12 k]
      exact Eq.trans (by funext x; exact mu_k ha) e2
theorem riS_c {σ : Mem} {a q : Int} (h3 : q ≠ 3) (ha : q < a ∨ a + 20 < q) : (riS σ a).2 q = σ q := by
  have e0 : (ri0 σ a) q = σ q := (ri0_c h3).trans (emM_c ha)
  have e1 : (ri1 σ a).2 q = σ q := (rlS_c h3 (by omega)).trans e0
  have e2 : (ri2 σ a).2 q = σ q := (rpG_c h3 (by omega) (by omega) _ _ _).trans e1
  have e3 : (ri3 σ a).2 q = σ q := (rtG_c h3 (by omega) (by omega) _ _ _).trans e2
  unfold riS
  (repeat' split)
  · exact e1
  · exact e2
  · exact e3
  · exact e3
  · exact (wrM_c h3).trans e3
