/-! THE RELATION of both memories, n calls behind the start -/
def RRow (σ τ : Mem) : Prop := ∀ r : Int, 0 ≤ r → r < 8 → ((σ (44 + r) 1 = 0 ∧ τ 1 r = σ (44 + r) 2) ∨ (σ (44 + r) 1 = 1 ∧ τ 1 r = -1)) ∧ (0 ≤ σ (44 + r) 2 ∧ σ (44 + r) 2 ≤ 2) ∧ (τ 2 r = σ (44 + r) 3 ∧ 0 ≤ σ (44 + r) 3 ∧ σ (44 + r) 3 ≤ 40) ∧ (∀ j : Int, R3 (σ (44 + r + 8) j)) ∧ ∀ j : Int, 0 ≤ j → j < 40 → τ 3 (40 * r + j) = σ (44 + r + 8) j
def RIt (τ : Mem) : Prop := ∀ j : Int, R3 (τ 3 j)
def RTape (σ τ : Mem) : Prop := τ 7 = σ 4 ∧ τ 0 10 = σ 3 1 ∧ (0 ≤ σ 3 1 ∧ σ 3 1 ≤ 400) ∧ ∀ k : Int, 0 ≤ σ 4 k ∧ σ 4 k ≤ 255
def RSt (σ τ : Mem) : Prop := σ 0 10 = τ 0 11 ∧ σ 0 11 = τ 0 1
def TWn (n : Int) (T : Int → Int) : Prop := TW T ∧ (T 3 = 0 ∨ 1 ≤ T 2) ∧ (∀ p : Int, 0 ≤ p → p < T 2 → 1 ≤ T (4 + p)) ∧ ∀ t : Int, 0 ≤ t → t < 5 → T (12 + 6 * t + 5) ≤ n
def RTw (n : Int) (σ τ : Mem) : Prop := ((22 ≤ σ 0 8 ∧ σ 0 8 < 24) ∧ (22 ≤ σ 0 9 ∧ σ 0 9 < 24) ∧ σ 0 8 ≠ σ 0 9) ∧ TR σ (σ 0 8) (τ 4) ∧ TWn n (τ 4) ∧ ∀ q : Int, 20 ≤ q → q < 24 → TC σ q ∧ ∀ t : Int, R3 (σ (q + 16) t)
def RIm (n : Int) (σ τ : Mem) : Prop := (∀ k : Int, 0 ≤ k → k < 2 → (τ 9 k = 0 ∧ σ (20 + k) 2 = 0) ∨ (τ 9 k = 1 ∧ 1 ≤ σ (20 + k) 2 ∧ TR σ (20 + k) (fun x => τ 10 (42 * k + x)) ∧ TWn n (fun x => τ 10 (42 * k + x)))) ∧ ∀ k : Int, 0 ≤ τ 9 k ∧ τ 9 k ≤ 1
def unW (σ τ : Mem) (j : Int) : Int → Int := fun k => τ 6 (42 * (σ 5 0 - 1 - j) + k)
def unV (σ τ : Mem) (j : Int) : Int → Int := if j = 0 then τ 4 else unW σ τ (j - 1)
def unX (σ : Mem) (j : Int) : Int := (σ 5 1 + 24 - j) % 24
def UN (n : Int) (σ τ : Mem) (j : Int) : Prop := TWn n (unW σ τ j) ∧ σ 6 (unX σ j) < unW σ τ j 3 ∧ unW σ τ j (12 + 6 * σ 6 (unX σ j) + 4) = σ 7 (unX σ j) ∧ unW σ τ j (12 + 6 * σ 6 (unX σ j) + 5) = σ 8 (unX σ j) ∧ (∀ p : Int, 0 ≤ p → p < unW σ τ j 2 → unW σ τ j (8 + p) = σ 9 (unX σ j * 4 + p)) ∧ ∀ k : Int, 0 ≤ k → k < 42 → k ≠ 12 + 6 * σ 6 (unX σ j) + 4 → k ≠ 12 + 6 * σ 6 (unX σ j) + 5 → (k < 8 ∨ 8 + unW σ τ j 2 ≤ k) → unW σ τ j k = unV σ τ j k
def RAc (n : Int) (σ τ : Mem) : Prop := τ 0 8 = σ 5 0 ∧ (0 ≤ σ 5 0 ∧ σ 5 0 ≤ 24) ∧ (0 ≤ σ 5 1 ∧ σ 5 1 < 24) ∧ (∀ j : Int, 0 ≤ j → j < 24 → 0 ≤ σ 6 j ∧ σ 6 j < 5) ∧ ∀ j : Int, 0 ≤ j → j < σ 5 0 → UN n σ τ j
def RTr (σ τ : Mem) : Prop := σ 18 0 = τ 0 23 ∧ (0 ≤ σ 18 0 ∧ σ 18 0 ≤ 16) ∧ ∀ i : Int, 0 ≤ i → i < σ 18 0 → σ 19 i = τ 11 i
def RFr (τ : Mem) : Prop := (0 ≤ τ 5 2 ∧ τ 5 2 ≤ 4) ∧ (0 ≤ τ 5 3 ∧ τ 5 3 ≤ 5)
def RR (n : Int) (σ τ : Mem) : Prop := RRow σ τ ∧ RIt τ ∧ RTape σ τ ∧ RSt σ τ ∧ RTw n σ τ ∧ RIm n σ τ ∧ RAc n σ τ ∧ RTr σ τ ∧ RFr τ
theorem RRow_cg {σ τ σ' τ' : Mem} (h : RRow σ τ) (hσ : ∀ q : Int, 44 ≤ q → q < 60 → σ' q = σ q) (e1 : τ' 1 = τ 1) (e2 : τ' 2 = τ 2) (e3 : τ' 3 = τ 3) : RRow σ' τ' := by
  intro r h0 h1
  rw [hσ (44 + r) (by omega) (by omega), hσ (44 + r + 8) (by omega) (by omega), e1, e2, e3]
  exact h r h0 h1
theorem TR_cg {σ σ' : Mem} {q : Int} {T : Int → Int} (h : TR σ q T) (hσ : ∀ k : Int, q ≤ k → k ≤ q + 20 → σ' k = σ k) : TR σ' q T := by
  unfold TR
  rw [hσ q (by omega) (by omega), hσ (q + 4) (by omega) (by omega), hσ (q + 8) (by omega) (by omega), hσ (q + 12) (by omega) (by omega), hσ (q + 16) (by omega) (by omega), hσ (q + 20) (by omega) (by omega)]
  exact h
theorem RTw_cg {n : Int} {σ τ σ' τ' : Mem} (h : RTw n σ τ) (h8 : σ' 0 8 = σ 0 8) (h9 : σ' 0 9 = σ 0 9) (hσ : ∀ q : Int, 20 ≤ q → q < 44 → σ' q = σ q) (e4 : τ' 4 = τ 4) : RTw n σ' τ' := by
  obtain ⟨h1, h2, h3, h4⟩ := h
  unfold RTw
  rw [h8, h9, e4]
  refine ⟨h1, TR_cg h2 (fun k k0 k1 => hσ k (by omega) (by omega)), h3, fun q q0 q1 => ⟨TC_of (h4 q q0 q1).1 (hσ q (by omega) (by omega)) (hσ _ (by omega) (by omega)) (hσ _ (by omega) (by omega)) (hσ _ (by omega) (by omega)), fun t => ?_⟩⟩
  rw [hσ (q + 16) (by omega) (by omega)]
  exact (h4 q q0 q1).2 t
theorem RIm_cg {n : Int} {σ τ σ' τ' : Mem} (h : RIm n σ τ) (hσ : ∀ q : Int, 20 ≤ q → q < 44 → σ' q = σ q) (e9 : τ' 9 = τ 9) (e10 : τ' 10 = τ 10) : RIm n σ' τ' := by
  unfold RIm
  rw [e9, e10]
  refine ⟨fun k k0 k1 => ?_, h.2⟩
  rw [hσ (20 + k) (by omega) (by omega)]
  rcases h.1 k k0 k1 with z | ⟨a, b, c, d⟩
  · exact .inl z
  · exact .inr ⟨a, b, TR_cg c (fun k k0 k1 => hσ k (by omega) (by omega)), d⟩
theorem RAc_cg {n : Int} {σ τ σ' τ' : Mem} (h : RAc n σ τ) (hσ : ∀ q : Int, 5 ≤ q → q < 10 → σ' q = σ q) (e8 : τ' 0 8 = τ 0 8) (e4 : τ' 4 = τ 4) (e6 : τ' 6 = τ 6) : RAc n σ' τ' := by
  have w : ∀ j, unW σ' τ' j = unW σ τ j := fun j => by unfold unW; rw [hσ 5 (by decide) (by decide), e6]
  have v : ∀ j, unV σ' τ' j = unV σ τ j := fun j => by unfold unV; rw [w, e4]
  have x : ∀ j, unX σ' j = unX σ j := fun j => by unfold unX; rw [hσ 5 (by decide) (by decide)]
  obtain ⟨a, b, c, d, e⟩ := h
  unfold RAc
  rw [e8, hσ 5 (by decide) (by decide), hσ 6 (by decide) (by decide)]
  refine ⟨a, b, c, d, fun j j0 j1 => ?_⟩
  unfold UN
  rw [w, v, x, hσ 6 (by decide) (by decide), hσ 7 (by decide) (by decide), hσ 8 (by decide) (by decide), hσ 9 (by decide) (by decide)]
  exact e j j0 j1
theorem RR_upd {n : Int} {σ τ σ' τ' : Mem} (h : RR n σ τ) (hσ : ∀ q : Int, q ≠ 0 → ¬ (10 ≤ q ∧ q ≤ 17) → σ' q = σ q) (h0 : σ' 0 8 = σ 0 8 ∧ σ' 0 9 = σ 0 9 ∧ σ' 0 10 = σ 0 10) (hτ : ∀ q : Int, q ≠ 0 → q ≠ 8 → τ' q = τ q) (t0 : ∀ j : Int, j ≠ 0 → j ≠ 1 → τ' 0 j = τ 0 j) (hs : σ' 0 11 = τ' 0 1) : RR n σ' τ' := by
  obtain ⟨r1, r2, r3, r4, r5, r6, r7, r8, r9⟩ := h
  refine ⟨RRow_cg r1 (fun q a b => hσ q (by omega) (by omega)) (hτ 1 (by decide) (by decide)) (hτ 2 (by decide) (by decide)) (hτ 3 (by decide) (by decide)), ?_, ?_, ?_, RTw_cg r5 h0.1 h0.2.1 (fun q a b => hσ q (by omega) (by omega)) (hτ 4 (by decide) (by decide)), RIm_cg r6 (fun q a b => hσ q (by omega) (by omega)) (hτ 9 (by decide) (by decide)) (hτ 10 (by decide) (by decide)), RAc_cg r7 (fun q a b => hσ q (by omega) (by omega)) (t0 8 (by decide) (by decide)) (hτ 4 (by decide) (by decide)) (hτ 6 (by decide) (by decide)), ?_, ?_⟩
  · unfold RIt; rw [hτ 3 (by decide) (by decide)]; exact r2
  · unfold RTape
    rw [hτ 7 (by decide) (by decide), hσ 4 (by decide) (by decide), hσ 3 (by decide) (by decide), t0 10 (by decide) (by decide)]
    exact r3
  · unfold RSt
    rw [h0.2.2, t0 11 (by decide) (by decide)]
    exact ⟨r4.1, hs⟩
  · unfold RTr
    rw [hσ 18 (by decide) (by decide), hσ 19 (by decide) (by decide), t0 23 (by decide) (by decide), hτ 11 (by decide) (by decide)]
    exact r8
  · unfold RFr
    rw [hτ 5 (by decide) (by decide)]
    exact r9
theorem TWn_mono {n m : Int} {T : Int → Int} (h : TWn n T) (hm : n ≤ m) : TWn m T := ⟨h.1, h.2.1, h.2.2.1, fun t a b => by have := h.2.2.2 t a b; omega⟩
theorem RR_mono {n m : Int} {σ τ : Mem} (h : RR n σ τ) (hm : n ≤ m) : RR m σ τ := by
  obtain ⟨r1, r2, r3, r4, r5, r6, r7, r8, r9⟩ := h
  refine ⟨r1, r2, r3, r4, ⟨r5.1, r5.2.1, TWn_mono r5.2.2.1 hm, r5.2.2.2⟩, ⟨fun k a b => ?_, r6.2⟩, ⟨r7.1, r7.2.1, r7.2.2.1, r7.2.2.2.1, fun j a b => ?_⟩, r8, r9⟩
  · rcases r6.1 k a b with z | ⟨x, y, z, w⟩
    · exact .inl z
    · exact .inr ⟨x, y, z, TWn_mono w hm⟩
  · obtain ⟨x, y⟩ := r7.2.2.2.2 j a b
    exact ⟨TWn_mono x hm, y⟩
/-- the reference's mark of a call -/
theorem RR_0 {n : Int} {σ τ : Mem} (h : RR n σ τ) : RR (n + 1) σ (mu τ 0 0 0) := RR_mono (RR_upd h (fun _ _ _ => rfl) ⟨rfl, rfl, rfl⟩ (fun q a b => mu_row a) (fun j a b => mu_j a) (by rw [mu_j (by decide)]; exact h.2.2.2.1.2)) (by omega)
/-- hearing a row -/
theorem okC_iff {f : Int → Int} : ∀ i : Nat, okC f i = 1 ↔ ∀ j : Int, 0 ≤ j → j < i → 0 ≤ f j ∧ f j ≤ 5
  | 0 => ⟨fun _ j a b => by omega, fun _ => rfl⟩
  | i + 1 => by
    refine ⟨fun h => okC_all (i + 1) h, fun h => ?_⟩
    have ih := (okC_iff (f := f) i).mpr (fun j a b => h j a (by omega))
    have hi := h i (by omega) (by omega)
    simp only [okC]
    rw [ih, if_neg (by decide), if_neg (by omega), if_neg (by omega)]
theorem fbF_iff {g : Int → Int} : ∀ i : Nat, fbF g i = i ↔ ∀ j : Int, 0 ≤ j → j < i → 0 ≤ g j ∧ g j ≤ 5
  | 0 => ⟨fun _ j a b => by omega, fun _ => rfl⟩
  | i + 1 => by
    refine ⟨fun h => fbF_all (i + 1) h, fun h => ?_⟩
    have ih := (fbF_iff (g := g) i).mpr (fun j a b => h j a (by omega))
    have hi := h i (by omega) (by omega)
    simp only [fbF]
    rw [if_pos ih, if_pos hi]; omega
theorem ok_iff {n : Int} {σ τ : Mem} {r : Int} (h : RR n σ τ) (hr : 0 ≤ r ∧ r < 8) : okH σ r ↔ okB τ r := by
  obtain ⟨a, b, c, d, e⟩ := h.1 r hr.1 hr.2
  have e2 := h.2.2.2.2.1.2.1.1.2.2.1
  have hT := h.2.2.2.2.1.2.2.1.1.2.2.1
  unfold okH okB
  rw [okC_iff, ← e2]
  have hf := fbF_iff (g := fun p => τ 3 (40 * r + p)) (τ 4 2).toNat
  have e5 : (((τ 4 2).toNat : Nat) : Int) = τ 4 2 := by omega
  rw [e5] at hf ⊢
  constructor
  · rintro ⟨x, y, z⟩
    refine ⟨by omega, by omega, hf.mpr (fun j j0 j1 => ?_)⟩
    show 0 ≤ τ 3 (40 * r + j) ∧ τ 3 (40 * r + j) ≤ 5
    rw [e j j0 (by omega)]; exact z j j0 j1
  · rintro ⟨x, y, z⟩
    refine ⟨by omega, by omega, fun j j0 j1 => ?_⟩
    have := hf.mp z j j0 j1
    rw [← e j j0 (by omega)]; exact this
theorem bar_R {n : Int} {σ τ : Mem} {r : Int} (h : RR n σ τ) (hr : 0 ≤ r ∧ r < 8) (hno : ¬ okH σ r) : hrR σ r = barR τ r := by
  have hb : ¬ okB τ r := fun z => hno ((ok_iff h hr).mpr z)
  obtain ⟨a, b, c, d, e⟩ := h.1 r hr.1 hr.2
  have e2 := h.2.2.2.2.1.2.1.1.2.2.1
  have h01 := okC_01 (f := σ (44 + r + 8)) (σ (σ 0 8) 2).toNat
  unfold hrR barR
  by_cases c1 : σ (44 + r) 1 = 0
  · have t1 : ¬ τ 1 r < 0 := by omega
    by_cases c2 : σ (44 + r) 3 < σ (σ 0 8) 2
    · rw [if_neg (fun z => z c1), if_pos c2, if_neg t1, if_pos (show τ 2 r < τ 4 2 by omega)]
    · have c3 : okC (σ (44 + r + 8)) (σ (σ 0 8) 2).toNat = 0 := by
        rcases h01 with z | z
        · exact z
        · exact absurd ⟨c1, by omega, z⟩ hno
      rw [if_neg (fun z => z c1), if_neg c2, if_pos c3, if_neg t1, if_neg (show ¬ τ 2 r < τ 4 2 by omega), if_neg (fun z => hb ⟨by omega, by omega, z⟩)]
  · rw [if_pos c1, if_pos (show τ 1 r < 0 by omega)]
theorem bar_M {n : Int} {σ τ : Mem} {r : Int} (h : RR n σ τ) (hr : 0 ≤ r ∧ r < 8) (hno : ¬ okH σ r) : RR (n + 1) (hrM σ r) (barM (mu τ 0 0 0) r) := by
  have hb : ¬ okB τ r := fun z => hno ((ok_iff h hr).mpr z)
  obtain ⟨a, b, c, d, e⟩ := h.1 r hr.1 hr.2
  have e2 := h.2.2.2.2.1.2.1.1.2.2.1
  have h01 := okC_01 (f := σ (44 + r + 8)) (σ (σ 0 8) 2).toNat
  have z1 : mu τ 0 0 0 1 = τ 1 := mu_row (by decide)
  have z2 : mu τ 0 0 0 2 = τ 2 := mu_row (by decide)
  have z3 : mu τ 0 0 0 3 = τ 3 := mu_row (by decide)
  have z4 : mu τ 0 0 0 4 = τ 4 := mu_row (by decide)
  refine RR_mono (n := n) ?_ (by omega)
  unfold hrM barM
  rw [z1, z2, z3, z4]
  by_cases c1 : σ (44 + r) 1 = 0
  · have t1 : ¬ τ 1 r < 0 := by omega
    by_cases c2 : σ (44 + r) 3 < σ (σ 0 8) 2
    · rw [if_neg (fun z => z c1), if_pos c2, if_neg t1, if_pos (show τ 2 r < τ 4 2 by omega)]
      exact RR_upd h (fun q a b => mu_row a) ⟨rfl, rfl, rfl⟩ (fun q a b => by rw [mu_row a, mu_row a]) (fun j a b => by rw [mu_j b, mu_j a]) rfl
    · have c3 : okC (σ (44 + r + 8)) (σ (σ 0 8) 2).toNat = 0 := by
        rcases h01 with z | z
        · exact z
        · exact absurd ⟨c1, by omega, z⟩ hno
      rw [if_neg (fun z => z c1), if_neg c2, if_pos c3, if_neg t1, if_neg (show ¬ τ 2 r < τ 4 2 by omega), if_neg (fun z => hb ⟨by omega, by omega, z⟩)]
      exact RR_upd h (fun _ _ _ => rfl) ⟨rfl, rfl, rfl⟩ (fun q a b => by funext x; rw [mr_app, if_neg b, mu_k a]) (fun j a b => by rw [mr_app, if_neg (by decide), mu_j a]) (by rw [mr_app, if_neg (by decide), mu_j (by decide)]; exact h.2.2.2.1.2)
  · rw [if_pos c1, if_pos (show τ 1 r < 0 by omega)]
    exact RR_upd h (fun q a b => mu_row a) ⟨rfl, rfl, rfl⟩ (fun q a b => by rw [mu_row a, mu_row a]) (fun j a b => by rw [mu_j b, mu_j a]) rfl
