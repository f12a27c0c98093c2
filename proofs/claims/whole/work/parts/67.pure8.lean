/-! the readers go on alike, or fail alike -/
theorem bad_stay {τ : Mem} {k : Int} (h : 0 < τ 0 17) : badM τ k = τ := by unfold badM; rw [if_neg (by omega)]
theorem go_stay {τ : Mem} (h : 0 < τ 0 17) : goM τ = τ := by unfold goM; rw [if_neg (by omega)]
theorem must_stay {τ : Mem} {so : Int} (h : 0 < τ 0 17) : mustM τ so = τ := by
  unfold mustM
  have e : (if so = 0 then badM τ 1 else τ) = τ := by split <;> first | exact bad_stay h | rfl
  rw [e, go_stay h]
theorem num_stay {τ : Mem} {lo hi : Int} (h : 0 < τ 0 17) : numM τ lo hi = τ := by unfold numM; rw [if_pos h]
theorem end_stay {τ : Mem} (h : 0 < τ 0 17) : endM τ = τ := by unfold endM; rw [if_neg (by omega)]
theorem beg_stay {τ : Mem} {so room : Int} (h : 0 < τ 0 17) : begM τ so room = τ := by
  unfold begM
  have e : (if τ 5 so = room then badM τ 3 else τ) = τ := by split <;> first | exact bad_stay h | rfl
  rw [e, must_stay h]
theorem nam_stay {τ : Mem} (h : 0 < τ 0 17) : namR τ = 0 := by unfold namR; rw [if_neg (by omega)]
theorem FF_ref {σ τ : Mem} {j v : Int} (h : FF σ τ) : FF σ (mu τ 5 j v) := h
theorem FF_it {σ τ : Mem} {st : Mem → Mem} {nm : Int} {K : Nat} (h : FF σ τ) (hn : nm ≠ 0) : itM st nm K τ = τ := itM_stop (by rw [nam_stay h.2.2]; exact Ne.symm hn)
theorem bad_at {τ : Mem} {k : Int} (h : τ 0 17 = 0) : badM τ k = mu (mu τ 0 17 k) 0 18 (τ 0 15) := by unfold badM; rw [if_pos h]
theorem FF_bad {σ τ : Mem} {k : Int} (h : PP σ τ) (hk : 0 < k) : FF (wrM σ k) (badM τ k) := by
  rw [bad_at h.1.2.2.2.2.2.2.2]
  exact ⟨rfl, h.1.2.2.2.1.symm, hk⟩
theorem must_sim {σ τ : Mem} {so : Int} (h : PP σ τ) : (so ≠ 0 → PP (stM σ) (mustM τ so) ∧ mustM τ so = nxtM τ) ∧ (so = 0 → FF (wrM σ 1) (mustM τ so) ∧ mustM τ so = badM τ 1) := by
  have h17 := h.1.2.2.2.2.2.2.2
  constructor
  · intro hs
    have e : mustM τ so = nxtM τ := by
      unfold mustM
      rw [if_neg hs]
      unfold goM
      rw [if_pos h17]
    rw [e]; exact ⟨PP_step h, rfl⟩
  · intro hs
    have hf := FF_bad h (k := 1) (by decide)
    have e : mustM τ so = badM τ 1 := by
      unfold mustM
      rw [if_pos hs, go_stay hf.2.2]
    rw [e]; exact ⟨hf, rfl⟩
theorem word_sim {σ τ : Mem} {w : Nat} {nm : Int} (h : PP σ τ) (hw : isW σ w = 1 ↔ namR τ = nm) : (namR τ = nm ∧ (pwS σ w).1 = 1 ∧ (pwS σ w).2 = stM σ) ∨ (¬ namR τ = nm ∧ (pwS σ w).1 = 0 ∧ (pwS σ w).2 = wrM σ 1) := by
  have h01 := isW_01 (σ := σ) (w := w)
  unfold pwS
  by_cases c : namR τ = nm
  · rw [if_neg (by have := hw.mpr c; omega)]; exact .inl ⟨c, rfl, rfl⟩
  · rw [if_pos (by rcases h01 with z | z <;> first | exact z | exact absurd (hw.mp z) c)]; exact .inr ⟨c, rfl, rfl⟩
theorem tok {σ τ : Mem} (h : PP σ τ) {k : Int} (hk : 1 ≤ k ∧ k ≤ 4) : τ 0 14 = k ↔ σ 3 5 = k - 1 := by
  have a14 := h.1.2.2.2.2.2.1
  have r14 := h.1.2.2.2.2.2.2.1
  rw [← a14]; unfold tkC; split <;> omega
theorem sign_sim {σ τ : Mem} (h : PP σ τ) : ((psS σ).1 = 1 ∧ PP (psS σ).2 (endM τ) ∧ endM τ = nxtM τ ∧ (psS σ).2 = stM σ) ∨ ((psS σ).1 = 0 ∧ FF (psS σ).2 (endM τ)) := by
  have h17 := h.1.2.2.2.2.2.2.2
  have ht := tok h (k := 4) (by omega)
  have e : endM τ = mustM τ (if τ 0 14 = 4 then 1 else 0) := by unfold endM; rw [if_pos h17]
  rw [e]
  unfold psS
  by_cases c : σ 3 5 = 3
  · rw [if_pos c, if_pos (ht.mpr (by omega))]
    have := (must_sim (so := 1) h).1 (by decide)
    exact .inl ⟨rfl, this.1, this.2, rfl⟩
  · rw [if_neg c, if_neg (fun z => c (by have := ht.mp z; omega))]
    exact .inr ⟨rfl, ((must_sim (so := 0) h).2 rfl).1⟩
theorem fgF_0 {f : Int → Int} {s : Int} : ∀ i : Nat, (∀ k : Int, s ≤ k → k < s + i → 48 ≤ f k) → 0 ≤ fgF f s i
  | 0, _ => by simp [fgF]
  | i + 1, h => by
    have ih := fgF_0 (f := f) (s := s) i (fun k a b => h k a (by omega))
    have hk := h (s + i) (by omega) (by omega)
    simp only [fgF]; omega
theorem fig_eq {σ τ : Mem} (h : PP σ τ) (h2 : σ 3 5 = 2) : figR τ = nuT σ ∧ 0 ≤ nuT σ := by
  have ht := tok h (k := 3) (by omega)
  obtain ⟨⟨a7, a12, a13, a15, a16, a14, r14, a17⟩, hr, -, hd⟩ := h
  refine ⟨?_, fgF_0 _ (fun k a b => (hd h2 k a (by have := hr.2.1; omega)).1)⟩
  unfold figR nuT
  rw [if_pos (ht.mpr (by omega)), a7, a15, a16]
theorem num_sim {σ τ : Mem} {most : Int} (h : PP σ τ) : ((pnS σ most).1 = 1 ∧ PP (pnS σ most).2 (numM τ 0 most) ∧ (pnS σ most).2 3 6 = numR τ ∧ (0 ≤ numR τ ∧ numR τ ≤ most) ∧ (∀ q, q ≠ 0 → numM τ 0 most q = τ q)) ∨ ((pnS σ most).1 = 0 ∧ FF (pnS σ most).2 (numM τ 0 most)) := by
  have h17 := h.1.2.2.2.2.2.2.2
  have ht := tok h (k := 3) (by omega)
  have eR : numR τ = figR τ := by unfold numR; rw [if_neg (by omega)]
  have eM : numM τ 0 most = mustM (numX τ 0 most) (if numX τ 0 most 0 14 = 3 then 1 else 0) := by unfold numM; rw [if_neg (by omega)]
  rw [eM, eR]
  by_cases c : σ 3 5 = 2
  · obtain ⟨f1, f2⟩ := fig_eq h c
    have ct : τ 0 14 = 3 := ht.mpr (by omega)
    by_cases c2 : most < nuT σ
    · have eX : numX τ 0 most = badM τ 2 := by unfold numX; rw [if_pos ⟨ct, by omega⟩]
      have hf := FF_bad h (k := 2) (by decide)
      rw [eX, must_stay hf.2.2]
      have eP : pnS σ most = (0, wrM (mu σ 3 6 (nuT σ)) 2) := by unfold pnS; rw [if_neg (fun z => z c), if_pos c2]
      rw [eP]
      exact .inr ⟨rfl, hf⟩
    · have eX : numX τ 0 most = τ := by unfold numX; rw [if_neg (fun z => z.2 (by omega))]
      have hm := (must_sim (so := 1) (PP_26 (v := nuT σ) h (.inr rfl))).1 (by decide)
      rw [eX, if_pos ct]
      have eP : pnS σ most = (1, stM (mu σ 3 6 (nuT σ))) := by unfold pnS; rw [if_neg (fun z => z c), if_neg c2]
      rw [eP, f1]
      exact .inl ⟨rfl, hm.1, rfl, ⟨f2, by omega⟩, fun q hq => by rw [hm.2]; exact nxtM_c hq⟩
  · have ct : ¬ τ 0 14 = 3 := fun z => c (by have := ht.mp z; omega)
    have eX : numX τ 0 most = τ := by unfold numX; rw [if_neg (fun z => ct z.1)]
    have eP : pnS σ most = (0, wrM σ 1) := by unfold pnS; rw [if_pos c]
    rw [eX, if_neg ct, eP]
    exact .inr ⟨rfl, ((must_sim (so := 0) h).2 rfl).1⟩
theorem so_kin {σ τ : Mem} (h : PP σ τ) : soT σ = if kinB (namR τ) = -1000000 then 0 else kinB (namR τ) := by
  have w2 := nam_2 h
  have w3 := nam_3 h
  have w4 := nam_4 h
  have w5 := nam_5 h
  have w6 := nam_6 h
  have z2 := isW_01 (σ := σ) (w := 2)
  have z3 := isW_01 (σ := σ) (w := 3)
  have z4 := isW_01 (σ := σ) (w := 4)
  have z5 := isW_01 (σ := σ) (w := 5)
  have z6 := isW_01 (σ := σ) (w := 6)
  unfold soT kinB
  (repeat' split) <;> omega
/-! the town that is read -/
def TI (A A4 A8 A12 A16 A20 T : Int → Int) : Prop :=
  ((T 0 = A 0 ∧ T 1 = A 1 ∧ T 2 = A 2 ∧ T 3 = A 3) ∧ (∀ p : Int, 0 ≤ p → p < T 2 → T (4 + p) = A4 p ∧ 1 ≤ T (4 + p)) ∧ (∀ t : Int, 0 ≤ t → t < T 3 → T (12 + 6 * t + 4) = -1000000 ∧ ∀ p : Int, 0 ≤ p → p < T 2 → T (12 + 6 * t + p) - 30 = A12 (t * 4 + p))) ∧
  TW T ∧ (∀ p : Int, 0 ≤ p → p < 4 → A8 p = 0 ∧ T (8 + p) = 0) ∧ (∀ t : Int, 0 ≤ t → t < 5 → A16 t = -1000000 ∧ A20 t = 0 ∧ T (12 + 6 * t + 5) = 0) ∧ (∀ p : Int, 0 ≤ p → p < 4 → 0 ≤ A4 p ∧ A4 p ≤ 5) ∧ (∀ j : Int, 0 ≤ j → j < 20 → -30 ≤ A12 j ∧ A12 j ≤ 30)
def TIm (M τ : Mem) (a : Int) : Prop := TI (M a) (M (a + 4)) (M (a + 8)) (M (a + 12)) (M (a + 16)) (M (a + 20)) (τ 5)
theorem TI_law {A A4 A8 A12 A16 A20 T : Int → Int} {j v : Int} (h : TI A A4 A8 A12 A16 A20 T) (hj : (j = 0 ∧ 0 ≤ v ∧ v ≤ 3) ∨ (j = 1 ∧ 0 ≤ v ∧ v ≤ 20)) : TI (ru A j v) A4 A8 A12 A16 A20 (ru T j v) := by
  have n : ∀ k : Int, k ≠ j → ru T j v k = T k := fun k hk => if_neg hk
  have m : ∀ k : Int, k ≠ j → ru A j v k = A k := fun k hk => if_neg hk
  have s : ru T j v j = v := if_pos rfl
  have s' : ru A j v j = v := if_pos rfl
  obtain ⟨⟨⟨a0, a1, a2, a3⟩, b, c⟩, ⟨w0, w1, w2, w3, w4, w5, w6, w7⟩, d, e, f, g⟩ := h
  refine ⟨⟨⟨?_, ?_, ?_, ?_⟩, ?_, ?_⟩, ⟨?_, ?_, ?_, ?_, ?_, ?_, ?_, ?_⟩, ?_, ?_, f, g⟩
  · rcases hj with ⟨rfl, _⟩ | ⟨rfl, _⟩
    · rw [s, s']
    · rw [n 0 (by decide), m 0 (by decide)]; exact a0
  · rcases hj with ⟨rfl, _⟩ | ⟨rfl, _⟩
    · rw [n 1 (by decide), m 1 (by decide)]; exact a1
    · rw [s, s']
  · rw [n 2 (by omega), m 2 (by omega)]; exact a2
  · rw [n 3 (by omega), m 3 (by omega)]; exact a3
  · intro p p0 p1
    rw [n 2 (by omega)] at p1
    rw [n (4 + p) (by omega)]; exact b p p0 p1
  · intro t t0 t1
    rw [n 3 (by omega)] at t1
    rw [n (12 + 6 * t + 4) (by omega)]
    refine ⟨(c t t0 t1).1, fun p p0 p1 => ?_⟩
    rw [n 2 (by omega)] at p1
    rw [n (12 + 6 * t + p) (by omega)]; exact (c t t0 t1).2 p p0 p1
  · rcases hj with ⟨rfl, _⟩ | ⟨rfl, _⟩
    · rw [s]; omega
    · rw [n 0 (by decide)]; exact w0
  · rcases hj with ⟨rfl, _⟩ | ⟨rfl, _⟩
    · rw [n 1 (by decide)]; exact w1
    · rw [s]; omega
  · rw [n 2 (by omega)]; exact w2
  · rw [n 3 (by omega)]; exact w3
  · intro p p0 p1; rw [n (4 + p) (by omega)]; exact w4 p p0 p1
  · intro t p t0 t1 p0 p1; rw [n (12 + 6 * t + p) (by omega)]; exact w5 t p t0 t1 p0 p1
  · intro t t0 t1; rw [n (12 + 6 * t + 4) (by omega)]; exact w6 t t0 t1
  · intro t t0 t1; rw [n (12 + 6 * t + 5) (by omega)]; exact w7 t t0 t1
  · intro p p0 p1; rw [n (8 + p) (by omega)]; exact d p p0 p1
  · intro t t0 t1; rw [n (12 + 6 * t + 5) (by omega)]; exact e t t0 t1
theorem TI_person {A A4 A8 A12 A16 A20 T : Int → Int} {i v : Int} (h : TI A A4 A8 A12 A16 A20 T) (hi : T 2 = i ∧ 0 ≤ i ∧ i ≤ 3) (h3 : T 3 = 0) (hv : 1 ≤ v ∧ v ≤ 5) : TI (ru A 2 (i + 1)) (ru A4 i v) A8 A12 A16 A20 (ru (ru T (4 + i) v) 2 (i + 1)) := by
  have n : ∀ k : Int, k ≠ 4 + i → k ≠ 2 → ru (ru T (4 + i) v) 2 (i + 1) k = T k := fun k h1 h2 => (if_neg h2).trans (if_neg h1)
  have s2 : ru (ru T (4 + i) v) 2 (i + 1) 2 = i + 1 := if_pos rfl
  have s4 : ru (ru T (4 + i) v) 2 (i + 1) (4 + i) = v := (if_neg (by omega)).trans (if_pos rfl)
  have m : ∀ k : Int, k ≠ 2 → ru A 2 (i + 1) k = A k := fun k hk => if_neg hk
  have m2 : ru A 2 (i + 1) 2 = i + 1 := if_pos rfl
  have q4 : ∀ k : Int, k ≠ i → ru A4 i v k = A4 k := fun k hk => if_neg hk
  have q4s : ru A4 i v i = v := if_pos rfl
  obtain ⟨⟨⟨a0, a1, a2, a3⟩, b, c⟩, ⟨w0, w1, w2, w3, w4, w5, w6, w7⟩, d, e, f, g⟩ := h
  refine ⟨⟨⟨?_, ?_, ?_, ?_⟩, ?_, ?_⟩, ⟨?_, ?_, ?_, ?_, ?_, ?_, ?_, ?_⟩, ?_, ?_, ?_, g⟩
  · rw [n 0 (by omega) (by decide), m 0 (by decide)]; exact a0
  · rw [n 1 (by omega) (by decide), m 1 (by decide)]; exact a1
  · rw [s2, m2]
  · rw [n 3 (by omega) (by decide), m 3 (by decide)]; exact a3
  · intro p p0 p1
    rw [s2] at p1
    by_cases c1 : p = i
    · rw [c1, s4, q4s]; omega
    · rw [n (4 + p) (by omega) (by omega), q4 p c1]; exact b p p0 (by omega)
  · intro t t0 t1
    rw [n 3 (by omega) (by decide), h3] at t1; omega
  · rw [n 0 (by omega) (by decide)]; exact w0
  · rw [n 1 (by omega) (by decide)]; exact w1
  · rw [s2]; omega
  · rw [n 3 (by omega) (by decide)]; exact w3
  · intro p p0 p1
    by_cases c1 : p = i
    · rw [c1, s4]; omega
    · rw [n (4 + p) (by omega) (by omega)]; exact w4 p p0 p1
  · intro t p t0 t1 p0 p1; rw [n (12 + 6 * t + p) (by omega) (by omega)]; exact w5 t p t0 t1 p0 p1
  · intro t t0 t1; rw [n (12 + 6 * t + 4) (by omega) (by omega)]; exact w6 t t0 t1
  · intro t t0 t1; rw [n (12 + 6 * t + 5) (by omega) (by omega)]; exact w7 t t0 t1
  · intro p p0 p1; rw [n (8 + p) (by omega) (by omega)]; exact d p p0 p1
  · intro t t0 t1; rw [n (12 + 6 * t + 5) (by omega) (by omega)]; exact e t t0 t1
  · intro p p0 p1
    by_cases c1 : p = i
    · rw [c1, q4s]; omega
    · rw [q4 p c1]; exact f p p0 p1
theorem TI_num {A A4 A8 A12 A16 A20 T : Int → Int} {i p v : Int} (h : TI A A4 A8 A12 A16 A20 T) (hi : T 3 = i ∧ 0 ≤ i ∧ i ≤ 4) (hp : 0 ≤ p ∧ p < 4) (hv : 0 ≤ v ∧ v ≤ 60) : TI A A4 A8 (ru A12 (i * 4 + p) (v - 30)) A16 A20 (ru T (12 + 6 * i + p) v) := by
  have n : ∀ k : Int, k ≠ 12 + 6 * i + p → ru T (12 + 6 * i + p) v k = T k := fun k hk => if_neg hk
  have s : ru T (12 + 6 * i + p) v (12 + 6 * i + p) = v := if_pos rfl
  have m : ∀ k : Int, k ≠ i * 4 + p → ru A12 (i * 4 + p) (v - 30) k = A12 k := fun k hk => if_neg hk
  obtain ⟨⟨⟨a0, a1, a2, a3⟩, b, c⟩, ⟨w0, w1, w2, w3, w4, w5, w6, w7⟩, d, e, f, g⟩ := h
  refine ⟨⟨⟨?_, ?_, ?_, ?_⟩, ?_, ?_⟩, ⟨?_, ?_, ?_, ?_, ?_, ?_, ?_, ?_⟩, ?_, ?_, f, ?_⟩
  · rw [n 0 (by omega)]; exact a0
  · rw [n 1 (by omega)]; exact a1
  · rw [n 2 (by omega)]; exact a2
  · rw [n 3 (by omega)]; exact a3
  · intro q q0 q1
    rw [n 2 (by omega)] at q1
    rw [n (4 + q) (by omega)]; exact b q q0 q1
  · intro t t0 t1
    rw [n 3 (by omega)] at t1
    rw [n (12 + 6 * t + 4) (by omega)]
    refine ⟨(c t t0 t1).1, fun q q0 q1 => ?_⟩
    rw [n 2 (by omega)] at q1
    rw [n (12 + 6 * t + q) (by omega), m (t * 4 + q) (by omega)]; exact (c t t0 t1).2 q q0 q1
  · rw [n 0 (by omega)]; exact w0
  · rw [n 1 (by omega)]; exact w1
  · rw [n 2 (by omega)]; exact w2
  · rw [n 3 (by omega)]; exact w3
  · intro q q0 q1; rw [n (4 + q) (by omega)]; exact w4 q q0 q1
  · intro t q t0 t1 q0 q1
    by_cases c1 : 12 + 6 * t + q = 12 + 6 * i + p
    · rw [c1, s]; exact hv
    · rw [n _ c1]; exact w5 t q t0 t1 q0 q1
  · intro t t0 t1; rw [n (12 + 6 * t + 4) (by omega)]; exact w6 t t0 t1
  · intro t t0 t1; rw [n (12 + 6 * t + 5) (by omega)]; exact w7 t t0 t1
  · intro q q0 q1; rw [n (8 + q) (by omega)]; exact d q q0 q1
  · intro t t0 t1; rw [n (12 + 6 * t + 5) (by omega)]; exact e t t0 t1
  · intro j j0 j1
    by_cases c1 : j = i * 4 + p
    · rw [c1, show ru A12 (i * 4 + p) (v - 30) (i * 4 + p) = v - 30 from if_pos rfl]; omega
    · rw [m j c1]; exact g j j0 j1
theorem TI_thing {A A4 A8 A12 A16 A20 T : Int → Int} {i : Int} (h : TI A A4 A8 A12 A16 A20 T) (hi : T 3 = i ∧ 0 ≤ i ∧ i ≤ 4) (hn : ∀ p : Int, 0 ≤ p → p < T 2 → T (12 + 6 * i + p) - 30 = A12 (i * 4 + p)) : TI (ru A 3 (i + 1)) A4 A8 A12 A16 A20 (ru (ru (ru T (12 + 6 * i + 4) (-1000000)) (12 + 6 * i + 5) 0) 3 (i + 1)) := by
  have n : ∀ k : Int, k ≠ 12 + 6 * i + 4 → k ≠ 12 + 6 * i + 5 → k ≠ 3 → ru (ru (ru T (12 + 6 * i + 4) (-1000000)) (12 + 6 * i + 5) 0) 3 (i + 1) k = T k := fun k h1 h2 h3 => (if_neg h3).trans ((if_neg h2).trans (if_neg h1))
  have s3 : ru (ru (ru T (12 + 6 * i + 4) (-1000000)) (12 + 6 * i + 5) 0) 3 (i + 1) 3 = i + 1 := if_pos rfl
  have s4 : ru (ru (ru T (12 + 6 * i + 4) (-1000000)) (12 + 6 * i + 5) 0) 3 (i + 1) (12 + 6 * i + 4) = -1000000 := (if_neg (by omega)).trans ((if_neg (by omega)).trans (if_pos rfl))
  have s5 : ru (ru (ru T (12 + 6 * i + 4) (-1000000)) (12 + 6 * i + 5) 0) 3 (i + 1) (12 + 6 * i + 5) = 0 := (if_neg (by omega)).trans (if_pos rfl)
  have m : ∀ k : Int, k ≠ 3 → ru A 3 (i + 1) k = A k := fun k hk => if_neg hk
  have m3 : ru A 3 (i + 1) 3 = i + 1 := if_pos rfl
  obtain ⟨⟨⟨a0, a1, a2, a3⟩, b, c⟩, ⟨w0, w1, w2, w3, w4, w5, w6, w7⟩, d, e, f, g⟩ := h
  refine ⟨⟨⟨?_, ?_, ?_, ?_⟩, ?_, ?_⟩, ⟨?_, ?_, ?_, ?_, ?_, ?_, ?_, ?_⟩, ?_, ?_, f, g⟩
  · rw [n 0 (by omega) (by omega) (by decide), m 0 (by decide)]; exact a0
  · rw [n 1 (by omega) (by omega) (by decide), m 1 (by decide)]; exact a1
  · rw [n 2 (by omega) (by omega) (by decide), m 2 (by decide)]; exact a2
  · rw [s3, m3]
  · intro q q0 q1
    rw [n 2 (by omega) (by omega) (by decide)] at q1
    rw [n (4 + q) (by omega) (by omega) (by omega)]; exact b q q0 q1
  · intro t t0 t1
    rw [s3] at t1
    by_cases c1 : t = i
    · rw [c1, s4]
      refine ⟨rfl, fun q q0 q1 => ?_⟩
      rw [n 2 (by omega) (by omega) (by decide)] at q1
      rw [n (12 + 6 * i + q) (by omega) (by omega) (by omega)]; exact hn q q0 q1
    · rw [n (12 + 6 * t + 4) (by omega) (by omega) (by omega)]
      refine ⟨(c t t0 (by omega)).1, fun q q0 q1 => ?_⟩
      rw [n 2 (by omega) (by omega) (by decide)] at q1
      rw [n (12 + 6 * t + q) (by omega) (by omega) (by omega)]; exact (c t t0 (by omega)).2 q q0 q1
  · rw [n 0 (by omega) (by omega) (by decide)]; exact w0
  · rw [n 1 (by omega) (by omega) (by decide)]; exact w1
  · rw [n 2 (by omega) (by omega) (by decide)]; exact w2
  · rw [s3]; omega
  · intro q q0 q1; rw [n (4 + q) (by omega) (by omega) (by omega)]; exact w4 q q0 q1
  · intro t q t0 t1 q0 q1; rw [n (12 + 6 * t + q) (by omega) (by omega) (by omega)]; exact w5 t q t0 t1 q0 q1
  · intro t t0 t1
    by_cases c1 : t = i
    · rw [c1, s4]; omega
    · rw [n (12 + 6 * t + 4) (by omega) (by omega) (by omega)]; exact w6 t t0 t1
  · intro t t0 t1
    by_cases c1 : t = i
    · rw [c1, s5]; omega
    · rw [n (12 + 6 * t + 5) (by omega) (by omega) (by omega)]; exact w7 t t0 t1
  · intro q q0 q1; rw [n (8 + q) (by omega) (by omega) (by omega)]; exact d q q0 q1
  · intro t t0 t1
    by_cases c1 : t = i
    · rw [c1, s5]; exact ⟨(e i hi.2.1 (by omega)).1, (e i hi.2.1 (by omega)).2.1, rfl⟩
    · rw [n (12 + 6 * t + 5) (by omega) (by omega) (by omega)]; exact e t t0 t1
