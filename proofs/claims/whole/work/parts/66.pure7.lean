theorem naF_s {f : Int → Int} {s : Int} (hf : ∀ k : Int, 0 ≤ f k ∧ f k ≤ 255) : ∀ i : Nat, i ≤ 6 → (0 ≤ naF f s i ∧ naF f s i < 256 ^ i) ∧ naF f s (i + 1) = naF f s i * 256 + f (s + i)
  | 0, _ => by
    have h := hf (s + ((0 : Nat) : Int))
    refine ⟨⟨Int.le_refl 0, by show (0 : Int) < 1; decide⟩, ?_⟩
    show oOrL (oShlL 0 8) (f (s + ((0 : Nat) : Int))) = _
    rw [shl8 ⟨by omega, by omega⟩ ⟨h.1, by omega⟩]; rfl
  | i + 1, hi => by
    obtain ⟨⟨a, b⟩, c⟩ := naF_s hf (s := s) i (by omega)
    have h := hf (s + (i : Int))
    have h' := hf (s + ((i + 1 : Nat) : Int))
    have hb : (0 ≤ naF f s (i + 1) ∧ naF f s (i + 1) < 256 ^ (i + 1)) := by
      rw [c, Int.pow_succ]; omega
    have hp : (256 : Int) ^ (i + 1) ≤ 281474976710656 := by
      rcases (show i = 0 ∨ i = 1 ∨ i = 2 ∨ i = 3 ∨ i = 4 ∨ i = 5 by omega) with e | e | e | e | e | e <;> subst e <;> decide
    refine ⟨hb, ?_⟩
    show oOrL (oShlL (naF f s (i + 1)) 8) (f (s + ((i + 1 : Nat) : Int))) = _
    rw [shl8 ⟨by omega, by omega⟩ ⟨h'.1, by omega⟩]
theorem wmS_iff {f : Int → Int} {s : Int} {w : Nat} : ∀ i : Nat, wmS f s w i = 1 ↔ ∀ j : Nat, j < i → f (s + j) = chZ w j
  | 0 => ⟨fun _ j h => absurd h (by omega), fun _ => rfl⟩
  | i + 1 => by
    have ih := wmS_iff (f := f) (s := s) (w := w) i
    have h01 := wmS_01 (f := f) (s := s) (w := w) i
    simp only [wmS]
    constructor
    · intro h j hj
      by_cases c : wmS f s w i = 0
      · rw [if_pos c] at h; omega
      · rw [if_neg c] at h
        by_cases c2 : f (s + i) = chZ w i
        · by_cases e : j = i
          · rw [e]; exact c2
          · exact ih.mp (by omega) j (by omega)
        · rw [if_neg c2] at h; omega
    · intro h
      have h1 := ih.mpr (fun j hj => h j (by omega))
      rw [if_neg (by omega), if_pos (h i (by omega))]
/-- what the reference packs of a name -/
theorem nam_n {σ τ : Mem} (h : PP σ τ) : namR τ = if σ 3 5 = 1 ∧ σ 3 4 - σ 3 3 < 8 then naF (σ 4) (σ 3 3) (σ 3 4 - σ 3 3).toNat else 0 := by
  obtain ⟨⟨a7, a12, a13, a15, a16, a14, r14, a17⟩, -⟩ := h
  have e : τ 0 14 = 2 ↔ σ 3 5 = 1 := by rw [← a14]; unfold tkC; split <;> omega
  unfold namR
  rw [if_pos a17, a7, a15, a16]
  by_cases c : σ 3 5 = 1 ∧ σ 3 4 - σ 3 3 < 8
  · rw [if_pos c, if_pos ⟨e.mpr c.1, c.2⟩]
  · rw [if_neg c, if_neg (fun z => c ⟨e.mp z.1, z.2⟩)]
theorem nam_0 {σ τ : Mem} (h : PP σ τ) : isW σ 0 = 1 ↔ namR τ = 7102839 := by
  have hn := nam_n h
  obtain ⟨-, hr, hl, -⟩ := h
  have hb := hr.1.1
  have h33 := hr.2.1
  unfold isW
  by_cases c : σ 3 5 = 1
  · rw [if_neg (fun z => z c)]
    have hl := hl c
    by_cases c8 : σ 3 4 - σ 3 3 < 8
    · rw [if_pos ⟨c, c8⟩] at hn
      rw [hn]
      have n0 := naF_s (s := σ 3 3) hb 0 (by decide)
      have n1 := naF_s (s := σ 3 3) hb 1 (by decide)
      have n2 := naF_s (s := σ 3 3) hb 2 (by decide)
      have n3 := naF_s (s := σ 3 3) hb 3 (by decide)
      have n4 := naF_s (s := σ 3 3) hb 4 (by decide)
      have n5 := naF_s (s := σ 3 3) hb 5 (by decide)
      have n6 := naF_s (s := σ 3 3) hb 6 (by decide)
      have z0 : naF (σ 4) (σ 3 3) 0 = 0 := rfl
      have l0 : ∀ j : Int, 0 ≤ j → j < σ 3 4 - σ 3 3 → 97 ≤ σ 4 (σ 3 3 + j) ∧ σ 4 (σ 3 3 + j) ≤ 122 := fun j a b => hl _ (by omega) (by omega)
      obtain ⟨L, hL⟩ : ∃ L : Nat, σ 3 4 - σ 3 3 = L := ⟨(σ 3 4 - σ 3 3).toNat, by omega⟩
      rw [hL] at c8 l0 ⊢
      rw [Int.toNat_natCast]
      rcases (show L = 0 ∨ L = 1 ∨ L = 2 ∨ L = 3 ∨ L = 4 ∨ L = 5 ∨ L = 6 ∨ L = 7 by omega) with e | e | e | e | e | e | e | e <;> subst e
      · rw [if_pos (by decide)]
        constructor <;> intro hz <;> omega
      · rw [if_pos (by decide)]
        have x0 := l0 0 (by decide) (by decide)
        have m0 : naF (σ 4) (σ 3 3) 1 = naF (σ 4) (σ 3 3) 0 * 256 + σ 4 (σ 3 3 + 0) := n0.2
        constructor <;> intro hz <;> omega
      · rw [if_pos (by decide)]
        have x0 := l0 0 (by decide) (by decide)
        have x1 := l0 1 (by decide) (by decide)
        have m0 : naF (σ 4) (σ 3 3) 1 = naF (σ 4) (σ 3 3) 0 * 256 + σ 4 (σ 3 3 + 0) := n0.2
        have m1 : naF (σ 4) (σ 3 3) 2 = naF (σ 4) (σ 3 3) 1 * 256 + σ 4 (σ 3 3 + 1) := n1.2
        constructor <;> intro hz <;> omega
      · rw [if_neg (fun z => z (by decide))]
        have hi := wmS_iff (f := σ 4) (s := σ 3 3) (w := 0) 3
        have x0 := l0 0 (by decide) (by decide)
        have x1 := l0 1 (by decide) (by decide)
        have x2 := l0 2 (by decide) (by decide)
        show wmS (σ 4) (σ 3 3) 0 3 = 1 ↔ _
        rw [hi]
        have m0 := n0.2
        have m1 : naF (σ 4) (σ 3 3) 2 = naF (σ 4) (σ 3 3) 1 * 256 + σ 4 (σ 3 3 + 1) := n1.2
        have m2 : naF (σ 4) (σ 3 3) 3 = naF (σ 4) (σ 3 3) 2 * 256 + σ 4 (σ 3 3 + 2) := n2.2
        have m0 : naF (σ 4) (σ 3 3) 1 = naF (σ 4) (σ 3 3) 0 * 256 + σ 4 (σ 3 3 + 0) := n0.2
        constructor
        · intro hz
          have y0 : σ 4 (σ 3 3 + 0) = 108 := hz 0 (by decide)
          have y1 : σ 4 (σ 3 3 + 1) = 97 := hz 1 (by decide)
          have y2 : σ 4 (σ 3 3 + 2) = 119 := hz 2 (by decide)
          omega
        · intro hz j hj
          rcases (show j = 0 ∨ j = 1 ∨ j = 2 by omega) with e | e | e <;> subst e
          · show σ 4 (σ 3 3 + 0) = 108; omega
          · show σ 4 (σ 3 3 + 1) = 97; omega
          · show σ 4 (σ 3 3 + 2) = 119; omega
      · rw [if_pos (by decide)]
        have x0 := l0 0 (by decide) (by decide)
        have x1 := l0 1 (by decide) (by decide)
        have x2 := l0 2 (by decide) (by decide)
        have x3 := l0 3 (by decide) (by decide)
        have m0 : naF (σ 4) (σ 3 3) 1 = naF (σ 4) (σ 3 3) 0 * 256 + σ 4 (σ 3 3 + 0) := n0.2
        have m1 : naF (σ 4) (σ 3 3) 2 = naF (σ 4) (σ 3 3) 1 * 256 + σ 4 (σ 3 3 + 1) := n1.2
        have m2 : naF (σ 4) (σ 3 3) 3 = naF (σ 4) (σ 3 3) 2 * 256 + σ 4 (σ 3 3 + 2) := n2.2
        have m3 : naF (σ 4) (σ 3 3) 4 = naF (σ 4) (σ 3 3) 3 * 256 + σ 4 (σ 3 3 + 3) := n3.2
        constructor <;> intro hz <;> omega
      · rw [if_pos (by decide)]
        have x0 := l0 0 (by decide) (by decide)
        have x1 := l0 1 (by decide) (by decide)
        have x2 := l0 2 (by decide) (by decide)
        have x3 := l0 3 (by decide) (by decide)
        have x4 := l0 4 (by decide) (by decide)
        have m0 : naF (σ 4) (σ 3 3) 1 = naF (σ 4) (σ 3 3) 0 * 256 + σ 4 (σ 3 3 + 0) := n0.2
        have m1 : naF (σ 4) (σ 3 3) 2 = naF (σ 4) (σ 3 3) 1 * 256 + σ 4 (σ 3 3 + 1) := n1.2
        have m2 : naF (σ 4) (σ 3 3) 3 = naF (σ 4) (σ 3 3) 2 * 256 + σ 4 (σ 3 3 + 2) := n2.2
        have m3 : naF (σ 4) (σ 3 3) 4 = naF (σ 4) (σ 3 3) 3 * 256 + σ 4 (σ 3 3 + 3) := n3.2
        have m4 : naF (σ 4) (σ 3 3) 5 = naF (σ 4) (σ 3 3) 4 * 256 + σ 4 (σ 3 3 + 4) := n4.2
        constructor <;> intro hz <;> omega
      · rw [if_pos (by decide)]
        have x0 := l0 0 (by decide) (by decide)
        have x1 := l0 1 (by decide) (by decide)
        have x2 := l0 2 (by decide) (by decide)
        have x3 := l0 3 (by decide) (by decide)
        have x4 := l0 4 (by decide) (by decide)
        have x5 := l0 5 (by decide) (by decide)
        have m0 : naF (σ 4) (σ 3 3) 1 = naF (σ 4) (σ 3 3) 0 * 256 + σ 4 (σ 3 3 + 0) := n0.2
        have m1 : naF (σ 4) (σ 3 3) 2 = naF (σ 4) (σ 3 3) 1 * 256 + σ 4 (σ 3 3 + 1) := n1.2
        have m2 : naF (σ 4) (σ 3 3) 3 = naF (σ 4) (σ 3 3) 2 * 256 + σ 4 (σ 3 3 + 2) := n2.2
        have m3 : naF (σ 4) (σ 3 3) 4 = naF (σ 4) (σ 3 3) 3 * 256 + σ 4 (σ 3 3 + 3) := n3.2
        have m4 : naF (σ 4) (σ 3 3) 5 = naF (σ 4) (σ 3 3) 4 * 256 + σ 4 (σ 3 3 + 4) := n4.2
        have m5 : naF (σ 4) (σ 3 3) 6 = naF (σ 4) (σ 3 3) 5 * 256 + σ 4 (σ 3 3 + 5) := n5.2
        constructor <;> intro hz <;> omega
      · rw [if_pos (by decide)]
        have x0 := l0 0 (by decide) (by decide)
        have x1 := l0 1 (by decide) (by decide)
        have x2 := l0 2 (by decide) (by decide)
        have x3 := l0 3 (by decide) (by decide)
        have x4 := l0 4 (by decide) (by decide)
        have x5 := l0 5 (by decide) (by decide)
        have x6 := l0 6 (by decide) (by decide)
        have m0 : naF (σ 4) (σ 3 3) 1 = naF (σ 4) (σ 3 3) 0 * 256 + σ 4 (σ 3 3 + 0) := n0.2
        have m1 : naF (σ 4) (σ 3 3) 2 = naF (σ 4) (σ 3 3) 1 * 256 + σ 4 (σ 3 3 + 1) := n1.2
        have m2 : naF (σ 4) (σ 3 3) 3 = naF (σ 4) (σ 3 3) 2 * 256 + σ 4 (σ 3 3 + 2) := n2.2
        have m3 : naF (σ 4) (σ 3 3) 4 = naF (σ 4) (σ 3 3) 3 * 256 + σ 4 (σ 3 3 + 3) := n3.2
        have m4 : naF (σ 4) (σ 3 3) 5 = naF (σ 4) (σ 3 3) 4 * 256 + σ 4 (σ 3 3 + 4) := n4.2
        have m5 : naF (σ 4) (σ 3 3) 6 = naF (σ 4) (σ 3 3) 5 * 256 + σ 4 (σ 3 3 + 5) := n5.2
        have m6 : naF (σ 4) (σ 3 3) 7 = naF (σ 4) (σ 3 3) 6 * 256 + σ 4 (σ 3 3 + 6) := n6.2
        constructor <;> intro hz <;> omega
    · rw [if_neg (fun z => c8 z.2)] at hn
      rw [hn, if_pos (by show ¬ σ 3 4 - σ 3 3 = ((3 : Nat) : Int); omega)]
      constructor <;> intro hz <;> omega
  · rw [if_neg (fun z => c z.1)] at hn
    rw [hn, if_pos c]
    constructor <;> intro hz <;> omega
theorem nam_1 {σ τ : Mem} (h : PP σ τ) : isW σ 1 = 1 ↔ namR τ = 123581014175598 := by
  have hn := nam_n h
  obtain ⟨-, hr, hl, -⟩ := h
  have hb := hr.1.1
  have h33 := hr.2.1
  unfold isW
  by_cases c : σ 3 5 = 1
  · rw [if_neg (fun z => z c)]
    have hl := hl c
    by_cases c8 : σ 3 4 - σ 3 3 < 8
    · rw [if_pos ⟨c, c8⟩] at hn
      rw [hn]
      have n0 := naF_s (s := σ 3 3) hb 0 (by decide)
      have n1 := naF_s (s := σ 3 3) hb 1 (by decide)
      have n2 := naF_s (s := σ 3 3) hb 2 (by decide)
      have n3 := naF_s (s := σ 3 3) hb 3 (by decide)
      have n4 := naF_s (s := σ 3 3) hb 4 (by decide)
      have n5 := naF_s (s := σ 3 3) hb 5 (by decide)
      have n6 := naF_s (s := σ 3 3) hb 6 (by decide)
      have z0 : naF (σ 4) (σ 3 3) 0 = 0 := rfl
      have l0 : ∀ j : Int, 0 ≤ j → j < σ 3 4 - σ 3 3 → 97 ≤ σ 4 (σ 3 3 + j) ∧ σ 4 (σ 3 3 + j) ≤ 122 := fun j a b => hl _ (by omega) (by omega)
      obtain ⟨L, hL⟩ : ∃ L : Nat, σ 3 4 - σ 3 3 = L := ⟨(σ 3 4 - σ 3 3).toNat, by omega⟩
      rw [hL] at c8 l0 ⊢
      rw [Int.toNat_natCast]
      rcases (show L = 0 ∨ L = 1 ∨ L = 2 ∨ L = 3 ∨ L = 4 ∨ L = 5 ∨ L = 6 ∨ L = 7 by omega) with e | e | e | e | e | e | e | e <;> subst e
      · rw [if_pos (by decide)]
        constructor <;> intro hz <;> omega
      · rw [if_pos (by decide)]
        have x0 := l0 0 (by decide) (by decide)
        have m0 : naF (σ 4) (σ 3 3) 1 = naF (σ 4) (σ 3 3) 0 * 256 + σ 4 (σ 3 3 + 0) := n0.2
        constructor <;> intro hz <;> omega
      · rw [if_pos (by decide)]
        have x0 := l0 0 (by decide) (by decide)
        have x1 := l0 1 (by decide) (by decide)
        have m0 : naF (σ 4) (σ 3 3) 1 = naF (σ 4) (σ 3 3) 0 * 256 + σ 4 (σ 3 3 + 0) := n0.2
        have m1 : naF (σ 4) (σ 3 3) 2 = naF (σ 4) (σ 3 3) 1 * 256 + σ 4 (σ 3 3 + 1) := n1.2
        constructor <;> intro hz <;> omega
      · rw [if_pos (by decide)]
        have x0 := l0 0 (by decide) (by decide)
        have x1 := l0 1 (by decide) (by decide)
        have x2 := l0 2 (by decide) (by decide)
        have m0 : naF (σ 4) (σ 3 3) 1 = naF (σ 4) (σ 3 3) 0 * 256 + σ 4 (σ 3 3 + 0) := n0.2
        have m1 : naF (σ 4) (σ 3 3) 2 = naF (σ 4) (σ 3 3) 1 * 256 + σ 4 (σ 3 3 + 1) := n1.2
        have m2 : naF (σ 4) (σ 3 3) 3 = naF (σ 4) (σ 3 3) 2 * 256 + σ 4 (σ 3 3 + 2) := n2.2
        constructor <;> intro hz <;> omega
      · rw [if_pos (by decide)]
        have x0 := l0 0 (by decide) (by decide)
        have x1 := l0 1 (by decide) (by decide)
        have x2 := l0 2 (by decide) (by decide)
        have x3 := l0 3 (by decide) (by decide)
        have m0 : naF (σ 4) (σ 3 3) 1 = naF (σ 4) (σ 3 3) 0 * 256 + σ 4 (σ 3 3 + 0) := n0.2
        have m1 : naF (σ 4) (σ 3 3) 2 = naF (σ 4) (σ 3 3) 1 * 256 + σ 4 (σ 3 3 + 1) := n1.2
        have m2 : naF (σ 4) (σ 3 3) 3 = naF (σ 4) (σ 3 3) 2 * 256 + σ 4 (σ 3 3 + 2) := n2.2
        have m3 : naF (σ 4) (σ 3 3) 4 = naF (σ 4) (σ 3 3) 3 * 256 + σ 4 (σ 3 3 + 3) := n3.2
        constructor <;> intro hz <;> omega
      · rw [if_pos (by decide)]
        have x0 := l0 0 (by decide) (by decide)
        have x1 := l0 1 (by decide) (by decide)
        have x2 := l0 2 (by decide) (by decide)
        have x3 := l0 3 (by decide) (by decide)
        have x4 := l0 4 (by decide) (by decide)
        have m0 : naF (σ 4) (σ 3 3) 1 = naF (σ 4) (σ 3 3) 0 * 256 + σ 4 (σ 3 3 + 0) := n0.2
        have m1 : naF (σ 4) (σ 3 3) 2 = naF (σ 4) (σ 3 3) 1 * 256 + σ 4 (σ 3 3 + 1) := n1.2
        have m2 : naF (σ 4) (σ 3 3) 3 = naF (σ 4) (σ 3 3) 2 * 256 + σ 4 (σ 3 3 + 2) := n2.2
        have m3 : naF (σ 4) (σ 3 3) 4 = naF (σ 4) (σ 3 3) 3 * 256 + σ 4 (σ 3 3 + 3) := n3.2
        have m4 : naF (σ 4) (σ 3 3) 5 = naF (σ 4) (σ 3 3) 4 * 256 + σ 4 (σ 3 3 + 4) := n4.2
        constructor <;> intro hz <;> omega
      · rw [if_neg (fun z => z (by decide))]
        have hi := wmS_iff (f := σ 4) (s := σ 3 3) (w := 1) 6
        have x0 := l0 0 (by decide) (by decide)
        have x1 := l0 1 (by decide) (by decide)
        have x2 := l0 2 (by decide) (by decide)
        have x3 := l0 3 (by decide) (by decide)
        have x4 := l0 4 (by decide) (by decide)
        have x5 := l0 5 (by decide) (by decide)
        show wmS (σ 4) (σ 3 3) 1 6 = 1 ↔ _
        rw [hi]
        have m0 := n0.2
        have m1 : naF (σ 4) (σ 3 3) 2 = naF (σ 4) (σ 3 3) 1 * 256 + σ 4 (σ 3 3 + 1) := n1.2
        have m2 : naF (σ 4) (σ 3 3) 3 = naF (σ 4) (σ 3 3) 2 * 256 + σ 4 (σ 3 3 + 2) := n2.2
        have m3 : naF (σ 4) (σ 3 3) 4 = naF (σ 4) (σ 3 3) 3 * 256 + σ 4 (σ 3 3 + 3) := n3.2
        have m4 : naF (σ 4) (σ 3 3) 5 = naF (σ 4) (σ 3 3) 4 * 256 + σ 4 (σ 3 3 + 4) := n4.2
        have m5 : naF (σ 4) (σ 3 3) 6 = naF (σ 4) (σ 3 3) 5 * 256 + σ 4 (σ 3 3 + 5) := n5.2
        have m0 : naF (σ 4) (σ 3 3) 1 = naF (σ 4) (σ 3 3) 0 * 256 + σ 4 (σ 3 3 + 0) := n0.2
        constructor
        · intro hz
          have y0 : σ 4 (σ 3 3 + 0) = 112 := hz 0 (by decide)
          have y1 : σ 4 (σ 3 3 + 1) = 101 := hz 1 (by decide)
          have y2 : σ 4 (σ 3 3 + 2) = 114 := hz 2 (by decide)
          have y3 : σ 4 (σ 3 3 + 3) = 115 := hz 3 (by decide)
          have y4 : σ 4 (σ 3 3 + 4) = 111 := hz 4 (by decide)
          have y5 : σ 4 (σ 3 3 + 5) = 110 := hz 5 (by decide)
          omega
        · intro hz j hj
          rcases (show j = 0 ∨ j = 1 ∨ j = 2 ∨ j = 3 ∨ j = 4 ∨ j = 5 by omega) with e | e | e | e | e | e <;> subst e
          · show σ 4 (σ 3 3 + 0) = 112; omega
          · show σ 4 (σ 3 3 + 1) = 101; omega
          · show σ 4 (σ 3 3 + 2) = 114; omega
          · show σ 4 (σ 3 3 + 3) = 115; omega
          · show σ 4 (σ 3 3 + 4) = 111; omega
          · show σ 4 (σ 3 3 + 5) = 110; omega
      · rw [if_pos (by decide)]
        have x0 := l0 0 (by decide) (by decide)
        have x1 := l0 1 (by decide) (by decide)
        have x2 := l0 2 (by decide) (by decide)
        have x3 := l0 3 (by decide) (by decide)
        have x4 := l0 4 (by decide) (by decide)
        have x5 := l0 5 (by decide) (by decide)
        have x6 := l0 6 (by decide) (by decide)
        have m0 : naF (σ 4) (σ 3 3) 1 = naF (σ 4) (σ 3 3) 0 * 256 + σ 4 (σ 3 3 + 0) := n0.2
        have m1 : naF (σ 4) (σ 3 3) 2 = naF (σ 4) (σ 3 3) 1 * 256 + σ 4 (σ 3 3 + 1) := n1.2
        have m2 : naF (σ 4) (σ 3 3) 3 = naF (σ 4) (σ 3 3) 2 * 256 + σ 4 (σ 3 3 + 2) := n2.2
        have m3 : naF (σ 4) (σ 3 3) 4 = naF (σ 4) (σ 3 3) 3 * 256 + σ 4 (σ 3 3 + 3) := n3.2
        have m4 : naF (σ 4) (σ 3 3) 5 = naF (σ 4) (σ 3 3) 4 * 256 + σ 4 (σ 3 3 + 4) := n4.2
        have m5 : naF (σ 4) (σ 3 3) 6 = naF (σ 4) (σ 3 3) 5 * 256 + σ 4 (σ 3 3 + 5) := n5.2
        have m6 : naF (σ 4) (σ 3 3) 7 = naF (σ 4) (σ 3 3) 6 * 256 + σ 4 (σ 3 3 + 6) := n6.2
        constructor <;> intro hz <;> omega
    · rw [if_neg (fun z => c8 z.2)] at hn
      rw [hn, if_pos (by show ¬ σ 3 4 - σ 3 3 = ((6 : Nat) : Int); omega)]
      constructor <;> intro hz <;> omega
  · rw [if_neg (fun z => c z.1)] at hn
    rw [hn, if_pos c]
    constructor <;> intro hz <;> omega
theorem nam_2 {σ τ : Mem} (h : PP σ τ) : isW σ 2 = 1 ↔ namR τ = 1953658213 := by
  have hn := nam_n h
  obtain ⟨-, hr, hl, -⟩ := h
  have hb := hr.1.1
  have h33 := hr.2.1
  unfold isW
  by_cases c : σ 3 5 = 1
  · rw [if_neg (fun z => z c)]
    have hl := hl c
    by_cases c8 : σ 3 4 - σ 3 3 < 8
    · rw [if_pos ⟨c, c8⟩] at hn
      rw [hn]
      have n0 := naF_s (s := σ 3 3) hb 0 (by decide)
      have n1 := naF_s (s := σ 3 3) hb 1 (by decide)
      have n2 := naF_s (s := σ 3 3) hb 2 (by decide)
      have n3 := naF_s (s := σ 3 3) hb 3 (by decide)
      have n4 := naF_s (s := σ 3 3) hb 4 (by decide)
      have n5 := naF_s (s := σ 3 3) hb 5 (by decide)
      have n6 := naF_s (s := σ 3 3) hb 6 (by decide)
      have z0 : naF (σ 4) (σ 3 3) 0 = 0 := rfl
      have l0 : ∀ j : Int, 0 ≤ j → j < σ 3 4 - σ 3 3 → 97 ≤ σ 4 (σ 3 3 + j) ∧ σ 4 (σ 3 3 + j) ≤ 122 := fun j a b => hl _ (by omega) (by omega)
      obtain ⟨L, hL⟩ : ∃ L : Nat, σ 3 4 - σ 3 3 = L := ⟨(σ 3 4 - σ 3 3).toNat, by omega⟩
      rw [hL] at c8 l0 ⊢
      rw [Int.toNat_natCast]
      rcases (show L = 0 ∨ L = 1 ∨ L = 2 ∨ L = 3 ∨ L = 4 ∨ L = 5 ∨ L = 6 ∨ L = 7 by omega) with e | e | e | e | e | e | e | e <;> subst e
      · rw [if_pos (by decide)]
        constructor <;> intro hz <;> omega
      · rw [if_pos (by decide)]
        have x0 := l0 0 (by decide) (by decide)
        have m0 : naF (σ 4) (σ 3 3) 1 = naF (σ 4) (σ 3 3) 0 * 256 + σ 4 (σ 3 3 + 0) := n0.2
        constructor <;> intro hz <;> omega
      · rw [if_pos (by decide)]
        have x0 := l0 0 (by decide) (by decide)
        have x1 := l0 1 (by decide) (by decide)
        have m0 : naF (σ 4) (σ 3 3) 1 = naF (σ 4) (σ 3 3) 0 * 256 + σ 4 (σ 3 3 + 0) := n0.2
        have m1 : naF (σ 4) (σ 3 3) 2 = naF (σ 4) (σ 3 3) 1 * 256 + σ 4 (σ 3 3 + 1) := n1.2
        constructor <;> intro hz <;> omega
      · rw [if_pos (by decide)]
        have x0 := l0 0 (by decide) (by decide)
        have x1 := l0 1 (by decide) (by decide)
        have x2 := l0 2 (by decide) (by decide)
        have m0 : naF (σ 4) (σ 3 3) 1 = naF (σ 4) (σ 3 3) 0 * 256 + σ 4 (σ 3 3 + 0) := n0.2
        have m1 : naF (σ 4) (σ 3 3) 2 = naF (σ 4) (σ 3 3) 1 * 256 + σ 4 (σ 3 3 + 1) := n1.2
        have m2 : naF (σ 4) (σ 3 3) 3 = naF (σ 4) (σ 3 3) 2 * 256 + σ 4 (σ 3 3 + 2) := n2.2
        constructor <;> intro hz <;> omega
      · rw [if_neg (fun z => z (by decide))]
        have hi := wmS_iff (f := σ 4) (s := σ 3 3) (w := 2) 4
        have x0 := l0 0 (by decide) (by decide)
        have x1 := l0 1 (by decide) (by decide)
        have x2 := l0 2 (by decide) (by decide)
        have x3 := l0 3 (by decide) (by decide)
        show wmS (σ 4) (σ 3 3) 2 4 = 1 ↔ _
        rw [hi]
        have m0 := n0.2
        have m1 : naF (σ 4) (σ 3 3) 2 = naF (σ 4) (σ 3 3) 1 * 256 + σ 4 (σ 3 3 + 1) := n1.2
        have m2 : naF (σ 4) (σ 3 3) 3 = naF (σ 4) (σ 3 3) 2 * 256 + σ 4 (σ 3 3 + 2) := n2.2
        have m3 : naF (σ 4) (σ 3 3) 4 = naF (σ 4) (σ 3 3) 3 * 256 + σ 4 (σ 3 3 + 3) := n3.2
        have m0 : naF (σ 4) (σ 3 3) 1 = naF (σ 4) (σ 3 3) 0 * 256 + σ 4 (σ 3 3 + 0) := n0.2
        constructor
        · intro hz
          have y0 : σ 4 (σ 3 3 + 0) = 116 := hz 0 (by decide)
          have y1 : σ 4 (σ 3 3 + 1) = 114 := hz 1 (by decide)
          have y2 : σ 4 (σ 3 3 + 2) = 117 := hz 2 (by decide)
          have y3 : σ 4 (σ 3 3 + 3) = 101 := hz 3 (by decide)
          omega
        · intro hz j hj
          rcases (show j = 0 ∨ j = 1 ∨ j = 2 ∨ j = 3 by omega) with e | e | e | e <;> subst e
          · show σ 4 (σ 3 3 + 0) = 116; omega
          · show σ 4 (σ 3 3 + 1) = 114; omega
          · show σ 4 (σ 3 3 + 2) = 117; omega
          · show σ 4 (σ 3 3 + 3) = 101; omega
      · rw [if_pos (by decide)]
        have x0 := l0 0 (by decide) (by decide)
        have x1 := l0 1 (by decide) (by decide)
        have x2 := l0 2 (by decide) (by decide)
        have x3 := l0 3 (by decide) (by decide)
        have x4 := l0 4 (by decide) (by decide)
        have m0 : naF (σ 4) (σ 3 3) 1 = naF (σ 4) (σ 3 3) 0 * 256 + σ 4 (σ 3 3 + 0) := n0.2
        have m1 : naF (σ 4) (σ 3 3) 2 = naF (σ 4) (σ 3 3) 1 * 256 + σ 4 (σ 3 3 + 1) := n1.2
        have m2 : naF (σ 4) (σ 3 3) 3 = naF (σ 4) (σ 3 3) 2 * 256 + σ 4 (σ 3 3 + 2) := n2.2
        have m3 : naF (σ 4) (σ 3 3) 4 = naF (σ 4) (σ 3 3) 3 * 256 + σ 4 (σ 3 3 + 3) := n3.2
        have m4 : naF (σ 4) (σ 3 3) 5 = naF (σ 4) (σ 3 3) 4 * 256 + σ 4 (σ 3 3 + 4) := n4.2
        constructor <;> intro hz <;> omega
      · rw [if_pos (by decide)]
        have x0 := l0 0 (by decide) (by decide)
        have x1 := l0 1 (by decide) (by decide)
        have x2 := l0 2 (by decide) (by decide)
        have x3 := l0 3 (by decide) (by decide)
        have x4 := l0 4 (by decide) (by decide)
        have x5 := l0 5 (by decide) (by decide)
        have m0 : naF (σ 4) (σ 3 3) 1 = naF (σ 4) (σ 3 3) 0 * 256 + σ 4 (σ 3 3 + 0) := n0.2
        have m1 : naF (σ 4) (σ 3 3) 2 = naF (σ 4) (σ 3 3) 1 * 256 + σ 4 (σ 3 3 + 1) := n1.2
        have m2 : naF (σ 4) (σ 3 3) 3 = naF (σ 4) (σ 3 3) 2 * 256 + σ 4 (σ 3 3 + 2) := n2.2
        have m3 : naF (σ 4) (σ 3 3) 4 = naF (σ 4) (σ 3 3) 3 * 256 + σ 4 (σ 3 3 + 3) := n3.2
        have m4 : naF (σ 4) (σ 3 3) 5 = naF (σ 4) (σ 3 3) 4 * 256 + σ 4 (σ 3 3 + 4) := n4.2
        have m5 : naF (σ 4) (σ 3 3) 6 = naF (σ 4) (σ 3 3) 5 * 256 + σ 4 (σ 3 3 + 5) := n5.2
        constructor <;> intro hz <;> omega
      · rw [if_pos (by decide)]
        have x0 := l0 0 (by decide) (by decide)
        have x1 := l0 1 (by decide) (by decide)
        have x2 := l0 2 (by decide) (by decide)
        have x3 := l0 3 (by decide) (by decide)
        have x4 := l0 4 (by decide) (by decide)
        have x5 := l0 5 (by decide) (by decide)
        have x6 := l0 6 (by decide) (by decide)
        have m0 : naF (σ 4) (σ 3 3) 1 = naF (σ 4) (σ 3 3) 0 * 256 + σ 4 (σ 3 3 + 0) := n0.2
        have m1 : naF (σ 4) (σ 3 3) 2 = naF (σ 4) (σ 3 3) 1 * 256 + σ 4 (σ 3 3 + 1) := n1.2
        have m2 : naF (σ 4) (σ 3 3) 3 = naF (σ 4) (σ 3 3) 2 * 256 + σ 4 (σ 3 3 + 2) := n2.2
        have m3 : naF (σ 4) (σ 3 3) 4 = naF (σ 4) (σ 3 3) 3 * 256 + σ 4 (σ 3 3 + 3) := n3.2
        have m4 : naF (σ 4) (σ 3 3) 5 = naF (σ 4) (σ 3 3) 4 * 256 + σ 4 (σ 3 3 + 4) := n4.2
        have m5 : naF (σ 4) (σ 3 3) 6 = naF (σ 4) (σ 3 3) 5 * 256 + σ 4 (σ 3 3 + 5) := n5.2
        have m6 : naF (σ 4) (σ 3 3) 7 = naF (σ 4) (σ 3 3) 6 * 256 + σ 4 (σ 3 3 + 6) := n6.2
        constructor <;> intro hz <;> omega
    · rw [if_neg (fun z => c8 z.2)] at hn
      rw [hn, if_pos (by show ¬ σ 3 4 - σ 3 3 = ((4 : Nat) : Int); omega)]
      constructor <;> intro hz <;> omega
  · rw [if_neg (fun z => c z.1)] at hn
    rw [hn, if_pos c]
    constructor <;> intro hz <;> omega
theorem nam_3 {σ τ : Mem} (h : PP σ τ) : isW σ 3 = 1 ↔ namR τ = 7564409 := by
  have hn := nam_n h
  obtain ⟨-, hr, hl, -⟩ := h
  have hb := hr.1.1
  have h33 := hr.2.1
  unfold isW
  by_cases c : σ 3 5 = 1
  · rw [if_neg (fun z => z c)]
    have hl := hl c
    by_cases c8 : σ 3 4 - σ 3 3 < 8
    · rw [if_pos ⟨c, c8⟩] at hn
      rw [hn]
      have n0 := naF_s (s := σ 3 3) hb 0 (by decide)
      have n1 := naF_s (s := σ 3 3) hb 1 (by decide)
      have n2 := naF_s (s := σ 3 3) hb 2 (by decide)
      have n3 := naF_s (s := σ 3 3) hb 3 (by decide)
      have n4 := naF_s (s := σ 3 3) hb 4 (by decide)
      have n5 := naF_s (s := σ 3 3) hb 5 (by decide)
      have n6 := naF_s (s := σ 3 3) hb 6 (by decide)
      have z0 : naF (σ 4) (σ 3 3) 0 = 0 := rfl
      have l0 : ∀ j : Int, 0 ≤ j → j < σ 3 4 - σ 3 3 → 97 ≤ σ 4 (σ 3 3 + j) ∧ σ 4 (σ 3 3 + j) ≤ 122 := fun j a b => hl _ (by omega) (by omega)
      obtain ⟨L, hL⟩ : ∃ L : Nat, σ 3 4 - σ 3 3 = L := ⟨(σ 3 4 - σ 3 3).toNat, by omega⟩
      rw [hL] at c8 l0 ⊢
      rw [Int.toNat_natCast]
      rcases (show L = 0 ∨ L = 1 ∨ L = 2 ∨ L = 3 ∨ L = 4 ∨ L = 5 ∨ L = 6 ∨ L = 7 by omega) with e | e | e | e | e | e | e | e <;> subst e
      · rw [if_pos (by decide)]
        constructor <;> intro hz <;> omega
      · rw [if_pos (by decide)]
        have x0 := l0 0 (by decide) (by decide)
        have m0 : naF (σ 4) (σ 3 3) 1 = naF (σ 4) (σ 3 3) 0 * 256 + σ 4 (σ 3 3 + 0) := n0.2
        constructor <;> intro hz <;> omega
      · rw [if_pos (by decide)]
        have x0 := l0 0 (by decide) (by decide)
        have x1 := l0 1 (by decide) (by decide)
        have m0 : naF (σ 4) (σ 3 3) 1 = naF (σ 4) (σ 3 3) 0 * 256 + σ 4 (σ 3 3 + 0) := n0.2
        have m1 : naF (σ 4) (σ 3 3) 2 = naF (σ 4) (σ 3 3) 1 * 256 + σ 4 (σ 3 3 + 1) := n1.2
        constructor <;> intro hz <;> omega
      · rw [if_neg (fun z => z (by decide))]
        have hi := wmS_iff (f := σ 4) (s := σ 3 3) (w := 3) 3
        have x0 := l0 0 (by decide) (by decide)
        have x1 := l0 1 (by decide) (by decide)
        have x2 := l0 2 (by decide) (by decide)
        show wmS (σ 4) (σ 3 3) 3 3 = 1 ↔ _
        rw [hi]
        have m0 := n0.2
        have m1 : naF (σ 4) (σ 3 3) 2 = naF (σ 4) (σ 3 3) 1 * 256 + σ 4 (σ 3 3 + 1) := n1.2
        have m2 : naF (σ 4) (σ 3 3) 3 = naF (σ 4) (σ 3 3) 2 * 256 + σ 4 (σ 3 3 + 2) := n2.2
        have m0 : naF (σ 4) (σ 3 3) 1 = naF (σ 4) (σ 3 3) 0 * 256 + σ 4 (σ 3 3 + 0) := n0.2
        constructor
        · intro hz
          have y0 : σ 4 (σ 3 3 + 0) = 115 := hz 0 (by decide)
          have y1 : σ 4 (σ 3 3 + 1) = 108 := hz 1 (by decide)
          have y2 : σ 4 (σ 3 3 + 2) = 121 := hz 2 (by decide)
          omega
        · intro hz j hj
          rcases (show j = 0 ∨ j = 1 ∨ j = 2 by omega) with e | e | e <;> subst e
          · show σ 4 (σ 3 3 + 0) = 115; omega
          · show σ 4 (σ 3 3 + 1) = 108; omega
          · show σ 4 (σ 3 3 + 2) = 121; omega
      · rw [if_pos (by decide)]
        have x0 := l0 0 (by decide) (by decide)
        have x1 := l0 1 (by decide) (by decide)
        have x2 := l0 2 (by decide) (by decide)
        have x3 := l0 3 (by decide) (by decide)
        have m0 : naF (σ 4) (σ 3 3) 1 = naF (σ 4) (σ 3 3) 0 * 256 + σ 4 (σ 3 3 + 0) := n0.2
        have m1 : naF (σ 4) (σ 3 3) 2 = naF (σ 4) (σ 3 3) 1 * 256 + σ 4 (σ 3 3 + 1) := n1.2
        have m2 : naF (σ 4) (σ 3 3) 3 = naF (σ 4) (σ 3 3) 2 * 256 + σ 4 (σ 3 3 + 2) := n2.2
        have m3 : naF (σ 4) (σ 3 3) 4 = naF (σ 4) (σ 3 3) 3 * 256 + σ 4 (σ 3 3 + 3) := n3.2
        constructor <;> intro hz <;> omega
      · rw [if_pos (by decide)]
        have x0 := l0 0 (by decide) (by decide)
        have x1 := l0 1 (by decide) (by decide)
        have x2 := l0 2 (by decide) (by decide)
        have x3 := l0 3 (by decide) (by decide)
        have x4 := l0 4 (by decide) (by decide)
        have m0 : naF (σ 4) (σ 3 3) 1 = naF (σ 4) (σ 3 3) 0 * 256 + σ 4 (σ 3 3 + 0) := n0.2
        have m1 : naF (σ 4) (σ 3 3) 2 = naF (σ 4) (σ 3 3) 1 * 256 + σ 4 (σ 3 3 + 1) := n1.2
        have m2 : naF (σ 4) (σ 3 3) 3 = naF (σ 4) (σ 3 3) 2 * 256 + σ 4 (σ 3 3 + 2) := n2.2
        have m3 : naF (σ 4) (σ 3 3) 4 = naF (σ 4) (σ 3 3) 3 * 256 + σ 4 (σ 3 3 + 3) := n3.2
        have m4 : naF (σ 4) (σ 3 3) 5 = naF (σ 4) (σ 3 3) 4 * 256 + σ 4 (σ 3 3 + 4) := n4.2
        constructor <;> intro hz <;> omega
      · rw [if_pos (by decide)]
        have x0 := l0 0 (by decide) (by decide)
        have x1 := l0 1 (by decide) (by decide)
        have x2 := l0 2 (by decide) (by decide)
        have x3 := l0 3 (by decide) (by decide)
        have x4 := l0 4 (by decide) (by decide)
        have x5 := l0 5 (by decide) (by decide)
        have m0 : naF (σ 4) (σ 3 3) 1 = naF (σ 4) (σ 3 3) 0 * 256 + σ 4 (σ 3 3 + 0) := n0.2
        have m1 : naF (σ 4) (σ 3 3) 2 = naF (σ 4) (σ 3 3) 1 * 256 + σ 4 (σ 3 3 + 1) := n1.2
        have m2 : naF (σ 4) (σ 3 3) 3 = naF (σ 4) (σ 3 3) 2 * 256 + σ 4 (σ 3 3 + 2) := n2.2
        have m3 : naF (σ 4) (σ 3 3) 4 = naF (σ 4) (σ 3 3) 3 * 256 + σ 4 (σ 3 3 + 3) := n3.2
        have m4 : naF (σ 4) (σ 3 3) 5 = naF (σ 4) (σ 3 3) 4 * 256 + σ 4 (σ 3 3 + 4) := n4.2
        have m5 : naF (σ 4) (σ 3 3) 6 = naF (σ 4) (σ 3 3) 5 * 256 + σ 4 (σ 3 3 + 5) := n5.2
        constructor <;> intro hz <;> omega
      · rw [if_pos (by decide)]
        have x0 := l0 0 (by decide) (by decide)
        have x1 := l0 1 (by decide) (by decide)
        have x2 := l0 2 (by decide) (by decide)
        have x3 := l0 3 (by decide) (by decide)
        have x4 := l0 4 (by decide) (by decide)
        have x5 := l0 5 (by decide) (by decide)
        have x6 := l0 6 (by decide) (by decide)
        have m0 : naF (σ 4) (σ 3 3) 1 = naF (σ 4) (σ 3 3) 0 * 256 + σ 4 (σ 3 3 + 0) := n0.2
        have m1 : naF (σ 4) (σ 3 3) 2 = naF (σ 4) (σ 3 3) 1 * 256 + σ 4 (σ 3 3 + 1) := n1.2
        have m2 : naF (σ 4) (σ 3 3) 3 = naF (σ 4) (σ 3 3) 2 * 256 + σ 4 (σ 3 3 + 2) := n2.2
        have m3 : naF (σ 4) (σ 3 3) 4 = naF (σ 4) (σ 3 3) 3 * 256 + σ 4 (σ 3 3 + 3) := n3.2
        have m4 : naF (σ 4) (σ 3 3) 5 = naF (σ 4) (σ 3 3) 4 * 256 + σ 4 (σ 3 3 + 4) := n4.2
        have m5 : naF (σ 4) (σ 3 3) 6 = naF (σ 4) (σ 3 3) 5 * 256 + σ 4 (σ 3 3 + 5) := n5.2
        have m6 : naF (σ 4) (σ 3 3) 7 = naF (σ 4) (σ 3 3) 6 * 256 + σ 4 (σ 3 3 + 6) := n6.2
        constructor <;> intro hz <;> omega
    · rw [if_neg (fun z => c8 z.2)] at hn
      rw [hn, if_pos (by show ¬ σ 3 4 - σ 3 3 = ((3 : Nat) : Int); omega)]
      constructor <;> intro hz <;> omega
  · rw [if_neg (fun z => c z.1)] at hn
    rw [hn, if_pos c]
    constructor <;> intro hz <;> omega
theorem nam_4 {σ τ : Mem} (h : PP σ τ) : isW σ 4 = 1 ↔ namR τ = 7563385 := by
  have hn := nam_n h
  obtain ⟨-, hr, hl, -⟩ := h
  have hb := hr.1.1
  have h33 := hr.2.1
  unfold isW
  by_cases c : σ 3 5 = 1
  · rw [if_neg (fun z => z c)]
    have hl := hl c
    by_cases c8 : σ 3 4 - σ 3 3 < 8
    · rw [if_pos ⟨c, c8⟩] at hn
      rw [hn]
      have n0 := naF_s (s := σ 3 3) hb 0 (by decide)
      have n1 := naF_s (s := σ 3 3) hb 1 (by decide)
      have n2 := naF_s (s := σ 3 3) hb 2 (by decide)
      have n3 := naF_s (s := σ 3 3) hb 3 (by decide)
      have n4 := naF_s (s := σ 3 3) hb 4 (by decide)
      have n5 := naF_s (s := σ 3 3) hb 5 (by decide)
      have n6 := naF_s (s := σ 3 3) hb 6 (by decide)
      have z0 : naF (σ 4) (σ 3 3) 0 = 0 := rfl
      have l0 : ∀ j : Int, 0 ≤ j → j < σ 3 4 - σ 3 3 → 97 ≤ σ 4 (σ 3 3 + j) ∧ σ 4 (σ 3 3 + j) ≤ 122 := fun j a b => hl _ (by omega) (by omega)
      obtain ⟨L, hL⟩ : ∃ L : Nat, σ 3 4 - σ 3 3 = L := ⟨(σ 3 4 - σ 3 3).toNat, by omega⟩
      rw [hL] at c8 l0 ⊢
      rw [Int.toNat_natCast]
      rcases (show L = 0 ∨ L = 1 ∨ L = 2 ∨ L = 3 ∨ L = 4 ∨ L = 5 ∨ L = 6 ∨ L = 7 by omega) with e | e | e | e | e | e | e | e <;> subst e
      · rw [if_pos (by decide)]
        constructor <;> intro hz <;> omega
      · rw [if_pos (by decide)]
        have x0 := l0 0 (by decide) (by decide)
        have m0 : naF (σ 4) (σ 3 3) 1 = naF (σ 4) (σ 3 3) 0 * 256 + σ 4 (σ 3 3 + 0) := n0.2
        constructor <;> intro hz <;> omega
      · rw [if_pos (by decide)]
        have x0 := l0 0 (by decide) (by decide)
        have x1 := l0 1 (by decide) (by decide)
        have m0 : naF (σ 4) (σ 3 3) 1 = naF (σ 4) (σ 3 3) 0 * 256 + σ 4 (σ 3 3 + 0) := n0.2
        have m1 : naF (σ 4) (σ 3 3) 2 = naF (σ 4) (σ 3 3) 1 * 256 + σ 4 (σ 3 3 + 1) := n1.2
        constructor <;> intro hz <;> omega
      · rw [if_neg (fun z => z (by decide))]
        have hi := wmS_iff (f := σ 4) (s := σ 3 3) (w := 4) 3
        have x0 := l0 0 (by decide) (by decide)
        have x1 := l0 1 (by decide) (by decide)
        have x2 := l0 2 (by decide) (by decide)
        show wmS (σ 4) (σ 3 3) 4 3 = 1 ↔ _
        rw [hi]
        have m0 := n0.2
        have m1 : naF (σ 4) (σ 3 3) 2 = naF (σ 4) (σ 3 3) 1 * 256 + σ 4 (σ 3 3 + 1) := n1.2
        have m2 : naF (σ 4) (σ 3 3) 3 = naF (σ 4) (σ 3 3) 2 * 256 + σ 4 (σ 3 3 + 2) := n2.2
        have m0 : naF (σ 4) (σ 3 3) 1 = naF (σ 4) (σ 3 3) 0 * 256 + σ 4 (σ 3 3 + 0) := n0.2
        constructor
        · intro hz
          have y0 : σ 4 (σ 3 3 + 0) = 115 := hz 0 (by decide)
          have y1 : σ 4 (σ 3 3 + 1) = 104 := hz 1 (by decide)
          have y2 : σ 4 (σ 3 3 + 2) = 121 := hz 2 (by decide)
          omega
        · intro hz j hj
          rcases (show j = 0 ∨ j = 1 ∨ j = 2 by omega) with e | e | e <;> subst e
          · show σ 4 (σ 3 3 + 0) = 115; omega
          · show σ 4 (σ 3 3 + 1) = 104; omega
          · show σ 4 (σ 3 3 + 2) = 121; omega
      · rw [if_pos (by decide)]
        have x0 := l0 0 (by decide) (by decide)
        have x1 := l0 1 (by decide) (by decide)
        have x2 := l0 2 (by decide) (by decide)
        have x3 := l0 3 (by decide) (by decide)
        have m0 : naF (σ 4) (σ 3 3) 1 = naF (σ 4) (σ 3 3) 0 * 256 + σ 4 (σ 3 3 + 0) := n0.2
        have m1 : naF (σ 4) (σ 3 3) 2 = naF (σ 4) (σ 3 3) 1 * 256 + σ 4 (σ 3 3 + 1) := n1.2
        have m2 : naF (σ 4) (σ 3 3) 3 = naF (σ 4) (σ 3 3) 2 * 256 + σ 4 (σ 3 3 + 2) := n2.2
        have m3 : naF (σ 4) (σ 3 3) 4 = naF (σ 4) (σ 3 3) 3 * 256 + σ 4 (σ 3 3 + 3) := n3.2
        constructor <;> intro hz <;> omega
      · rw [if_pos (by decide)]
        have x0 := l0 0 (by decide) (by decide)
        have x1 := l0 1 (by decide) (by decide)
        have x2 := l0 2 (by decide) (by decide)
        have x3 := l0 3 (by decide) (by decide)
        have x4 := l0 4 (by decide) (by decide)
        have m0 : naF (σ 4) (σ 3 3) 1 = naF (σ 4) (σ 3 3) 0 * 256 + σ 4 (σ 3 3 + 0) := n0.2
        have m1 : naF (σ 4) (σ 3 3) 2 = naF (σ 4) (σ 3 3) 1 * 256 + σ 4 (σ 3 3 + 1) := n1.2
        have m2 : naF (σ 4) (σ 3 3) 3 = naF (σ 4) (σ 3 3) 2 * 256 + σ 4 (σ 3 3 + 2) := n2.2
        have m3 : naF (σ 4) (σ 3 3) 4 = naF (σ 4) (σ 3 3) 3 * 256 + σ 4 (σ 3 3 + 3) := n3.2
        have m4 : naF (σ 4) (σ 3 3) 5 = naF (σ 4) (σ 3 3) 4 * 256 + σ 4 (σ 3 3 + 4) := n4.2
        constructor <;> intro hz <;> omega
      · rw [if_pos (by decide)]
        have x0 := l0 0 (by decide) (by decide)
        have x1 := l0 1 (by decide) (by decide)
        have x2 := l0 2 (by decide) (by decide)
        have x3 := l0 3 (by decide) (by decide)
        have x4 := l0 4 (by decide) (by decide)
        have x5 := l0 5 (by decide) (by decide)
        have m0 : naF (σ 4) (σ 3 3) 1 = naF (σ 4) (σ 3 3) 0 * 256 + σ 4 (σ 3 3 + 0) := n0.2
        have m1 : naF (σ 4) (σ 3 3) 2 = naF (σ 4) (σ 3 3) 1 * 256 + σ 4 (σ 3 3 + 1) := n1.2
        have m2 : naF (σ 4) (σ 3 3) 3 = naF (σ 4) (σ 3 3) 2 * 256 + σ 4 (σ 3 3 + 2) := n2.2
        have m3 : naF (σ 4) (σ 3 3) 4 = naF (σ 4) (σ 3 3) 3 * 256 + σ 4 (σ 3 3 + 3) := n3.2
        have m4 : naF (σ 4) (σ 3 3) 5 = naF (σ 4) (σ 3 3) 4 * 256 + σ 4 (σ 3 3 + 4) := n4.2
        have m5 : naF (σ 4) (σ 3 3) 6 = naF (σ 4) (σ 3 3) 5 * 256 + σ 4 (σ 3 3 + 5) := n5.2
        constructor <;> intro hz <;> omega
      · rw [if_pos (by decide)]
        have x0 := l0 0 (by decide) (by decide)
        have x1 := l0 1 (by decide) (by decide)
        have x2 := l0 2 (by decide) (by decide)
        have x3 := l0 3 (by decide) (by decide)
        have x4 := l0 4 (by decide) (by decide)
        have x5 := l0 5 (by decide) (by decide)
        have x6 := l0 6 (by decide) (by decide)
        have m0 : naF (σ 4) (σ 3 3) 1 = naF (σ 4) (σ 3 3) 0 * 256 + σ 4 (σ 3 3 + 0) := n0.2
        have m1 : naF (σ 4) (σ 3 3) 2 = naF (σ 4) (σ 3 3) 1 * 256 + σ 4 (σ 3 3 + 1) := n1.2
        have m2 : naF (σ 4) (σ 3 3) 3 = naF (σ 4) (σ 3 3) 2 * 256 + σ 4 (σ 3 3 + 2) := n2.2
        have m3 : naF (σ 4) (σ 3 3) 4 = naF (σ 4) (σ 3 3) 3 * 256 + σ 4 (σ 3 3 + 3) := n3.2
        have m4 : naF (σ 4) (σ 3 3) 5 = naF (σ 4) (σ 3 3) 4 * 256 + σ 4 (σ 3 3 + 4) := n4.2
        have m5 : naF (σ 4) (σ 3 3) 6 = naF (σ 4) (σ 3 3) 5 * 256 + σ 4 (σ 3 3 + 5) := n5.2
        have m6 : naF (σ 4) (σ 3 3) 7 = naF (σ 4) (σ 3 3) 6 * 256 + σ 4 (σ 3 3 + 6) := n6.2
        constructor <;> intro hz <;> omega
    · rw [if_neg (fun z => c8 z.2)] at hn
      rw [hn, if_pos (by show ¬ σ 3 4 - σ 3 3 = ((3 : Nat) : Int); omega)]
      constructor <;> intro hz <;> omega
  · rw [if_neg (fun z => c z.1)] at hn
    rw [hn, if_pos c]
    constructor <;> intro hz <;> omega
theorem nam_5 {σ τ : Mem} (h : PP σ τ) : isW σ 5 = 1 ↔ namR τ = 1919509352 := by
  have hn := nam_n h
  obtain ⟨-, hr, hl, -⟩ := h
  have hb := hr.1.1
  have h33 := hr.2.1
  unfold isW
  by_cases c : σ 3 5 = 1
  · rw [if_neg (fun z => z c)]
    have hl := hl c
    by_cases c8 : σ 3 4 - σ 3 3 < 8
    · rw [if_pos ⟨c, c8⟩] at hn
      rw [hn]
      have n0 := naF_s (s := σ 3 3) hb 0 (by decide)
      have n1 := naF_s (s := σ 3 3) hb 1 (by decide)
      have n2 := naF_s (s := σ 3 3) hb 2 (by decide)
      have n3 := naF_s (s := σ 3 3) hb 3 (by decide)
      have n4 := naF_s (s := σ 3 3) hb 4 (by decide)
      have n5 := naF_s (s := σ 3 3) hb 5 (by decide)
      have n6 := naF_s (s := σ 3 3) hb 6 (by decide)
      have z0 : naF (σ 4) (σ 3 3) 0 = 0 := rfl
      have l0 : ∀ j : Int, 0 ≤ j → j < σ 3 4 - σ 3 3 → 97 ≤ σ 4 (σ 3 3 + j) ∧ σ 4 (σ 3 3 + j) ≤ 122 := fun j a b => hl _ (by omega) (by omega)
      obtain ⟨L, hL⟩ : ∃ L : Nat, σ 3 4 - σ 3 3 = L := ⟨(σ 3 4 - σ 3 3).toNat, by omega⟩
      rw [hL] at c8 l0 ⊢
      rw [Int.toNat_natCast]
      rcases (show L = 0 ∨ L = 1 ∨ L = 2 ∨ L = 3 ∨ L = 4 ∨ L = 5 ∨ L = 6 ∨ L = 7 by omega) with e | e | e | e | e | e | e | e <;> subst e
      · rw [if_pos (by decide)]
        constructor <;> intro hz <;> omega
      · rw [if_pos (by decide)]
        have x0 := l0 0 (by decide) (by decide)
        have m0 : naF (σ 4) (σ 3 3) 1 = naF (σ 4) (σ 3 3) 0 * 256 + σ 4 (σ 3 3 + 0) := n0.2
        constructor <;> intro hz <;> omega
      · rw [if_pos (by decide)]
        have x0 := l0 0 (by decide) (by decide)
        have x1 := l0 1 (by decide) (by decide)
        have m0 : naF (σ 4) (σ 3 3) 1 = naF (σ 4) (σ 3 3) 0 * 256 + σ 4 (σ 3 3 + 0) := n0.2
        have m1 : naF (σ 4) (σ 3 3) 2 = naF (σ 4) (σ 3 3) 1 * 256 + σ 4 (σ 3 3 + 1) := n1.2
        constructor <;> intro hz <;> omega
      · rw [if_pos (by decide)]
        have x0 := l0 0 (by decide) (by decide)
        have x1 := l0 1 (by decide) (by decide)
        have x2 := l0 2 (by decide) (by decide)
        have m0 : naF (σ 4) (σ 3 3) 1 = naF (σ 4) (σ 3 3) 0 * 256 + σ 4 (σ 3 3 + 0) := n0.2
        have m1 : naF (σ 4) (σ 3 3) 2 = naF (σ 4) (σ 3 3) 1 * 256 + σ 4 (σ 3 3 + 1) := n1.2
        have m2 : naF (σ 4) (σ 3 3) 3 = naF (σ 4) (σ 3 3) 2 * 256 + σ 4 (σ 3 3 + 2) := n2.2
        constructor <;> intro hz <;> omega
      · rw [if_neg (fun z => z (by decide))]
        have hi := wmS_iff (f := σ 4) (s := σ 3 3) (w := 5) 4
        have x0 := l0 0 (by decide) (by decide)
        have x1 := l0 1 (by decide) (by decide)
        have x2 := l0 2 (by decide) (by decide)
        have x3 := l0 3 (by decide) (by decide)
        show wmS (σ 4) (σ 3 3) 5 4 = 1 ↔ _
        rw [hi]
        have m0 := n0.2
        have m1 : naF (σ 4) (σ 3 3) 2 = naF (σ 4) (σ 3 3) 1 * 256 + σ 4 (σ 3 3 + 1) := n1.2
        have m2 : naF (σ 4) (σ 3 3) 3 = naF (σ 4) (σ 3 3) 2 * 256 + σ 4 (σ 3 3 + 2) := n2.2
        have m3 : naF (σ 4) (σ 3 3) 4 = naF (σ 4) (σ 3 3) 3 * 256 + σ 4 (σ 3 3 + 3) := n3.2
        have m0 : naF (σ 4) (σ 3 3) 1 = naF (σ 4) (σ 3 3) 0 * 256 + σ 4 (σ 3 3 + 0) := n0.2
        constructor
        · intro hz
          have y0 : σ 4 (σ 3 3 + 0) = 114 := hz 0 (by decide)
          have y1 : σ 4 (σ 3 3 + 1) = 105 := hz 1 (by decide)
          have y2 : σ 4 (σ 3 3 + 2) = 99 := hz 2 (by decide)
          have y3 : σ 4 (σ 3 3 + 3) = 104 := hz 3 (by decide)
          omega
        · intro hz j hj
          rcases (show j = 0 ∨ j = 1 ∨ j = 2 ∨ j = 3 by omega) with e | e | e | e <;> subst e
          · show σ 4 (σ 3 3 + 0) = 114; omega
          · show σ 4 (σ 3 3 + 1) = 105; omega
          · show σ 4 (σ 3 3 + 2) = 99; omega
          · show σ 4 (σ 3 3 + 3) = 104; omega
      · rw [if_pos (by decide)]
        have x0 := l0 0 (by decide) (by decide)
        have x1 := l0 1 (by decide) (by decide)
        have x2 := l0 2 (by decide) (by decide)
        have x3 := l0 3 (by decide) (by decide)
        have x4 := l0 4 (by decide) (by decide)
        have m0 : naF (σ 4) (σ 3 3) 1 = naF (σ 4) (σ 3 3) 0 * 256 + σ 4 (σ 3 3 + 0) := n0.2
        have m1 : naF (σ 4) (σ 3 3) 2 = naF (σ 4) (σ 3 3) 1 * 256 + σ 4 (σ 3 3 + 1) := n1.2
        have m2 : naF (σ 4) (σ 3 3) 3 = naF (σ 4) (σ 3 3) 2 * 256 + σ 4 (σ 3 3 + 2) := n2.2
        have m3 : naF (σ 4) (σ 3 3) 4 = naF (σ 4) (σ 3 3) 3 * 256 + σ 4 (σ 3 3 + 3) := n3.2
        have m4 : naF (σ 4) (σ 3 3) 5 = naF (σ 4) (σ 3 3) 4 * 256 + σ 4 (σ 3 3 + 4) := n4.2
        constructor <;> intro hz <;> omega
      · rw [if_pos (by decide)]
        have x0 := l0 0 (by decide) (by decide)
        have x1 := l0 1 (by decide) (by decide)
        have x2 := l0 2 (by decide) (by decide)
        have x3 := l0 3 (by decide) (by decide)
        have x4 := l0 4 (by decide) (by decide)
        have x5 := l0 5 (by decide) (by decide)
        have m0 : naF (σ 4) (σ 3 3) 1 = naF (σ 4) (σ 3 3) 0 * 256 + σ 4 (σ 3 3 + 0) := n0.2
        have m1 : naF (σ 4) (σ 3 3) 2 = naF (σ 4) (σ 3 3) 1 * 256 + σ 4 (σ 3 3 + 1) := n1.2
        have m2 : naF (σ 4) (σ 3 3) 3 = naF (σ 4) (σ 3 3) 2 * 256 + σ 4 (σ 3 3 + 2) := n2.2
        have m3 : naF (σ 4) (σ 3 3) 4 = naF (σ 4) (σ 3 3) 3 * 256 + σ 4 (σ 3 3 + 3) := n3.2
        have m4 : naF (σ 4) (σ 3 3) 5 = naF (σ 4) (σ 3 3) 4 * 256 + σ 4 (σ 3 3 + 4) := n4.2
        have m5 : naF (σ 4) (σ 3 3) 6 = naF (σ 4) (σ 3 3) 5 * 256 + σ 4 (σ 3 3 + 5) := n5.2
        constructor <;> intro hz <;> omega
      · rw [if_pos (by decide)]
        have x0 := l0 0 (by decide) (by decide)
        have x1 := l0 1 (by decide) (by decide)
        have x2 := l0 2 (by decide) (by decide)
        have x3 := l0 3 (by decide) (by decide)
        have x4 := l0 4 (by decide) (by decide)
        have x5 := l0 5 (by decide) (by decide)
        have x6 := l0 6 (by decide) (by decide)
        have m0 : naF (σ 4) (σ 3 3) 1 = naF (σ 4) (σ 3 3) 0 * 256 + σ 4 (σ 3 3 + 0) := n0.2
        have m1 : naF (σ 4) (σ 3 3) 2 = naF (σ 4) (σ 3 3) 1 * 256 + σ 4 (σ 3 3 + 1) := n1.2
        have m2 : naF (σ 4) (σ 3 3) 3 = naF (σ 4) (σ 3 3) 2 * 256 + σ 4 (σ 3 3 + 2) := n2.2
        have m3 : naF (σ 4) (σ 3 3) 4 = naF (σ 4) (σ 3 3) 3 * 256 + σ 4 (σ 3 3 + 3) := n3.2
        have m4 : naF (σ 4) (σ 3 3) 5 = naF (σ 4) (σ 3 3) 4 * 256 + σ 4 (σ 3 3 + 4) := n4.2
        have m5 : naF (σ 4) (σ 3 3) 6 = naF (σ 4) (σ 3 3) 5 * 256 + σ 4 (σ 3 3 + 5) := n5.2
        have m6 : naF (σ 4) (σ 3 3) 7 = naF (σ 4) (σ 3 3) 6 * 256 + σ 4 (σ 3 3 + 6) := n6.2
        constructor <;> intro hz <;> omega
    · rw [if_neg (fun z => c8 z.2)] at hn
      rw [hn, if_pos (by show ¬ σ 3 4 - σ 3 3 = ((4 : Nat) : Int); omega)]
      constructor <;> intro hz <;> omega
  · rw [if_neg (fun z => c z.1)] at hn
    rw [hn, if_pos c]
    constructor <;> intro hz <;> omega
theorem nam_6 {σ τ : Mem} (h : PP σ τ) : isW σ 6 = 1 ↔ namR τ = 512869298039 := by
  have hn := nam_n h
  obtain ⟨-, hr, hl, -⟩ := h
  have hb := hr.1.1
  have h33 := hr.2.1
  unfold isW
  by_cases c : σ 3 5 = 1
  · rw [if_neg (fun z => z c)]
    have hl := hl c
    by_cases c8 : σ 3 4 - σ 3 3 < 8
    · rw [if_pos ⟨c, c8⟩] at hn
      rw [hn]
      have n0 := naF_s (s := σ 3 3) hb 0 (by decide)
      have n1 := naF_s (s := σ 3 3) hb 1 (by decide)
      have n2 := naF_s (s := σ 3 3) hb 2 (by decide)
      have n3 := naF_s (s := σ 3 3) hb 3 (by decide)
      have n4 := naF_s (s := σ 3 3) hb 4 (by decide)
      have n5 := naF_s (s := σ 3 3) hb 5 (by decide)
      have n6 := naF_s (s := σ 3 3) hb 6 (by decide)
      have z0 : naF (σ 4) (σ 3 3) 0 = 0 := rfl
      have l0 : ∀ j : Int, 0 ≤ j → j < σ 3 4 - σ 3 3 → 97 ≤ σ 4 (σ 3 3 + j) ∧ σ 4 (σ 3 3 + j) ≤ 122 := fun j a b => hl _ (by omega) (by omega)
      obtain ⟨L, hL⟩ : ∃ L : Nat, σ 3 4 - σ 3 3 = L := ⟨(σ 3 4 - σ 3 3).toNat, by omega⟩
      rw [hL] at c8 l0 ⊢
      rw [Int.toNat_natCast]
      rcases (show L = 0 ∨ L = 1 ∨ L = 2 ∨ L = 3 ∨ L = 4 ∨ L = 5 ∨ L = 6 ∨ L = 7 by omega) with e | e | e | e | e | e | e | e <;> subst e
      · rw [if_pos (by decide)]
        constructor <;> intro hz <;> omega
      · rw [if_pos (by decide)]
        have x0 := l0 0 (by decide) (by decide)
        have m0 : naF (σ 4) (σ 3 3) 1 = naF (σ 4) (σ 3 3) 0 * 256 + σ 4 (σ 3 3 + 0) := n0.2
        constructor <;> intro hz <;> omega
      · rw [if_pos (by decide)]
        have x0 := l0 0 (by decide) (by decide)
        have x1 := l0 1 (by decide) (by decide)
        have m0 : naF (σ 4) (σ 3 3) 1 = naF (σ 4) (σ 3 3) 0 * 256 + σ 4 (σ 3 3 + 0) := n0.2
        have m1 : naF (σ 4) (σ 3 3) 2 = naF (σ 4) (σ 3 3) 1 * 256 + σ 4 (σ 3 3 + 1) := n1.2
        constructor <;> intro hz <;> omega
      · rw [if_pos (by decide)]
        have x0 := l0 0 (by decide) (by decide)
        have x1 := l0 1 (by decide) (by decide)
        have x2 := l0 2 (by decide) (by decide)
        have m0 : naF (σ 4) (σ 3 3) 1 = naF (σ 4) (σ 3 3) 0 * 256 + σ 4 (σ 3 3 + 0) := n0.2
        have m1 : naF (σ 4) (σ 3 3) 2 = naF (σ 4) (σ 3 3) 1 * 256 + σ 4 (σ 3 3 + 1) := n1.2
        have m2 : naF (σ 4) (σ 3 3) 3 = naF (σ 4) (σ 3 3) 2 * 256 + σ 4 (σ 3 3 + 2) := n2.2
        constructor <;> intro hz <;> omega
      · rw [if_pos (by decide)]
        have x0 := l0 0 (by decide) (by decide)
        have x1 := l0 1 (by decide) (by decide)
        have x2 := l0 2 (by decide) (by decide)
        have x3 := l0 3 (by decide) (by decide)
        have m0 : naF (σ 4) (σ 3 3) 1 = naF (σ 4) (σ 3 3) 0 * 256 + σ 4 (σ 3 3 + 0) := n0.2
        have m1 : naF (σ 4) (σ 3 3) 2 = naF (σ 4) (σ 3 3) 1 * 256 + σ 4 (σ 3 3 + 1) := n1.2
        have m2 : naF (σ 4) (σ 3 3) 3 = naF (σ 4) (σ 3 3) 2 * 256 + σ 4 (σ 3 3 + 2) := n2.2
        have m3 : naF (σ 4) (σ 3 3) 4 = naF (σ 4) (σ 3 3) 3 * 256 + σ 4 (σ 3 3 + 3) := n3.2
        constructor <;> intro hz <;> omega
      · rw [if_neg (fun z => z (by decide))]
        have hi := wmS_iff (f := σ 4) (s := σ 3 3) (w := 6) 5
        have x0 := l0 0 (by decide) (by decide)
        have x1 := l0 1 (by decide) (by decide)
        have x2 := l0 2 (by decide) (by decide)
        have x3 := l0 3 (by decide) (by decide)
        have x4 := l0 4 (by decide) (by decide)
        show wmS (σ 4) (σ 3 3) 6 5 = 1 ↔ _
        rw [hi]
        have m0 := n0.2
        have m1 : naF (σ 4) (σ 3 3) 2 = naF (σ 4) (σ 3 3) 1 * 256 + σ 4 (σ 3 3 + 1) := n1.2
        have m2 : naF (σ 4) (σ 3 3) 3 = naF (σ 4) (σ 3 3) 2 * 256 + σ 4 (σ 3 3 + 2) := n2.2
        have m3 : naF (σ 4) (σ 3 3) 4 = naF (σ 4) (σ 3 3) 3 * 256 + σ 4 (σ 3 3 + 3) := n3.2
        have m4 : naF (σ 4) (σ 3 3) 5 = naF (σ 4) (σ 3 3) 4 * 256 + σ 4 (σ 3 3 + 4) := n4.2
        have m0 : naF (σ 4) (σ 3 3) 1 = naF (σ 4) (σ 3 3) 0 * 256 + σ 4 (σ 3 3 + 0) := n0.2
        constructor
        · intro hz
          have y0 : σ 4 (σ 3 3 + 0) = 119 := hz 0 (by decide)
          have y1 : σ 4 (σ 3 3 + 1) = 105 := hz 1 (by decide)
          have y2 : σ 4 (σ 3 3 + 2) = 100 := hz 2 (by decide)
          have y3 : σ 4 (σ 3 3 + 3) = 111 := hz 3 (by decide)
          have y4 : σ 4 (σ 3 3 + 4) = 119 := hz 4 (by decide)
          omega
        · intro hz j hj
          rcases (show j = 0 ∨ j = 1 ∨ j = 2 ∨ j = 3 ∨ j = 4 by omega) with e | e | e | e | e <;> subst e
          · show σ 4 (σ 3 3 + 0) = 119; omega
          · show σ 4 (σ 3 3 + 1) = 105; omega
          · show σ 4 (σ 3 3 + 2) = 100; omega
          · show σ 4 (σ 3 3 + 3) = 111; omega
          · show σ 4 (σ 3 3 + 4) = 119; omega
      · rw [if_pos (by decide)]
        have x0 := l0 0 (by decide) (by decide)
        have x1 := l0 1 (by decide) (by decide)
        have x2 := l0 2 (by decide) (by decide)
        have x3 := l0 3 (by decide) (by decide)
        have x4 := l0 4 (by decide) (by decide)
        have x5 := l0 5 (by decide) (by decide)
        have m0 : naF (σ 4) (σ 3 3) 1 = naF (σ 4) (σ 3 3) 0 * 256 + σ 4 (σ 3 3 + 0) := n0.2
        have m1 : naF (σ 4) (σ 3 3) 2 = naF (σ 4) (σ 3 3) 1 * 256 + σ 4 (σ 3 3 + 1) := n1.2
        have m2 : naF (σ 4) (σ 3 3) 3 = naF (σ 4) (σ 3 3) 2 * 256 + σ 4 (σ 3 3 + 2) := n2.2
        have m3 : naF (σ 4) (σ 3 3) 4 = naF (σ 4) (σ 3 3) 3 * 256 + σ 4 (σ 3 3 + 3) := n3.2
        have m4 : naF (σ 4) (σ 3 3) 5 = naF (σ 4) (σ 3 3) 4 * 256 + σ 4 (σ 3 3 + 4) := n4.2
        have m5 : naF (σ 4) (σ 3 3) 6 = naF (σ 4) (σ 3 3) 5 * 256 + σ 4 (σ 3 3 + 5) := n5.2
        constructor <;> intro hz <;> omega
      · rw [if_pos (by decide)]
        have x0 := l0 0 (by decide) (by decide)
        have x1 := l0 1 (by decide) (by decide)
        have x2 := l0 2 (by decide) (by decide)
        have x3 := l0 3 (by decide) (by decide)
        have x4 := l0 4 (by decide) (by decide)
        have x5 := l0 5 (by decide) (by decide)
        have x6 := l0 6 (by decide) (by decide)
        have m0 : naF (σ 4) (σ 3 3) 1 = naF (σ 4) (σ 3 3) 0 * 256 + σ 4 (σ 3 3 + 0) := n0.2
        have m1 : naF (σ 4) (σ 3 3) 2 = naF (σ 4) (σ 3 3) 1 * 256 + σ 4 (σ 3 3 + 1) := n1.2
        have m2 : naF (σ 4) (σ 3 3) 3 = naF (σ 4) (σ 3 3) 2 * 256 + σ 4 (σ 3 3 + 2) := n2.2
        have m3 : naF (σ 4) (σ 3 3) 4 = naF (σ 4) (σ 3 3) 3 * 256 + σ 4 (σ 3 3 + 3) := n3.2
        have m4 : naF (σ 4) (σ 3 3) 5 = naF (σ 4) (σ 3 3) 4 * 256 + σ 4 (σ 3 3 + 4) := n4.2
        have m5 : naF (σ 4) (σ 3 3) 6 = naF (σ 4) (σ 3 3) 5 * 256 + σ 4 (σ 3 3 + 5) := n5.2
        have m6 : naF (σ 4) (σ 3 3) 7 = naF (σ 4) (σ 3 3) 6 * 256 + σ 4 (σ 3 3 + 6) := n6.2
        constructor <;> intro hz <;> omega
    · rw [if_neg (fun z => c8 z.2)] at hn
      rw [hn, if_pos (by show ¬ σ 3 4 - σ 3 3 = ((5 : Nat) : Int); omega)]
      constructor <;> intro hz <;> omega
  · rw [if_neg (fun z => c z.1)] at hn
    rw [hn, if_pos c]
    constructor <;> intro hz <;> omega
theorem nam_7 {σ τ : Mem} (h : PP σ τ) : isW σ 7 = 1 ↔ namR τ = 499967946343 := by
  have hn := nam_n h
  obtain ⟨-, hr, hl, -⟩ := h
  have hb := hr.1.1
  have h33 := hr.2.1
  unfold isW
  by_cases c : σ 3 5 = 1
  · rw [if_neg (fun z => z c)]
    have hl := hl c
    by_cases c8 : σ 3 4 - σ 3 3 < 8
    · rw [if_pos ⟨c, c8⟩] at hn
      rw [hn]
      have n0 := naF_s (s := σ 3 3) hb 0 (by decide)
      have n1 := naF_s (s := σ 3 3) hb 1 (by decide)
      have n2 := naF_s (s := σ 3 3) hb 2 (by decide)
      have n3 := naF_s (s := σ 3 3) hb 3 (by decide)
      have n4 := naF_s (s := σ 3 3) hb 4 (by decide)
      have n5 := naF_s (s := σ 3 3) hb 5 (by decide)
      have n6 := naF_s (s := σ 3 3) hb 6 (by decide)
      have z0 : naF (σ 4) (σ 3 3) 0 = 0 := rfl
      have l0 : ∀ j : Int, 0 ≤ j → j < σ 3 4 - σ 3 3 → 97 ≤ σ 4 (σ 3 3 + j) ∧ σ 4 (σ 3 3 + j) ≤ 122 := fun j a b => hl _ (by omega) (by omega)
      obtain ⟨L, hL⟩ : ∃ L : Nat, σ 3 4 - σ 3 3 = L := ⟨(σ 3 4 - σ 3 3).toNat, by omega⟩
      rw [hL] at c8 l0 ⊢
      rw [Int.toNat_natCast]
      rcases (show L = 0 ∨ L = 1 ∨ L = 2 ∨ L = 3 ∨ L = 4 ∨ L = 5 ∨ L = 6 ∨ L = 7 by omega) with e | e | e | e | e | e | e | e <;> subst e
      · rw [if_pos (by decide)]
        constructor <;> intro hz <;> omega
      · rw [if_pos (by decide)]
        have x0 := l0 0 (by decide) (by decide)
        have m0 : naF (σ 4) (σ 3 3) 1 = naF (σ 4) (σ 3 3) 0 * 256 + σ 4 (σ 3 3 + 0) := n0.2
        constructor <;> intro hz <;> omega
      · rw [if_pos (by decide)]
        have x0 := l0 0 (by decide) (by decide)
        have x1 := l0 1 (by decide) (by decide)
        have m0 : naF (σ 4) (σ 3 3) 1 = naF (σ 4) (σ 3 3) 0 * 256 + σ 4 (σ 3 3 + 0) := n0.2
        have m1 : naF (σ 4) (σ 3 3) 2 = naF (σ 4) (σ 3 3) 1 * 256 + σ 4 (σ 3 3 + 1) := n1.2
        constructor <;> intro hz <;> omega
      · rw [if_pos (by decide)]
        have x0 := l0 0 (by decide) (by decide)
        have x1 := l0 1 (by decide) (by decide)
        have x2 := l0 2 (by decide) (by decide)
        have m0 : naF (σ 4) (σ 3 3) 1 = naF (σ 4) (σ 3 3) 0 * 256 + σ 4 (σ 3 3 + 0) := n0.2
        have m1 : naF (σ 4) (σ 3 3) 2 = naF (σ 4) (σ 3 3) 1 * 256 + σ 4 (σ 3 3 + 1) := n1.2
        have m2 : naF (σ 4) (σ 3 3) 3 = naF (σ 4) (σ 3 3) 2 * 256 + σ 4 (σ 3 3 + 2) := n2.2
        constructor <;> intro hz <;> omega
      · rw [if_pos (by decide)]
        have x0 := l0 0 (by decide) (by decide)
        have x1 := l0 1 (by decide) (by decide)
        have x2 := l0 2 (by decide) (by decide)
        have x3 := l0 3 (by decide) (by decide)
        have m0 : naF (σ 4) (σ 3 3) 1 = naF (σ 4) (σ 3 3) 0 * 256 + σ 4 (σ 3 3 + 0) := n0.2
        have m1 : naF (σ 4) (σ 3 3) 2 = naF (σ 4) (σ 3 3) 1 * 256 + σ 4 (σ 3 3 + 1) := n1.2
        have m2 : naF (σ 4) (σ 3 3) 3 = naF (σ 4) (σ 3 3) 2 * 256 + σ 4 (σ 3 3 + 2) := n2.2
        have m3 : naF (σ 4) (σ 3 3) 4 = naF (σ 4) (σ 3 3) 3 * 256 + σ 4 (σ 3 3 + 3) := n3.2
        constructor <;> intro hz <;> omega
      · rw [if_neg (fun z => z (by decide))]
        have hi := wmS_iff (f := σ 4) (s := σ 3 3) (w := 7) 5
        have x0 := l0 0 (by decide) (by decide)
        have x1 := l0 1 (by decide) (by decide)
        have x2 := l0 2 (by decide) (by decide)
        have x3 := l0 3 (by decide) (by decide)
        have x4 := l0 4 (by decide) (by decide)
        show wmS (σ 4) (σ 3 3) 7 5 = 1 ↔ _
        rw [hi]
        have m0 := n0.2
        have m1 : naF (σ 4) (σ 3 3) 2 = naF (σ 4) (σ 3 3) 1 * 256 + σ 4 (σ 3 3 + 1) := n1.2
        have m2 : naF (σ 4) (σ 3 3) 3 = naF (σ 4) (σ 3 3) 2 * 256 + σ 4 (σ 3 3 + 2) := n2.2
        have m3 : naF (σ 4) (σ 3 3) 4 = naF (σ 4) (σ 3 3) 3 * 256 + σ 4 (σ 3 3 + 3) := n3.2
        have m4 : naF (σ 4) (σ 3 3) 5 = naF (σ 4) (σ 3 3) 4 * 256 + σ 4 (σ 3 3 + 4) := n4.2
        have m0 : naF (σ 4) (σ 3 3) 1 = naF (σ 4) (σ 3 3) 0 * 256 + σ 4 (σ 3 3 + 0) := n0.2
        constructor
        · intro hz
          have y0 : σ 4 (σ 3 3 + 0) = 116 := hz 0 (by decide)
          have y1 : σ 4 (σ 3 3 + 1) = 104 := hz 1 (by decide)
          have y2 : σ 4 (σ 3 3 + 2) = 105 := hz 2 (by decide)
          have y3 : σ 4 (σ 3 3 + 3) = 110 := hz 3 (by decide)
          have y4 : σ 4 (σ 3 3 + 4) = 103 := hz 4 (by decide)
          omega
        · intro hz j hj
          rcases (show j = 0 ∨ j = 1 ∨ j = 2 ∨ j = 3 ∨ j = 4 by omega) with e | e | e | e | e <;> subst e
          · show σ 4 (σ 3 3 + 0) = 116; omega
          · show σ 4 (σ 3 3 + 1) = 104; omega
          · show σ 4 (σ 3 3 + 2) = 105; omega
          · show σ 4 (σ 3 3 + 3) = 110; omega
          · show σ 4 (σ 3 3 + 4) = 103; omega
      · rw [if_pos (by decide)]
        have x0 := l0 0 (by decide) (by decide)
        have x1 := l0 1 (by decide) (by decide)
        have x2 := l0 2 (by decide) (by decide)
        have x3 := l0 3 (by decide) (by decide)
        have x4 := l0 4 (by decide) (by decide)
        have x5 := l0 5 (by decide) (by decide)
        have m0 : naF (σ 4) (σ 3 3) 1 = naF (σ 4) (σ 3 3) 0 * 256 + σ 4 (σ 3 3 + 0) := n0.2
        have m1 : naF (σ 4) (σ 3 3) 2 = naF (σ 4) (σ 3 3) 1 * 256 + σ 4 (σ 3 3 + 1) := n1.2
        have m2 : naF (σ 4) (σ 3 3) 3 = naF (σ 4) (σ 3 3) 2 * 256 + σ 4 (σ 3 3 + 2) := n2.2
        have m3 : naF (σ 4) (σ 3 3) 4 = naF (σ 4) (σ 3 3) 3 * 256 + σ 4 (σ 3 3 + 3) := n3.2
        have m4 : naF (σ 4) (σ 3 3) 5 = naF (σ 4) (σ 3 3) 4 * 256 + σ 4 (σ 3 3 + 4) := n4.2
        have m5 : naF (σ 4) (σ 3 3) 6 = naF (σ 4) (σ 3 3) 5 * 256 + σ 4 (σ 3 3 + 5) := n5.2
        constructor <;> intro hz <;> omega
      · rw [if_pos (by decide)]
        have x0 := l0 0 (by decide) (by decide)
        have x1 := l0 1 (by decide) (by decide)
        have x2 := l0 2 (by decide) (by decide)
        have x3 := l0 3 (by decide) (by decide)
        have x4 := l0 4 (by decide) (by decide)
        have x5 := l0 5 (by decide) (by decide)
        have x6 := l0 6 (by decide) (by decide)
        have m0 : naF (σ 4) (σ 3 3) 1 = naF (σ 4) (σ 3 3) 0 * 256 + σ 4 (σ 3 3 + 0) := n0.2
        have m1 : naF (σ 4) (σ 3 3) 2 = naF (σ 4) (σ 3 3) 1 * 256 + σ 4 (σ 3 3 + 1) := n1.2
        have m2 : naF (σ 4) (σ 3 3) 3 = naF (σ 4) (σ 3 3) 2 * 256 + σ 4 (σ 3 3 + 2) := n2.2
        have m3 : naF (σ 4) (σ 3 3) 4 = naF (σ 4) (σ 3 3) 3 * 256 + σ 4 (σ 3 3 + 3) := n3.2
        have m4 : naF (σ 4) (σ 3 3) 5 = naF (σ 4) (σ 3 3) 4 * 256 + σ 4 (σ 3 3 + 4) := n4.2
        have m5 : naF (σ 4) (σ 3 3) 6 = naF (σ 4) (σ 3 3) 5 * 256 + σ 4 (σ 3 3 + 5) := n5.2
        have m6 : naF (σ 4) (σ 3 3) 7 = naF (σ 4) (σ 3 3) 6 * 256 + σ 4 (σ 3 3 + 6) := n6.2
        constructor <;> intro hz <;> omega
    · rw [if_neg (fun z => c8 z.2)] at hn
      rw [hn, if_pos (by show ¬ σ 3 4 - σ 3 3 = ((5 : Nat) : Int); omega)]
      constructor <;> intro hz <;> omega
  · rw [if_neg (fun z => c z.1)] at hn
    rw [hn, if_pos c]
    constructor <;> intro hz <;> omega
