/-! what a Prospect's look leaves, and what is a rest -/
def prLo (said : Int → Int) (n p : Int) : Int := loC said p n.toNat
def prHa (T told worn said : Int → Int) (n t p w : Int) : Int := haC (woC told worn t p) (T 1) (T 2) (nxC said n p) w
def prBe (T told worn said : Int → Int) (n t p w : Int) : Int := prHa T told worn said n t p w * odC said n p
def prSh (T told worn said : Int → Int) (n t p w : Int) : Int := prHa T told worn said n t p w + ogC w (T 1) * (odC said n p - 1)
def prAb (T said : Int → Int) (n p w : Int) : Int := ogC w (T 1) * odC said n p
def lkR (T told worn said : Int → Int) (n t p w : Int) (f : Int → Int) : Int → Int := ru (ru (ru (ru (ru f 1 (prLo said n p)) 0 (odC said n p)) 2 (prBe T told worn said n t p w)) 3 (prSh T told worn said n t p w)) 4 (prAb T said n p w)
def prG (T told worn said : Int → Int) (n t p w s : Int) : Int := gbC (prLo said n p) (prBe T told worn said n t p w) (prSh T told worn said n t p w) (prAb T said n p w) s
def prB (T told worn said : Int → Int) (n t p w : Int) : Int := bsC (prLo said n p) (prBe T told worn said n t p w) (prSh T told worn said n t p w) (prAb T said n p w) 6
theorem prLo_in {said : Int → Int} {n p : Int} (hs : ∀ j, 0 ≤ j → j < n → 0 ≤ said j ∧ said j ≤ 5) : 0 ≤ prLo said n p ∧ prLo said n p ≤ 6 := loC_in _ (fun j a b => hs j a (by omega))
theorem nxC_in {said : Int → Int} {n p : Int} (hs : ∀ j, 0 ≤ j → j < n → 0 ≤ said j ∧ said j ≤ 5) : 0 ≤ nxC said n p ∧ nxC said n p ≤ 6 := by
  have h := loC_in (f := said) (but := p) n.toNat (fun j a b => hs j a (by omega))
  unfold nxC; split <;> omega
theorem odC_in {said : Int → Int} {n p : Int} (hn : 0 ≤ n ∧ n ≤ 4) : 1 ≤ odC said n p ∧ odC said n p ≤ 5 := by
  have h := maC_in (f := said) (s := loC said p n.toNat) (but := p) n.toNat
  unfold odC; omega
theorem wgC_in {law fee people next : Int} (hf : 0 ≤ fee ∧ fee ≤ 20) (hp : 0 ≤ people ∧ people ≤ 4) (hn : 0 ≤ next ∧ next ≤ 6) : -120 ≤ wgC law fee people next ∧ wgC law fee people next ≤ 120 := by
  have e : next = 0 ∨ next = 1 ∨ next = 2 ∨ next = 3 ∨ next = 4 ∨ next = 5 ∨ next = 6 := by omega
  have e2 : people = 0 ∨ people = 1 ∨ people = 2 ∨ people = 3 ∨ people = 4 := by omega
  unfold wgC
  split
  · rcases e with h | h | h | h | h | h | h <;> subst h <;> omega
  · split
    · rcases e with h | h | h | h | h | h | h <;> subst h <;> omega
    · split
      · rcases e2 with h | h | h | h | h <;> subst h <;> omega
      · omega
theorem ogC_in {law fee : Int} (hf : 0 ≤ fee ∧ fee ≤ 20) : -20 ≤ ogC law fee ∧ ogC law fee ≤ 0 := by
  unfold ogC; split <;> omega
theorem pr_in {σ : Mem} {a n t p w : Int} {said : Int → Int} (hT : TC σ a) (ht : 0 ≤ t ∧ t < 5) (hp : 0 ≤ p ∧ p < 4) (hn : 0 ≤ n ∧ n ≤ 4) (hs : ∀ j, 0 ≤ j → j < n → 0 ≤ said j ∧ said j ≤ 5) :
    (-12000000 ≤ prBe (σ a) (σ (a + 12)) (σ (a + 20)) said n t p w ∧ prBe (σ a) (σ (a + 12)) (σ (a + 20)) said n t p w ≤ 12000000) ∧ (-12000000 ≤ prSh (σ a) (σ (a + 12)) (σ (a + 20)) said n t p w ∧ prSh (σ a) (σ (a + 12)) (σ (a + 20)) said n t p w ≤ 12000000) ∧ (-120 ≤ prAb (σ a) said n p w ∧ prAb (σ a) said n p w ≤ 120) := by
  have h1 := woC_in hT ht hp
  have h2 := wgC_in (law := w) hT.2.1 hT.2.2.1 (nxC_in (p := p) hs)
  have h3 := odC_in (said := said) (p := p) hn
  have h4 := ogC_in (law := w) hT.2.1
  have h5 : prHa (σ a) (σ (a + 12)) (σ (a + 20)) said n t p w = woC (σ (a + 12)) (σ (a + 20)) t p + wgC w (σ a 1) (σ a 2) (nxC said n p) := rfl
  unfold prBe prSh prAb
  generalize prHa (σ a) (σ (a + 12)) (σ (a + 20)) said n t p w = x at *
  generalize odC said n p = o at *
  generalize ogC w (σ a 1) = g at *
  have e : o = 1 ∨ o = 2 ∨ o = 3 ∨ o = 4 ∨ o = 5 := by omega
  rcases e with h | h | h | h | h <;> subst h <;> refine ⟨⟨?_, ?_⟩, ⟨?_, ?_⟩, ?_, ?_⟩ <;> omega
/-- whether one of the first i has a better saying, and the prospect's row then -/
def rsS (T told worn said : Int → Int) (n t w : Int) (f : Int → Int) : Nat → Int × (Int → Int)
  | 0 => (1, f)
  | i + 1 => let q := rsS T told worn said n t w f i; if q.1 = 0 then q else (if prG T told worn said n t i w (said i) < prG T told worn said n t i w (prB T told worn said n t i w) then 0 else 1, lkR T told worn said n t i w q.2)
theorem rsS_stay {T told worn said : Int → Int} {n t w : Int} {f : Int → Int} {k m : Nat} (h : (rsS T told worn said n t w f k).1 = 0) (hk : k ≤ m) : rsS T told worn said n t w f m = rsS T told worn said n t w f k := by
  induction m with
  | zero => have : k = 0 := by omega
            subst this; rfl
  | succ m ih =>
    by_cases e : k = m + 1
    · subst e; rfl
    · have h1 := ih (by omega)
      show (let q := rsS T told worn said n t w f m; if q.1 = 0 then q else _) = _
      simp only [h1, h, if_true]
theorem rsS_01 {T told worn said : Int → Int} {n t w : Int} {f : Int → Int} : ∀ i : Nat, (rsS T told worn said n t w f i).1 = 0 ∨ (rsS T told worn said n t w f i).1 = 1 := by
  intro i
  induction i with
  | zero => exact .inr rfl
  | succ i ih =>
    simp only [rsS]
    split
    · exact .inl (by assumption)
    · dsimp only; split <;> simp
/-- the row of a Prospect after a look, at its places -/
theorem mu5 {σ : Mem} {k : Int} {f : Int → Int} {a b c d e : Int} : mu (mu (mu (mu (mu (mr σ k f) k 1 a) k 0 b) k 2 c) k 3 d) k 4 e = mr σ k (ru (ru (ru (ru (ru f 1 a) 0 b) 2 c) 3 d) 4 e) := by
  rw [mu_mr, mu_mr, mu_mr, mu_mr, mu_mr]
theorem rsS_no {T told worn said : Int → Int} {n t w : Int} {f : Int → Int} {i : Nat} (h1 : (rsS T told worn said n t w f i).1 = 1) (h : prG T told worn said n t i w (said i) < prG T told worn said n t i w (prB T told worn said n t i w)) : rsS T told worn said n t w f (i + 1) = (0, lkR T told worn said n t i w (rsS T told worn said n t w f i).2) := by
  show (let q := rsS T told worn said n t w f i; if q.1 = 0 then q else _) = _
  simp only [h1, h, if_true, if_neg (show ¬ ((1 : Int) = 0) by decide)]
theorem rsS_yes {T told worn said : Int → Int} {n t w : Int} {f : Int → Int} {i : Nat} (h1 : (rsS T told worn said n t w f i).1 = 1) (h : ¬ prG T told worn said n t i w (said i) < prG T told worn said n t i w (prB T told worn said n t i w)) : rsS T told worn said n t w f (i + 1) = (1, lkR T told worn said n t i w (rsS T told worn said n t w f i).2) := by
  show (let q := rsS T told worn said n t w f i; if q.1 = 0 then q else _) = _
  simp only [h1, if_neg h, if_neg (show ¬ ((1 : Int) = 0) by decide)]
