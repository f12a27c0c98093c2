/-! THE CLASS'S METHODS, as functions -/
def woC (told worn : Int → Int) (t p : Int) : Int := told (t * 4 + p) - 2 * worn t
def frC (w : Int) : Int := clF ((30 + w).tdiv 10)
def owC (k w : Int) : Int := if k = 2 then 5 - frC w else if k = 3 then (if frC w - 1 < 0 then 0 else frC w - 1) else if k = 4 then (if frC w < 3 then 3 else frC w) else if k = 5 then 0 else frC w
def wgC (law fee people next : Int) : Int := if law = 1 then -fee * next else if law = 2 then fee * next else if law = 3 then fee * (people - 1) else 0
def ogC (law fee : Int) : Int := if law = 3 then -fee else 0
def loC (f : Int → Int) (but : Int) : Nat → Int
  | 0 => 6
  | i + 1 => if (i : Int) = but then loC f but i else if f i < loC f but i then f i else loC f but i
def maC (f : Int → Int) (s but : Int) : Nat → Int
  | 0 => 0
  | i + 1 => if (i : Int) = but then maC f s but i else if f i = s then maC f s but i + 1 else maC f s but i
/-- the town at cell q is well formed -/
def TC (σ : Mem) (q : Int) : Prop := (0 ≤ σ q 0 ∧ σ q 0 ≤ 3) ∧ (0 ≤ σ q 1 ∧ σ q 1 ≤ 20) ∧ (0 ≤ σ q 2 ∧ σ q 2 ≤ 4) ∧ (0 ≤ σ q 3 ∧ σ q 3 ≤ 5) ∧ (∀ p, 0 ≤ p → p < 4 → 0 ≤ σ (q + 4) p ∧ σ (q + 4) p ≤ 5) ∧ (∀ j, 0 ≤ j → j < 20 → -30 ≤ σ (q + 12) j ∧ σ (q + 12) j ≤ 30) ∧ (∀ t, 0 ≤ t → t < 5 → 0 ≤ σ (q + 20) t ∧ σ (q + 20) t ≤ 1000000)
theorem woC_in {σ : Mem} {q t p : Int} (h : TC σ q) (ht : 0 ≤ t ∧ t < 5) (hp : 0 ≤ p ∧ p < 4) : -2000030 ≤ woC (σ (q + 12)) (σ (q + 20)) t p ∧ woC (σ (q + 12)) (σ (q + 20)) t p ≤ 30 := by
  have h1 := h.2.2.2.2.2.1 (t * 4 + p) (by omega) (by omega)
  have h2 := h.2.2.2.2.2.2 t ht.1 ht.2
  unfold woC; omega
theorem loC_in {f : Int → Int} {but : Int} : ∀ i : Nat, (∀ j : Int, 0 ≤ j → j < i → 0 ≤ f j ∧ f j ≤ 5) → 0 ≤ loC f but i ∧ loC f but i ≤ 6 := by
  intro i
  induction i with
  | zero => intro _; unfold loC; omega
  | succ i ih =>
    intro h
    have h1 := ih (fun j a b => h j a (by omega))
    have h2 := h i (by omega) (by omega)
    unfold loC; (repeat' split) <;> omega
theorem maC_in {f : Int → Int} {s but : Int} : ∀ i : Nat, 0 ≤ maC f s but i ∧ maC f s but i ≤ i := by
  intro i
  induction i with
  | zero => unfold maC; omega
  | succ i ih => unfold maC; (repeat' split) <;> omega
theorem TC_of {σ τ : Mem} {q : Int} (h : TC σ q) (h0 : τ q = σ q) (h4 : τ (q + 4) = σ (q + 4)) (h12 : τ (q + 12) = σ (q + 12)) (h20 : τ (q + 20) = σ (q + 20)) : TC τ q := by
  unfold TC at *
  rw [h0, h4, h12, h20]
  exact h
def wlC (told worn : Int → Int) (t : Int) : Nat → Int
  | 0 => 0
  | i + 1 => if woC told worn t i < woC told worn t (wlC told worn t i) then i else wlC told worn t i
def wmC (told worn : Int → Int) (t : Int) : Nat → Int
  | 0 => 0
  | i + 1 => if woC told worn t (wmC told worn t i) < woC told worn t i then i else wmC told worn t i
theorem wlC_in {told worn : Int → Int} {t : Int} : ∀ i : Nat, 0 ≤ wlC told worn t i ∧ (wlC told worn t i < i ∨ wlC told worn t i = 0) := by
  intro i
  induction i with
  | zero => unfold wlC; omega
  | succ i ih => unfold wlC; (repeat' split) <;> omega
theorem wmC_in {told worn : Int → Int} {t : Int} : ∀ i : Nat, 0 ≤ wmC told worn t i ∧ (wmC told worn t i < i ∨ wmC told worn t i = 0) := by
  intro i
  induction i with
  | zero => unfold wmC; omega
  | succ i ih => unfold wmC; (repeat' split) <;> omega
def chC (h : Int → Int) : Nat → Int
  | 0 => 0
  | i + 1 => if h i = -1000000 then chC h i else chC h i + 1
def cbC (h : Int → Int) (p : Int) : Nat → Int
  | 0 => 0
  | i + 1 => if h i = p then cbC h p i + 1 else cbC h p i
def gbC (lowest below shared above s : Int) : Int := if s < lowest then below else if lowest < s then above else shared
def cutC (lane v : Int) : Int := if lane = 0 then oI2B v else if lane = 1 then oI2S v else v
theorem mu_mr_ne {σ : Mem} {k1 k2 j v : Int} {f : Int → Int} (h : k1 ≠ k2) : mu (mr σ k2 f) k1 j v = mr (mu σ k1 j v) k2 f := by
  funext k j'
  simp only [mu_app, mr_app]
  by_cases h1 : k = k1 <;> by_cases h2 : k = k2
  · omega
  · simp [h1, h]
  · simp [h2, Ne.symm h]
  · simp [h1, h2]
theorem over_step2 {σ : Mem} {k1 k2 lo hi hi' v w : Int} {f1 g1 f2 g2 : Int → Int} (hk : k1 ≠ k2) (h : lo ≤ hi) (h' : hi' = hi + 1) (hv : v = g1 hi) (hw : w = g2 hi) : mu (mu (mr (mr σ k1 (over f1 g1 lo hi)) k2 (over f2 g2 lo hi)) k1 hi v) k2 hi w = mr (mr σ k1 (over f1 g1 lo hi')) k2 (over f2 g2 lo hi') := by
  rw [mu_mr_ne hk, over_step h h' hv, over_step h h' hw]
theorem over_init2 {σ : Mem} {k1 k2 lo hi : Int} {f1 f2 g1 g2 : Int → Int} (h : hi ≤ lo) (h1 : f1 = σ k1) (h2 : f2 = σ k2) : σ = mr (mr σ k1 (over f1 g1 lo hi)) k2 (over f2 g2 lo hi) := by
  rw [over_0 h, over_0 h, mr_self h1, mr_self h2]
def nxC (f : Int → Int) (n p : Int) : Int := if 1 < n then loC f p n.toNat else 0
def odC (f : Int → Int) (n p : Int) : Int := 1 + maC f (loC f p n.toNat) p n.toNat
def haC (w fee people nx law : Int) : Int := w + wgC law fee people nx
def bsC (lo be sh ab : Int) : Nat → Int
  | 0 => 0
  | i + 1 => if gbC lo be sh ab (bsC lo be sh ab i) < gbC lo be sh ab i then i else bsC lo be sh ab i
theorem bsC_in {lo be sh ab : Int} : ∀ i : Nat, 0 ≤ bsC lo be sh ab i ∧ (bsC lo be sh ab i < i ∨ bsC lo be sh ab i = 0) := by
  intro i
  induction i with
  | zero => unfold bsC; omega
  | succ i ih => unfold bsC; (repeat' split) <;> omega
def syC (f : Int → Int) (v pl : Int) : Nat → Int
  | 0 => -1
  | i + 1 => if 0 ≤ syC f v pl i then syC f v pl i else if f i = v ∧ maC f v (-1000000) i = pl then i else -1
theorem syC_in {f : Int → Int} {v pl : Int} : ∀ i : Nat, -1 ≤ syC f v pl i ∧ syC f v pl i < i := by
  intro i
  induction i with
  | zero => unfold syC; omega
  | succ i ih => unfold syC; (repeat' split) <;> omega
theorem syC_stay {f : Int → Int} {v pl : Int} {k n : Nat} (h : 0 ≤ syC f v pl k) (hk : k ≤ n) : syC f v pl n = syC f v pl k := by
  induction n with
  | zero => have : k = 0 := by omega
            subst this; rfl
  | succ n ih =>
    by_cases e : k = n + 1
    · subst e; rfl
    · have h1 := ih (by omega)
      show (if 0 ≤ syC f v pl n then syC f v pl n else _) = _
      rw [if_pos (by omega), h1]
def syR (f : Int → Int) (v pl n : Int) : Int := if 0 ≤ syC f v pl n.toNat then syC f v pl n.toNat else 0
