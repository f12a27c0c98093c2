/-! more of the reference's methods -/
def losF (T f : Int → Int) (t v : Int) : Nat → Int
  | 0 => 0
  | i + 1 => losF T f t v i + (if f i = v then woF T t i else 0)
def losV (T f : Int → Int) (n t : Int) : Int := 12 * woF T t (extF T t (-1) (n - 1).toNat) - losF T f t (leaB f n (-1000000)) n.toNat * (12 : Int).tdiv (likO f n)
theorem losF_in {T f : Int → Int} {t v : Int} (hT : TW T) (ht : 0 ≤ t ∧ t < 5) : ∀ i : Nat, i ≤ 4 → -(1230 * i) ≤ losF T f t v i ∧ losF T f t v i ≤ 1230 * i
  | 0, _ => by simp [losF]
  | i + 1, hi => by
    have ih := losF_in hT ht (f := f) (v := v) i (by omega)
    have h1 := woF_in hT ht (p := (i : Int)) ⟨by omega, by omega⟩
    simp only [losF]
    split <;> omega
theorem losV_in {T f : Int → Int} {n t : Int} (hT : TW T) (ht : 0 ≤ t ∧ t < 5) (hn : 1 ≤ n ∧ n ≤ 4) (h : SW n f) : -1000000 ≤ losV T f n t ∧ losV T f n t ≤ 1000000 := by
  have h1 := losF_in hT ht (f := f) (v := leaB f n (-1000000)) n.toNat (by omega)
  have h2 := likO_in h hn
  have h3 : 0 ≤ (12 : Int).tdiv (likO f n) ∧ (12 : Int).tdiv (likO f n) ≤ 12 := by
    rcases (show likO f n = 1 ∨ likO f n = 2 ∨ likO f n = 3 ∨ likO f n = 4 by omega) with e | e | e | e <;> rw [e] <;> decide
  have h4 := extF_in (T := T) (t := t) (s := -1) (n - 1).toNat
  have h5 := woF_in hT ht (p := extF T t (-1) (n - 1).toNat) ⟨by omega, by omega⟩
  have h6 := mul_bd (a := losF T f t (leaB f n (-1000000)) n.toNat) (b := (12 : Int).tdiv (likO f n)) (A := 4920) (B := 12) (by omega) (by omega)
  unfold losV
  omega
def backM (σ : Mem) (t : Int) : Mem := mu (mu (mu (mr σ 6 (kepF σ)) 0 8 (kepN σ)) 4 (12 + 6 * t + 4) (-1000000)) 4 (12 + 6 * t + 5) (σ 4 (12 + 6 * t + 5) + 1)
def corF (f : Int → Int) : Nat → Int
  | 0 => 0
  | i + 1 => corF f i + (if 0 ≤ f i then 1 else 0)
def cohF (T : Int → Int) : Nat → Int
  | 0 => 0
  | i + 1 => cohF T i + (if ¬ T (12 + 6 * (i : Int) + 4) = -1000000 then 1 else 0)
def ownG (T : Int → Int) (t : Int) : Int → Int := fun p => owF T t p
theorem ownSW {T f : Int → Int} {t n : Int} : SW n (over f (fun p => owF T t p) 0 n) := by
  intro p h0 h1
  rw [over_in h0 h1]
  exact owF_in T t p
theorem over_over {f g g' : Int → Int} {lo hi : Int} : over (over f g lo hi) g' lo hi = over f g' lo hi := by
  funext x
  unfold over
  split <;> rfl
def powF : Nat → Int
  | 0 => 1
  | i + 1 => powF i * 6
theorem powF_in : ∀ i : Nat, i ≤ 4 → 1 ≤ powF i ∧ powF i ≤ 1296 := by
  intro i hi
  rcases (show i = 0 ∨ i = 1 ∨ i = 2 ∨ i = 3 ∨ i = 4 by omega) with rfl | rfl | rfl | rfl | rfl <;> decide
def laidF (s : Int → Int) (n : Int) (i : Nat) : Int → Int := if i = 0 then s else over s (digG ((i : Int) - 1) n) 0 n
theorem laid_over {s : Int → Int} {n : Int} {i : Nat} {g : Int → Int} : over (laidF s n i) g 0 n = over s g 0 n := by
  unfold laidF
  split
  · rfl
  · exact over_over
def cntF (b : Int → Int) : Nat → Int
  | 0 => 0
  | i + 1 => cntF b i + (if b i = 1 then 1 else 0)
def fstF (b : Int → Int) : Nat → Int
  | 0 => -1000000
  | i + 1 => if b i = 1 ∧ fstF b i = -1000000 then i else fstF b i
theorem cntF_in {b : Int → Int} : ∀ i : Nat, 0 ≤ cntF b i ∧ cntF b i ≤ i
  | 0 => by simp [cntF]
  | i + 1 => by
    have ih := cntF_in (b := b) i
    simp only [cntF]
    split <;> omega
theorem fstF_in {b : Int → Int} : ∀ i : Nat, fstF b i = -1000000 ∨ (0 ≤ fstF b i ∧ fstF b i < i)
  | 0 => Or.inl rfl
  | i + 1 => by
    have ih := fstF_in (b := b) i
    simp only [fstF]
    split <;> omega
theorem digSW {row n : Int} {s : Int → Int} (h : 0 ≤ row ∧ row < 1296) : SW n (over s (digG row n) 0 n) := by
  intro p h0 h1
  rw [over_in h0 h1]
  exact digG_in h p
/-- one round of turns: the sayings behind the first q people's -/
def turF (T : Int → Int) (t : Int) (f : Int → Int) : Nat → (Int → Int)
  | 0 => f
  | q + 1 => ru (turF T t f q) q (besB (T 1) (T 2) (turF T t f q) (woF T t q) (T 0) q)
def samF (T : Int → Int) (t : Int) (f : Int → Int) : Nat → Int
  | 0 => 1
  | q + 1 => if samF T t f q = 1 ∧ besB (T 1) (T 2) (turF T t f q) (woF T t q) (T 0) q = turF T t f q q then 1 else 0
theorem turF_in {T : Int → Int} {t n : Int} {f : Int → Int} (h : SW n f) : ∀ q : Nat, SW n (turF T t f q)
  | 0 => h
  | q + 1 => ru_in (turF_in h q) besB_in
theorem samF_01 {T : Int → Int} {t : Int} {f : Int → Int} : ∀ q : Nat, samF T t f q = 0 ∨ samF T t f q = 1
  | 0 => Or.inr rfl
  | q + 1 => by
    simp only [samF]
    split
    · exact Or.inr rfl
    · exact Or.inl rfl
/-- behind k rounds: the sayings, and how many rounds it took (NONE: more) -/
def turK (T : Int → Int) (t : Int) (f : Int → Int) : Nat → (Int → Int) × Int
  | 0 => (f, -1000000)
  | k + 1 => if (turK T t f k).2 = -1000000 then (turF T t (turK T t f k).1 (T 2).toNat, if samF T t (turK T t f k).1 (T 2).toNat = 1 then (k : Int) + 1 else -1000000) else turK T t f k
theorem turK_SW {T : Int → Int} {t n : Int} {f : Int → Int} (h : SW n f) : ∀ k : Nat, SW n (turK T t f k).1
  | 0 => h
  | k + 1 => by
    simp only [turK]
    split
    · exact turF_in (turK_SW h k) _
    · exact turK_SW h k
theorem turK_in {T : Int → Int} {t : Int} {f : Int → Int} : ∀ k : Nat, (turK T t f k).2 = -1000000 ∨ (1 ≤ (turK T t f k).2 ∧ (turK T t f k).2 ≤ k)
  | 0 => Or.inl rfl
  | k + 1 => by
    have ih := turK_in (T := T) (t := t) (f := f) k
    simp only [turK]
    split
    · dsimp only
      split <;> omega
    · omega
theorem turK_stay {T : Int → Int} {t : Int} {f : Int → Int} {k : Nat} (h : (turK T t f k).2 ≠ -1000000) : ∀ j : Nat, k ≤ j → turK T t f j = turK T t f k := by
  intro j hj
  induction j with
  | zero => rw [show k = 0 by omega]
  | succ j ih =>
    by_cases e : j + 1 = k
    · rw [e]
    · have h1 := ih (by omega)
      have e2 : turK T t f (j + 1) = if (turK T t f j).2 = -1000000 then (turF T t (turK T t f j).1 (T 2).toNat, if samF T t (turK T t f j).1 (T 2).toNat = 1 then (j : Int) + 1 else -1000000) else turK T t f j := rfl
      rw [e2, h1, if_neg h]
/-- bytes of a long, the highest first -/
def bytF (w k : Int) : Int := oL2I (oAndL (oShrL w (8 * k)) 255)
def trcM (σ : Mem) : List Int → Mem
  | [] => σ
  | b :: l => trcM (mu (mu σ 11 (σ 0 23) b) 0 23 (σ 0 23 + 1)) l
theorem mu_mu_c {σ : Mem} {k j v k' j' w : Int} (h : k ≠ k') : mu (mu σ k j v) k' j' w = mu (mu σ k' j' w) k j v := by
  funext a b
  simp only [mu_app]
  by_cases h1 : a = k' ∧ b = j' <;> by_cases h2 : a = k ∧ b = j <;> simp [h1, h2] <;> (intros; omega)
theorem mu_congr {σ σ' : Mem} {k j v v' : Int} (h : σ = σ') (h2 : v = v') : mu σ k j v = mu σ' k j v' := by rw [h, h2]
