/-! Foretold: the next row of sayings, all rows, turns -/
def advF (f : Int → Int) : Nat → Int → Int
  | 0 => f
  | i + 1 => if f i < 5 then ru f i (f i + 1) else advF (ru f i 0) i
theorem advF_yes {f : Int → Int} {lo : Int} (h1 : 1 ≤ lo) (h : f (lo - 1) < 5) : advF f lo.toNat = ru f (lo - 1) (f (lo - 1) + 1) := by
  have e : lo.toNat = (lo - 1).toNat + 1 := by omega
  have e2 : (((lo - 1).toNat : Nat) : Int) = lo - 1 := by omega
  rw [e]
  simp only [advF]
  rw [e2, if_pos h]
theorem advF_no {f : Int → Int} {n lo : Int} (h1 : 1 ≤ lo) (h2 : lo ≤ n) (h : ¬ over f (fun _ => 0) lo n (lo - 1) < 5) : advF (over f (fun _ => 0) (lo - 1) n) (lo - 1).toNat = advF (over f (fun _ => 0) lo n) lo.toNat := by
  have e : lo.toNat = (lo - 1).toNat + 1 := by omega
  have e2 : (((lo - 1).toNat : Nat) : Int) = lo - 1 := by omega
  have e3 : over f (fun _ => 0) (lo - 1) n = ru (over f (fun _ => 0) lo n) (lo - 1) 0 := by
    funext x
    unfold ru over
    by_cases hx : x = lo - 1
    · subst hx; rw [if_pos rfl, if_pos (by omega)]
    · rw [if_neg hx]
      by_cases h4 : lo ≤ x ∧ x < n
      · rw [if_pos h4, if_pos (by omega)]
      · rw [if_neg h4, if_neg (by omega)]
  rw [e]
  simp only [advF]
  rw [e2, if_neg h, e3]
theorem advF_in {n : Int} : ∀ (i : Nat) (f : Int → Int), (i : Int) ≤ n → (∀ j, 0 ≤ j → j < n → 0 ≤ f j ∧ f j ≤ 5) → ∀ j, 0 ≤ j → j < n → 0 ≤ advF f i j ∧ advF f i j ≤ 5 := by
  intro i
  induction i with
  | zero => intro f _ h; exact h
  | succ i ih =>
    intro f hi h j h0 h1
    have hfi := h i (by omega) (by omega)
    simp only [advF]
    split
    · unfold ru; split
      · omega
      · exact h j h0 h1
    · refine ih _ (by omega) (fun k k0 k1 => ?_) j h0 h1
      unfold ru; split
      · omega
      · exact h k k0 k1
def pw6 : Nat → Int
  | 0 => 1
  | i + 1 => pw6 i * 6
theorem pw6_in : ∀ i : Nat, i ≤ 4 → 1 ≤ pw6 i ∧ pw6 i ≤ 1296 := by
  intro i hi
  rcases (show i = 0 ∨ i = 1 ∨ i = 2 ∨ i = 3 ∨ i = 4 by omega) with h | h | h | h | h <;> subst h <;> decide
/-- all rows of sayings: how many rests, the first, the prospect's row, the trial -/
def skS (T to wo : Int → Int) (t w : Int) (a b c : Int → Int) : Nat → Int × (Int → Int) × (Int → Int) × (Int → Int)
  | 0 => (0, a, b, c)
  | i + 1 => let q := skS T to wo t w a b c i
    let r := rsS T to wo q.2.2.2 (T 2) t w q.2.2.1 (T 2).toNat
    (if r.1 = 0 then q.1 else q.1 + 1, if r.1 = 0 then q.2.1 else if q.1 = 0 then cpy q.2.2.2 q.2.1 0 0 4 else q.2.1, r.2, advF q.2.2.2 (T 2).toNat)
theorem skS_no {T to wo : Int → Int} {t w : Int} {a b c : Int → Int} {i : Nat} (h : (rsS T to wo (skS T to wo t w a b c i).2.2.2 (T 2) t w (skS T to wo t w a b c i).2.2.1 (T 2).toNat).1 = 0) : skS T to wo t w a b c (i + 1) = ((skS T to wo t w a b c i).1, (skS T to wo t w a b c i).2.1, (rsS T to wo (skS T to wo t w a b c i).2.2.2 (T 2) t w (skS T to wo t w a b c i).2.2.1 (T 2).toNat).2, advF (skS T to wo t w a b c i).2.2.2 (T 2).toNat) := by
  simp only [skS, h, if_true]
theorem skS_yes {T to wo : Int → Int} {t w : Int} {a b c : Int → Int} {i : Nat} (h : ¬ (rsS T to wo (skS T to wo t w a b c i).2.2.2 (T 2) t w (skS T to wo t w a b c i).2.2.1 (T 2).toNat).1 = 0) : skS T to wo t w a b c (i + 1) = ((skS T to wo t w a b c i).1 + 1, if (skS T to wo t w a b c i).1 = 0 then cpy (skS T to wo t w a b c i).2.2.2 (skS T to wo t w a b c i).2.1 0 0 4 else (skS T to wo t w a b c i).2.1, (rsS T to wo (skS T to wo t w a b c i).2.2.2 (T 2) t w (skS T to wo t w a b c i).2.2.1 (T 2).toNat).2, advF (skS T to wo t w a b c i).2.2.2 (T 2).toNat) := by
  simp only [skS, h, if_false]
theorem skS_in {T to wo : Int → Int} {t w : Int} {a b c : Int → Int} (hn : 0 ≤ T 2) (h : ∀ j, 0 ≤ j → j < T 2 → 0 ≤ c j ∧ c j ≤ 5) : ∀ i : Nat, (0 ≤ (skS T to wo t w a b c i).1 ∧ (skS T to wo t w a b c i).1 ≤ i) ∧ ∀ j, 0 ≤ j → j < T 2 → 0 ≤ (skS T to wo t w a b c i).2.2.2 j ∧ (skS T to wo t w a b c i).2.2.2 j ≤ 5 := by
  intro i
  induction i with
  | zero => exact ⟨⟨by simp [skS], by simp [skS]⟩, h⟩
  | succ i ih =>
    refine ⟨?_, fun j h0 h1 => ?_⟩
    · have := ih.1
      simp only [skS]
      split <;> omega
    · exact advF_in (T 2).toNat _ (by omega) ih.2 j h0 h1
/-- one turn: whether one changed, the sayings, the prospect's row -/
def tuS (T to wo : Int → Int) (n t : Int) (s f : Int → Int) : Nat → Int × (Int → Int) × (Int → Int)
  | 0 => (0, s, f)
  | i + 1 => let q := tuS T to wo n t s f i
    (if q.1 = 0 then (if prB T to wo q.2.1 n t i (T 0) = q.2.1 i then 0 else 1) else 1, ru q.2.1 i (prB T to wo q.2.1 n t i (T 0)), lkR T to wo q.2.1 n t i (T 0) q.2.2)
theorem tuS_01 {T to wo : Int → Int} {n t : Int} {s f : Int → Int} (i : Nat) : (tuS T to wo n t s f i).1 = 0 ∨ (tuS T to wo n t s f i).1 = 1 := by
  cases i with
  | zero => exact .inl rfl
  | succ i => simp only [tuS]; (repeat' split) <;> simp
theorem prB_in {T to wo said : Int → Int} {n t p w : Int} : 0 ≤ prB T to wo said n t p w ∧ prB T to wo said n t p w ≤ 5 := by
  have h := bsC_in (lo := prLo said n p) (be := prBe T to wo said n t p w) (sh := prSh T to wo said n t p w) (ab := prAb T said n p w) 6
  unfold prB; omega
theorem tuS_in {T to wo : Int → Int} {n t : Int} {s f : Int → Int} (h : ∀ j, 0 ≤ j → j < n → 0 ≤ s j ∧ s j ≤ 5) : ∀ i : Nat, ∀ j, 0 ≤ j → j < n → 0 ≤ (tuS T to wo n t s f i).2.1 j ∧ (tuS T to wo n t s f i).2.1 j ≤ 5 := by
  intro i
  induction i with
  | zero => exact h
  | succ i ih =>
    intro j h0 h1
    simp only [tuS]
    unfold ru; split
    · exact prB_in
    · exact ih j h0 h1
/-- turns till nobody changes: which was the last (0: none yet) -/
def ttS (T to wo : Int → Int) (n t : Int) (s f : Int → Int) : Nat → Int × (Int → Int) × (Int → Int)
  | 0 => (0, s, f)
  | i + 1 => let q := ttS T to wo n t s f i
    if q.1 = 0 then (let r := tuS T to wo n t q.2.1 q.2.2 n.toNat; (if r.1 = 0 then (i : Int) + 1 else 0, r.2)) else q
theorem ttS_in {T to wo : Int → Int} {n t : Int} {s f : Int → Int} (h : ∀ j, 0 ≤ j → j < n → 0 ≤ s j ∧ s j ≤ 5) : ∀ i : Nat, ∀ j, 0 ≤ j → j < n → 0 ≤ (ttS T to wo n t s f i).2.1 j ∧ (ttS T to wo n t s f i).2.1 j ≤ 5 := by
  intro i
  induction i with
  | zero => exact h
  | succ i ih =>
    simp only [ttS]
    split
    · exact tuS_in ih n.toNat
    · exact ih
theorem ttS_stay {T to wo : Int → Int} {n t : Int} {s f : Int → Int} {k m : Nat} (h : ¬ (ttS T to wo n t s f k).1 = 0) (hk : k ≤ m) : ttS T to wo n t s f m = ttS T to wo n t s f k := by
  induction m with
  | zero => have : k = 0 := by omega
            subst this; rfl
  | succ m ih =>
    by_cases e : k = m + 1
    · subst e; rfl
    · have h1 := ih (by omega)
      show (let q := ttS T to wo n t s f m; if q.1 = 0 then _ else q) = _
      simp only [h1, h, if_false]
theorem ttS_go {T to wo : Int → Int} {n t : Int} {s f : Int → Int} {i : Nat} (h : (ttS T to wo n t s f i).1 = 0) : ttS T to wo n t s f (i + 1) = (if (tuS T to wo n t (ttS T to wo n t s f i).2.1 (ttS T to wo n t s f i).2.2 n.toNat).1 = 0 then (i : Int) + 1 else 0, (tuS T to wo n t (ttS T to wo n t s f i).2.1 (ttS T to wo n t s f i).2.2 n.toNat).2) := by
  simp only [ttS, h, if_true]
def ttR (T to wo : Int → Int) (n t : Int) (s f : Int → Int) : Int := if (ttS T to wo n t s f 20).1 = 0 then -1000000 else (ttS T to wo n t s f 20).1
theorem ttR_at {T to wo : Int → Int} {n t : Int} {s f : Int → Int} {k : Nat} (hk : k < 20) (hnf : (ttS T to wo n t s f k).1 = 0) (h : (tuS T to wo n t (ttS T to wo n t s f k).2.1 (ttS T to wo n t s f k).2.2 n.toNat).1 = 0) : ttR T to wo n t s f = (k : Int) + 1 ∧ ttS T to wo n t s f 20 = ((k : Int) + 1, (tuS T to wo n t (ttS T to wo n t s f k).2.1 (ttS T to wo n t s f k).2.2 n.toNat).2) := by
  have e := ttS_go hnf
  rw [if_pos h] at e
  have e2 := ttS_stay (k := k + 1) (m := 20) (T := T) (to := to) (wo := wo) (n := n) (t := t) (s := s) (f := f) (by rw [e]; show ¬ (k : Int) + 1 = 0; omega) (by omega)
  rw [e] at e2
  refine ⟨?_, e2⟩
  unfold ttR
  rw [e2]
  exact if_neg (by show ¬ (k : Int) + 1 = 0; omega)
