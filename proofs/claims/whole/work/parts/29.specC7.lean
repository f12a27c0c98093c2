/-! the calls that hear -/
theorem owC_in (k w : Int) : 0 ≤ owC k w ∧ owC k w ≤ 5 := by
  have h := clF_in ((30 + w).tdiv 10)
  unfold owC frC
  (repeat' split) <;> omega
/-- what is lost if those who say the lowest get the thing -/
def lsC (f g : Int → Int) (low top : Int) : Nat → Int
  | 0 => 0
  | i + 1 => if f i = low then lsC f g low top i + (top - g i) else lsC f g low top i
theorem lsC_in {f g : Int → Int} {low top A : Int} (hA : 0 ≤ A) : ∀ i : Nat, (∀ j : Int, 0 ≤ j → j < i → -A ≤ top - g j ∧ top - g j ≤ A) → -(A * i) ≤ lsC f g low top i ∧ lsC f g low top i ≤ A * i
  | 0, _ => by simp [lsC]
  | i + 1, h => by
    have ih := lsC_in (f := f) (low := low) hA i (fun j a b => h j a (by omega))
    have h1 := h i (by omega) (by omega)
    have e : A * ((i + 1 : Nat) : Int) = A * (i : Int) + A := by
      rw [show ((i + 1 : Nat) : Int) = (i : Int) + 1 by omega, Int.mul_add, Int.mul_one]
    rw [e]
    simp only [lsC]
    split <;> omega
/-- bits: by which laws it is a rest -/
def hnS (T to wo S : Int → Int) (n t : Int) (f : Int → Int) : Nat → Int × (Int → Int)
  | 0 => (0, f)
  | i + 1 => let q := hnS T to wo S n t f i
    let r := rsS T to wo S n t i q.2 (T 2).toNat
    (if r.1 = 0 then q.1 else oOr q.1 (oShl 1 i), r.2)
theorem hnS_no {T to wo S : Int → Int} {n t : Int} {f : Int → Int} {i : Nat} (h : (rsS T to wo S n t i (hnS T to wo S n t f i).2 (T 2).toNat).1 = 0) : hnS T to wo S n t f (i + 1) = ((hnS T to wo S n t f i).1, (rsS T to wo S n t i (hnS T to wo S n t f i).2 (T 2).toNat).2) := by
  simp only [hnS, h, if_true]
theorem hnS_yes {T to wo S : Int → Int} {n t : Int} {f : Int → Int} {i : Nat} (h : ¬ (rsS T to wo S n t i (hnS T to wo S n t f i).2 (T 2).toNat).1 = 0) : hnS T to wo S n t f (i + 1) = (oOr (hnS T to wo S n t f i).1 (oShl 1 i), (rsS T to wo S n t i (hnS T to wo S n t f i).2 (T 2).toNat).2) := by
  simp only [hnS, h, if_false]
/-- bits: who says less than his own saying -/
def okS (f g : Int → Int) : Nat → Int
  | 0 => 0
  | i + 1 => if f i < g i then oOr (okS f g i) (oShl 1 i) else okS f g i
theorem maC_at {f : Int → Int} : ∀ i : Nat, 1 ≤ i → (∀ j, 0 ≤ j → j < (i : Int) → 0 ≤ f j ∧ f j ≤ 5) → 1 ≤ maC f (loC f (-1000000) i) (-1000000) i
  | 0, h0, _ => absurd h0 (by omega)
  | i + 1, _, h => by
    have hf := h i (by omega) (by omega)
    have hl := loC_in (f := f) (but := -1000000) i (fun j a b => h j a (by omega))
    have hm := maC_in (f := f) (s := f i) (but := -1000000) i
    by_cases h1 : f i < loC f (-1000000) i
    · have e : loC f (-1000000) (i + 1) = f i := by simp only [loC]; rw [if_neg (by omega), if_pos h1]
      rw [e]
      simp only [maC]
      rw [if_neg (by omega), if_pos trivial]
      omega
    · have e : loC f (-1000000) (i + 1) = loC f (-1000000) i := by simp only [loC]; rw [if_neg (by omega), if_neg h1]
      rw [e]
      by_cases h0 : i = 0
      · subst h0
        exfalso
        simp only [loC] at h1
        omega
      · have ih := maC_at (f := f) i (by omega) (fun j a b => h j a (by omega))
        simp only [maC]
        rw [if_neg (by omega)]
        split <;> omega
theorem rsS_R3 {T told worn said : Int → Int} {n t w : Int} {f : Int → Int} (i : Nat) : R3 (rsS T told worn said n t w f i).1 := by
  have h := rsS_01 (T := T) (told := told) (worn := worn) (said := said) (n := n) (t := t) (w := w) (f := f) i
  constructor <;> omega
theorem pI {α : Type} {c : Prop} [Decidable c] {a b x : α} (h : c) (k : x = a) : x = if c then a else b := k.trans (if_pos h).symm
theorem nIt {α : Type} {c : Prop} [Decidable c] {a b x : α} (h : ¬ c) (k : x = b) : x = if c then a else b := k.trans (if_neg h).symm
