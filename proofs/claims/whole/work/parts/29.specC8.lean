/-! the class's reader -/
def tkC (t : Int) : Int := if t = 0 then 4 else t - 1
def stM (σ : Mem) : Mem := mu (mu (mu σ 3 3 (tkS (σ 4) (σ 3 1) (σ 3 4))) 3 4 (tkE (σ 4) (σ 3 1) (σ 3 4))) 3 5 (tkC (tkT (σ 4) (σ 3 1) (σ 3 4)))
theorem st_fin {σ : Mem} {s e c : Int} (hS : tkS (σ 4) (σ 3 1) (σ 3 4) = s) (hE : tkE (σ 4) (σ 3 1) (σ 3 4) = e) (hC : tkC (tkT (σ 4) (σ 3 1) (σ 3 4)) = c) : mu (mu (mu σ 3 3 s) 3 4 e) 3 5 c = stM σ := by
  subst hS hE hC
  rfl
/-- what the reader stands on -/
def TRC (σ : Mem) : Prop := (∀ k : Int, 0 ≤ σ 4 k ∧ σ 4 k ≤ 255) ∧ (0 ≤ σ 3 1 ∧ σ 3 1 ≤ 400) ∧ (0 ≤ σ 3 4 ∧ σ 3 4 ≤ σ 3 1)
def RPC (σ : Mem) : Prop := TRC σ ∧ (0 ≤ σ 3 3 ∧ σ 3 3 ≤ σ 3 4) ∧ (0 ≤ σ 3 5 ∧ σ 3 5 ≤ 4) ∧ (σ 3 5 = 2 → σ 3 4 - σ 3 3 ≤ 3)
theorem tkC_in {t : Int} (h : 0 ≤ t ∧ t ≤ 4) : 0 ≤ tkC t ∧ tkC t ≤ 4 ∧ (tkC t = 2 ↔ t = 3) := by
  unfold tkC; split <;> omega
theorem stM_RPC {σ : Mem} (h : TRC σ) : RPC (stM σ) := by
  obtain ⟨h1, h2, h3⟩ := h
  have ht := tk_in (f := σ 4) (n := σ 3 1) (c := σ 3 4) h3
  have hc := tkC_in ⟨ht.2.2.2.1, ht.2.2.2.2.1⟩
  refine ⟨⟨h1, h2, ?_⟩, ?_, ⟨hc.1, hc.2.1⟩, ?_⟩
  · show 0 ≤ tkE (σ 4) (σ 3 1) (σ 3 4) ∧ tkE (σ 4) (σ 3 1) (σ 3 4) ≤ σ 3 1
    omega
  · show 0 ≤ tkS (σ 4) (σ 3 1) (σ 3 4) ∧ tkS (σ 4) (σ 3 1) (σ 3 4) ≤ tkE (σ 4) (σ 3 1) (σ 3 4)
    omega
  · intro h
    exact ht.2.2.2.2.2 (hc.2.2.mp h)
theorem RPC_of {σ τ : Mem} (h : RPC σ) (h3 : ∀ j, j = 1 ∨ j = 3 ∨ j = 4 ∨ j = 5 → τ 3 j = σ 3 j) (h4 : τ 4 = σ 4) : RPC τ := by
  unfold RPC TRC at *
  rw [h3 1 (by simp), h3 3 (by simp), h3 4 (by simp), h3 5 (by simp), h4]
  exact h
/-- the first i letters of a word are those at the present token -/
def wmS (f : Int → Int) (s : Int) (w : Nat) : Nat → Int
  | 0 => 1
  | i + 1 => if wmS f s w i = 0 then 0 else if f (s + i) = chZ w i then 1 else 0
theorem wmS_stay {f : Int → Int} {s : Int} {w k n : Nat} (h : wmS f s w k = 0) (hk : k ≤ n) : wmS f s w n = 0 := by
  induction n with
  | zero => have : k = 0 := by omega
            subst this; exact h
  | succ n ih =>
    by_cases e : k = n + 1
    · subst e; exact h
    · show (if wmS f s w n = 0 then 0 else _) = _
      rw [if_pos (ih (by omega))]
theorem wmS_01 {f : Int → Int} {s : Int} {w : Nat} : ∀ i : Nat, wmS f s w i = 0 ∨ wmS f s w i = 1
  | 0 => .inr rfl
  | i + 1 => by simp only [wmS]; (repeat' split) <;> simp
def isW (σ : Mem) (w : Nat) : Int := if ¬ σ 3 5 = 1 then 0 else if ¬ σ 3 4 - σ 3 3 = (lenS.getD w 0 : Nat) then 0 else wmS (σ 4) (σ 3 3) w (lenS.getD w 0)
theorem isW_01 {σ : Mem} {w : Nat} : isW σ w = 0 ∨ isW σ w = 1 := by
  unfold isW
  (repeat' split) <;> first | exact wmS_01 _ | simp
def wrM (σ : Mem) (k : Int) : Mem := mu σ 3 2 k
def nuT (σ : Mem) : Int := fgF (σ 4) (σ 3 3) (σ 3 4 - σ 3 3).toNat
theorem nuT_in {σ : Mem} (h : RPC σ) (h2 : σ 3 5 = 2) : -10000 ≤ nuT σ ∧ nuT σ ≤ 100000 := by
  obtain ⟨⟨h1, -, -⟩, h4, -, h7⟩ := h
  have h8 := h7 h2
  have a0 := h1 (σ 3 3)
  have a1 := h1 (σ 3 3 + 1)
  have a2 := h1 (σ 3 3 + 2)
  unfold nuT
  rcases (show (σ 3 4 - σ 3 3).toNat = 0 ∨ (σ 3 4 - σ 3 3).toNat = 1 ∨ (σ 3 4 - σ 3 3).toNat = 2 ∨ (σ 3 4 - σ 3 3).toNat = 3 by omega) with e | e | e | e <;> rw [e] <;> simp only [fgF] <;> simp <;> omega
def pwS (σ : Mem) (w : Nat) : Int × Mem := if isW σ w = 0 then (0, wrM σ 1) else (1, stM σ)
def psS (σ : Mem) : Int × Mem := if σ 3 5 = 3 then (1, stM σ) else (0, wrM σ 1)
def pnS (σ : Mem) (most : Int) : Int × Mem := if ¬ σ 3 5 = 2 then (0, wrM σ 1) else if most < nuT σ then (0, wrM (mu σ 3 6 (nuT σ)) 2) else (1, stM (mu σ 3 6 (nuT σ)))
def soT (σ : Mem) : Int := if ¬ isW σ 2 = 0 then 1 else if ¬ isW σ 3 = 0 then 2 else if ¬ isW σ 4 = 0 then 3 else if ¬ isW σ 5 = 0 then 4 else if ¬ isW σ 6 = 0 then 5 else 0
theorem soT_in (σ : Mem) : 0 ≤ soT σ ∧ soT σ ≤ 5 := by unfold soT; (repeat' split) <;> omega
def rsoS (σ : Mem) (a p : Int) : Int × Mem := if soT σ = 0 then (0, wrM σ 1) else (1, stM (mu σ (a + 4) p (soT σ)))
theorem RPC_mu {σ : Mem} {a j v : Int} (h : RPC σ) (h3 : a ≠ 3) (h4 : a ≠ 4) : RPC (mu σ a j v) := RPC_of h (fun i _ => mu_k (Ne.symm h3)) (by funext x; exact mu_k (Ne.symm h4))
theorem RPC_26 {σ : Mem} {j v : Int} (h : RPC σ) (hj : j = 2 ∨ j = 6) : RPC (mu σ 3 j v) := RPC_of h (fun i hi => mu_j (by omega)) (by funext x; exact mu_k (by decide))
theorem stM_c {σ : Mem} {q : Int} (h : q ≠ 3) : stM σ q = σ q := by
  funext x
  unfold stM
  rw [mu_k h, mu_k h, mu_k h]
theorem wrM_c {σ : Mem} {q k : Int} (h : q ≠ 3) : wrM σ k q = σ q := by
  funext x
  exact mu_k h
theorem mu3_c {σ : Mem} {q j v : Int} (h : q ≠ 3) : mu σ 3 j v q = σ q := by
  funext x
  exact mu_k h
theorem pwS_RPC {σ : Mem} {w : Nat} (h : RPC σ) : RPC (pwS σ w).2 := by
  unfold pwS
  split
  · exact RPC_26 h (.inl rfl)
  · exact stM_RPC h.1
theorem psS_RPC {σ : Mem} (h : RPC σ) : RPC (psS σ).2 := by
  unfold psS
  split
  · exact stM_RPC h.1
  · exact RPC_26 h (.inl rfl)
theorem pnS_RPC {σ : Mem} {most : Int} (h : RPC σ) : RPC (pnS σ most).2 := by
  unfold pnS
  split
  · exact RPC_26 h (.inl rfl)
  · split
    · exact RPC_26 (RPC_26 h (.inr rfl)) (.inl rfl)
    · exact stM_RPC (RPC_26 h (.inr rfl)).1
theorem rsoS_RPC {σ : Mem} {a p : Int} (h : RPC σ) (ha : 20 ≤ a ∧ a < 24) : RPC (rsoS σ a p).2 := by
  unfold rsoS
  split
  · exact RPC_26 h (.inl rfl)
  · exact stM_RPC (RPC_mu h (by omega) (by omega)).1
theorem pwS_c {σ : Mem} {w : Nat} {q : Int} (h : q ≠ 3) : (pwS σ w).2 q = σ q := by
  unfold pwS
  split
  · exact wrM_c h
  · exact stM_c h
theorem psS_c {σ : Mem} {q : Int} (h : q ≠ 3) : (psS σ).2 q = σ q := by
  unfold psS
  split
  · exact stM_c h
  · exact wrM_c h
theorem pnS_c {σ : Mem} {most q : Int} (h : q ≠ 3) : (pnS σ most).2 q = σ q := by
  unfold pnS
  split
  · exact wrM_c h
  · split
    · exact (wrM_c h).trans (mu3_c h)
    · exact (stM_c h).trans (mu3_c h)
theorem rsoS_c {σ : Mem} {a p q : Int} (h : q ≠ 3) (ha : q ≠ a + 4) : (rsoS σ a p).2 q = σ q := by
  unfold rsoS
  split
  · exact wrM_c h
  · refine (stM_c h).trans ?_
    funext x
    exact mu_k ha
theorem pwS_01 {σ : Mem} {w : Nat} : (pwS σ w).1 = 0 ∨ (pwS σ w).1 = 1 := by unfold pwS; split <;> simp
theorem psS_01 {σ : Mem} : (psS σ).1 = 0 ∨ (psS σ).1 = 1 := by unfold psS; split <;> simp
theorem pnS_01 {σ : Mem} {m : Int} : (pnS σ m).1 = 0 ∨ (pnS σ m).1 = 1 := by unfold pnS; (repeat' split) <;> simp
theorem rsoS_01 {σ : Mem} {a p : Int} : (rsoS σ a p).1 = 0 ∨ (rsoS σ a p).1 = 1 := by unfold rsoS; split <;> simp
theorem r3_01 {x : Int} (h : x = 0 ∨ x = 1) : R3 x := by constructor <;> omega
/-- the law; people; things; all -/
def rlS (σ : Mem) (a : Int) : Int × Mem :=
  if (pwS σ 0).1 = 0 then (0, (pwS σ 0).2) else
  if (pnS (pwS σ 0).2 3).1 = 0 then (0, (pnS (pwS σ 0).2 3).2) else
  if (pnS (mu (pnS (pwS σ 0).2 3).2 a 0 ((pnS (pwS σ 0).2 3).2 3 6)) 20).1 = 0 then (0, (pnS (mu (pnS (pwS σ 0).2 3).2 a 0 ((pnS (pwS σ 0).2 3).2 3 6)) 20).2) else
  psS (mu (pnS (mu (pnS (pwS σ 0).2 3).2 a 0 ((pnS (pwS σ 0).2 3).2 3 6)) 20).2 a 1 ((pnS (mu (pnS (pwS σ 0).2 3).2 a 0 ((pnS (pwS σ 0).2 3).2 3 6)) 20).2 3 6))
def rpG (a : Int) : Nat → Int → Mem → Int × Mem
  | 0, _, M => (1, M)
  | k + 1, i, M => if ¬ i = 0 ∧ isW M 1 = 0 then (1, M) else if i = 4 then (0, wrM M 3) else
    if (pwS M 1).1 = 0 then (0, (pwS M 1).2) else
    if (rsoS (pwS M 1).2 a i).1 = 0 then (0, (rsoS (pwS M 1).2 a i).2) else
    if (psS (rsoS (pwS M 1).2 a i).2).1 = 0 then (0, (psS (rsoS (pwS M 1).2 a i).2).2) else
    rpG a k (i + 1) (mu (psS (rsoS (pwS M 1).2 a i).2).2 a 2 (i + 1))
theorem rpG_eq {a i : Int} {k : Nat} {M : Mem} (hk : 1 ≤ k) : rpG a k i M = if ¬ i = 0 ∧ isW M 1 = 0 then (1, M) else if i = 4 then (0, wrM M 3) else
    if (pwS M 1).1 = 0 then (0, (pwS M 1).2) else
    if (rsoS (pwS M 1).2 a i).1 = 0 then (0, (rsoS (pwS M 1).2 a i).2) else
    if (psS (rsoS (pwS M 1).2 a i).2).1 = 0 then (0, (psS (rsoS (pwS M 1).2 a i).2).2) else
    rpG a (k - 1) (i + 1) (mu (psS (rsoS (pwS M 1).2 a i).2).2 a 2 (i + 1)) := by
  obtain ⟨m, rfl⟩ : ∃ m, k = m + 1 := ⟨k - 1, by omega⟩
  rfl
def rnG (a i : Int) : Nat → Int → Mem → Int × Mem
  | 0, _, M => (1, M)
  | k + 1, p, M => if (pnS M 60).1 = 0 then (0, (pnS M 60).2) else rnG a i k (p + 1) (mu (pnS M 60).2 (a + 12) (i * 4 + p) ((pnS M 60).2 3 6 - 30))
theorem rnG_eq {a i p : Int} {k : Nat} {M : Mem} (hk : 1 ≤ k) : rnG a i k p M = if (pnS M 60).1 = 0 then (0, (pnS M 60).2) else rnG a i (k - 1) (p + 1) (mu (pnS M 60).2 (a + 12) (i * 4 + p) ((pnS M 60).2 3 6 - 30)) := by
  obtain ⟨m, rfl⟩ : ∃ m, k = m + 1 := ⟨k - 1, by omega⟩
  rfl
def rtG (a : Int) : Nat → Int → Mem → Int × Mem
  | 0, _, M => (1, M)
  | k + 1, i, M => if isW M 7 = 0 then (1, M) else if i = 5 then (0, wrM M 3) else
    if (rnG a i (M a 2).toNat 0 (stM M)).1 = 0 then (0, (rnG a i (M a 2).toNat 0 (stM M)).2) else
    if (psS (rnG a i (M a 2).toNat 0 (stM M)).2).1 = 0 then (0, (psS (rnG a i (M a 2).toNat 0 (stM M)).2).2) else
    rtG a k (i + 1) (mu (psS (rnG a i (M a 2).toNat 0 (stM M)).2).2 a 3 (i + 1))
theorem rtG_eq {a i : Int} {k : Nat} {M : Mem} (hk : 1 ≤ k) : rtG a k i M = if isW M 7 = 0 then (1, M) else if i = 5 then (0, wrM M 3) else
    if (rnG a i (M a 2).toNat 0 (stM M)).1 = 0 then (0, (rnG a i (M a 2).toNat 0 (stM M)).2) else
    if (psS (rnG a i (M a 2).toNat 0 (stM M)).2).1 = 0 then (0, (psS (rnG a i (M a 2).toNat 0 (stM M)).2).2) else
    rtG a (k - 1) (i + 1) (mu (psS (rnG a i (M a 2).toNat 0 (stM M)).2).2 a 3 (i + 1)) := by
  obtain ⟨m, rfl⟩ : ∃ m, k = m + 1 := ⟨k - 1, by omega⟩
  rfl
def rnG_x : Unit := ()
def emM (σ : Mem) (a : Int) : Mem := mr (mr (mr (mu (mu (mu (mu σ a 0 0) a 1 0) a 2 0) a 3 0) (a + 8) (over (σ (a + 8)) (fun _ => 0) 0 4)) (a + 16) (over (σ (a + 16)) (fun _ => -1000000) 0 5)) (a + 20) (over (σ (a + 20)) (fun _ => 0) 0 5)
def ri0 (σ : Mem) (a : Int) : Mem := stM (mu (mu (emM σ a) 3 2 0) 3 4 0)
def ri1 (σ : Mem) (a : Int) : Int × Mem := rlS (ri0 σ a) a
def ri2 (σ : Mem) (a : Int) : Int × Mem := rpG a 5 0 (ri1 σ a).2
def ri3 (σ : Mem) (a : Int) : Int × Mem := rtG a 6 0 (ri2 σ a).2
def riS (σ : Mem) (a : Int) : Int × Mem := if (ri1 σ a).1 = 0 then (0, (ri1 σ a).2) else if (ri2 σ a).1 = 0 then (0, (ri2 σ a).2) else if (ri3 σ a).1 = 0 then (0, (ri3 σ a).2) else if (ri3 σ a).2 3 5 = 0 then (1, (ri3 σ a).2) else (0, wrM (ri3 σ a).2 1)
theorem rlS_RPC {σ : Mem} {a : Int} (h : RPC σ) (ha : 20 ≤ a ∧ a < 24) : RPC (rlS σ a).2 := by
  have h1 := pwS_RPC (w := 0) h
  have h2 := pnS_RPC (most := 3) h1
  have h3 := RPC_mu (a := a) (j := 0) (v := (pnS (pwS σ 0).2 3).2 3 6) h2 (by omega) (by omega)
  have h4 := pnS_RPC (most := 20) h3
  unfold rlS
  (repeat' split)
  · exact h1
  · exact h2
  · exact h4
  · exact psS_RPC (RPC_mu h4 (by omega) (by omega))
theorem rpG_RPC {a : Int} (ha : 20 ≤ a ∧ a < 24) : ∀ (k : Nat) (i : Int) (M : Mem), RPC M → RPC (rpG a k i M).2
  | 0, _, _, h => h
  | k + 1, i, M, h => by
    have h1 := pwS_RPC (w := 1) h
    have h2 := rsoS_RPC (p := i) h1 ha
    have h3 := psS_RPC h2
    simp only [rpG]
    (repeat' split)
    · exact h
    · exact RPC_26 h (.inl rfl)
    · exact h1
    · exact h2
    · exact h3
    · exact rpG_RPC ha k _ _ (RPC_mu h3 (by omega) (by omega))
theorem rnG_RPC {a i : Int} (ha : 20 ≤ a ∧ a < 24) : ∀ (k : Nat) (p : Int) (M : Mem), RPC M → RPC (rnG a i k p M).2
  | 0, _, _, h => h
  | k + 1, p, M, h => by
    have h1 := pnS_RPC (most := 60) h
    simp only [rnG]
    split
    · exact h1
    · exact rnG_RPC ha k _ _ (RPC_mu h1 (by omega) (by omega))
theorem rnG_c {a i q : Int} (h3 : q ≠ 3) (hq : q ≠ a + 12) : ∀ (k : Nat) (p : Int) (M : Mem), (rnG a i k p M).2 q = M q
  | 0, _, _ => rfl
  | k + 1, p, M => by
    simp only [rnG]
    split
    · exact pnS_c h3
    · rw [rnG_c h3 hq k]
      refine Eq.trans ?_ (pnS_c (σ := M) (most := 60) h3)
      funext x
      exact mu_k hq
theorem rtG_RPC {a : Int} (ha : 20 ≤ a ∧ a < 24) : ∀ (k : Nat) (i : Int) (M : Mem), RPC M → RPC (rtG a k i M).2
  | 0, _, _, h => h
  | k + 1, i, M, h => by
    have h1 := rnG_RPC (i := i) ha (M a 2).toNat 0 _ (stM_RPC h.1)
    have h2 := psS_RPC h1
    simp only [rtG]
    (repeat' split)
    · exact h
    · exact RPC_26 h (.inl rfl)
    · exact h1
    · exact h2
    · exact rtG_RPC ha k _ _ (RPC_mu h2 (by omega) (by omega))
theorem psS_1 {σ : Mem} : (psS σ).1 = 0 ∨ (psS σ).1 = 1 := psS_01
theorem rlS_01 {σ : Mem} {a : Int} : (rlS σ a).1 = 0 ∨ (rlS σ a).1 = 1 := by
  unfold rlS
  (repeat' split) <;> first | exact .inl rfl | exact psS_01
theorem rpG_01 {a : Int} : ∀ (k : Nat) (i : Int) (M : Mem), (rpG a k i M).1 = 0 ∨ (rpG a k i M).1 = 1
  | 0, _, _ => .inr rfl
  | k + 1, i, M => by
    simp only [rpG]
    (repeat' split) <;> first | exact .inl rfl | exact .inr rfl | exact rpG_01 k _ _
theorem rnG_01 {a i : Int} : ∀ (k : Nat) (p : Int) (M : Mem), (rnG a i k p M).1 = 0 ∨ (rnG a i k p M).1 = 1
  | 0, _, _ => .inr rfl
  | k + 1, p, M => by
    simp only [rnG]
    (repeat' split) <;> first | exact .inl rfl | exact rnG_01 k _ _
theorem rtG_01 {a : Int} : ∀ (k : Nat) (i : Int) (M : Mem), (rtG a k i M).1 = 0 ∨ (rtG a k i M).1 = 1
  | 0, _, _ => .inr rfl
  | k + 1, i, M => by
    simp only [rtG]
    (repeat' split) <;> first | exact .inl rfl | exact .inr rfl | exact rtG_01 k _ _
theorem riS_01 {σ : Mem} {a : Int} : (riS σ a).1 = 0 ∨ (riS σ a).1 = 1 := by
  unfold riS
  (repeat' split) <;> simp
def bytC (w k : Int) : Int := oAnd (oL2I (oShrL w (8 * k))) 255
