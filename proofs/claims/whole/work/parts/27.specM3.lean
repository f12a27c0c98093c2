/-! the reference's reader -/
def byF (f : Int → Int) (n k : Int) : Int := if k < n then f k else -1000000
def blB (f : Int → Int) (n k : Int) : Int := if k < n ∧ (f k = 32 ∨ f k = 10) then 1 else 0
def leB (f : Int → Int) (n k : Int) : Int := if k < n ∧ (97 ≤ f k ∧ f k ≤ 122) then 1 else 0
def fiB (f : Int → Int) (n k : Int) : Int := if k < n ∧ (48 ≤ f k ∧ f k ≤ 57) then 1 else 0
def scF (b : Int → Int) : Nat → Int → Int
  | 0, c => c
  | m + 1, c => if b c = 1 then scF b m (c + 1) else c
def scan (b : Int → Int) (n c : Int) : Int := scF b (n - c).toNat c
theorem scan_stop {b : Int → Int} {n c : Int} (h : ¬ b c = 1) : scan b n c = c := by
  unfold scan
  cases (n - c).toNat with
  | zero => rfl
  | succ m => simp only [scF]; rw [if_neg h]
theorem scan_step {b : Int → Int} {n c : Int} (h : b c = 1) (hc : c < n) : scan b n c = scan b n (c + 1) := by
  unfold scan
  obtain ⟨m, hm⟩ : ∃ m : Nat, (n - c).toNat = m + 1 := ⟨(n - c).toNat - 1, by omega⟩
  rw [hm, show (n - (c + 1)).toNat = m by omega]
  simp only [scF]
  rw [if_pos h]
theorem scF_in {b : Int → Int} : ∀ (m : Nat) (c : Int), c ≤ scF b m c ∧ scF b m c ≤ c + m
  | 0, c => by simp [scF]
  | m + 1, c => by
    have ih := scF_in (b := b) m (c + 1)
    simp only [scF]
    split <;> omega
theorem scan_in {b : Int → Int} {n c : Int} (h : c ≤ n) : c ≤ scan b n c ∧ scan b n c ≤ n := by
  have := scF_in (b := b) (n - c).toNat c
  unfold scan
  omega
theorem byF_in {f : Int → Int} {n k : Int} (hf : ∀ k : Int, 0 ≤ f k ∧ f k ≤ 255) : -1000000 ≤ byF f n k ∧ byF f n k ≤ 255 := by
  have := hf k
  unfold byF
  split <;> omega
theorem byF_x {f : Int → Int} {n k : Int} (hf : ∀ k : Int, 0 ≤ f k ∧ f k ≤ 255) : (k < n ∧ byF f n k = f k ∧ 0 ≤ f k ∧ f k ≤ 255) ∨ (¬ k < n ∧ byF f n k = -1000000) := by
  have := hf k
  unfold byF
  split <;> omega
theorem blB_x {f : Int → Int} {n k : Int} : (blB f n k = 1 ∧ k < n ∧ (f k = 32 ∨ f k = 10)) ∨ (blB f n k = 0 ∧ ¬ (k < n ∧ (f k = 32 ∨ f k = 10))) := by
  unfold blB
  split
  · rename_i h; exact Or.inl ⟨rfl, h.1, h.2⟩
  · rename_i h; exact Or.inr ⟨rfl, h⟩
theorem leB_x {f : Int → Int} {n k : Int} : (leB f n k = 1 ∧ k < n ∧ 97 ≤ f k ∧ f k ≤ 122) ∨ (leB f n k = 0 ∧ ¬ (k < n ∧ (97 ≤ f k ∧ f k ≤ 122))) := by
  unfold leB
  split
  · rename_i h; exact Or.inl ⟨rfl, h.1, h.2.1, h.2.2⟩
  · rename_i h; exact Or.inr ⟨rfl, h⟩
theorem fiB_x {f : Int → Int} {n k : Int} : (fiB f n k = 1 ∧ k < n ∧ 48 ≤ f k ∧ f k ≤ 57) ∨ (fiB f n k = 0 ∧ ¬ (k < n ∧ (48 ≤ f k ∧ f k ≤ 57))) := by
  unfold fiB
  split
  · rename_i h; exact Or.inl ⟨rfl, h.1, h.2.1, h.2.2⟩
  · rename_i h; exact Or.inr ⟨rfl, h⟩
def tkS (f : Int → Int) (n c : Int) : Int := scan (blB f n) n c
def tkE (f : Int → Int) (n c : Int) : Int := if ¬ tkS f n c < n then tkS f n c else if 97 ≤ f (tkS f n c) ∧ f (tkS f n c) ≤ 122 then scan (leB f n) n (tkS f n c) else if 48 ≤ f (tkS f n c) ∧ f (tkS f n c) ≤ 57 then scan (fiB f n) n (tkS f n c) else tkS f n c + 1
def tkT (f : Int → Int) (n c : Int) : Int := if ¬ tkS f n c < n then 1 else if 97 ≤ f (tkS f n c) ∧ f (tkS f n c) ≤ 122 then 2 else if 48 ≤ f (tkS f n c) ∧ f (tkS f n c) ≤ 57 then (if 3 < tkE f n c - tkS f n c then 0 else 3) else if f (tkS f n c) = 59 then 4 else 0
def nxR (σ : Mem) (s e t : Int) : Int → Int := fun j => if j = 13 then e else if j = 14 then t else if j = 15 then s else if j = 16 then e else σ 0 j
def nxtM (σ : Mem) : Mem := mr σ 0 (nxR σ (tkS (σ 7) (σ 0 12) (σ 0 13)) (tkE (σ 7) (σ 0 12) (σ 0 13)) (tkT (σ 7) (σ 0 12) (σ 0 13)))
theorem nx_eq1 {σ : Mem} {s t : Int} : mu (mu (mu (mu σ 0 13 s) 0 15 s) 0 14 t) 0 16 s = mr σ 0 (nxR σ s s t) := by
  funext k x
  by_cases hk : k = 0
  · subst hk
    rcases (show x = 13 ∨ x = 14 ∨ x = 15 ∨ x = 16 ∨ (x ≠ 13 ∧ x ≠ 14 ∧ x ≠ 15 ∧ x ≠ 16) by omega) with rfl | rfl | rfl | rfl | ⟨a, b, c, e⟩
    · rfl
    · rfl
    · rfl
    · rfl
    · simp [mu_app, mr_app, nxR, a, b, c, e]
  · simp [mu_app, mr_app, hk]
theorem nx_eq2 {σ : Mem} {s e t : Int} : mu (mu (mu (mu (mu σ 0 13 s) 0 15 s) 0 13 e) 0 14 t) 0 16 e = mr σ 0 (nxR σ s e t) := by
  funext k x
  by_cases hk : k = 0
  · subst hk
    rcases (show x = 13 ∨ x = 14 ∨ x = 15 ∨ x = 16 ∨ (x ≠ 13 ∧ x ≠ 14 ∧ x ≠ 15 ∧ x ≠ 16) by omega) with rfl | rfl | rfl | rfl | ⟨a, b, c, e⟩
    · rfl
    · rfl
    · rfl
    · rfl
    · simp [mu_app, mr_app, nxR, a, b, c, e]
  · simp [mu_app, mr_app, hk]
/-- what the reader stands on: the tape's bytes, its length, the cursor -/
def TPW (σ : Mem) : Prop := (∀ k : Int, 0 ≤ σ 7 k ∧ σ 7 k ≤ 255) ∧ (0 ≤ σ 0 12 ∧ σ 0 12 ≤ 400) ∧ (0 ≤ σ 0 13 ∧ σ 0 13 ≤ σ 0 12)
def PW (σ : Mem) : Prop := TPW σ ∧ (0 ≤ σ 0 15 ∧ σ 0 15 ≤ σ 0 16 ∧ σ 0 16 ≤ σ 0 12) ∧ (0 ≤ σ 0 14 ∧ σ 0 14 ≤ 4) ∧ (0 ≤ σ 0 17 ∧ σ 0 17 ≤ 3) ∧ (σ 0 14 = 3 → σ 0 16 - σ 0 15 ≤ 3) ∧ (0 ≤ σ 5 2 ∧ σ 5 2 ≤ 4) ∧ (0 ≤ σ 5 3 ∧ σ 5 3 ≤ 5)
theorem tk_in {f : Int → Int} {n c : Int} (hc : 0 ≤ c ∧ c ≤ n) : c ≤ tkS f n c ∧ tkS f n c ≤ tkE f n c ∧ tkE f n c ≤ n ∧ 0 ≤ tkT f n c ∧ tkT f n c ≤ 4 ∧ (tkT f n c = 3 → tkE f n c - tkS f n c ≤ 3) := by
  have h1 := scan_in (b := blB f n) hc.2
  have h2 := scan_in (b := leB f n) (n := n) (c := tkS f n c) h1.2
  have h3 := scan_in (b := fiB f n) (n := n) (c := tkS f n c) h1.2
  have h4 : tkS f n c = scan (blB f n) n c := rfl
  have hE : tkS f n c ≤ tkE f n c ∧ tkE f n c ≤ n := by
    unfold tkE
    (repeat' split) <;> omega
  refine ⟨by omega, hE.1, hE.2, ?_, ?_, ?_⟩
  · unfold tkT; (repeat' split) <;> omega
  · unfold tkT; (repeat' split) <;> omega
  · intro h
    unfold tkT at h
    (repeat' split at h) <;> omega
def badM (σ : Mem) (k : Int) : Mem := if σ 0 17 = 0 then mu (mu σ 0 17 k) 0 18 (σ 0 15) else σ
def goM (σ : Mem) : Mem := if σ 0 17 = 0 then nxtM σ else σ
def mustM (σ : Mem) (so : Int) : Mem := goM (if so = 0 then badM σ 1 else σ)
theorem nxtM_PW {σ : Mem} (h : PW σ) : PW (nxtM σ) := by
  obtain ⟨⟨h1, h2, h3⟩, h4, h5, h6, h7, h8, h9⟩ := h
  have ht := tk_in (f := σ 7) (n := σ 0 12) (c := σ 0 13) h3
  refine ⟨⟨h1, h2, ?_⟩, ?_, ?_, h6, ?_, h8, h9⟩
  · show 0 ≤ tkE (σ 7) (σ 0 12) (σ 0 13) ∧ tkE (σ 7) (σ 0 12) (σ 0 13) ≤ σ 0 12
    omega
  · show 0 ≤ tkS (σ 7) (σ 0 12) (σ 0 13) ∧ tkS (σ 7) (σ 0 12) (σ 0 13) ≤ tkE (σ 7) (σ 0 12) (σ 0 13) ∧ tkE (σ 7) (σ 0 12) (σ 0 13) ≤ σ 0 12
    omega
  · exact ⟨ht.2.2.2.1, ht.2.2.2.2.1⟩
  · exact ht.2.2.2.2.2
theorem badM_PW {σ : Mem} {k : Int} (h : PW σ) (hk : 0 ≤ k ∧ k ≤ 3) : PW (badM σ k) := by
  obtain ⟨⟨h1, h2, h3⟩, h4, h5, h6, h7, h8, h9⟩ := h
  unfold badM
  split
  · exact ⟨⟨h1, h2, h3⟩, h4, h5, hk, h7, h8, h9⟩
  · exact ⟨⟨h1, h2, h3⟩, h4, h5, h6, h7, h8, h9⟩
theorem goM_PW {σ : Mem} (h : PW σ) : PW (goM σ) := by
  unfold goM
  split
  · exact nxtM_PW h
  · exact h
theorem mustM_PW {σ : Mem} {so : Int} (h : PW σ) : PW (mustM σ so) := by
  unfold mustM
  apply goM_PW
  split
  · exact badM_PW h (by omega)
  · exact h
def naF (f : Int → Int) (s : Int) : Nat → Int
  | 0 => 0
  | i + 1 => oOrL (oShlL (naF f s i) 8) (f (s + i))
def namR (σ : Mem) : Int := if σ 0 17 = 0 then (if σ 0 14 = 2 ∧ σ 0 16 - σ 0 15 < 8 then naF (σ 7) (σ 0 15) (σ 0 16 - σ 0 15).toNat else 0) else 0
theorem oOrL_R (a b : Int) : R6 (oOrL a b) := lI_rng _
theorem naF_R (f : Int → Int) (s : Int) : ∀ i : Nat, R6 (naF f s i)
  | 0 => ⟨by simp [naF], by simp [naF]⟩
  | i + 1 => oOrL_R _ _
theorem namR_R (σ : Mem) : R6 (namR σ) := by
  unfold namR
  (repeat' split) <;> first | exact naF_R _ _ _ | exact ⟨by omega, by omega⟩
def fgF (f : Int → Int) (s : Int) : Nat → Int
  | 0 => 0
  | i + 1 => 10 * fgF f s i + f (s + i) - 48
def figR (σ : Mem) : Int := if σ 0 14 = 3 then fgF (σ 7) (σ 0 15) (σ 0 16 - σ 0 15).toNat else 0
theorem figR_in {σ : Mem} (h : PW σ) : -10000 ≤ figR σ ∧ figR σ ≤ 100000 := by
  obtain ⟨⟨h1, -, -⟩, h4, -, -, h7, -, -⟩ := h
  unfold figR
  split
  · rename_i ht
    have h8 := h7 ht
    have a0 := h1 (σ 0 15)
    have a1 := h1 (σ 0 15 + 1)
    have a2 := h1 (σ 0 15 + 2)
    rcases (show (σ 0 16 - σ 0 15).toNat = 0 ∨ (σ 0 16 - σ 0 15).toNat = 1 ∨ (σ 0 16 - σ 0 15).toNat = 2 ∨ (σ 0 16 - σ 0 15).toNat = 3 by omega) with e | e | e | e <;> rw [e] <;> simp only [fgF] <;> simp <;> omega
  · omega
def numR (σ : Mem) : Int := if 0 < σ 0 17 then 0 else figR σ
def numX (σ : Mem) (lo hi : Int) : Mem := if σ 0 14 = 3 ∧ ¬ (lo ≤ figR σ ∧ figR σ ≤ hi) then badM σ 2 else σ
def numM (σ : Mem) (lo hi : Int) : Mem := if 0 < σ 0 17 then σ else mustM (numX σ lo hi) (if numX σ lo hi 0 14 = 3 then 1 else 0)
theorem numM_PW {σ : Mem} {lo hi : Int} (h : PW σ) : PW (numM σ lo hi) := by
  unfold numM
  split
  · exact h
  · apply mustM_PW
    unfold numX
    split
    · exact badM_PW h (by omega)
    · exact h
def kinB (w : Int) : Int := if w = 1953658213 then 1 else if w = 7564409 then 2 else if w = 7563385 then 3 else if w = 1919509352 then 4 else if w = 512869298039 then 5 else -1000000

theorem badM_c {σ : Mem} {k q j : Int} (h : q ≠ 0) : badM σ k q j = σ q j := by
  unfold badM
  split
  · simp [mu_app, h]
  · rfl
theorem goM_c {σ : Mem} {q j : Int} (h : q ≠ 0) : goM σ q j = σ q j := by
  unfold goM
  split
  · simp [nxtM, mr_app, h]
  · rfl
theorem mustM_c {σ : Mem} {so q j : Int} (h : q ≠ 0) : mustM σ so q j = σ q j := by
  unfold mustM
  rw [goM_c h]
  split
  · exact badM_c h
  · rfl
theorem numM_c {σ : Mem} {lo hi q j : Int} (h : q ≠ 0) : numM σ lo hi q j = σ q j := by
  unfold numM
  split
  · rfl
  · rw [mustM_c h]
    unfold numX
    split
    · exact badM_c h
    · rfl
/-- a fault stays -/
theorem goM_f {σ : Mem} : goM σ 0 17 = σ 0 17 := by
  unfold goM
  split <;> rfl
theorem badM_f {σ : Mem} {k : Int} : badM σ k 0 17 = if σ 0 17 = 0 then k else σ 0 17 := by
  unfold badM
  split
  · rfl
  · rfl
theorem mustM_f {σ : Mem} {so : Int} (h : mustM σ so 0 17 = 0) : σ 0 17 = 0 ∧ so ≠ 0 := by
  unfold mustM at h
  rw [goM_f] at h
  split at h
  · rw [badM_f] at h
    split at h <;> omega
  · exact ⟨h, by assumption⟩
theorem numM_f {σ : Mem} {lo hi : Int} (h : numM σ lo hi 0 17 = 0) (h0 : 0 ≤ σ 0 17) : σ 0 17 = 0 := by
  unfold numM at h
  split at h
  · exact h
  · omega
def bgnM (σ : Mem) : Mem := nxtM (mu (mu (mu (mu σ 0 12 (σ 0 10)) 0 10 0) 0 13 0) 0 17 0)
def endM (σ : Mem) : Mem := if σ 0 17 = 0 then mustM σ (if σ 0 14 = 4 then 1 else 0) else σ
theorem endM_PW {σ : Mem} (h : PW σ) : PW (endM σ) := by
  unfold endM
  split
  · exact mustM_PW h
  · exact h
theorem endM_c {σ : Mem} {q j : Int} (h : q ≠ 0) : endM σ q j = σ q j := by
  unfold endM
  split
  · exact mustM_c h
  · rfl
theorem endM_f {σ : Mem} (h : endM σ 0 17 = 0) : σ 0 17 = 0 := by
  unfold endM at h
  split at h
  · assumption
  · exact h
def begM (σ : Mem) (so room : Int) : Mem := mustM (if σ 5 so = room then badM σ 3 else σ) 1
theorem begM_PW {σ : Mem} {so room : Int} (h : PW σ) : PW (begM σ so room) := by
  unfold begM
  apply mustM_PW
  split
  · exact badM_PW h (by omega)
  · exact h
theorem begM_c {σ : Mem} {so room q j : Int} (h : q ≠ 0) : begM σ so room q j = σ q j := by
  unfold begM
  rw [mustM_c h]
  split
  · exact badM_c h
  · rfl
theorem begM_f {σ : Mem} {so room : Int} (h : begM σ so room 0 17 = 0) : σ 0 17 = 0 ∧ σ 5 so ≠ room := by
  have h1 := (mustM_f h).1
  split at h1
  · rw [badM_f] at h1
    split at h1 <;> omega
  · exact ⟨h1, by assumption⟩
def rpX (σ : Mem) : Mem := if begM σ 2 4 0 17 = 0 then mustM (begM σ 2 4) (if kinB (namR (begM σ 2 4)) = -1000000 then 0 else 1) else begM σ 2 4
def rpY (σ : Mem) : Mem := endM (rpX σ)
def rpM (σ : Mem) : Mem := if rpY σ 0 17 = 0 then mu (mu (rpY σ) 5 (4 + rpY σ 5 2) (kinB (namR (begM σ 2 4)))) 5 2 (mu (rpY σ) 5 (4 + rpY σ 5 2) (kinB (namR (begM σ 2 4))) 5 2 + 1) else rpY σ
theorem rpX_PW {σ : Mem} (h : PW σ) : PW (rpX σ) := by
  unfold rpX
  split
  · exact mustM_PW (begM_PW h)
  · exact begM_PW h
theorem rpY_PW {σ : Mem} (h : PW σ) : PW (rpY σ) := endM_PW (rpX_PW h)
theorem rpY_c {σ : Mem} {q j : Int} (h : q ≠ 0) : rpY σ q j = σ q j := by
  unfold rpY
  rw [endM_c h]
  unfold rpX
  split
  · rw [mustM_c h, begM_c h]
  · exact begM_c h
theorem rpY_f {σ : Mem} (h : rpY σ 0 17 = 0) : σ 0 17 = 0 ∧ σ 5 2 ≠ 4 := by
  have h1 := endM_f h
  unfold rpX at h1
  split at h1
  · exact begM_f (by assumption)
  · exact begM_f h1
theorem nx_fin {σ : Mem} {s e t : Int} (hS : tkS (σ 7) (σ 0 12) (σ 0 13) = s) (hE : tkE (σ 7) (σ 0 12) (σ 0 13) = e) (hT : tkT (σ 7) (σ 0 12) (σ 0 13) = t) : mr σ 0 (nxR σ s e t) = nxtM σ := by
  unfold nxtM
  rw [hS, hE, hT]
theorem PW_mu5 {τ : Mem} {j v : Int} (h : PW τ) (hj : 4 ≤ j) : PW (mu τ 5 j v) := by
  obtain ⟨h1, h4, h5, h6, h7, h8, h9⟩ := h
  refine ⟨h1, h4, h5, h6, h7, ?_, ?_⟩
  · rw [mu_j (by omega)]; exact h8
  · rw [mu_j (by omega)]; exact h9
theorem PW_mu5s {τ : Mem} {j v : Int} (h : PW τ) (hj : j = 0 ∨ j = 1) : PW (mu τ 5 j v) := by
  obtain ⟨h1, h4, h5, h6, h7, h8, h9⟩ := h
  refine ⟨h1, h4, h5, h6, h7, ?_, ?_⟩
  · rw [mu_j (by omega)]; exact h8
  · rw [mu_j (by omega)]; exact h9
def rtA (σ : Mem) : Int := if begM σ 3 5 0 17 = 0 then 12 + 6 * begM σ 3 5 5 3 else 12
def rtL (s : Mem) (a : Int) : Nat → Mem
  | 0 => s
  | i + 1 => mu (numM (rtL s a i) 0 60) 5 (a + i) (if numM (rtL s a i) 0 60 0 17 = 0 then numR (rtL s a i) else 0)
def rtX (σ : Mem) : Mem := rtL (begM σ 3 5) (rtA σ) (σ 5 2).toNat
def rtY (σ : Mem) : Mem := endM (rtX σ)
def rtM (σ : Mem) : Mem := if rtY σ 0 17 = 0 then mu (mu (mu (rtY σ) 5 (rtA σ + 4) (-1000000)) 5 (rtA σ + 5) 0) 5 3 (mu (mu (rtY σ) 5 (rtA σ + 4) (-1000000)) 5 (rtA σ + 5) 0 5 3 + 1) else rtY σ
theorem rtL_PW {s : Mem} {a : Int} (h : PW s) (ha : 12 ≤ a) : ∀ i : Nat, PW (rtL s a i)
  | 0 => h
  | i + 1 => PW_mu5 (numM_PW (rtL_PW h ha i)) (by omega)
theorem rtL_c {s : Mem} {a q j : Int} (ha : 12 ≤ a) (hq : q ≠ 0) (hj : q = 5 → j < 12) : ∀ i : Nat, rtL s a i q j = s q j
  | 0 => rfl
  | i + 1 => by
    show mu (numM (rtL s a i) 0 60) 5 (a + i) _ q j = _
    rw [mu_app, if_neg (by omega), numM_c hq, rtL_c ha hq hj i]
theorem rtL_f {s : Mem} {a : Int} (h : PW s) (ha : 12 ≤ a) : ∀ i : Nat, rtL s a i 0 17 = 0 → s 0 17 = 0
  | 0, e => e
  | i + 1, e => by
    have e1 : numM (rtL s a i) 0 60 0 17 = 0 := e
    exact rtL_f h ha i (numM_f e1 (rtL_PW h ha i).2.2.2.1.1)
theorem rtA_in {σ : Mem} (h : PW σ) : 12 ≤ rtA σ ∧ rtA σ ≤ 36 := by
  have h1 := begM_c (σ := σ) (so := 3) (room := 5) (q := 5) (j := 3) (by decide)
  have h2 := h.2.2.2.2.2.2
  unfold rtA
  split
  · have := begM_f (σ := σ) (by assumption)
    omega
  · omega
theorem rtY_PW {σ : Mem} (h : PW σ) : PW (rtY σ) := endM_PW (rtL_PW (begM_PW h) (rtA_in h).1 _)
theorem rtY_c {σ : Mem} (h : PW σ) {j : Int} (hj : j < 12) : rtY σ 5 j = σ 5 j := by
  unfold rtY rtX
  rw [endM_c (by decide), rtL_c (rtA_in h).1 (by decide) (fun _ => hj), begM_c (by decide)]
theorem rtY_f {σ : Mem} (h : PW σ) (e : rtY σ 0 17 = 0) : σ 0 17 = 0 ∧ σ 5 3 ≠ 5 := begM_f (rtL_f (begM_PW h) (rtA_in h).1 _ (endM_f e))
theorem rpM_PW {σ : Mem} (h : PW σ) : PW (rpM σ) := by
  have hy := rpY_PW h
  have hc := rpY_c (σ := σ) (q := 5) (j := 2) (by decide)
  unfold rpM
  split
  · have hz := rpY_f (σ := σ) (by assumption)
    obtain ⟨h1, h4, h5, h6, h7, h8, h9⟩ := PW_mu5 (v := kinB (namR (begM σ 2 4))) (j := 4 + rpY σ 5 2) hy (by have := hy.2.2.2.2.2.1; omega)
    refine ⟨h1, h4, h5, h6, h7, ?_, ?_⟩
    · rw [mu_s]
      rw [mu_j (by have := hy.2.2.2.2.2.1; omega)] at h8 ⊢
      have := h.2.2.2.2.2.1
      omega
    · rw [mu_j (by decide)]; exact h9
  · exact hy
theorem rtM_PW {σ : Mem} (h : PW σ) : PW (rtM σ) := by
  have hy := rtY_PW h
  have hA := rtA_in h
  have hc := rtY_c h (j := 3) (by decide)
  unfold rtM
  split
  · have hz := rtY_f h (by assumption)
    obtain ⟨h1, h4, h5, h6, h7, h8, h9⟩ := PW_mu5 (j := rtA σ + 5) (v := 0) (PW_mu5 (v := -1000000) (j := rtA σ + 4) hy (by omega)) (by omega)
    refine ⟨h1, h4, h5, h6, h7, ?_, ?_⟩
    · rw [mu_j (by decide)]; exact h8
    · rw [mu_s]
      rw [mu_j (by omega), mu_j (by omega)] at h9 ⊢
      have := h.2.2.2.2.2.2
      omega
  · exact hy
theorem rpM_n {σ : Mem} (h : PW σ) (e : rpM σ 0 17 = 0) : rpM σ 5 2 = σ 5 2 + 1 := by
  have hy := rpY_PW h
  have hc := rpY_c (σ := σ) (q := 5) (j := 2) (by decide)
  unfold rpM at e ⊢
  split at e
  · rw [if_pos (by assumption), mu_s, mu_j (by have := hy.2.2.2.2.2.1; omega)]
    omega
  · exact absurd e (by assumption)
theorem rtM_n {σ : Mem} (h : PW σ) (e : rtM σ 0 17 = 0) : rtM σ 5 3 = σ 5 3 + 1 := by
  have hA := rtA_in h
  have hc := rtY_c h (j := 3) (by decide)
  unfold rtM at e ⊢
  split at e
  · rw [if_pos (by assumption), mu_s, mu_j (by omega), mu_j (by omega)]
    omega
  · exact absurd e (by assumption)
def itM (step : Mem → Mem) (nm : Int) : Nat → Mem → Mem
  | 0, s => s
  | m + 1, s => if namR s = nm then itM step nm m (step s) else s
theorem itM_stop {step : Mem → Mem} {nm : Int} {k : Nat} {s : Mem} (h : ¬ namR s = nm) : itM step nm k s = s := by
  cases k with
  | zero => rfl
  | succ k => simp only [itM]; rw [if_neg h]
theorem namR_f {σ : Mem} {nm : Int} (h : namR σ = nm) (h0 : nm ≠ 0) : σ 0 17 = 0 := by
  unfold namR at h
  split at h
  · assumption
  · omega
def muP (s : Mem) : Nat := if namR s = 123581014175598 then (6 - s 5 2).toNat else 0
def muT (s : Mem) : Nat := if namR s = 499967946343 then (7 - s 5 3).toNat else 0
theorem muP_dec {s : Mem} (h : PW s) (e : namR s = 123581014175598) : muP (rpM s) < muP s := by
  have h1 := h.2.2.2.2.2.1
  unfold muP
  rw [if_pos e]
  split
  · have := rpM_n h (namR_f (by assumption) (by decide))
    omega
  · omega
theorem muT_dec {s : Mem} (h : PW s) (e : namR s = 499967946343) : muT (rtM s) < muT s := by
  have h1 := h.2.2.2.2.2.2
  unfold muT
  rw [if_pos e]
  split
  · have := rtM_n h (namR_f (by assumption) (by decide))
    omega
  · omega
theorem muP_6 {s : Mem} (h : PW s) : muP s ≤ 6 := by
  have h1 := h.2.2.2.2.2.1
  unfold muP
  split <;> omega
theorem muT_7 {s : Mem} (h : PW s) : muT s ≤ 7 := by
  have h1 := h.2.2.2.2.2.2
  unfold muT
  split <;> omega
theorem itM_go {step : Mem → Mem} {nm : Int} {k : Nat} {s : Mem} (h : namR s = nm) (hk : 0 < k) : itM step nm k s = itM step nm (k - 1) (step s) := by
  obtain ⟨m, rfl⟩ : ∃ m, k = m + 1 := ⟨k - 1, by omega⟩
  simp only [itM]
  rw [if_pos h]
  rfl
def tw1 (σ : Mem) : Mem := mr (bgnM (mu σ 0 0 0)) 5 (over (bgnM (mu σ 0 0 0) 5) (fun _ => 0) 0 42)
def tw2 (σ : Mem) : Mem := mustM (tw1 σ) (if namR (tw1 σ) = 7102839 then 1 else 0)
def tw3 (σ : Mem) : Mem := mu (numM (tw2 σ) 0 3) 5 0 (numR (tw2 σ))
def tw4 (σ : Mem) : Mem := mu (numM (tw3 σ) 0 20) 5 1 (numR (tw3 σ))
def tw5 (σ : Mem) : Mem := endM (tw4 σ)
def tw6 (σ : Mem) : Mem := if namR (tw5 σ) = 123581014175598 then tw5 σ else badM (tw5 σ) 1
def tw7 (σ : Mem) : Mem := itM rpM 123581014175598 6 (tw6 σ)
def tw8 (σ : Mem) : Mem := itM rtM 499967946343 7 (tw7 σ)
def tw9 (σ : Mem) : Mem := if tw8 σ 0 17 = 0 ∧ ¬ tw8 σ 0 14 = 1 then badM (tw8 σ) 1 else tw8 σ
def twR (σ : Mem) : Int := if 0 < tw9 σ 0 17 then -1000100 - tw9 σ 0 18 else tw9 σ 5 2
def twM (σ : Mem) : Mem := if 0 < tw9 σ 0 17 then mu (tw9 σ) 0 11 (tw9 σ 0 17) else mr (mu (tw9 σ) 0 8 0) 4 (over (tw9 σ 4) (fun k => tw9 σ 5 k) 0 42)
theorem tw1_PW {σ : Mem} (hb : ∀ k : Int, 0 ≤ σ 7 k ∧ σ 7 k ≤ 255) (ht : 0 ≤ σ 0 10 ∧ σ 0 10 ≤ 400) : PW (tw1 σ) := by
  have hk := tk_in (f := σ 7) (n := σ 0 10) (c := 0) ⟨by omega, ht.1⟩
  refine ⟨⟨hb, ht, ?_⟩, ?_, ⟨hk.2.2.2.1, hk.2.2.2.2.1⟩, ?_, hk.2.2.2.2.2, ?_, ?_⟩
  · show 0 ≤ tkE (σ 7) (σ 0 10) 0 ∧ tkE (σ 7) (σ 0 10) 0 ≤ σ 0 10
    omega
  · show 0 ≤ tkS (σ 7) (σ 0 10) 0 ∧ tkS (σ 7) (σ 0 10) 0 ≤ tkE (σ 7) (σ 0 10) 0 ∧ tkE (σ 7) (σ 0 10) 0 ≤ σ 0 10
    omega
  · show (0 : Int) ≤ 0 ∧ (0 : Int) ≤ 3
    omega
  · show (0 : Int) ≤ 0 ∧ (0 : Int) ≤ 4
    omega
  · show (0 : Int) ≤ 0 ∧ (0 : Int) ≤ 5
    omega
