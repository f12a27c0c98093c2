def lX8 (K : Nat → ClassId) (ad : Int → Nat) : va_W := [((ad 0), .inr (8, [.ref (ad 1), .ref (ad 3), .ref (ad 2), .ref (ad 5), .ref (ad 10), .ref (ad 12), .ref (ad 13), .ref (ad 18), .ref (ad 22), .ref (ad 23), .int 0, .int 0])), ((ad 1), .inl (K 2, 8, .inr (.inr (.inr (.inr (va_up (va_up (va_up (va_up (va_up (va_up (va_up (va_up (fun _ => none) (0 : Int32).toNatClampNeg (some (ad 44))) (1 : Int32).toNatClampNeg (some (ad 45))) (2 : Int32).toNatClampNeg (some (ad 46))) (3 : Int32).toNatClampNeg (some (ad 47))) (4 : Int32).toNatClampNeg (some (ad 48))) (5 : Int32).toNatClampNeg (some (ad 49))) (6 : Int32).toNatClampNeg (some (ad 50))) (7 : Int32).toNatClampNeg (some (ad 51)))))))), ((ad 2), .inl (K 3, 2, .inr (.inr (.inr (.inr (va_up (va_up (fun _ => none) (0 : Int32).toNatClampNeg (some (ad 20))) (1 : Int32).toNatClampNeg (some (ad 21)))))))), ((ad 44), .inr (5, [.ref (ad 52), .int 1, .int 0, .int 0])), ((ad 52), .inl (K 0, 40, .inl (fun _ => 0))), ((ad 45), .inr (5, [.ref (ad 53), .int 1, .int 0, .int 0])), ((ad 53), .inl (K 0, 40, .inl (fun _ => 0))), ((ad 46), .inr (5, [.ref (ad 54), .int 1, .int 0, .int 0])), ((ad 54), .inl (K 0, 40, .inl (fun _ => 0))), ((ad 47), .inr (5, [.ref (ad 55), .int 1, .int 0, .int 0])), ((ad 55), .inl (K 0, 40, .inl (fun _ => 0))), ((ad 48), .inr (5, [.ref (ad 56), .int 1, .int 0, .int 0])), ((ad 56), .inl (K 0, 40, .inl (fun _ => 0))), ((ad 49), .inr (5, [.ref (ad 57), .int 1, .int 0, .int 0])), ((ad 57), .inl (K 0, 40, .inl (fun _ => 0))), ((ad 50), .inr (5, [.ref (ad 58), .int 1, .int 0, .int 0])), ((ad 58), .inl (K 0, 40, .inl (fun _ => 0))), ((ad 51), .inr (5, [.ref (ad 59), .int 1, .int 0, .int 0])), ((ad 59), .inl (K 0, 40, .inl (fun _ => 0))), ((ad 20), .inr (7, [.int 0, .int 0, .int 0, .int 0, .ref (ad 24), .ref (ad 28), .ref (ad 32), .ref (ad 36), .ref (ad 40)])), ((ad 24), .inl (K 0, 4, .inl (fun _ => 0))), ((ad 28), .inl (K 0, 4, .inl (fun _ => 0))), ((ad 32), .inl (K 0, 20, .inl (fun _ => 0))), ((ad 36), .inl (K 0, 5, .inl (fun _ => 0))), ((ad 40), .inl (K 0, 5, .inl (fun _ => 0))), ((ad 21), .inr (7, [.int 0, .int 0, .int 0, .int 0, .ref (ad 25), .ref (ad 29), .ref (ad 33), .ref (ad 37), .ref (ad 41)])), ((ad 25), .inl (K 0, 4, .inl (fun _ => 0))), ((ad 29), .inl (K 0, 4, .inl (fun _ => 0))), ((ad 33), .inl (K 0, 20, .inl (fun _ => 0))), ((ad 37), .inl (K 0, 5, .inl (fun _ => 0))), ((ad 41), .inl (K 0, 5, .inl (fun _ => 0))), ((ad 3), .inr (4, [.ref (ad 4), .int 0, .int 0, .int 0, .int 0, .int 0, .int 0])), ((ad 4), .inl (K 0, 400, .inl (fun _ => 0))), ((ad 5), .inr (0, [.int 0, .int 0, .ref (ad 6), .ref (ad 7), .ref (ad 8), .ref (ad 9)])), ((ad 6), .inl (K 0, 24, .inl (fun _ => 0))), ((ad 7), .inl (K 0, 24, .inl (fun _ => 0))), ((ad 8), .inl (K 0, 24, .inl (fun _ => 0))), ((ad 9), .inl (K 0, 96, .inl (fun _ => 0))), ((ad 10), .inr (6, [.int 0, .ref (ad 11)])), ((ad 11), .inl (K 0, 4, .inl (fun _ => 0))), ((ad 12), .inr (3, [.int 0, .int 0, .int 0, .int 0, .int 0])), ((ad 13), .inr (2, [.int 0, .ref (ad 14), .ref (ad 15), .ref (ad 17)])), ((ad 14), .inl (K 0, 4, .inl (fun _ => 0))), ((ad 15), .inr (6, [.int 0, .ref (ad 16)])), ((ad 16), .inl (K 0, 4, .inl (fun _ => 0))), ((ad 17), .inr (3, [.int 0, .int 0, .int 0, .int 0, .int 0])), ((ad 18), .inr (1, [.int 0, .ref (ad 19), .int 0, .int 0, .int 0, .int 0])), ((ad 19), .inl (K 0, 16, .inl (fun _ => 0))), ((ad 22), .inr (7, [.int 0, .int 0, .int 0, .int 0, .ref (ad 26), .ref (ad 30), .ref (ad 34), .ref (ad 38), .ref (ad 42)])), ((ad 26), .inl (K 0, 4, .inl (fun _ => 0))), ((ad 30), .inl (K 0, 4, .inl (fun _ => 0))), ((ad 34), .inl (K 0, 20, .inl (fun _ => 0))), ((ad 38), .inl (K 0, 5, .inl (fun _ => 0))), ((ad 42), .inl (K 0, 5, .inl (fun _ => 0))), ((ad 23), .inr (7, [.int 0, .int 0, .int 0, .int 0, .ref (ad 27), .ref (ad 31), .ref (ad 35), .ref (ad 39), .ref (ad 43)])), ((ad 27), .inl (K 0, 4, .inl (fun _ => 0))), ((ad 31), .inl (K 0, 4, .inl (fun _ => 0))), ((ad 35), .inl (K 0, 20, .inl (fun _ => 0))), ((ad 39), .inl (K 0, 5, .inl (fun _ => 0))), ((ad 43), .inl (K 0, 5, .inl (fun _ => 0)))]
def gX8 (k : Nat) : Nat := [0, 1, 2, 31, 32, 33, 34, 35, 36, 37, 38, 39, 40, 41, 42, 43, 44, 45, 46, 47, 19, 25, 48, 54, 20, 26, 49, 55, 21, 27, 50, 56, 22, 28, 51, 57, 23, 29, 52, 58, 24, 30, 53, 59, 3, 5, 7, 9, 11, 13, 15, 17, 4, 6, 8, 10, 12, 14, 16, 18].getD k 0
theorem hgX8_0 (K : Nat → ClassId) (ad : Int → Nat) (k : Nat) (h0 : 0 ≤ k) (hk : k < 10) : ∃ e : va_E, (lX8 K ad)[gX8 k]? = some (ad (k : Int), e) ∧ EqE e (cfC ad K (k : Int) (mem0C (k : Int))) := by
  rcases (show k = 0 ∨ k = 1 ∨ k = 2 ∨ k = 3 ∨ k = 4 ∨ k = 5 ∨ k = 6 ∨ k = 7 ∨ k = 8 ∨ k = 9 from by omega) with rfl | rfl | rfl | rfl | rfl | rfl | rfl | rfl | rfl | rfl
  · exact ⟨_, rfl, .inl rfl⟩
  · exact ⟨_, rfl, .inr (.inr ⟨_, _, _, _, rfl, rfl, fun j hj => by rcases (show j = 0 ∨ j = 1 ∨ j = 2 ∨ j = 3 ∨ j = 4 ∨ j = 5 ∨ j = 6 ∨ j = 7 from by omega) with rfl | rfl | rfl | rfl | rfl | rfl | rfl | rfl <;> rfl⟩)⟩
  · exact ⟨_, rfl, .inr (.inr ⟨_, _, _, _, rfl, rfl, fun j hj => by rcases (show j = 0 ∨ j = 1 from by omega) with rfl | rfl <;> rfl⟩)⟩
  · exact ⟨_, rfl, .inl rfl⟩
  · exact ⟨_, rfl, .inl rfl⟩
  · exact ⟨_, rfl, .inl rfl⟩
  · exact ⟨_, rfl, .inl rfl⟩
  · exact ⟨_, rfl, .inl rfl⟩
  · exact ⟨_, rfl, .inl rfl⟩
  · exact ⟨_, rfl, .inl rfl⟩
theorem hgX8_1 (K : Nat → ClassId) (ad : Int → Nat) (k : Nat) (h0 : 10 ≤ k) (hk : k < 20) : ∃ e : va_E, (lX8 K ad)[gX8 k]? = some (ad (k : Int), e) ∧ EqE e (cfC ad K (k : Int) (mem0C (k : Int))) := by
  rcases (show k = 10 ∨ k = 11 ∨ k = 12 ∨ k = 13 ∨ k = 14 ∨ k = 15 ∨ k = 16 ∨ k = 17 ∨ k = 18 ∨ k = 19 from by omega) with rfl | rfl | rfl | rfl | rfl | rfl | rfl | rfl | rfl | rfl
  · exact ⟨_, rfl, .inl rfl⟩
  · exact ⟨_, rfl, .inl rfl⟩
  · exact ⟨_, rfl, .inl rfl⟩
  · exact ⟨_, rfl, .inl rfl⟩
  · exact ⟨_, rfl, .inl rfl⟩
  · exact ⟨_, rfl, .inl rfl⟩
  · exact ⟨_, rfl, .inl rfl⟩
  · exact ⟨_, rfl, .inl rfl⟩
  · exact ⟨_, rfl, .inl rfl⟩
  · exact ⟨_, rfl, .inl rfl⟩
theorem hgX8_2 (K : Nat → ClassId) (ad : Int → Nat) (k : Nat) (h0 : 20 ≤ k) (hk : k < 30) : ∃ e : va_E, (lX8 K ad)[gX8 k]? = some (ad (k : Int), e) ∧ EqE e (cfC ad K (k : Int) (mem0C (k : Int))) := by
  rcases (show k = 20 ∨ k = 21 ∨ k = 22 ∨ k = 23 ∨ k = 24 ∨ k = 25 ∨ k = 26 ∨ k = 27 ∨ k = 28 ∨ k = 29 from by omega) with rfl | rfl | rfl | rfl | rfl | rfl | rfl | rfl | rfl | rfl
  · exact ⟨_, rfl, .inl rfl⟩
  · exact ⟨_, rfl, .inl rfl⟩
  · exact ⟨_, rfl, .inl rfl⟩
  · exact ⟨_, rfl, .inl rfl⟩
  · exact ⟨_, rfl, .inl rfl⟩
  · exact ⟨_, rfl, .inl rfl⟩
  · exact ⟨_, rfl, .inl rfl⟩
  · exact ⟨_, rfl, .inl rfl⟩
  · exact ⟨_, rfl, .inl rfl⟩
  · exact ⟨_, rfl, .inl rfl⟩
theorem hgX8_3 (K : Nat → ClassId) (ad : Int → Nat) (k : Nat) (h0 : 30 ≤ k) (hk : k < 40) : ∃ e : va_E, (lX8 K ad)[gX8 k]? = some (ad (k : Int), e) ∧ EqE e (cfC ad K (k : Int) (mem0C (k : Int))) := by
  rcases (show k = 30 ∨ k = 31 ∨ k = 32 ∨ k = 33 ∨ k = 34 ∨ k = 35 ∨ k = 36 ∨ k = 37 ∨ k = 38 ∨ k = 39 from by omega) with rfl | rfl | rfl | rfl | rfl | rfl | rfl | rfl | rfl | rfl
  · exact ⟨_, rfl, .inl rfl⟩
  · exact ⟨_, rfl, .inl rfl⟩
  · exact ⟨_, rfl, .inl rfl⟩
  · exact ⟨_, rfl, .inl rfl⟩
  · exact ⟨_, rfl, .inl rfl⟩
  · exact ⟨_, rfl, .inl rfl⟩
  · exact ⟨_, rfl, .inl rfl⟩
  · exact ⟨_, rfl, .inl rfl⟩
  · exact ⟨_, rfl, .inl rfl⟩
  · exact ⟨_, rfl, .inl rfl⟩
theorem hgX8_4 (K : Nat → ClassId) (ad : Int → Nat) (k : Nat) (h0 : 40 ≤ k) (hk : k < 50) : ∃ e : va_E, (lX8 K ad)[gX8 k]? = some (ad (k : Int), e) ∧ EqE e (cfC ad K (k : Int) (mem0C (k : Int))) := by
  rcases (show k = 40 ∨ k = 41 ∨ k = 42 ∨ k = 43 ∨ k = 44 ∨ k = 45 ∨ k = 46 ∨ k = 47 ∨ k = 48 ∨ k = 49 from by omega) with rfl | rfl | rfl | rfl | rfl | rfl | rfl | rfl | rfl | rfl
  · exact ⟨_, rfl, .inl rfl⟩
  · exact ⟨_, rfl, .inl rfl⟩
  · exact ⟨_, rfl, .inl rfl⟩
  · exact ⟨_, rfl, .inl rfl⟩
  · exact ⟨_, rfl, .inl rfl⟩
  · exact ⟨_, rfl, .inl rfl⟩
  · exact ⟨_, rfl, .inl rfl⟩
  · exact ⟨_, rfl, .inl rfl⟩
  · exact ⟨_, rfl, .inl rfl⟩
  · exact ⟨_, rfl, .inl rfl⟩
theorem hgX8_5 (K : Nat → ClassId) (ad : Int → Nat) (k : Nat) (h0 : 50 ≤ k) (hk : k < 60) : ∃ e : va_E, (lX8 K ad)[gX8 k]? = some (ad (k : Int), e) ∧ EqE e (cfC ad K (k : Int) (mem0C (k : Int))) := by
  rcases (show k = 50 ∨ k = 51 ∨ k = 52 ∨ k = 53 ∨ k = 54 ∨ k = 55 ∨ k = 56 ∨ k = 57 ∨ k = 58 ∨ k = 59 from by omega) with rfl | rfl | rfl | rfl | rfl | rfl | rfl | rfl | rfl | rfl
  · exact ⟨_, rfl, .inl rfl⟩
  · exact ⟨_, rfl, .inl rfl⟩
  · exact ⟨_, rfl, .inl rfl⟩
  · exact ⟨_, rfl, .inl rfl⟩
  · exact ⟨_, rfl, .inl rfl⟩
  · exact ⟨_, rfl, .inl rfl⟩
  · exact ⟨_, rfl, .inl rfl⟩
  · exact ⟨_, rfl, .inl rfl⟩
  · exact ⟨_, rfl, .inl rfl⟩
  · exact ⟨_, rfl, .inl rfl⟩
theorem hgX8 (K : Nat → ClassId) (ad : Int → Nat) (k : Nat) (hk : k < 60) : ∃ e : va_E, (lX8 K ad)[gX8 k]? = some (ad (k : Int), e) ∧ EqE e (cfC ad K (k : Int) (mem0C (k : Int))) := by
  rcases (show (0 ≤ k ∧ k < 10) ∨ (10 ≤ k ∧ k < 20) ∨ (20 ≤ k ∧ k < 30) ∨ (30 ≤ k ∧ k < 40) ∨ (40 ≤ k ∧ k < 50) ∨ (50 ≤ k ∧ k < 60) from by omega) with h | h | h | h | h | h
  · exact hgX8_0 K ad k h.1 h.2
  · exact hgX8_1 K ad k h.1 h.2
  · exact hgX8_2 K ad k h.1 h.2
  · exact hgX8_3 K ad k h.1 h.2
  · exact hgX8_4 K ad k h.1 h.2
  · exact hgX8_5 K ad k h.1 h.2
theorem giX8 : ∀ i, i < 60 → ∀ j, j < 60 → gX8 i = gX8 j → i = j := by decide +kernel
