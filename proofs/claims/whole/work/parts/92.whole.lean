theorem law_run {l : Launch} {K : Nat → ClassId} {D : va_G} {P : cP} {b L : Nat} {xs : Nat → Int32} {M : GM} (C : NGood l K D cL_law RL room_1 M) (hE : cE P M.2.2.2.2.2 M.2.1.1 M.2.1.1.heap) (hX : va_X b L xs M.2.1.1 M.2.1.1.heap ∧ b < M.2.1.1.heap.size ∧ ¬ M.2.2.2.2.2 b) (hL : L ≤ 3072) (hn : M.2.2.1.2.2 = 4) (fin : ∀ (ad bd : Int → Nat) (i : Int) (σ τ : Mem), LG M K ad bd 72 3153 1154 [(3, .int (iI i)), (2, .ref (bd 0)), (1, .ref (ad 0)), (0, .ref b)] [] σ τ) : N M [] 0 0 0 [(0, .ref b)] [] := by
  refine n_makeL (out := fun _ (ad : Int → Nat) => wd ad 60 (cfC ad K) mem0C) (X := fun h0 ad => ad 0 = h0 ∧ Apart ad 60) C (kN_X8 l K D) (fun h0 A ad t hB => ⟨hB.2.1, wd_D hB.2.2.1 hB.2.2.2, hB.1, hB.2.2.1⟩) mi_X8 dL_law_0 dL_law_3 dL_law_4 (T := TX8) rfl inX8 tyX8_ok wq_L_7 wn_X8 wi_X8 (fun j hj => by rcases (show j = 0 ∨ j = 1 ∨ j = 2 ∨ j = 3 ∨ j = 4 ∨ j = 5 ∨ j = 6 ∨ j = 7 ∨ j = 8 ∨ j = 9 ∨ j = 10 ∨ j = 11 from by omega) with rfl | rfl | rfl | rfl | rfl | rfl | rfl | rfl | rfl | rfl | rfl | rfl <;> rfl) wl_L_9 ⟨by decide, by decide⟩ ⟨by decide, by decide⟩ (by simp [Value.category]) (fun q0 ad hq => ?_)
  refine n_astore_n C (lv' := [(1, .ref q0), (0, .ref b)]) dL_law_7 rfl (by rw [hn]; decide) rfl ?_
  refine n_makeL (out := fun _ (bd : Int → Nat) => wd bd 12 (cfM bd K) mem0M) (X := fun h0 bd => bd 0 = h0 ∧ Apart bd 12) C (kN_X9 l K D) (fun h0 A bd t hB => ⟨hB.2.1, wd_D hB.2.2.1 hB.2.2.2, hB.1, hB.2.2.1⟩) mi_X9 dL_law_8 dL_law_11 dL_law_12 (T := TX9) rfl inX9 tyX9_ok wq_L_10 wn_X9 wi_X9 (fun j hj => by rcases (show j = 0 ∨ j = 1 ∨ j = 2 ∨ j = 3 ∨ j = 4 ∨ j = 5 ∨ j = 6 ∨ j = 7 ∨ j = 8 ∨ j = 9 ∨ j = 10 ∨ j = 11 ∨ j = 12 ∨ j = 13 ∨ j = 14 ∨ j = 15 ∨ j = 16 ∨ j = 17 ∨ j = 18 ∨ j = 19 ∨ j = 20 ∨ j = 21 ∨ j = 22 ∨ j = 23 from by omega) with rfl | rfl | rfl | rfl | rfl | rfl | rfl | rfl | rfl | rfl | rfl | rfl | rfl | rfl | rfl | rfl | rfl | rfl | rfl | rfl | rfl | rfl | rfl | rfl <;> rfl) wl_L_12 ⟨by decide, by decide⟩ ⟨by decide, by decide⟩ (by simp [Value.category]) (fun q1 bd hq1 => ?_)
  refine n_astore_n C (lv' := [(2, .ref q1), (1, .ref q0), (0, .ref b)]) dL_law_15 rfl (by rw [hn]; decide) rfl ?_
  obtain ⟨rfl, hap⟩ := hq
  obtain ⟨rfl, hbp⟩ := hq1
  refine n_toL C hap hbp hE hX hL hn (fun CL => ?_)
  refine l_iconst CL dL_law_16 ?_
  refine l_istore_n CL (lv' := [(3, .int (iI 0)), (2, .ref (bd 0)), (1, .ref (ad 0)), (0, .ref b)]) dL_law_17 rfl (by decide) rfl ?_
  exact l_loop (kc := 72) (ks := 3153) CL ⟨by decide, by decide⟩ (fun i σ τ => fin ad bd i σ τ) 0 (Nat.zero_le _) mem0C mem0M RR_start
theorem whole_start {p : Program} {e : Env} {s : State} {m : MethodId} {below : List Frame} {meth : Method} {c : Code} (l : Launch) (hflags : l.flags = flags0) {b L : Nat} {xs : Nat → Int32} (hL : L ≤ 3072) (C0 : lw_At p s m meth c b L xs) : W p l e room_1 s m #[Value.ref b] below meth c s.heap [] 0 0 (lw_Z below #[Value.ref b] s) (entryFrame m ([Value.ref b] : List Value).toArray 4) := by
  obtain ⟨hx, hb, hr, hml, hown, hts, hX, hbl, hlk, hg⟩ := C0
  obtain ⟨K, D, hK, hNW⟩ := K_start hts
  obtain ⟨P, hE⟩ := env_start hg hts
  have C : NGood l K D cL_law RL room_1 (gM p l e room_1 s m #[Value.ref b] below meth c 4 (lw_Z below #[Value.ref b] s) D (fun q => s.heap.size ≤ q)) := by
    unfold NGood gM
    exact ⟨hx, hb, hml, hown, fun w h => hts w (gWs_tbl w h), hK, fun q h => h, hNW, rfl, rfl, rfl⟩
  have hl := lv_entry [Value.ref b] (n := 4) (Nat.le_of_ble_eq_true rfl)
  rw [lg_entry_eq]
  refine law_run C hE ⟨hX, hbl, Nat.not_le.mpr hbl⟩ hL rfl (fun ad bd i σ τ H locs ls hP hQ hS hl => ?_) s.heap [] _ (fun k q h => by simp at h) ⟨fun i j p q h => by simp at h, fun k q h => by simp at h⟩ va_S.rf hl
  refine lv_iconst (v := 1) hx hb dL_law_1154 (by decide) ?_
  refine va_forget (fun q hq => hS.2.2 q hq) ?_
  refine W.widen (k := 600000) (n := 7302250) (by decide) (by decide) ?_
  exact lw_ret hx hb hr hlk dL_law_1155
