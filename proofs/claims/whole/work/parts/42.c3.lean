set_option maxHeartbeats 4000000 in
set_option maxRecDepth 100000 in
theorem kX6_sayer {l : Launch} {K : Nat → ClassId} {D : va_G} {ad : Int → Nat} {E : gEnv} {σ : Mem} {self v pl : Int} (hap : Apart ad 60) (hE : gEok E) (hsl : self = 10 ∨ self = 15) (hp : 0 ≤ σ self 0 ∧ σ self 0 ≤ 4) (hs : ∀ j, 0 ≤ j → j < σ self 0 → 0 ≤ σ (self + 1) j ∧ σ (self + 1) j ≤ 5) (rv : R3 v) (rpl : R3 pl) : CtI l K D ad 60 (cfC ad K) E yX6_sayer cX6_sayer 5 (some .int) 0 [.ref (ad self), .int (iI v), .int (iI pl)] σ (syR (σ (self + 1)) v pl (σ self 0)) σ := by
  refine ctI_of hap hE (by decide) rfl .int (nar_i _) (fun M C hn hret => ?_)
  have C : Good l K D ad 60 E 0 cX6_sayer RX6 M := C
  show G M ad 60 (cfC ad K) 0 [(0, .ref (ad self)), (1, .int (iI v)), (2, .int (iI pl))] [] σ
  refine g_iconst C dX6_sayer_0 ?_
  refine g_istore_n C hn dX6_sayer_1 rfl rfl rfl ?_
  refine g_iconst C dX6_sayer_2 ?_
  refine g_istore C hn dX6_sayer_3 rfl rfl ?_
  have L5 : ∀ i : Nat, i ≤ ((σ self 0).toNat) → ∀ (x3 x4 : Int), x3 = (maC (σ (self + 1)) v (-1000000) i) → x4 = (i : Int) → ¬ 0 ≤ syC (σ (self + 1)) v pl i → G M ad 60 (cfC ad K) 5 [(0, .ref (ad self)), (1, .int (iI v)), (2, .int (iI pl)), (3, .int (iI x3)), (4, .int (iI x4))] [] σ := by
    refine loopUp ((σ self 0).toNat) ?_
    rintro i hi ihi x3 x4 rfl rfl hny
    have hle := maC_in (f := σ (self + 1)) (s := v) (but := -1000000) i
    try have hsi := hs (i : Int) (by omega) (by omega)
    refine g_iload C dX6_sayer_5 (p := 4) rfl ?_
    refine g_aload_n C dX6_sayer_7 (p := 0) (hi := rfl) (hv := rfl) ?_
    refine gc_g_X6_people C (by omega) dX6_sayer_8 wf_X6_15 ?_
    refine g_icmp_ge C (tgt := 42) dX6_sayer_11 (by decide) (by omega) (by omega) (fun h_1 => ?_) (fun h_1 => ?_)
    · have hiN : i = ((σ self 0).toNat) := by omega
      refine g_iconst C dX6_sayer_42 ?_
      exact hret _ _ _ _ dX6_sayer_43 (by (try subst hiN); first | (unfold syR; rw [if_neg (by first | assumption | (rw [show (σ self 0).toNat = i by omega]; exact hny))]) | (have e1 : syC (σ (self + 1)) v pl (i + 1) = (i : Int) := (by unfold syC; rw [if_neg hny, if_pos (by omega)]); have e2 := syC_stay (n := (σ self 0).toNat) (k := i + 1) (f := σ (self + 1)) (v := v) (pl := pl) (by omega) (by omega); unfold syR; rw [e2, e1, if_pos (by omega)])) (by (try subst hiN); first | rfl | omega | ((repeat' split) <;> first | (exfalso; omega) | rfl | exact mu_mu | omega))
    · refine g_aload_n C dX6_sayer_14 (p := 0) (hi := rfl) (hv := rfl) ?_
      refine gc_g_X6_said C (by omega) dX6_sayer_15 wf_X6_9 ?_
      refine g_iload C dX6_sayer_18 (p := 4) rfl ?_
      refine gc_l_said C (by omega) dX6_sayer_20 (by omega) (by omega) ?_
      refine g_iload_n C dX6_sayer_21 (p := 1) (hi := rfl) (hv := rfl) ?_
      refine g_icmp_ne C (tgt := 36) dX6_sayer_22 (by decide) (by have := hs (i : Int) (by omega) (by omega); omega) (by omega) (fun h_2 => ?_) (fun h_2 => ?_)
      · refine g_iinc C hn dX6_sayer_36 (p := 4) rfl rfl rfl ?_
        refine g_goto C (tgt := 5) dX6_sayer_39 (by decide) ?_
        refine g_sub [1, 2, 3, 4, 0] rfl ?_
        exact ihi (by omega) _ _ (by first | rfl | omega | (simp only [maC]; rw [if_neg (by omega)]; (repeat' split) <;> omega)) (by first | rfl | omega | (simp only [maC]; rw [if_neg (by omega)]; (repeat' split) <;> omega)) (by unfold syC; rw [if_neg hny, if_neg (by omega)]; omega)
      · refine g_iload_n C dX6_sayer_25 (p := 3) (hi := rfl) (hv := rfl) ?_
        refine g_iload_n C dX6_sayer_26 (p := 2) (hi := rfl) (hv := rfl) ?_
        refine g_icmp_ne C (tgt := 33) dX6_sayer_27 (by decide) (by omega) (by omega) (fun h_3 => ?_) (fun h_3 => ?_)
        · refine g_iinc C hn dX6_sayer_33 (p := 3) rfl rfl rfl ?_
          refine g_iinc C hn dX6_sayer_36 (p := 4) rfl rfl rfl ?_
          refine g_goto C (tgt := 5) dX6_sayer_39 (by decide) ?_
          refine g_sub [2, 3, 4, 1, 0] rfl ?_
          exact ihi (by omega) _ _ (by first | rfl | omega | (simp only [maC]; rw [if_neg (by omega)]; (repeat' split) <;> omega)) (by first | rfl | omega | (simp only [maC]; rw [if_neg (by omega)]; (repeat' split) <;> omega)) (by unfold syC; rw [if_neg hny, if_neg (by omega)]; omega)
        · refine g_iload C dX6_sayer_30 (p := 4) rfl ?_
          exact hret _ _ _ _ dX6_sayer_32 (by (try subst hiN); first | (unfold syR; rw [if_neg (by first | assumption | (rw [show (σ self 0).toNat = i by omega]; exact hny))]) | (have e1 : syC (σ (self + 1)) v pl (i + 1) = (i : Int) := (by unfold syC; rw [if_neg hny, if_pos (by omega)]); have e2 := syC_stay (n := (σ self 0).toNat) (k := i + 1) (f := σ (self + 1)) (v := v) (pl := pl) (by omega) (by omega); unfold syR; rw [e2, e1, if_pos (by omega)])) (by (try subst hiN); first | rfl | omega | ((repeat' split) <;> first | (exfalso; omega) | rfl | exact mu_mu | omega))
  refine g_sub [2, 3, 4, 1, 0] rfl ?_
  exact L5 0 (Nat.zero_le _) _ _ (by first | rfl | omega | simp) (by first | rfl | omega | simp) (by simp [syC])
set_option maxHeartbeats 4000000 in
set_option maxRecDepth 100000 in
theorem kX3_look {l : Launch} {K : Nat → ClassId} {D : va_G} {ad : Int → Nat} {E : gEnv} {σ : Mem} {self a t s p w : Int} (hap : Apart ad 60) (hE : gEok E) (hsl : self = 12 ∨ self = 17) (hal : 20 ≤ a ∧ a < 24) (hss : s = 10 ∨ s = 15) (hT : TC σ a) (hp : 0 ≤ σ s 0 ∧ σ s 0 ≤ 4) (hs : ∀ j, 0 ≤ j → j < σ s 0 → 0 ≤ σ (s + 1) j ∧ σ (s + 1) j ≤ 5) (htt : 0 ≤ t ∧ t < 5) (hpp : 0 ≤ p ∧ p < 4) (hw : R3 w) : CtV l K D ad 60 (cfC ad K) E yX3_look cX3_look 8 none 2 [.ref (ad self), .ref (ad a), .int (iI t), .ref (ad s), .int (iI p), .int (iI w)] σ (mu (mu (mu (mu (mu σ self 1 (loC (σ (s + 1)) p (σ s 0).toNat)) self 0 (odC (σ (s + 1)) (σ s 0) p)) self 2 ((haC (woC (σ (a + 12)) (σ (a + 20)) t p) (σ a 1) (σ a 2) (nxC (σ (s + 1)) (σ s 0) p) w) * (odC (σ (s + 1)) (σ s 0) p))) self 3 (haC (woC (σ (a + 12)) (σ (a + 20)) t p) (σ a 1) (σ a 2) (nxC (σ (s + 1)) (σ s 0) p) w + ogC w (σ a 1) * (odC (σ (s + 1)) (σ s 0) p - 1))) self 4 ((ogC w (σ a 1)) * (odC (σ (s + 1)) (σ s 0) p))) := by
  have hlo := loC_in (f := σ (s + 1)) (but := p) (σ s 0).toNat (fun j x y => hs j x (by omega))
  refine ctV_of hap hE (by decide) rfl (fun M C hn hret => ?_)
  have C : Good l K D ad 60 E 2 cX3_look RX3 M := C
  show G M ad 60 (cfC ad K) 0 [(0, .ref (ad self)), (1, .ref (ad a)), (2, .int (iI t)), (3, .ref (ad s)), (4, .int (iI p)), (5, .int (iI w))] [] σ
  refine g_aload_n C dX3_look_0 (p := 0) (hi := rfl) (hv := rfl) ?_
  refine g_aload_n C dX3_look_1 (p := 3) (hi := rfl) (hv := rfl) ?_
  refine g_iload C dX3_look_2 (p := 4) rfl ?_
  refine gc_call_X6 C dX3_look_4 (kX6_lowest (σ := σ) (but := p) (self := s) hap hE (by first | assumption | omega | exact hsl | exact hal | exact hss | exact hT | exact hp | exact hs | exact htt | exact hpp | exact hw | exact TC_of hT (by funext x; first | rfl | (simp only [mu_app, mr_app, ru, over, and_self, ↓reduceIte]; (repeat (first | rw [if_neg (by omega)] | rw [if_pos (by omega)])))) (by funext x; first | rfl | (simp only [mu_app, mr_app, ru, over, and_self, ↓reduceIte]; (repeat (first | rw [if_neg (by omega)] | rw [if_pos (by omega)])))) (by funext x; first | rfl | (simp only [mu_app, mr_app, ru, over, and_self, ↓reduceIte]; (repeat (first | rw [if_neg (by omega)] | rw [if_pos (by omega)])))) (by funext x; first | rfl | (simp only [mu_app, mr_app, ru, over, and_self, ↓reduceIte]; (repeat (first | rw [if_neg (by omega)] | rw [if_pos (by omega)]))))) (by first | assumption | omega | exact hsl | exact hal | exact hss | exact hT | exact hp | exact hs | exact htt | exact hpp | exact hw | exact TC_of hT (by funext x; first | rfl | (simp only [mu_app, mr_app, ru, over, and_self, ↓reduceIte]; (repeat (first | rw [if_neg (by omega)] | rw [if_pos (by omega)])))) (by funext x; first | rfl | (simp only [mu_app, mr_app, ru, over, and_self, ↓reduceIte]; (repeat (first | rw [if_neg (by omega)] | rw [if_pos (by omega)])))) (by funext x; first | rfl | (simp only [mu_app, mr_app, ru, over, and_self, ↓reduceIte]; (repeat (first | rw [if_neg (by omega)] | rw [if_pos (by omega)])))) (by funext x; first | rfl | (simp only [mu_app, mr_app, ru, over, and_self, ↓reduceIte]; (repeat (first | rw [if_neg (by omega)] | rw [if_pos (by omega)]))))) (by first | assumption | omega | exact hsl | exact hal | exact hss | exact hT | exact hp | exact hs | exact htt | exact hpp | exact hw | exact TC_of hT (by funext x; first | rfl | (simp only [mu_app, mr_app, ru, over, and_self, ↓reduceIte]; (repeat (first | rw [if_neg (by omega)] | rw [if_pos (by omega)])))) (by funext x; first | rfl | (simp only [mu_app, mr_app, ru, over, and_self, ↓reduceIte]; (repeat (first | rw [if_neg (by omega)] | rw [if_pos (by omega)])))) (by funext x; first | rfl | (simp only [mu_app, mr_app, ru, over, and_self, ↓reduceIte]; (repeat (first | rw [if_neg (by omega)] | rw [if_pos (by omega)])))) (by funext x; first | rfl | (simp only [mu_app, mr_app, ru, over, and_self, ↓reduceIte]; (repeat (first | rw [if_neg (by omega)] | rw [if_pos (by omega)]))))) (by first | assumption | omega | exact hsl | exact hal | exact hss | exact hT | exact hp | exact hs | exact htt | exact hpp | exact hw | exact TC_of hT (by funext x; first | rfl | (simp only [mu_app, mr_app, ru, over, and_self, ↓reduceIte]; (repeat (first | rw [if_neg (by omega)] | rw [if_pos (by omega)])))) (by funext x; first | rfl | (simp only [mu_app, mr_app, ru, over, and_self, ↓reduceIte]; (repeat (first | rw [if_neg (by omega)] | rw [if_pos (by omega)])))) (by funext x; first | rfl | (simp only [mu_app, mr_app, ru, over, and_self, ↓reduceIte]; (repeat (first | rw [if_neg (by omega)] | rw [if_pos (by omega)])))) (by funext x; first | rfl | (simp only [mu_app, mr_app, ru, over, and_self, ↓reduceIte]; (repeat (first | rw [if_neg (by omega)] | rw [if_pos (by omega)])))))) mw_X6_lowest wl_X3_7 (by decide) (by decide) (by omega) rfl rfl (by simp [Value.category]) ?_
  refine gc_p_X3_lowest C (by omega) dX3_look_7 wf_X3_13 ?_
  refine g_aload_n C dX3_look_10 (p := 0) (hi := rfl) (hv := rfl) ?_
  refine g_iconst C dX3_look_11 ?_
  refine g_aload_n C dX3_look_12 (p := 3) (hi := rfl) (hv := rfl) ?_
  refine g_aload_n C dX3_look_13 (p := 0) (hi := rfl) (hv := rfl) ?_
  refine gc_g_X3_lowest C (by omega) dX3_look_14 wf_X3_13 ?_
  refine g_cI (b := (loC (σ (s + 1)) p (σ s 0).toNat)) (by first | rfl | (simp only [mu_app, mr_app, ru, over, and_self, ↓reduceIte]; (repeat (first | rw [if_neg (by omega)] | rw [if_pos (by omega)])))) ?_
  refine g_iload C dX3_look_17 (p := 4) rfl ?_
  refine gc_call_X6 C dX3_look_19 (kX6_manyAt (σ := (mu σ self 1 (loC (σ (s + 1)) p (σ s 0).toNat))) (v := loC (σ (s + 1)) p (σ s 0).toNat) (but := p) (self := s) hap hE (by first | assumption | omega | exact hsl | exact hal | exact hss | exact hT | exact hp | exact hs | exact htt | exact hpp | exact hw | exact TC_of hT (by funext x; first | rfl | (simp only [mu_app, mr_app, ru, over, and_self, ↓reduceIte]; (repeat (first | rw [if_neg (by omega)] | rw [if_pos (by omega)])))) (by funext x; first | rfl | (simp only [mu_app, mr_app, ru, over, and_self, ↓reduceIte]; (repeat (first | rw [if_neg (by omega)] | rw [if_pos (by omega)])))) (by funext x; first | rfl | (simp only [mu_app, mr_app, ru, over, and_self, ↓reduceIte]; (repeat (first | rw [if_neg (by omega)] | rw [if_pos (by omega)])))) (by funext x; first | rfl | (simp only [mu_app, mr_app, ru, over, and_self, ↓reduceIte]; (repeat (first | rw [if_neg (by omega)] | rw [if_pos (by omega)]))))) (by (try simp only [show (mu σ self 1 (loC (σ (s + 1)) p (σ s 0).toNat)) s 0 = σ s 0 from by first | rfl | (simp only [mu_app, mr_app, ru, over, and_self, ↓reduceIte]; (repeat (first | rw [if_neg (by omega)] | rw [if_pos (by omega)])))]); first | assumption | omega | exact hsl | exact hal | exact hss | exact hT | exact hp | exact hs | exact htt | exact hpp | exact hw | exact TC_of hT (by funext x; first | rfl | (simp only [mu_app, mr_app, ru, over, and_self, ↓reduceIte]; (repeat (first | rw [if_neg (by omega)] | rw [if_pos (by omega)])))) (by funext x; first | rfl | (simp only [mu_app, mr_app, ru, over, and_self, ↓reduceIte]; (repeat (first | rw [if_neg (by omega)] | rw [if_pos (by omega)])))) (by funext x; first | rfl | (simp only [mu_app, mr_app, ru, over, and_self, ↓reduceIte]; (repeat (first | rw [if_neg (by omega)] | rw [if_pos (by omega)])))) (by funext x; first | rfl | (simp only [mu_app, mr_app, ru, over, and_self, ↓reduceIte]; (repeat (first | rw [if_neg (by omega)] | rw [if_pos (by omega)]))))) (by (try simp only [show (mu σ self 1 (loC (σ (s + 1)) p (σ s 0).toNat)) s 0 = σ s 0 from by first | rfl | (simp only [mu_app, mr_app, ru, over, and_self, ↓reduceIte]; (repeat (first | rw [if_neg (by omega)] | rw [if_pos (by omega)]))), show (mu σ self 1 (loC (σ (s + 1)) p (σ s 0).toNat)) (s + 1) = (σ (s + 1)) from by funext x; first | rfl | (simp only [mu_app, mr_app, ru, over, and_self, ↓reduceIte]; (repeat (first | rw [if_neg (by omega)] | rw [if_pos (by omega)])))]); first | assumption | omega | exact hsl | exact hal | exact hss | exact hT | exact hp | exact hs | exact htt | exact hpp | exact hw | exact TC_of hT (by funext x; first | rfl | (simp only [mu_app, mr_app, ru, over, and_self, ↓reduceIte]; (repeat (first | rw [if_neg (by omega)] | rw [if_pos (by omega)])))) (by funext x; first | rfl | (simp only [mu_app, mr_app, ru, over, and_self, ↓reduceIte]; (repeat (first | rw [if_neg (by omega)] | rw [if_pos (by omega)])))) (by funext x; first | rfl | (simp only [mu_app, mr_app, ru, over, and_self, ↓reduceIte]; (repeat (first | rw [if_neg (by omega)] | rw [if_pos (by omega)])))) (by funext x; first | rfl | (simp only [mu_app, mr_app, ru, over, and_self, ↓reduceIte]; (repeat (first | rw [if_neg (by omega)] | rw [if_pos (by omega)]))))) (by first | assumption | omega | exact hsl | exact hal | exact hss | exact hT | exact hp | exact hs | exact htt | exact hpp | exact hw | exact TC_of hT (by funext x; first | rfl | (simp only [mu_app, mr_app, ru, over, and_self, ↓reduceIte]; (repeat (first | rw [if_neg (by omega)] | rw [if_pos (by omega)])))) (by funext x; first | rfl | (simp only [mu_app, mr_app, ru, over, and_self, ↓reduceIte]; (repeat (first | rw [if_neg (by omega)] | rw [if_pos (by omega)])))) (by funext x; first | rfl | (simp only [mu_app, mr_app, ru, over, and_self, ↓reduceIte]; (repeat (first | rw [if_neg (by omega)] | rw [if_pos (by omega)])))) (by funext x; first | rfl | (simp only [mu_app, mr_app, ru, over, and_self, ↓reduceIte]; (repeat (first | rw [if_neg (by omega)] | rw [if_pos (by omega)]))))) (by first | assumption | omega | exact hsl | exact hal | exact hss | exact hT | exact hp | exact hs | exact htt | exact hpp | exact hw | exact TC_of hT (by funext x; first | rfl | (simp only [mu_app, mr_app, ru, over, and_self, ↓reduceIte]; (repeat (first | rw [if_neg (by omega)] | rw [if_pos (by omega)])))) (by funext x; first | rfl | (simp only [mu_app, mr_app, ru, over, and_self, ↓reduceIte]; (repeat (first | rw [if_neg (by omega)] | rw [if_pos (by omega)])))) (by funext x; first | rfl | (simp only [mu_app, mr_app, ru, over, and_self, ↓reduceIte]; (repeat (first | rw [if_neg (by omega)] | rw [if_pos (by omega)])))) (by funext x; first | rfl | (simp only [mu_app, mr_app, ru, over, and_self, ↓reduceIte]; (repeat (first | rw [if_neg (by omega)] | rw [if_pos (by omega)])))))) mw_X6_manyAt wl_X3_18 (by decide) (by decide) (by omega) rfl rfl (by simp [Value.category]) ?_
  refine g_cI (b := (maC ((σ (s + 1))) (loC (σ (s + 1)) p (σ s 0).toNat) p (σ s 0).toNat)) (by rw [show (mu σ self 1 (loC (σ (s + 1)) p (σ s 0).toNat)) (s + 1) = (σ (s + 1)) from by funext x; first | rfl | (simp only [mu_app, mr_app, ru, over, and_self, ↓reduceIte]; (repeat (first | rw [if_neg (by omega)] | rw [if_pos (by omega)]))), show (mu σ self 1 (loC (σ (s + 1)) p (σ s 0).toNat)) s 0 = σ s 0 from by first | rfl | (simp only [mu_app, mr_app, ru, over, and_self, ↓reduceIte]; (repeat (first | rw [if_neg (by omega)] | rw [if_pos (by omega)])))]) ?_
  refine g_iadd C dX3_look_22 ?_
  refine gc_p_X3_odds C (by omega) dX3_look_23 wf_X3_22 ?_
  refine g_aload_n C dX3_look_26 (p := 1) (hi := rfl) (hv := rfl) ?_
  refine g_iload_n C dX3_look_27 (p := 2) (hi := rfl) (hv := rfl) ?_
  refine g_iload C dX3_look_28 (p := 4) rfl ?_
  refine gc_call_X7 C dX3_look_30 (kX7_worthOf (σ := (mu (mu σ self 1 (loC (σ (s + 1)) p (σ s 0).toNat)) self 0 (1 + (maC ((σ (s + 1))) (loC (σ (s + 1)) p (σ s 0).toNat) p (σ s 0).toNat)))) (t := t) (p := p) (self := a) hap hE (by first | assumption | omega | exact hsl | exact hal | exact hss | exact hT | exact hp | exact hs | exact htt | exact hpp | exact hw | exact TC_of hT (by funext x; first | rfl | (simp only [mu_app, mr_app, ru, over, and_self, ↓reduceIte]; (repeat (first | rw [if_neg (by omega)] | rw [if_pos (by omega)])))) (by funext x; first | rfl | (simp only [mu_app, mr_app, ru, over, and_self, ↓reduceIte]; (repeat (first | rw [if_neg (by omega)] | rw [if_pos (by omega)])))) (by funext x; first | rfl | (simp only [mu_app, mr_app, ru, over, and_self, ↓reduceIte]; (repeat (first | rw [if_neg (by omega)] | rw [if_pos (by omega)])))) (by funext x; first | rfl | (simp only [mu_app, mr_app, ru, over, and_self, ↓reduceIte]; (repeat (first | rw [if_neg (by omega)] | rw [if_pos (by omega)]))))) (by first | assumption | omega | exact hsl | exact hal | exact hss | exact hT | exact hp | exact hs | exact htt | exact hpp | exact hw | exact TC_of hT (by funext x; first | rfl | (simp only [mu_app, mr_app, ru, over, and_self, ↓reduceIte]; (repeat (first | rw [if_neg (by omega)] | rw [if_pos (by omega)])))) (by funext x; first | rfl | (simp only [mu_app, mr_app, ru, over, and_self, ↓reduceIte]; (repeat (first | rw [if_neg (by omega)] | rw [if_pos (by omega)])))) (by funext x; first | rfl | (simp only [mu_app, mr_app, ru, over, and_self, ↓reduceIte]; (repeat (first | rw [if_neg (by omega)] | rw [if_pos (by omega)])))) (by funext x; first | rfl | (simp only [mu_app, mr_app, ru, over, and_self, ↓reduceIte]; (repeat (first | rw [if_neg (by omega)] | rw [if_pos (by omega)]))))) (by first | assumption | omega | exact hsl | exact hal | exact hss | exact hT | exact hp | exact hs | exact htt | exact hpp | exact hw | exact TC_of hT (by funext x; first | rfl | (simp only [mu_app, mr_app, ru, over, and_self, ↓reduceIte]; (repeat (first | rw [if_neg (by omega)] | rw [if_pos (by omega)])))) (by funext x; first | rfl | (simp only [mu_app, mr_app, ru, over, and_self, ↓reduceIte]; (repeat (first | rw [if_neg (by omega)] | rw [if_pos (by omega)])))) (by funext x; first | rfl | (simp only [mu_app, mr_app, ru, over, and_self, ↓reduceIte]; (repeat (first | rw [if_neg (by omega)] | rw [if_pos (by omega)])))) (by funext x; first | rfl | (simp only [mu_app, mr_app, ru, over, and_self, ↓reduceIte]; (repeat (first | rw [if_neg (by omega)] | rw [if_pos (by omega)])))))) mw_X7_worthOf wl_X3_25 (by decide) (by decide) (by omega) rfl rfl (by simp [Value.category]) ?_
  refine g_cI (b := (woC ((σ (a + 12))) ((σ (a + 20))) t p)) (by rw [show (mu (mu σ self 1 (loC (σ (s + 1)) p (σ s 0).toNat)) self 0 (1 + (maC ((σ (s + 1))) (loC (σ (s + 1)) p (σ s 0).toNat) p (σ s 0).toNat))) (a + 12) = (σ (a + 12)) from by funext x; first | rfl | (simp only [mu_app, mr_app, ru, over, and_self, ↓reduceIte]; (repeat (first | rw [if_neg (by omega)] | rw [if_pos (by omega)]))), show (mu (mu σ self 1 (loC (σ (s + 1)) p (σ s 0).toNat)) self 0 (1 + (maC ((σ (s + 1))) (loC (σ (s + 1)) p (σ s 0).toNat) p (σ s 0).toNat))) (a + 20) = (σ (a + 20)) from by funext x; first | rfl | (simp only [mu_app, mr_app, ru, over, and_self, ↓reduceIte]; (repeat (first | rw [if_neg (by omega)] | rw [if_pos (by omega)])))]) ?_
  refine g_aload_n C dX3_look_33 (p := 1) (hi := rfl) (hv := rfl) ?_
  refine g_iload C dX3_look_34 (p := 5) rfl ?_
  refine g_aload_n C dX3_look_36 (p := 3) (hi := rfl) (hv := rfl) ?_
  refine g_iload C dX3_look_37 (p := 4) rfl ?_
  refine gc_call_X6 C dX3_look_39 (kX6_next (σ := (mu (mu σ self 1 (loC (σ (s + 1)) p (σ s 0).toNat)) self 0 (1 + (maC ((σ (s + 1))) (loC (σ (s + 1)) p (σ s 0).toNat) p (σ s 0).toNat)))) (w := p) (self := s) hap hE (by first | assumption | omega | exact hsl | exact hal | exact hss | exact hT | exact hp | exact hs | exact htt | exact hpp | exact hw | exact TC_of hT (by funext x; first | rfl | (simp only [mu_app, mr_app, ru, over, and_self, ↓reduceIte]; (repeat (first | rw [if_neg (by omega)] | rw [if_pos (by omega)])))) (by funext x; first | rfl | (simp only [mu_app, mr_app, ru, over, and_self, ↓reduceIte]; (repeat (first | rw [if_neg (by omega)] | rw [if_pos (by omega)])))) (by funext x; first | rfl | (simp only [mu_app, mr_app, ru, over, and_self, ↓reduceIte]; (repeat (first | rw [if_neg (by omega)] | rw [if_pos (by omega)])))) (by funext x; first | rfl | (simp only [mu_app, mr_app, ru, over, and_self, ↓reduceIte]; (repeat (first | rw [if_neg (by omega)] | rw [if_pos (by omega)]))))) (by (try simp only [show (mu (mu σ self 1 (loC (σ (s + 1)) p (σ s 0).toNat)) self 0 (1 + (maC ((σ (s + 1))) (loC (σ (s + 1)) p (σ s 0).toNat) p (σ s 0).toNat))) s 0 = σ s 0 from by first | rfl | (simp only [mu_app, mr_app, ru, over, and_self, ↓reduceIte]; (repeat (first | rw [if_neg (by omega)] | rw [if_pos (by omega)])))]); first | assumption | omega | exact hsl | exact hal | exact hss | exact hT | exact hp | exact hs | exact htt | exact hpp | exact hw | exact TC_of hT (by funext x; first | rfl | (simp only [mu_app, mr_app, ru, over, and_self, ↓reduceIte]; (repeat (first | rw [if_neg (by omega)] | rw [if_pos (by omega)])))) (by funext x; first | rfl | (simp only [mu_app, mr_app, ru, over, and_self, ↓reduceIte]; (repeat (first | rw [if_neg (by omega)] | rw [if_pos (by omega)])))) (by funext x; first | rfl | (simp only [mu_app, mr_app, ru, over, and_self, ↓reduceIte]; (repeat (first | rw [if_neg (by omega)] | rw [if_pos (by omega)])))) (by funext x; first | rfl | (simp only [mu_app, mr_app, ru, over, and_self, ↓reduceIte]; (repeat (first | rw [if_neg (by omega)] | rw [if_pos (by omega)]))))) (by (try simp only [show (mu (mu σ self 1 (loC (σ (s + 1)) p (σ s 0).toNat)) self 0 (1 + (maC ((σ (s + 1))) (loC (σ (s + 1)) p (σ s 0).toNat) p (σ s 0).toNat))) s 0 = σ s 0 from by first | rfl | (simp only [mu_app, mr_app, ru, over, and_self, ↓reduceIte]; (repeat (first | rw [if_neg (by omega)] | rw [if_pos (by omega)]))), show (mu (mu σ self 1 (loC (σ (s + 1)) p (σ s 0).toNat)) self 0 (1 + (maC ((σ (s + 1))) (loC (σ (s + 1)) p (σ s 0).toNat) p (σ s 0).toNat))) (s + 1) = (σ (s + 1)) from by funext x; first | rfl | (simp only [mu_app, mr_app, ru, over, and_self, ↓reduceIte]; (repeat (first | rw [if_neg (by omega)] | rw [if_pos (by omega)])))]); first | assumption | omega | exact hsl | exact hal | exact hss | exact hT | exact hp | exact hs | exact htt | exact hpp | exact hw | exact TC_of hT (by funext x; first | rfl | (simp only [mu_app, mr_app, ru, over, and_self, ↓reduceIte]; (repeat (first | rw [if_neg (by omega)] | rw [if_pos (by omega)])))) (by funext x; first | rfl | (simp only [mu_app, mr_app, ru, over, and_self, ↓reduceIte]; (repeat (first | rw [if_neg (by omega)] | rw [if_pos (by omega)])))) (by funext x; first | rfl | (simp only [mu_app, mr_app, ru, over, and_self, ↓reduceIte]; (repeat (first | rw [if_neg (by omega)] | rw [if_pos (by omega)])))) (by funext x; first | rfl | (simp only [mu_app, mr_app, ru, over, and_self, ↓reduceIte]; (repeat (first | rw [if_neg (by omega)] | rw [if_pos (by omega)]))))) (by first | assumption | omega | exact hsl | exact hal | exact hss | exact hT | exact hp | exact hs | exact htt | exact hpp | exact hw | exact TC_of hT (by funext x; first | rfl | (simp only [mu_app, mr_app, ru, over, and_self, ↓reduceIte]; (repeat (first | rw [if_neg (by omega)] | rw [if_pos (by omega)])))) (by funext x; first | rfl | (simp only [mu_app, mr_app, ru, over, and_self, ↓reduceIte]; (repeat (first | rw [if_neg (by omega)] | rw [if_pos (by omega)])))) (by funext x; first | rfl | (simp only [mu_app, mr_app, ru, over, and_self, ↓reduceIte]; (repeat (first | rw [if_neg (by omega)] | rw [if_pos (by omega)])))) (by funext x; first | rfl | (simp only [mu_app, mr_app, ru, over, and_self, ↓reduceIte]; (repeat (first | rw [if_neg (by omega)] | rw [if_pos (by omega)])))))) mw_X6_next wl_X3_30 (by decide) (by decide) (by omega) rfl rfl (by simp [Value.category]) ?_
  refine g_cI (b := (if 1 < σ s 0 then loC ((σ (s + 1))) p (σ s 0).toNat else 0)) (by rw [show (mu (mu σ self 1 (loC (σ (s + 1)) p (σ s 0).toNat)) self 0 (1 + (maC ((σ (s + 1))) (loC (σ (s + 1)) p (σ s 0).toNat) p (σ s 0).toNat))) s 0 = σ s 0 from by first | rfl | (simp only [mu_app, mr_app, ru, over, and_self, ↓reduceIte]; (repeat (first | rw [if_neg (by omega)] | rw [if_pos (by omega)]))), show (mu (mu σ self 1 (loC (σ (s + 1)) p (σ s 0).toNat)) self 0 (1 + (maC ((σ (s + 1))) (loC (σ (s + 1)) p (σ s 0).toNat) p (σ s 0).toNat))) (s + 1) = (σ (s + 1)) from by funext x; first | rfl | (simp only [mu_app, mr_app, ru, over, and_self, ↓reduceIte]; (repeat (first | rw [if_neg (by omega)] | rw [if_pos (by omega)])))]) ?_
  refine gc_call_X7 C dX3_look_42 (kX7_winnerGets (σ := (mu (mu σ self 1 (loC (σ (s + 1)) p (σ s 0).toNat)) self 0 (1 + (maC ((σ (s + 1))) (loC (σ (s + 1)) p (σ s 0).toNat) p (σ s 0).toNat)))) (w := w) (n := if 1 < σ s 0 then loC ((σ (s + 1))) p (σ s 0).toNat else 0) (self := a) hap hE (by first | assumption | omega | exact hsl | exact hal | exact hss | exact hT | exact hp | exact hs | exact htt | exact hpp | exact hw | exact TC_of hT (by funext x; first | rfl | (simp only [mu_app, mr_app, ru, over, and_self, ↓reduceIte]; (repeat (first | rw [if_neg (by omega)] | rw [if_pos (by omega)])))) (by funext x; first | rfl | (simp only [mu_app, mr_app, ru, over, and_self, ↓reduceIte]; (repeat (first | rw [if_neg (by omega)] | rw [if_pos (by omega)])))) (by funext x; first | rfl | (simp only [mu_app, mr_app, ru, over, and_self, ↓reduceIte]; (repeat (first | rw [if_neg (by omega)] | rw [if_pos (by omega)])))) (by funext x; first | rfl | (simp only [mu_app, mr_app, ru, over, and_self, ↓reduceIte]; (repeat (first | rw [if_neg (by omega)] | rw [if_pos (by omega)]))))) (by first | assumption | omega | exact hsl | exact hal | exact hss | exact hT | exact hp | exact hs | exact htt | exact hpp | exact hw | exact TC_of hT (by funext x; first | rfl | (simp only [mu_app, mr_app, ru, over, and_self, ↓reduceIte]; (repeat (first | rw [if_neg (by omega)] | rw [if_pos (by omega)])))) (by funext x; first | rfl | (simp only [mu_app, mr_app, ru, over, and_self, ↓reduceIte]; (repeat (first | rw [if_neg (by omega)] | rw [if_pos (by omega)])))) (by funext x; first | rfl | (simp only [mu_app, mr_app, ru, over, and_self, ↓reduceIte]; (repeat (first | rw [if_neg (by omega)] | rw [if_pos (by omega)])))) (by funext x; first | rfl | (simp only [mu_app, mr_app, ru, over, and_self, ↓reduceIte]; (repeat (first | rw [if_neg (by omega)] | rw [if_pos (by omega)])))))) mw_X7_winnerGets wl_X3_33 (by decide) (by decide) (by omega) rfl rfl (by simp [Value.category]) ?_
  refine g_cI (b := (wgC w (σ a 1) (σ a 2) (if 1 < σ s 0 then loC ((σ (s + 1))) p (σ s 0).toNat else 0))) (by rw [show (mu (mu σ self 1 (loC (σ (s + 1)) p (σ s 0).toNat)) self 0 (1 + (maC ((σ (s + 1))) (loC (σ (s + 1)) p (σ s 0).toNat) p (σ s 0).toNat))) a 1 = σ a 1 from by first | rfl | (simp only [mu_app, mr_app, ru, over, and_self, ↓reduceIte]; (repeat (first | rw [if_neg (by omega)] | rw [if_pos (by omega)]))), show (mu (mu σ self 1 (loC (σ (s + 1)) p (σ s 0).toNat)) self 0 (1 + (maC ((σ (s + 1))) (loC (σ (s + 1)) p (σ s 0).toNat) p (σ s 0).toNat))) a 2 = σ a 2 from by first | rfl | (simp only [mu_app, mr_app, ru, over, and_self, ↓reduceIte]; (repeat (first | rw [if_neg (by omega)] | rw [if_pos (by omega)])))]) ?_
  refine g_iadd C dX3_look_45 ?_
  refine g_istore C hn dX3_look_46 rfl rfl ?_
  refine g_aload_n C dX3_look_48 (p := 2) (hi := rfl) (hv := rfl) ?_
  refine g_iload C dX3_look_49 (p := 6) rfl ?_
  refine gc_call_X7 C dX3_look_51 (kX7_othersGet (σ := (mu (mu σ self 1 (loC (σ (s + 1)) p (σ s 0).toNat)) self 0 (1 + (maC ((σ (s + 1))) (loC (σ (s + 1)) p (σ s 0).toNat) p (σ s 0).toNat)))) (w := w) (self := a) hap hE (by first | assumption | omega | exact hsl | exact hal | exact hss | exact hT | exact hp | exact hs | exact htt | exact hpp | exact hw | exact TC_of hT (by funext x; first | rfl | (simp only [mu_app, mr_app, ru, over, and_self, ↓reduceIte]; (repeat (first | rw [if_neg (by omega)] | rw [if_pos (by omega)])))) (by funext x; first | rfl | (simp only [mu_app, mr_app, ru, over, and_self, ↓reduceIte]; (repeat (first | rw [if_neg (by omega)] | rw [if_pos (by omega)])))) (by funext x; first | rfl | (simp only [mu_app, mr_app, ru, over, and_self, ↓reduceIte]; (repeat (first | rw [if_neg (by omega)] | rw [if_pos (by omega)])))) (by funext x; first | rfl | (simp only [mu_app, mr_app, ru, over, and_self, ↓reduceIte]; (repeat (first | rw [if_neg (by omega)] | rw [if_pos (by omega)]))))) (by first | assumption | omega | exact hsl | exact hal | exact hss | exact hT | exact hp | exact hs | exact htt | exact hpp | exact hw | exact TC_of hT (by funext x; first | rfl | (simp only [mu_app, mr_app, ru, over, and_self, ↓reduceIte]; (repeat (first | rw [if_neg (by omega)] | rw [if_pos (by omega)])))) (by funext x; first | rfl | (simp only [mu_app, mr_app, ru, over, and_self, ↓reduceIte]; (repeat (first | rw [if_neg (by omega)] | rw [if_pos (by omega)])))) (by funext x; first | rfl | (simp only [mu_app, mr_app, ru, over, and_self, ↓reduceIte]; (repeat (first | rw [if_neg (by omega)] | rw [if_pos (by omega)])))) (by funext x; first | rfl | (simp only [mu_app, mr_app, ru, over, and_self, ↓reduceIte]; (repeat (first | rw [if_neg (by omega)] | rw [if_pos (by omega)])))))) mw_X7_othersGet wl_X3_36 (by decide) (by decide) (by omega) rfl rfl (by simp [Value.category]) ?_
  refine g_cI (b := (ogC w (σ a 1))) (by rw [show (mu (mu σ self 1 (loC (σ (s + 1)) p (σ s 0).toNat)) self 0 (1 + (maC ((σ (s + 1))) (loC (σ (s + 1)) p (σ s 0).toNat) p (σ s 0).toNat))) a 1 = σ a 1 from by first | rfl | (simp only [mu_app, mr_app, ru, over, and_self, ↓reduceIte]; (repeat (first | rw [if_neg (by omega)] | rw [if_pos (by omega)])))]) ?_
  refine g_istore C hn dX3_look_54 rfl rfl ?_
  refine g_aload_n C dX3_look_56 (p := 2) (hi := rfl) (hv := rfl) ?_
  refine g_iload C dX3_look_57 (p := 1) rfl ?_
  refine g_aload_n C dX3_look_59 (p := 2) (hi := rfl) (hv := rfl) ?_
  refine gc_g_X3_odds C (by omega) dX3_look_60 wf_X3_22 ?_
  refine g_cI (b := (1 + (maC ((σ (s + 1))) (loC (σ (s + 1)) p (σ s 0).toNat) p (σ s 0).toNat))) (by first | rfl | (simp only [mu_app, mr_app, ru, over, and_self, ↓reduceIte]; (repeat (first | rw [if_neg (by omega)] | rw [if_pos (by omega)])))) ?_
  refine g_imul C dX3_look_63 ?_
  refine gc_p_X3_below C (by omega) dX3_look_64 wf_X3_39 ?_
  refine g_aload_n C dX3_look_67 (p := 2) (hi := rfl) (hv := rfl) ?_
  refine g_iload C dX3_look_68 (p := 1) rfl ?_
  refine g_iload C dX3_look_70 (p := 0) rfl ?_
  refine g_aload_n C dX3_look_72 (p := 2) (hi := rfl) (hv := rfl) ?_
  refine gc_g_X3_odds C (by omega) dX3_look_73 wf_X3_22 ?_
  refine g_cI (b := (1 + (maC ((σ (s + 1))) (loC (σ (s + 1)) p (σ s 0).toNat) p (σ s 0).toNat))) (by first | rfl | (simp only [mu_app, mr_app, ru, over, and_self, ↓reduceIte]; (repeat (first | rw [if_neg (by omega)] | rw [if_pos (by omega)])))) ?_
  refine g_iconst C dX3_look_76 ?_
  refine g_isub C dX3_look_77 ?_
  refine g_imul C dX3_look_78 ?_
  refine g_iadd C dX3_look_79 ?_
  refine gc_p_X3_shared C (by omega) dX3_look_80 wf_X3_42 ?_
  refine g_aload_n C dX3_look_83 (p := 2) (hi := rfl) (hv := rfl) ?_
  refine g_iload C dX3_look_84 (p := 0) rfl ?_
  refine g_aload_n C dX3_look_86 (p := 2) (hi := rfl) (hv := rfl) ?_
  refine gc_g_X3_odds C (by omega) dX3_look_87 wf_X3_22 ?_
  refine g_cI (b := (1 + (maC ((σ (s + 1))) (loC (σ (s + 1)) p (σ s 0).toNat) p (σ s 0).toNat))) (by first | rfl | (simp only [mu_app, mr_app, ru, over, and_self, ↓reduceIte]; (repeat (first | rw [if_neg (by omega)] | rw [if_pos (by omega)])))) ?_
  refine g_imul C dX3_look_90 ?_
  refine gc_p_X3_above C (by omega) dX3_look_91 wf_X3_45 ?_
  exact hret _ _ _ dX3_look_94 (by first | rfl | omega | ((repeat' split) <;> first | (exfalso; omega) | rfl | exact mu_mu | omega))
theorem gbC_R {lo be sh ab x : Int} (h2 : R3 be) (h3 : R3 sh) (h4 : R3 ab) : R3 (gbC lo be sh ab x) := by
  unfold gbC; (repeat' split) <;> assumption
set_option maxHeartbeats 4000000 in
set_option maxRecDepth 100000 in
theorem kX3_bestSaying {l : Launch} {K : Nat → ClassId} {D : va_G} {ad : Int → Nat} {E : gEnv} {σ : Mem} {self : Int} (hap : Apart ad 60) (hE : gEok E) (hsl : self = 12 ∨ self = 17) (rl : R3 (σ self 1)) (r2 : R3 (σ self 2)) (r3 : R3 (σ self 3)) (r4 : R3 (σ self 4)) : CtI l K D ad 60 (cfC ad K) E yX3_bestSaying cX3_bestSaying 3 (some .int) 1 [.ref (ad self)] σ (bsC (σ self 1) (σ self 2) (σ self 3) (σ self 4) 6) σ := by
  refine ctI_of hap hE (by decide) rfl .int (nar_i _) (fun M C hn hret => ?_)
  have C : Good l K D ad 60 E 1 cX3_bestSaying RX3 M := C
  show G M ad 60 (cfC ad K) 0 [(0, .ref (ad self))] [] σ
  refine g_iconst C dX3_bestSaying_0 ?_
  refine g_istore_n C hn dX3_bestSaying_1 rfl rfl rfl ?_
  refine g_iconst C dX3_bestSaying_2 ?_
  refine g_istore_n C hn dX3_bestSaying_3 rfl rfl rfl ?_
  have L4 : ∀ i : Nat, i ≤ 6 → ∀ (x1 x2 : Int), x1 = (bsC (σ self 1) (σ self 2) (σ self 3) (σ self 4) i) → x2 = (i : Int) → G M ad 60 (cfC ad K) 4 [(0, .ref (ad self)), (1, .int (iI x1)), (2, .int (iI x2))] [] σ := by
    refine loopUp 6 ?_
    rintro i hi ihi x1 x2 rfl rfl
    have hb := bsC_in (lo := σ self 1) (be := σ self 2) (sh := σ self 3) (ab := σ self 4) i
    refine g_iload_n C dX3_bestSaying_4 (p := 2) (hi := rfl) (hv := rfl) ?_
    refine g_iconst C dX3_bestSaying_5 ?_
    refine g_icmp_gt C (tgt := 30) dX3_bestSaying_6 (by decide) (by omega) (by omega) (fun h_1 => ?_) (fun h_1 => ?_)
    · have hiN : i = 6 := by omega
      refine g_iload_n C dX3_bestSaying_30 (p := 1) (hi := rfl) (hv := rfl) ?_
      exact hret _ _ _ _ dX3_bestSaying_31 (by (try subst hiN); first | rfl | (have e6 : i = 6 := (by omega); subst e6; rfl)) (by (try subst hiN); first | rfl | omega | ((repeat' split) <;> first | (exfalso; omega) | rfl | exact mu_mu | omega))
    · refine g_aload_n C dX3_bestSaying_9 (p := 0) (hi := rfl) (hv := rfl) ?_
      refine g_iload_n C dX3_bestSaying_10 (p := 2) (hi := rfl) (hv := rfl) ?_
      refine gc_call_X3 C dX3_bestSaying_11 (kX3_gainBy (σ := σ) (s := (i : Int)) (self := self) hap hE (by first | assumption | omega | exact hsl | exact rl | exact r2 | exact r3 | exact r4) (by first | assumption | omega | exact hsl | exact rl | exact r2 | exact r3 | exact r4) (by first | assumption | omega | exact hsl | exact rl | exact r2 | exact r3 | exact r4)) mw_X3_gainBy wl_X3_48 (by decide) (by decide) (by omega) rfl rfl (by simp [Value.category]) ?_
      refine g_aload_n C dX3_bestSaying_14 (p := 0) (hi := rfl) (hv := rfl) ?_
      refine g_iload_n C dX3_bestSaying_15 (p := 1) (hi := rfl) (hv := rfl) ?_
      refine gc_call_X3 C dX3_bestSaying_16 (kX3_gainBy (σ := σ) (s := bsC (σ self 1) (σ self 2) (σ self 3) (σ self 4) i) (self := self) hap hE (by first | assumption | omega | exact hsl | exact rl | exact r2 | exact r3 | exact r4) (by first | assumption | omega | exact hsl | exact rl | exact r2 | exact r3 | exact r4) (by first | assumption | omega | exact hsl | exact rl | exact r2 | exact r3 | exact r4)) mw_X3_gainBy wl_X3_48 (by decide) (by decide) (by omega) rfl rfl (by simp [Value.category]) ?_
      refine g_icmp_le C (tgt := 24) dX3_bestSaying_19 (by decide) (gbC_R r2 r3 r4) (gbC_R r2 r3 r4) (fun h_2 => ?_) (fun h_2 => ?_)
      · refine g_iinc C hn dX3_bestSaying_24 (p := 2) rfl rfl rfl ?_
        refine g_goto C (tgt := 4) dX3_bestSaying_27 (by decide) ?_
        refine g_sub [1, 2, 0] rfl ?_
        exact ihi (by omega) _ _ (by first | rfl | omega | (simp only [bsC]; (repeat' split) <;> first | rfl | omega)) (by first | rfl | omega | (simp only [bsC]; (repeat' split) <;> first | rfl | omega))
      · refine g_iload_n C dX3_bestSaying_22 (p := 2) (hi := rfl) (hv := rfl) ?_
        refine g_istore_n C hn dX3_bestSaying_23 rfl rfl rfl ?_
        refine g_iinc C hn dX3_bestSaying_24 (p := 2) rfl rfl rfl ?_
        refine g_goto C (tgt := 4) dX3_bestSaying_27 (by decide) ?_
        refine g_sub [2, 1, 0] rfl ?_
        exact ihi (by omega) _ _ (by first | rfl | omega | (simp only [bsC]; (repeat' split) <;> first | rfl | omega)) (by first | rfl | omega | (simp only [bsC]; (repeat' split) <;> first | rfl | omega))
  refine g_sub [2, 1, 0] rfl ?_
  exact L4 1 (by omega) _ _ (by simp [bsC]) (by first | rfl | omega | simp)
set_option maxHeartbeats 4000000 in
set_option maxRecDepth 100000 in
theorem kX7_pass {l : Launch} {K : Nat → ClassId} {D : va_G} {ad : Int → Nat} {E : gEnv} {σ : Mem} {self t w n : Int} (hap : Apart ad 60) (hE : gEok E) (hsl : 20 ≤ self ∧ self < 24) (htt : 0 ≤ t ∧ t < 5) (rw : R3 w) (h0 : 0 ≤ σ self 0 ∧ σ self 0 ≤ 3) (hp : 0 ≤ σ self 2 ∧ σ self 2 ≤ 4) : CtV l K D ad 60 (cfC ad K) E yX7_pass cX7_pass 5 none 1 [.ref (ad self), .int (iI t), .int (iI w), .int (iI n)] σ (mr (mu σ (self + 16) t w) (self + 8) (over (σ (self + 8)) (fun x => σ (self + 8) x + (if x = w then wgC (σ self 0) (σ self 1) (σ self 2) n else ogC (σ self 0) (σ self 1))) 0 (σ self 2))) := by
  refine ctV_of hap hE (by decide) rfl (fun M C hn hret => ?_)
  have C : Good l K D ad 60 E 1 cX7_pass RX7 M := C
  show G M ad 60 (cfC ad K) 0 [(0, .ref (ad self)), (1, .int (iI t)), (2, .int (iI w)), (3, .int (iI n))] [] σ
  refine g_aload_n C dX7_pass_0 (p := 0) (hi := rfl) (hv := rfl) ?_
  refine gc_g_X7_holders C (by omega) dX7_pass_1 wf_X7_21 ?_
  refine g_iload_n C dX7_pass_4 (p := 1) (hi := rfl) (hv := rfl) ?_
  refine g_iload_n C dX7_pass_5 (p := 2) (hi := rfl) (hv := rfl) ?_
  refine gc_s_holders C (by omega) dX7_pass_6 (by omega) (by omega) ?_
  refine g_iconst C dX7_pass_7 ?_
  refine g_istore C hn dX7_pass_8 rfl rfl ?_
  have L10 : ∀ i : Nat, i ≤ ((σ self 2).toNat) → ∀ (x4 : Int), ∀ (τ10 : Mem), x4 = (i : Int) → τ10 = (mr (mu σ (self + 16) t w) (self + 8) (over (σ (self + 8)) (fun x => σ (self + 8) x + (if x = w then wgC (σ self 0) (σ self 1) (σ self 2) n else ogC (σ self 0) (σ self 1))) 0 (i : Int))) → G M ad 60 (cfC ad K) 10 [(0, .ref (ad self)), (1, .int (iI t)), (2, .int (iI w)), (3, .int (iI n)), (4, .int (iI x4))] [] τ10 := by
    refine loopUp ((σ self 2).toNat) ?_
    rintro i hi ihi x4 τ10 rfl rfl
    refine g_iload C dX7_pass_10 (p := 4) rfl ?_
    refine g_aload_n C dX7_pass_12 (p := 0) (hi := rfl) (hv := rfl) ?_
    refine gc_g_X7_people C (by omega) dX7_pass_13 wf_X7_34 ?_
    refine g_cI (b := (σ self 2)) (by first | rfl | (simp only [mu_app, mr_app, ru, over, and_self, ↓reduceIte]; (repeat (first | rw [if_neg (by omega)] | rw [if_pos (by omega)])))) ?_
    refine g_icmp_ge C (tgt := 61) dX7_pass_16 (by decide) (by omega) (by omega) (fun h_1 => ?_) (fun h_1 => ?_)
    · have hiN : i = ((σ self 2).toNat) := by omega
      exact hret _ _ _ dX7_pass_61 (by (try subst hiN); rw [show ((σ self 2).toNat : Int) = σ self 2 by omega])
    · refine g_aload_n C dX7_pass_19 (p := 0) (hi := rfl) (hv := rfl) ?_
      refine gc_g_X7_coins C (by omega) dX7_pass_20 wf_X7_15 ?_
      refine g_iload C dX7_pass_23 (p := 4) rfl ?_
      refine g_dup2 C dX7_pass_25 rfl rfl ?_
      refine gc_l_coins C (by omega) dX7_pass_26 (by omega) (by omega) ?_
      refine g_cI (b := (σ (self + 8) (i : Int))) (by first | rfl | (simp only [mu_app, mr_app, ru, over, and_self, ↓reduceIte]; (repeat (first | rw [if_neg (by omega)] | rw [if_pos (by omega)])))) ?_
      refine g_iload C dX7_pass_27 (p := 4) rfl ?_
      refine g_iload_n C dX7_pass_29 (p := 2) (hi := rfl) (hv := rfl) ?_
      refine g_icmp_ne C (tgt := 45) dX7_pass_30 (by decide) (by omega) (by omega) (fun h_2 => ?_) (fun h_2 => ?_)
      · refine g_aload_n C dX7_pass_45 (p := 0) (hi := rfl) (hv := rfl) ?_
        refine g_aload_n C dX7_pass_46 (p := 0) (hi := rfl) (hv := rfl) ?_
        refine gc_g_X7_pays C (by omega) dX7_pass_47 wf_X7_27 ?_
        refine g_cI (b := (σ self 0)) (by first | rfl | (simp only [mu_app, mr_app, ru, over, and_self, ↓reduceIte]; (repeat (first | rw [if_neg (by omega)] | rw [if_pos (by omega)])))) ?_
        refine gc_call_X7 C dX7_pass_50 (kX7_othersGet (σ := (mr (mu σ (self + 16) t w) (self + 8) (over (σ (self + 8)) (fun x => σ (self + 8) x + (if x = w then wgC (σ self 0) (σ self 1) (σ self 2) n else ogC (σ self 0) (σ self 1))) 0 (i : Int)))) (w := σ self 0) (self := self) hap hE (by first | assumption | omega | exact hsl | exact htt | exact rw | exact h0 | exact hp) (by first | assumption | omega | exact hsl | exact htt | exact rw | exact h0 | exact hp)) mw_X7_othersGet wl_X7_64 (by decide) (by decide) (by omega) rfl rfl (by simp [Value.category]) ?_
        refine g_cI (b := (ogC (σ self 0) (σ self 1))) (by rw [show (mr (mu σ (self + 16) t w) (self + 8) (over (σ (self + 8)) (fun x => σ (self + 8) x + (if x = w then wgC (σ self 0) (σ self 1) (σ self 2) n else ogC (σ self 0) (σ self 1))) 0 (i : Int))) self 1 = σ self 1 from by first | rfl | (simp only [mu_app, mr_app, ru, over, and_self, ↓reduceIte]; (repeat (first | rw [if_neg (by omega)] | rw [if_pos (by omega)])))]) ?_
        refine g_iadd C dX7_pass_53 ?_
        refine gc_s_coins C (by omega) dX7_pass_54 (by omega) (by omega) ?_
        refine g_iinc C hn dX7_pass_55 (p := 4) rfl rfl rfl ?_
        refine g_goto C (tgt := 10) dX7_pass_58 (by decide) ?_
        refine g_sub [1, 2, 3, 4, 0] rfl ?_
        exact ihi (by omega) _ _ (by first | rfl | omega) (by exact over_step (by omega) (by omega) (by (try dsimp only); (repeat' split) <;> first | rfl | (exfalso; omega)))
      · refine g_aload_n C dX7_pass_33 (p := 0) (hi := rfl) (hv := rfl) ?_
        refine g_aload_n C dX7_pass_34 (p := 0) (hi := rfl) (hv := rfl) ?_
        refine gc_g_X7_pays C (by omega) dX7_pass_35 wf_X7_27 ?_
        refine g_cI (b := (σ self 0)) (by first | rfl | (simp only [mu_app, mr_app, ru, over, and_self, ↓reduceIte]; (repeat (first | rw [if_neg (by omega)] | rw [if_pos (by omega)])))) ?_
        refine g_iload_n C dX7_pass_38 (p := 3) (hi := rfl) (hv := rfl) ?_
        refine gc_call_X7 C dX7_pass_39 (kX7_winnerGets (σ := (mr (mu σ (self + 16) t w) (self + 8) (over (σ (self + 8)) (fun x => σ (self + 8) x + (if x = w then wgC (σ self 0) (σ self 1) (σ self 2) n else ogC (σ self 0) (σ self 1))) 0 (i : Int)))) (w := σ self 0) (n := n) (self := self) hap hE (by first | assumption | omega | exact hsl | exact htt | exact rw | exact h0 | exact hp) (by first | assumption | omega | exact hsl | exact htt | exact rw | exact h0 | exact hp)) mw_X7_winnerGets wl_X7_61 (by decide) (by decide) (by omega) rfl rfl (by simp [Value.category]) ?_
        refine g_cI (b := (wgC (σ self 0) (σ self 1) (σ self 2) n)) (by rw [show (mr (mu σ (self + 16) t w) (self + 8) (over (σ (self + 8)) (fun x => σ (self + 8) x + (if x = w then wgC (σ self 0) (σ self 1) (σ self 2) n else ogC (σ self 0) (σ self 1))) 0 (i : Int))) self 1 = σ self 1 from by first | rfl | (simp only [mu_app, mr_app, ru, over, and_self, ↓reduceIte]; (repeat (first | rw [if_neg (by omega)] | rw [if_pos (by omega)]))), show (mr (mu σ (self + 16) t w) (self + 8) (over (σ (self + 8)) (fun x => σ (self + 8) x + (if x = w then wgC (σ self 0) (σ self 1) (σ self 2) n else ogC (σ self 0) (σ self 1))) 0 (i : Int))) self 2 = σ self 2 from by first | rfl | (simp only [mu_app, mr_app, ru, over, and_self, ↓reduceIte]; (repeat (first | rw [if_neg (by omega)] | rw [if_pos (by omega)])))]) ?_
        refine g_goto C (tgt := 53) dX7_pass_42 (by decide) ?_
        refine g_iadd C dX7_pass_53 ?_
        refine gc_s_coins C (by omega) dX7_pass_54 (by omega) (by omega) ?_
        refine g_iinc C hn dX7_pass_55 (p := 4) rfl rfl rfl ?_
        refine g_goto C (tgt := 10) dX7_pass_58 (by decide) ?_
        refine g_sub [1, 2, 3, 4, 0] rfl ?_
        exact ihi (by omega) _ _ (by first | rfl | omega) (by exact over_step (by omega) (by omega) (by (try dsimp only); (repeat' split) <;> first | rfl | (exfalso; omega)))
  refine g_sub [1, 2, 3, 4, 0] rfl ?_
  exact L10 0 (Nat.zero_le _) _ _ (by first | rfl | omega | simp) (by exact (mr_self ((over_0 (by omega)).trans (by funext x; first | rfl | (simp only [mu_app, mr_app]; (repeat rw [if_neg (by omega)]))))).symm)
set_option maxHeartbeats 4000000 in
set_option maxRecDepth 100000 in
theorem kX7_becomeEmpty {l : Launch} {K : Nat → ClassId} {D : va_G} {ad : Int → Nat} {E : gEnv} {σ : Mem} {self : Int} (hap : Apart ad 60) (hE : gEok E) (hsl : 20 ≤ self ∧ self < 24) : CtV l K D ad 60 (cfC ad K) E yX7_becomeEmpty cX7_becomeEmpty 2 none 0 [.ref (ad self)] σ (mr (mr (mr (mu (mu (mu (mu σ self 0 0) self 1 0) self 2 0) self 3 0) (self + 8) (over (σ (self + 8)) (fun _ => 0) 0 4)) (self + 16) (over (σ (self + 16)) (fun _ => -1000000) 0 5)) (self + 20) (over (σ (self + 20)) (fun _ => 0) 0 5)) := by
  refine ctV_of hap hE (by decide) rfl (fun M C hn hret => ?_)
  have C : Good l K D ad 60 E 0 cX7_becomeEmpty RX7 M := C
  show G M ad 60 (cfC ad K) 0 [(0, .ref (ad self))] [] σ
  refine g_aload_n C dX7_becomeEmpty_0 (p := 0) (hi := rfl) (hv := rfl) ?_
  refine g_iconst C dX7_becomeEmpty_1 ?_
  refine gc_p_X7_pays C (by omega) dX7_becomeEmpty_2 wf_X7_27 ?_
  refine g_aload_n C dX7_becomeEmpty_5 (p := 0) (hi := rfl) (hv := rfl) ?_
  refine g_iconst C dX7_becomeEmpty_6 ?_
  refine gc_p_X7_fee C (by omega) dX7_becomeEmpty_7 wf_X7_31 ?_
  refine g_aload_n C dX7_becomeEmpty_10 (p := 0) (hi := rfl) (hv := rfl) ?_
  refine g_iconst C dX7_becomeEmpty_11 ?_
  refine gc_p_X7_people C (by omega) dX7_becomeEmpty_12 wf_X7_34 ?_
  refine g_aload_n C dX7_becomeEmpty_15 (p := 0) (hi := rfl) (hv := rfl) ?_
  refine g_iconst C dX7_becomeEmpty_16 ?_
  refine gc_p_X7_things C (by omega) dX7_becomeEmpty_17 wf_X7_37 ?_
  refine g_iconst C dX7_becomeEmpty_20 ?_
  refine g_istore_n C hn dX7_becomeEmpty_21 rfl rfl rfl ?_
  have L22 : ∀ i : Nat, i ≤ 4 → ∀ (x1 : Int), ∀ (τ22 : Mem), x1 = (i : Int) → τ22 = (mr (mu (mu (mu (mu σ self 0 0) self 1 0) self 2 0) self 3 0) (self + 8) (over (σ (self + 8)) (fun _ => 0) 0 (i : Int))) → G M ad 60 (cfC ad K) 22 [(0, .ref (ad self)), (1, .int (iI x1))] [] τ22 := by
    refine loopUp 4 ?_
    rintro i hi ihi x1 τ22 rfl rfl
    refine g_iload_n C dX7_becomeEmpty_22 (p := 1) (hi := rfl) (hv := rfl) ?_
    refine g_iconst C dX7_becomeEmpty_23 ?_
    refine g_icmp_ge C (tgt := 40) dX7_becomeEmpty_24 (by decide) (by omega) (by omega) (fun h_1 => ?_) (fun h_1 => ?_)
    · have hiN : i = 4 := by omega
      refine g_eq (σ' := (mr (mu (mu (mu (mu σ self 0 0) self 1 0) self 2 0) self 3 0) (self + 8) (over (σ (self + 8)) (fun _ => 0) 0 4))) rfl rfl rfl (by subst hiN; rfl) ?_
      refine g_iconst C dX7_becomeEmpty_40 ?_
      refine g_istore_n C hn dX7_becomeEmpty_41 rfl rfl rfl ?_
      have L42 : ∀ j : Nat, j ≤ 5 → ∀ (x1 : Int), ∀ (τ42 : Mem), x1 = (j : Int) → τ42 = (mr (mr (mr (mu (mu (mu (mu σ self 0 0) self 1 0) self 2 0) self 3 0) (self + 8) (over (σ (self + 8)) (fun _ => 0) 0 4)) (self + 16) (over (σ (self + 16)) (fun _ => -1000000) 0 (j : Int))) (self + 20) (over (σ (self + 20)) (fun _ => 0) 0 (j : Int))) → G M ad 60 (cfC ad K) 42 [(0, .ref (ad self)), (1, .int (iI x1))] [] τ42 := by
        refine loopUp 5 ?_
        rintro j hj ihj x1 τ42 rfl rfl
        refine g_iload_n C dX7_becomeEmpty_42 (p := 1) (hi := rfl) (hv := rfl) ?_
        refine g_iconst C dX7_becomeEmpty_43 ?_
        refine g_icmp_ge C (tgt := 68) dX7_becomeEmpty_44 (by decide) (by omega) (by omega) (fun h_2 => ?_) (fun h_2 => ?_)
        · have hjN : j = 5 := by omega
          exact hret _ _ _ dX7_becomeEmpty_68 (by (try subst hiN); (try subst hjN); first | rfl | (have hj5 : j = 5 := (by omega); subst hj5; rfl))
        · refine g_aload_n C dX7_becomeEmpty_47 (p := 0) (hi := rfl) (hv := rfl) ?_
          refine gc_g_X7_holders C (by omega) dX7_becomeEmpty_48 wf_X7_21 ?_
          refine g_iload_n C dX7_becomeEmpty_51 (p := 1) (hi := rfl) (hv := rfl) ?_
          refine g_ldc C (n := (-1000000)) wk_X7_40 (by decide +kernel) dX7_becomeEmpty_52 ?_
          refine gc_s_holders C (by omega) dX7_becomeEmpty_54 (by omega) (by omega) ?_
          refine g_aload_n C dX7_becomeEmpty_55 (p := 0) (hi := rfl) (hv := rfl) ?_
          refine gc_g_X7_worn C (by omega) dX7_becomeEmpty_56 wf_X7_24 ?_
          refine g_iload_n C dX7_becomeEmpty_59 (p := 1) (hi := rfl) (hv := rfl) ?_
          refine g_iconst C dX7_becomeEmpty_60 ?_
          refine gc_s_worn C (by omega) dX7_becomeEmpty_61 (by omega) (by omega) ?_
          refine g_iinc C hn dX7_becomeEmpty_62 (p := 1) rfl rfl rfl ?_
          refine g_goto C (tgt := 42) dX7_becomeEmpty_65 (by decide) ?_
          refine g_sub [1, 0] rfl ?_
          exact ihj (by omega) _ _ (by first | rfl | omega) (by exact over_step2 (by omega) (by omega) (by omega) rfl rfl)
      refine g_sub [1, 0] rfl ?_
      exact L42 0 (Nat.zero_le _) _ _ (by first | rfl | omega | simp) (by exact over_init2 (by omega) (by funext x; first | rfl | (simp only [mu_app, mr_app]; (repeat rw [if_neg (by omega)]))) (by funext x; first | rfl | (simp only [mu_app, mr_app]; (repeat rw [if_neg (by omega)]))))
    · refine g_aload_n C dX7_becomeEmpty_27 (p := 0) (hi := rfl) (hv := rfl) ?_
      refine gc_g_X7_coins C (by omega) dX7_becomeEmpty_28 wf_X7_15 ?_
      refine g_iload_n C dX7_becomeEmpty_31 (p := 1) (hi := rfl) (hv := rfl) ?_
      refine g_iconst C dX7_becomeEmpty_32 ?_
      refine gc_s_coins C (by omega) dX7_becomeEmpty_33 (by omega) (by omega) ?_
      refine g_iinc C hn dX7_becomeEmpty_34 (p := 1) rfl rfl rfl ?_
      refine g_goto C (tgt := 22) dX7_becomeEmpty_37 (by decide) ?_
      refine g_sub [1, 0] rfl ?_
      exact ihi (by omega) _ _ (by first | rfl | omega) (by exact over_step (by omega) (by omega) rfl)
  refine g_sub [1, 0] rfl ?_
  exact L22 0 (Nat.zero_le _) _ _ (by first | rfl | omega | simp) (by exact (mr_self ((over_0 (by omega)).trans (by funext x; first | rfl | (simp only [mu_app, mr_app]; (repeat rw [if_neg (by omega)]))))).symm)
set_option maxHeartbeats 4000000 in
set_option maxRecDepth 100000 in
theorem kX7_becomeLike {l : Launch} {K : Nat → ClassId} {D : va_G} {ad : Int → Nat} {E : gEnv} {σ : Mem} {self b : Int} (hap : Apart ad 60) (hE : gEok E) (hsl : 20 ≤ self ∧ self < 24) (hb : 20 ≤ b ∧ b < 24) (hne : self ≠ b) : CtV l K D ad 60 (cfC ad K) E yX7_becomeLike cX7_becomeLike 2 none 1 [.ref (ad self), .ref (ad b)] σ (mr (mr (mr (mr (mr (mu (mu (mu (mu σ self 0 (σ b 0)) self 1 (σ b 1)) self 2 (σ b 2)) self 3 (σ b 3)) (self + 4) (cpy (σ (b + 4)) (σ (self + 4)) 0 0 4)) (self + 8) (cpy (σ (b + 8)) (σ (self + 8)) 0 0 4)) (self + 12) (cpy (σ (b + 12)) (σ (self + 12)) 0 0 20)) (self + 16) (cpy (σ (b + 16)) (σ (self + 16)) 0 0 5)) (self + 20) (cpy (σ (b + 20)) (σ (self + 20)) 0 0 5)) := by
  refine ctV_of hap hE (by decide) rfl (fun M C hn hret => ?_)
  have C : Good l K D ad 60 E 1 cX7_becomeLike RX7 M := C
  show G M ad 60 (cfC ad K) 0 [(0, .ref (ad self)), (1, .ref (ad b))] [] σ
  refine g_aload_n C dX7_becomeLike_0 (p := 0) (hi := rfl) (hv := rfl) ?_
  refine g_aload_n C dX7_becomeLike_1 (p := 1) (hi := rfl) (hv := rfl) ?_
  refine gc_g_X7_pays C (by omega) dX7_becomeLike_2 wf_X7_27 ?_
  refine gc_p_X7_pays C (by omega) dX7_becomeLike_5 wf_X7_27 ?_
  refine g_aload_n C dX7_becomeLike_8 (p := 0) (hi := rfl) (hv := rfl) ?_
  refine g_aload_n C dX7_becomeLike_9 (p := 1) (hi := rfl) (hv := rfl) ?_
  refine gc_g_X7_fee C (by omega) dX7_becomeLike_10 wf_X7_31 ?_
  refine g_cI (b := (σ b 1)) (by first | rfl | (simp only [mu_app, mr_app, ru, over, and_self, ↓reduceIte]; (repeat (first | rw [if_neg (by omega)] | rw [if_pos (by omega)])))) ?_
  refine gc_p_X7_fee C (by omega) dX7_becomeLike_13 wf_X7_31 ?_
  refine g_aload_n C dX7_becomeLike_16 (p := 0) (hi := rfl) (hv := rfl) ?_
  refine g_aload_n C dX7_becomeLike_17 (p := 1) (hi := rfl) (hv := rfl) ?_
  refine gc_g_X7_people C (by omega) dX7_becomeLike_18 wf_X7_34 ?_
  refine g_cI (b := (σ b 2)) (by first | rfl | (simp only [mu_app, mr_app, ru, over, and_self, ↓reduceIte]; (repeat (first | rw [if_neg (by omega)] | rw [if_pos (by omega)])))) ?_
  refine gc_p_X7_people C (by omega) dX7_becomeLike_21 wf_X7_34 ?_
  refine g_aload_n C dX7_becomeLike_24 (p := 0) (hi := rfl) (hv := rfl) ?_
  refine g_aload_n C dX7_becomeLike_25 (p := 1) (hi := rfl) (hv := rfl) ?_
  refine gc_g_X7_things C (by omega) dX7_becomeLike_26 wf_X7_37 ?_
  refine g_cI (b := (σ b 3)) (by first | rfl | (simp only [mu_app, mr_app, ru, over, and_self, ↓reduceIte]; (repeat (first | rw [if_neg (by omega)] | rw [if_pos (by omega)])))) ?_
  refine gc_p_X7_things C (by omega) dX7_becomeLike_29 wf_X7_37 ?_
  refine g_aload_n C dX7_becomeLike_32 (p := 1) (hi := rfl) (hv := rfl) ?_
  refine gc_g_X7_kinds C (by omega) dX7_becomeLike_33 wf_X7_11 ?_
  refine g_iconst C dX7_becomeLike_36 ?_
  refine g_aload_n C dX7_becomeLike_37 (p := 0) (hi := rfl) (hv := rfl) ?_
  refine gc_g_X7_kinds C (by omega) dX7_becomeLike_38 wf_X7_11 ?_
  refine g_iconst C dX7_becomeLike_41 ?_
  refine g_iconst C dX7_becomeLike_42 ?_
  refine g_copy C (q0 := (b + 4)) (q1 := (self + 4)) (sp := 0) (dp := 0) (n := 4) wl_X7_41 dX7_becomeLike_43 ⟨by omega, by omega⟩ ⟨by omega, by omega⟩ (fun _ => cfC_kinds (by omega)) (fun _ => cfC_kinds (by omega)) (by omega) (by omega) (by omega) (by omega) (by omega) (by omega) (by omega) (by omega) (by simp [Value.category]) (by decide) ?_
  refine g_eq (σ' := (mr (mu (mu (mu (mu σ self 0 (σ b 0)) self 1 (σ b 1)) self 2 (σ b 2)) self 3 (σ b 3)) (self + 4) (cpy (σ (b + 4)) (σ (self + 4)) 0 0 4))) rfl rfl rfl (by rw [show ((mu (mu (mu (mu σ self 0 (σ b 0)) self 1 (σ b 1)) self 2 (σ b 2)) self 3 (σ b 3)) (b + 4)) = (σ (b + 4)) from by funext x; first | rfl | (simp only [mu_app, mr_app, ru, over, and_self, ↓reduceIte]; (repeat (first | rw [if_neg (by omega)] | rw [if_pos (by omega)]))), show ((mu (mu (mu (mu σ self 0 (σ b 0)) self 1 (σ b 1)) self 2 (σ b 2)) self 3 (σ b 3)) (self + 4)) = (σ (self + 4)) from by funext x; first | rfl | (simp only [mu_app, mr_app, ru, over, and_self, ↓reduceIte]; (repeat (first | rw [if_neg (by omega)] | rw [if_pos (by omega)])))]) ?_
  refine g_aload_n C dX7_becomeLike_46 (p := 1) (hi := rfl) (hv := rfl) ?_
  refine gc_g_X7_coins C (by omega) dX7_becomeLike_47 wf_X7_15 ?_
  refine g_iconst C dX7_becomeLike_50 ?_
  refine g_aload_n C dX7_becomeLike_51 (p := 0) (hi := rfl) (hv := rfl) ?_
  refine gc_g_X7_coins C (by omega) dX7_becomeLike_52 wf_X7_15 ?_
  refine g_iconst C dX7_becomeLike_55 ?_
  refine g_iconst C dX7_becomeLike_56 ?_
  refine g_copy C (q0 := (b + 8)) (q1 := (self + 8)) (sp := 0) (dp := 0) (n := 4) wl_X7_41 dX7_becomeLike_57 ⟨by omega, by omega⟩ ⟨by omega, by omega⟩ (fun _ => cfC_coins (by omega)) (fun _ => cfC_coins (by omega)) (by omega) (by omega) (by omega) (by omega) (by omega) (by omega) (by omega) (by omega) (by simp [Value.category]) (by decide) ?_
  refine g_eq (σ' := (mr (mr (mu (mu (mu (mu σ self 0 (σ b 0)) self 1 (σ b 1)) self 2 (σ b 2)) self 3 (σ b 3)) (self + 4) (cpy (σ (b + 4)) (σ (self + 4)) 0 0 4)) (self + 8) (cpy (σ (b + 8)) (σ (self + 8)) 0 0 4))) rfl rfl rfl (by rw [show ((mr (mu (mu (mu (mu σ self 0 (σ b 0)) self 1 (σ b 1)) self 2 (σ b 2)) self 3 (σ b 3)) (self + 4) (cpy (σ (b + 4)) (σ (self + 4)) 0 0 4)) (b + 8)) = (σ (b + 8)) from by funext x; first | rfl | (simp only [mu_app, mr_app, ru, over, and_self, ↓reduceIte]; (repeat (first | rw [if_neg (by omega)] | rw [if_pos (by omega)]))), show ((mr (mu (mu (mu (mu σ self 0 (σ b 0)) self 1 (σ b 1)) self 2 (σ b 2)) self 3 (σ b 3)) (self + 4) (cpy (σ (b + 4)) (σ (self + 4)) 0 0 4)) (self + 8)) = (σ (self + 8)) from by funext x; first | rfl | (simp only [mu_app, mr_app, ru, over, and_self, ↓reduceIte]; (repeat (first | rw [if_neg (by omega)] | rw [if_pos (by omega)])))]) ?_
  refine g_aload_n C dX7_becomeLike_60 (p := 1) (hi := rfl) (hv := rfl) ?_
  refine gc_g_X7_told C (by omega) dX7_becomeLike_61 wf_X7_18 ?_
  refine g_iconst C dX7_becomeLike_64 ?_
  refine g_aload_n C dX7_becomeLike_65 (p := 0) (hi := rfl) (hv := rfl) ?_
  refine gc_g_X7_told C (by omega) dX7_becomeLike_66 wf_X7_18 ?_
  refine g_iconst C dX7_becomeLike_69 ?_
  refine (g_bipush C dX7_becomeLike_70 (by decide)) ?_
  refine g_copy C (q0 := (b + 12)) (q1 := (self + 12)) (sp := 0) (dp := 0) (n := 20) wl_X7_41 dX7_becomeLike_72 ⟨by omega, by omega⟩ ⟨by omega, by omega⟩ (fun _ => cfC_told (by omega)) (fun _ => cfC_told (by omega)) (by omega) (by omega) (by omega) (by omega) (by omega) (by omega) (by omega) (by omega) (by simp [Value.category]) (by decide) ?_
  refine g_eq (σ' := (mr (mr (mr (mu (mu (mu (mu σ self 0 (σ b 0)) self 1 (σ b 1)) self 2 (σ b 2)) self 3 (σ b 3)) (self + 4) (cpy (σ (b + 4)) (σ (self + 4)) 0 0 4)) (self + 8) (cpy (σ (b + 8)) (σ (self + 8)) 0 0 4)) (self + 12) (cpy (σ (b + 12)) (σ (self + 12)) 0 0 20))) rfl rfl rfl (by rw [show ((mr (mr (mu (mu (mu (mu σ self 0 (σ b 0)) self 1 (σ b 1)) self 2 (σ b 2)) self 3 (σ b 3)) (self + 4) (cpy (σ (b + 4)) (σ (self + 4)) 0 0 4)) (self + 8) (cpy (σ (b + 8)) (σ (self + 8)) 0 0 4)) (b + 12)) = (σ (b + 12)) from by funext x; first | rfl | (simp only [mu_app, mr_app, ru, over, and_self, ↓reduceIte]; (repeat (first | rw [if_neg (by omega)] | rw [if_pos (by omega)]))), show ((mr (mr (mu (mu (mu (mu σ self 0 (σ b 0)) self 1 (σ b 1)) self 2 (σ b 2)) self 3 (σ b 3)) (self + 4) (cpy (σ (b + 4)) (σ (self + 4)) 0 0 4)) (self + 8) (cpy (σ (b + 8)) (σ (self + 8)) 0 0 4)) (self + 12)) = (σ (self + 12)) from by funext x; first | rfl | (simp only [mu_app, mr_app, ru, over, and_self, ↓reduceIte]; (repeat (first | rw [if_neg (by omega)] | rw [if_pos (by omega)])))]) ?_
  refine g_aload_n C dX7_becomeLike_75 (p := 1) (hi := rfl) (hv := rfl) ?_
  refine gc_g_X7_holders C (by omega) dX7_becomeLike_76 wf_X7_21 ?_
  refine g_iconst C dX7_becomeLike_79 ?_
  refine g_aload_n C dX7_becomeLike_80 (p := 0) (hi := rfl) (hv := rfl) ?_
  refine gc_g_X7_holders C (by omega) dX7_becomeLike_81 wf_X7_21 ?_
  refine g_iconst C dX7_becomeLike_84 ?_
  refine g_iconst C dX7_becomeLike_85 ?_
  refine g_copy C (q0 := (b + 16)) (q1 := (self + 16)) (sp := 0) (dp := 0) (n := 5) wl_X7_41 dX7_becomeLike_86 ⟨by omega, by omega⟩ ⟨by omega, by omega⟩ (fun _ => cfC_holders (by omega)) (fun _ => cfC_holders (by omega)) (by omega) (by omega) (by omega) (by omega) (by omega) (by omega) (by omega) (by omega) (by simp [Value.category]) (by decide) ?_
  refine g_eq (σ' := (mr (mr (mr (mr (mu (mu (mu (mu σ self 0 (σ b 0)) self 1 (σ b 1)) self 2 (σ b 2)) self 3 (σ b 3)) (self + 4) (cpy (σ (b + 4)) (σ (self + 4)) 0 0 4)) (self + 8) (cpy (σ (b + 8)) (σ (self + 8)) 0 0 4)) (self + 12) (cpy (σ (b + 12)) (σ (self + 12)) 0 0 20)) (self + 16) (cpy (σ (b + 16)) (σ (self + 16)) 0 0 5))) rfl rfl rfl (by rw [show ((mr (mr (mr (mu (mu (mu (mu σ self 0 (σ b 0)) self 1 (σ b 1)) self 2 (σ b 2)) self 3 (σ b 3)) (self + 4) (cpy (σ (b + 4)) (σ (self + 4)) 0 0 4)) (self + 8) (cpy (σ (b + 8)) (σ (self + 8)) 0 0 4)) (self + 12) (cpy (σ (b + 12)) (σ (self + 12)) 0 0 20)) (b + 16)) = (σ (b + 16)) from by funext x; first | rfl | (simp only [mu_app, mr_app, ru, over, and_self, ↓reduceIte]; (repeat (first | rw [if_neg (by omega)] | rw [if_pos (by omega)]))), show ((mr (mr (mr (mu (mu (mu (mu σ self 0 (σ b 0)) self 1 (σ b 1)) self 2 (σ b 2)) self 3 (σ b 3)) (self + 4) (cpy (σ (b + 4)) (σ (self + 4)) 0 0 4)) (self + 8) (cpy (σ (b + 8)) (σ (self + 8)) 0 0 4)) (self + 12) (cpy (σ (b + 12)) (σ (self + 12)) 0 0 20)) (self + 16)) = (σ (self + 16)) from by funext x; first | rfl | (simp only [mu_app, mr_app, ru, over, and_self, ↓reduceIte]; (repeat (first | rw [if_neg (by omega)] | rw [if_pos (by omega)])))]) ?_
  refine g_aload_n C dX7_becomeLike_89 (p := 1) (hi := rfl) (hv := rfl) ?_
  refine gc_g_X7_worn C (by omega) dX7_becomeLike_90 wf_X7_24 ?_
  refine g_iconst C dX7_becomeLike_93 ?_
  refine g_aload_n C dX7_becomeLike_94 (p := 0) (hi := rfl) (hv := rfl) ?_
  refine gc_g_X7_worn C (by omega) dX7_becomeLike_95 wf_X7_24 ?_
  refine g_iconst C dX7_becomeLike_98 ?_
  refine g_iconst C dX7_becomeLike_99 ?_
  refine g_copy C (q0 := (b + 20)) (q1 := (self + 20)) (sp := 0) (dp := 0) (n := 5) wl_X7_41 dX7_becomeLike_100 ⟨by omega, by omega⟩ ⟨by omega, by omega⟩ (fun _ => cfC_worn (by omega)) (fun _ => cfC_worn (by omega)) (by omega) (by omega) (by omega) (by omega) (by omega) (by omega) (by omega) (by omega) (by simp [Value.category]) (by decide) ?_
  refine g_eq (σ' := (mr (mr (mr (mr (mr (mu (mu (mu (mu σ self 0 (σ b 0)) self 1 (σ b 1)) self 2 (σ b 2)) self 3 (σ b 3)) (self + 4) (cpy (σ (b + 4)) (σ (self + 4)) 0 0 4)) (self + 8) (cpy (σ (b + 8)) (σ (self + 8)) 0 0 4)) (self + 12) (cpy (σ (b + 12)) (σ (self + 12)) 0 0 20)) (self + 16) (cpy (σ (b + 16)) (σ (self + 16)) 0 0 5)) (self + 20) (cpy (σ (b + 20)) (σ (self + 20)) 0 0 5))) rfl rfl rfl (by rw [show ((mr (mr (mr (mr (mu (mu (mu (mu σ self 0 (σ b 0)) self 1 (σ b 1)) self 2 (σ b 2)) self 3 (σ b 3)) (self + 4) (cpy (σ (b + 4)) (σ (self + 4)) 0 0 4)) (self + 8) (cpy (σ (b + 8)) (σ (self + 8)) 0 0 4)) (self + 12) (cpy (σ (b + 12)) (σ (self + 12)) 0 0 20)) (self + 16) (cpy (σ (b + 16)) (σ (self + 16)) 0 0 5)) (b + 20)) = (σ (b + 20)) from by funext x; first | rfl | (simp only [mu_app, mr_app, ru, over, and_self, ↓reduceIte]; (repeat (first | rw [if_neg (by omega)] | rw [if_pos (by omega)]))), show ((mr (mr (mr (mr (mu (mu (mu (mu σ self 0 (σ b 0)) self 1 (σ b 1)) self 2 (σ b 2)) self 3 (σ b 3)) (self + 4) (cpy (σ (b + 4)) (σ (self + 4)) 0 0 4)) (self + 8) (cpy (σ (b + 8)) (σ (self + 8)) 0 0 4)) (self + 12) (cpy (σ (b + 12)) (σ (self + 12)) 0 0 20)) (self + 16) (cpy (σ (b + 16)) (σ (self + 16)) 0 0 5)) (self + 20)) = (σ (self + 20)) from by funext x; first | rfl | (simp only [mu_app, mr_app, ru, over, and_self, ↓reduceIte]; (repeat (first | rw [if_neg (by omega)] | rw [if_pos (by omega)])))]) ?_
  exact hret _ _ _ dX7_becomeLike_103 (by first | rfl | omega | ((repeat' split) <;> first | (exfalso; omega) | rfl | exact mu_mu | omega))
set_option maxHeartbeats 4000000 in
set_option maxRecDepth 100000 in
theorem kX0_keep {l : Launch} {K : Nat → ClassId} {D : va_G} {ad : Int → Nat} {E : gEnv} {σ : Mem} {a t : Int} (hap : Apart ad 60) (hE : gEok E) (hal : 20 ≤ a ∧ a < 24) (htt : 0 ≤ t ∧ t < 5) (hl : 0 ≤ σ 5 1 ∧ σ 5 1 < 24) (hm : 0 ≤ σ 5 0 ∧ σ 5 0 ≤ 24) : CtV l K D ad 60 (cfC ad K) E yX0_keep cX0_keep 3 none 1 [.ref (ad 5), .ref (ad a), .int (iI t)] σ (mr (mu (mu (mu (mu (mu σ 5 1 ((σ 5 1 + 1).tmod 24)) 5 0 (if σ 5 0 + 1 < 24 then σ 5 0 + 1 else 24)) 6 ((σ 5 1 + 1).tmod 24) t) 7 ((σ 5 1 + 1).tmod 24) (σ (a + 16) t)) 8 ((σ 5 1 + 1).tmod 24) (σ (a + 20) t)) 9 (cpy (σ (a + 8)) (σ 9) 0 (((σ 5 1 + 1).tmod 24) * 4) 4)) := by
  have hL : 0 ≤ (σ 5 1 + 1).tmod 24 ∧ (σ 5 1 + 1).tmod 24 < 24 := by rw [Int.tmod_eq_emod_of_nonneg (by omega)]; omega
  refine ctV_of hap hE (by decide) rfl (fun M C hn hret => ?_)
  have C : Good l K D ad 60 E 1 cX0_keep RX0 M := C
  show G M ad 60 (cfC ad K) 0 [(0, .ref (ad 5)), (1, .ref (ad a)), (2, .int (iI t))] [] σ
  refine g_aload_n C dX0_keep_0 (p := 0) (hi := rfl) (hv := rfl) ?_
  refine g_aload_n C dX0_keep_1 (p := 0) (hi := rfl) (hv := rfl) ?_
  refine gc_g_X0_latest C dX0_keep_2 wf_X0_24 ?_
  refine g_iconst C dX0_keep_5 ?_
  refine g_iadd C dX0_keep_6 ?_
  refine (g_bipush C dX0_keep_7 (by decide)) ?_
  refine g_irem C (by omega) (by omega) (by omega) dX0_keep_9 ?_
  refine gc_p_X0_latest C dX0_keep_10 wf_X0_24 ?_
  refine g_aload_n C dX0_keep_13 (p := 0) (hi := rfl) (hv := rfl) ?_
  refine (g_bipush C dX0_keep_14 (by decide)) ?_
  refine g_aload_n C dX0_keep_16 (p := 0) (hi := rfl) (hv := rfl) ?_
  refine gc_g_X0_many C dX0_keep_17 wf_X0_28 ?_
  refine g_cI (b := (σ 5 0)) (by first | rfl | (simp only [mu_app, mr_app, ru, over, and_self, ↓reduceIte]; (repeat (first | rw [if_neg (by omega)] | rw [if_pos (by omega)])))) ?_
  refine g_iconst C dX0_keep_20 ?_
  refine g_iadd C dX0_keep_21 ?_
  refine g_mmin C (by omega) (by omega) wl_X0_31 dX0_keep_22 (by first | decide | simp [Value.category]) (by decide) ?_
  refine gc_p_X0_many C dX0_keep_25 wf_X0_28 ?_
  refine g_aload_n C dX0_keep_28 (p := 0) (hi := rfl) (hv := rfl) ?_
  refine gc_g_X0_things C dX0_keep_29 wf_X0_9 ?_
  refine g_aload_n C dX0_keep_32 (p := 0) (hi := rfl) (hv := rfl) ?_
  refine gc_g_X0_latest C dX0_keep_33 wf_X0_24 ?_
  refine g_cI (b := (((σ 5 1) + 1).tmod 24)) (by first | rfl | (simp only [mu_app, mr_app, ru, over, and_self, ↓reduceIte]; (repeat (first | rw [if_neg (by omega)] | rw [if_pos (by omega)])))) ?_
  refine g_iload_n C dX0_keep_36 (p := 2) (hi := rfl) (hv := rfl) ?_
  refine gc_s_athings C dX0_keep_37 (by omega) (by omega) ?_
  refine g_aload_n C dX0_keep_38 (p := 0) (hi := rfl) (hv := rfl) ?_
  refine gc_g_X0_holders C dX0_keep_39 wf_X0_13 ?_
  refine g_aload_n C dX0_keep_42 (p := 0) (hi := rfl) (hv := rfl) ?_
  refine gc_g_X0_latest C dX0_keep_43 wf_X0_24 ?_
  refine g_cI (b := (((σ 5 1) + 1).tmod 24)) (by first | rfl | (simp only [mu_app, mr_app, ru, over, and_self, ↓reduceIte]; (repeat (first | rw [if_neg (by omega)] | rw [if_pos (by omega)])))) ?_
  refine g_aload_n C dX0_keep_46 (p := 1) (hi := rfl) (hv := rfl) ?_
  refine gc_g_X7_holders C (by omega) dX0_keep_47 wf_X0_37 ?_
  refine g_iload_n C dX0_keep_50 (p := 2) (hi := rfl) (hv := rfl) ?_
  refine gc_l_holders C (by omega) dX0_keep_51 (by omega) (by omega) ?_
  refine g_cI (b := (σ (a + 16) t)) (by first | rfl | (simp only [mu_app, mr_app, ru, over, and_self, ↓reduceIte]; (repeat (first | rw [if_neg (by omega)] | rw [if_pos (by omega)])))) ?_
  refine gc_s_aholders C dX0_keep_52 (by omega) (by omega) ?_
  refine g_aload_n C dX0_keep_53 (p := 0) (hi := rfl) (hv := rfl) ?_
  refine gc_g_X0_worn C dX0_keep_54 wf_X0_16 ?_
  refine g_aload_n C dX0_keep_57 (p := 0) (hi := rfl) (hv := rfl) ?_
  refine gc_g_X0_latest C dX0_keep_58 wf_X0_24 ?_
  refine g_cI (b := (((σ 5 1) + 1).tmod 24)) (by first | rfl | (simp only [mu_app, mr_app, ru, over, and_self, ↓reduceIte]; (repeat (first | rw [if_neg (by omega)] | rw [if_pos (by omega)])))) ?_
  refine g_aload_n C dX0_keep_61 (p := 1) (hi := rfl) (hv := rfl) ?_
  refine gc_g_X7_worn C (by omega) dX0_keep_62 wf_X0_38 ?_
  refine g_iload_n C dX0_keep_65 (p := 2) (hi := rfl) (hv := rfl) ?_
  refine gc_l_worn C (by omega) dX0_keep_66 (by omega) (by omega) ?_
  refine g_cI (b := (σ (a + 20) t)) (by first | rfl | (simp only [mu_app, mr_app, ru, over, and_self, ↓reduceIte]; (repeat (first | rw [if_neg (by omega)] | rw [if_pos (by omega)])))) ?_
  refine gc_s_aworn C dX0_keep_67 (by omega) (by omega) ?_
  refine g_aload_n C dX0_keep_68 (p := 1) (hi := rfl) (hv := rfl) ?_
  refine gc_g_X7_coins C (by omega) dX0_keep_69 wf_X0_39 ?_
  refine g_iconst C dX0_keep_72 ?_
  refine g_aload_n C dX0_keep_73 (p := 0) (hi := rfl) (hv := rfl) ?_
  refine gc_g_X0_coins C dX0_keep_74 wf_X0_21 ?_
  refine g_aload_n C dX0_keep_77 (p := 0) (hi := rfl) (hv := rfl) ?_
  refine gc_g_X0_latest C dX0_keep_78 wf_X0_24 ?_
  refine g_cI (b := (((σ 5 1) + 1).tmod 24)) (by first | rfl | (simp only [mu_app, mr_app, ru, over, and_self, ↓reduceIte]; (repeat (first | rw [if_neg (by omega)] | rw [if_pos (by omega)])))) ?_
  refine g_iconst C dX0_keep_81 ?_
  refine g_imul C dX0_keep_82 ?_
  refine g_iconst C dX0_keep_83 ?_
  refine g_copy C (q0 := (a + 8)) (q1 := 9) (sp := 0) (dp := ((((σ 5 1) + 1).tmod 24) * 4)) (n := 4) wl_X0_40 dX0_keep_84 ⟨by omega, by omega⟩ ⟨by omega, by omega⟩ (fun _ => cfC_coins (by omega)) (fun _ => cfC_acoins) (by omega) (by omega) (by omega) (by omega) (by omega) (by omega) (by omega) (by omega) (by simp [Value.category]) (by decide) ?_
  refine g_eq (σ' := (mr (mu (mu (mu (mu (mu σ 5 1 (((σ 5 1) + 1).tmod 24)) 5 0 (if (σ 5 0) + 1 < 24 then (σ 5 0) + 1 else 24)) 6 (((σ 5 1) + 1).tmod 24) t) 7 (((σ 5 1) + 1).tmod 24) (σ (a + 16) t)) 8 (((σ 5 1) + 1).tmod 24) (σ (a + 20) t)) 9 (cpy (σ (a + 8)) (σ 9) 0 ((((σ 5 1) + 1).tmod 24) * 4) 4))) rfl rfl rfl (by rw [show ((mu (mu (mu (mu (mu σ 5 1 (((σ 5 1) + 1).tmod 24)) 5 0 (if (σ 5 0) + 1 < 24 then (σ 5 0) + 1 else 24)) 6 (((σ 5 1) + 1).tmod 24) t) 7 (((σ 5 1) + 1).tmod 24) (σ (a + 16) t)) 8 (((σ 5 1) + 1).tmod 24) (σ (a + 20) t)) (a + 8)) = (σ (a + 8)) from by funext x; first | rfl | (simp only [mu_app, mr_app, ru, over, and_self, ↓reduceIte]; (repeat (first | rw [if_neg (by omega)] | rw [if_pos (by omega)]))), show ((mu (mu (mu (mu (mu σ 5 1 (((σ 5 1) + 1).tmod 24)) 5 0 (if (σ 5 0) + 1 < 24 then (σ 5 0) + 1 else 24)) 6 (((σ 5 1) + 1).tmod 24) t) 7 (((σ 5 1) + 1).tmod 24) (σ (a + 16) t)) 8 (((σ 5 1) + 1).tmod 24) (σ (a + 20) t)) 9) = (σ 9) from by funext x; first | rfl | (simp only [mu_app, mr_app, ru, over, and_self, ↓reduceIte]; (repeat (first | rw [if_neg (by omega)] | rw [if_pos (by omega)])))]) ?_
  exact hret _ _ _ dX0_keep_87 (by first | rfl | omega | ((repeat' split) <;> first | (exfalso; omega) | rfl | exact mu_mu | omega))
set_option maxHeartbeats 4000000 in
set_option maxRecDepth 100000 in
theorem kX0_takeBack {l : Launch} {K : Nat → ClassId} {D : va_G} {ad : Int → Nat} {E : gEnv} {σ : Mem} {a : Int} (hap : Apart ad 60) (hE : gEok E) (hal : 20 ≤ a ∧ a < 24) (hl : 0 ≤ σ 5 1 ∧ σ 5 1 < 24) (ht : 0 ≤ σ 6 (σ 5 1) ∧ σ 6 (σ 5 1) < 5) : CtV l K D ad 60 (cfC ad K) E yX0_takeBack cX0_takeBack 3 none 1 [.ref (ad 5), .ref (ad a)] σ (mu (mu (mr (mu (mu σ (a + 16) (σ 6 (σ 5 1)) (σ 7 (σ 5 1))) (a + 20) (σ 6 (σ 5 1)) (σ 8 (σ 5 1))) (a + 8) (cpy (σ 9) (σ (a + 8)) (σ 5 1 * 4) 0 4)) 5 1 ((σ 5 1 + 24 - 1).tmod 24)) 5 0 (σ 5 0 - 1)) := by
  refine ctV_of hap hE (by decide) rfl (fun M C hn hret => ?_)
  have C : Good l K D ad 60 E 1 cX0_takeBack RX0 M := C
  show G M ad 60 (cfC ad K) 0 [(0, .ref (ad 5)), (1, .ref (ad a))] [] σ
  refine g_aload_n C dX0_takeBack_0 (p := 0) (hi := rfl) (hv := rfl) ?_
  refine gc_g_X0_things C dX0_takeBack_1 wf_X0_9 ?_
  refine g_aload_n C dX0_takeBack_4 (p := 0) (hi := rfl) (hv := rfl) ?_
  refine gc_g_X0_latest C dX0_takeBack_5 wf_X0_24 ?_
  refine gc_l_athings C dX0_takeBack_8 (by omega) (by omega) ?_
  refine g_istore_n C hn dX0_takeBack_9 rfl rfl rfl ?_
  refine g_aload_n C dX0_takeBack_10 (p := 2) (hi := rfl) (hv := rfl) ?_
  refine gc_g_X7_holders C (by omega) dX0_takeBack_11 wf_X0_37 ?_
  refine g_iload_n C dX0_takeBack_14 (p := 0) (hi := rfl) (hv := rfl) ?_
  refine g_aload_n C dX0_takeBack_15 (p := 1) (hi := rfl) (hv := rfl) ?_
  refine gc_g_X0_holders C dX0_takeBack_16 wf_X0_13 ?_
  refine g_aload_n C dX0_takeBack_19 (p := 1) (hi := rfl) (hv := rfl) ?_
  refine gc_g_X0_latest C dX0_takeBack_20 wf_X0_24 ?_
  refine gc_l_aholders C dX0_takeBack_23 (by omega) (by omega) ?_
  refine gc_s_holders C (by omega) dX0_takeBack_24 (by omega) (by omega) ?_
  refine g_aload_n C dX0_takeBack_25 (p := 2) (hi := rfl) (hv := rfl) ?_
  refine gc_g_X7_worn C (by omega) dX0_takeBack_26 wf_X0_38 ?_
  refine g_iload_n C dX0_takeBack_29 (p := 0) (hi := rfl) (hv := rfl) ?_
  refine g_aload_n C dX0_takeBack_30 (p := 1) (hi := rfl) (hv := rfl) ?_
  refine gc_g_X0_worn C dX0_takeBack_31 wf_X0_16 ?_
  refine g_aload_n C dX0_takeBack_34 (p := 1) (hi := rfl) (hv := rfl) ?_
  refine gc_g_X0_latest C dX0_takeBack_35 wf_X0_24 ?_
  refine g_cI (b := (σ 5 1)) (by first | rfl | (simp only [mu_app, mr_app, ru, over, and_self, ↓reduceIte]; (repeat (first | rw [if_neg (by omega)] | rw [if_pos (by omega)])))) ?_
  refine gc_l_aworn C dX0_takeBack_38 (by omega) (by omega) ?_
  refine g_cI (b := (σ 8 (σ 5 1))) (by first | rfl | (simp only [mu_app, mr_app, ru, over, and_self, ↓reduceIte]; (repeat (first | rw [if_neg (by omega)] | rw [if_pos (by omega)])))) ?_
  refine gc_s_worn C (by omega) dX0_takeBack_39 (by omega) (by omega) ?_
  refine g_aload_n C dX0_takeBack_40 (p := 1) (hi := rfl) (hv := rfl) ?_
  refine gc_g_X0_coins C dX0_takeBack_41 wf_X0_21 ?_
  refine g_aload_n C dX0_takeBack_44 (p := 1) (hi := rfl) (hv := rfl) ?_
  refine gc_g_X0_latest C dX0_takeBack_45 wf_X0_24 ?_
  refine g_cI (b := (σ 5 1)) (by first | rfl | (simp only [mu_app, mr_app, ru, over, and_self, ↓reduceIte]; (repeat (first | rw [if_neg (by omega)] | rw [if_pos (by omega)])))) ?_
  refine g_iconst C dX0_takeBack_48 ?_
  refine g_imul C dX0_takeBack_49 ?_
  refine g_aload_n C dX0_takeBack_50 (p := 2) (hi := rfl) (hv := rfl) ?_
  refine gc_g_X7_coins C (by omega) dX0_takeBack_51 wf_X0_39 ?_
  refine g_iconst C dX0_takeBack_54 ?_
  refine g_iconst C dX0_takeBack_55 ?_
  refine g_copy C (q0 := 9) (q1 := (a + 8)) (sp := ((σ 5 1) * 4)) (dp := 0) (n := 4) wl_X0_40 dX0_takeBack_56 ⟨by omega, by omega⟩ ⟨by omega, by omega⟩ (fun _ => cfC_acoins) (fun _ => cfC_coins (by omega)) (by omega) (by omega) (by omega) (by omega) (by omega) (by omega) (by omega) (by omega) (by simp [Value.category]) (by decide) ?_
  refine g_eq (σ' := (mr (mu (mu σ (a + 16) (σ 6 (σ 5 1)) (σ 7 (σ 5 1))) (a + 20) (σ 6 (σ 5 1)) (σ 8 (σ 5 1))) (a + 8) (cpy (σ 9) (σ (a + 8)) ((σ 5 1) * 4) 0 4))) rfl rfl rfl (by rw [show ((mu (mu σ (a + 16) (σ 6 (σ 5 1)) (σ 7 (σ 5 1))) (a + 20) (σ 6 (σ 5 1)) (σ 8 (σ 5 1))) 9) = (σ 9) from by funext x; first | rfl | (simp only [mu_app, mr_app, ru, over, and_self, ↓reduceIte]; (repeat (first | rw [if_neg (by omega)] | rw [if_pos (by omega)]))), show ((mu (mu σ (a + 16) (σ 6 (σ 5 1)) (σ 7 (σ 5 1))) (a + 20) (σ 6 (σ 5 1)) (σ 8 (σ 5 1))) (a + 8)) = (σ (a + 8)) from by funext x; first | rfl | (simp only [mu_app, mr_app, ru, over, and_self, ↓reduceIte]; (repeat (first | rw [if_neg (by omega)] | rw [if_pos (by omega)])))]) ?_
  refine g_aload_n C dX0_takeBack_59 (p := 1) (hi := rfl) (hv := rfl) ?_
  refine g_aload_n C dX0_takeBack_60 (p := 1) (hi := rfl) (hv := rfl) ?_
  refine gc_g_X0_latest C dX0_takeBack_61 wf_X0_24 ?_
  refine g_cI (b := (σ 5 1)) (by first | rfl | (simp only [mu_app, mr_app, ru, over, and_self, ↓reduceIte]; (repeat (first | rw [if_neg (by omega)] | rw [if_pos (by omega)])))) ?_
  refine (g_bipush C dX0_takeBack_64 (by decide)) ?_
  refine g_iadd C dX0_takeBack_66 ?_
  refine g_iconst C dX0_takeBack_67 ?_
  refine g_isub C dX0_takeBack_68 ?_
  refine (g_bipush C dX0_takeBack_69 (by decide)) ?_
  refine g_irem C (by omega) (by omega) (by omega) dX0_takeBack_71 ?_
  refine gc_p_X0_latest C dX0_takeBack_72 wf_X0_24 ?_
  refine g_aload_n C dX0_takeBack_75 (p := 1) (hi := rfl) (hv := rfl) ?_
  refine g_dup C dX0_takeBack_76 rfl ?_
  refine gc_g_X0_many C dX0_takeBack_77 wf_X0_28 ?_
  refine g_cI (b := (σ 5 0)) (by first | rfl | (simp only [mu_app, mr_app, ru, over, and_self, ↓reduceIte]; (repeat (first | rw [if_neg (by omega)] | rw [if_pos (by omega)])))) ?_
  refine g_iconst C dX0_takeBack_80 ?_
  refine g_isub C dX0_takeBack_81 ?_
  refine gc_p_X0_many C dX0_takeBack_82 wf_X0_28 ?_
  exact hret _ _ _ dX0_takeBack_85 (by first | rfl | omega | ((repeat' split) <;> first | (exfalso; omega) | rfl | exact mu_mu | omega))
