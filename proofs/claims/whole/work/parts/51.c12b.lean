set_option maxHeartbeats 4000000 in
set_option maxRecDepth 100000 in
theorem kX4_isWrong {l : Launch} {K : Nat → ClassId} {D : va_G} {ad : Int → Nat} {E : gEnv} {σ : Mem} {k : Int} (hap : Apart ad 60) (hE : gEok E) : CtI l K D ad 60 (cfC ad K) E yX4_isWrong cX4_isWrong 2 (some .boolean) 0 [.ref (ad 3), .int (iI k)] σ 0 (wrM σ k) := by
  refine ctI_of hap hE (by decide) rfl .boolean (nar_z (by simp)) (fun M C hn hret => ?_)
  have C : Good l K D ad 60 E 0 cX4_isWrong RX4 M := C
  show G M ad 60 (cfC ad K) 0 [(0, .ref (ad 3)), (1, .int (iI k))] [] σ
  refine g_aload_n C dX4_isWrong_0 (p := 0) (hi := rfl) (hv := rfl) ?_
  refine g_iload_n C dX4_isWrong_1 (p := 1) (hi := rfl) (hv := rfl) ?_
  refine gc_p_X4_wrong C dX4_isWrong_2 wf_X4_24 ?_
  refine g_iconst C dX4_isWrong_5 ?_
  exact hret _ _ _ _ dX4_isWrong_6 (by first | rfl | omega | ((repeat' split) <;> first | (exfalso; omega) | rfl | exact mu_mu | omega)) (by first | rfl | omega | ((repeat' split) <;> first | (exfalso; omega) | rfl | exact mu_mu | omega))
set_option maxHeartbeats 4000000 in
set_option maxRecDepth 100000 in
theorem kX4_isWord {l : Launch} {K : Nat → ClassId} {D : va_G} {ad : Int → Nat} {E : gEnv} {σ : Mem} {w : Nat} {P : cP} (hap : Apart ad 60) (hE : gEok E) (hcE : ∀ (A : Nat → Prop) (U : State) (H : Heap), E A U H → cE P A U H) (hw : w < 8) (hrp : RPC σ) : CtI l K D ad 60 (cfC ad K) E yX4_isWord cX4_isWord 3 (some .boolean) 4 [.ref (ad 3), .ref (P.2.1 w)] σ (isW σ w) σ := by
  have htr := hrp.1
  have hb4 := htr.1
  have h31 := htr.2.1
  have h34 := htr.2.2
  have h33 := hrp.2.1
  have h35 := hrp.2.2.1
  have h352 := hrp.2.2.2
  have hln := lenS_in w hw
  refine ctI_of hap hE (by decide) rfl .boolean (nar_z (by exact isW_01)) (fun M C hn hret => ?_)
  have C : Good l K D ad 60 E 4 cX4_isWord RX4 M := C
  have hcS := hcE _ _ _ (gd_E C)
  show G M ad 60 (cfC ad K) 0 [(0, .ref (ad 3)), (1, .ref (P.2.1 w))] [] σ
  refine g_aload_n C dX4_isWord_0 (p := 0) (hi := rfl) (hv := rfl) ?_
  refine gc_g_X4_token C dX4_isWord_1 wf_X4_43 ?_
  refine g_iconst C dX4_isWord_4 ?_
  refine g_icmp_ne C (tgt := 24) dX4_isWord_5 (by decide) (by omega) (by omega) (fun h_1 => ?_) (fun h_1 => ?_)
  · refine g_iconst C dX4_isWord_24 ?_
    exact hret _ _ _ _ dX4_isWord_25 (by first | (unfold isW; rw [if_pos (by assumption)]) | (unfold isW; rw [if_neg (by omega), if_pos (by omega)]) | (unfold isW; rw [if_neg (by omega), if_neg (by omega)]; exact hok.symm) | (have e1 : wmS (σ 4) (σ 3 3) w (i + 1) = 0 := (by simp only [wmS]; rw [if_neg (by omega), if_neg (by assumption)]); unfold isW; rw [if_neg (by omega), if_neg (by omega), wmS_stay e1 (by omega)])) (by first | rfl | omega | ((repeat' split) <;> first | (exfalso; omega) | rfl | exact mu_mu | omega))
  · refine g_aload_n C dX4_isWord_8 (p := 0) (hi := rfl) (hv := rfl) ?_
    refine gc_g_X4_behind C dX4_isWord_9 wf_X4_27 ?_
    refine g_aload_n C dX4_isWord_12 (p := 0) (hi := rfl) (hv := rfl) ?_
    refine gc_g_X4_at C dX4_isWord_13 wf_X4_112 ?_
    refine g_isub C dX4_isWord_16 ?_
    refine g_aload_n C dX4_isWord_17 (p := 1) (hi := rfl) (hv := rfl) ?_
    refine g_callE C dX4_isWord_18 (kJ0_length (σ := σ) (i := w) (P := P) hap hE (by first | assumption | omega | exact hw | exact hrp) (by first | assumption | omega | exact hw | exact hrp)) mw_J0_length_8abf5 wl_X4_115 (by decide) (by decide) (fun H locs h => vk_recv hcS.2.1.2.2 (by first | assumption | decide) h) rfl rfl (by simp [Value.category]) ?_
    refine g_icmp_eq C (tgt := 26) dX4_isWord_21 (by decide) (by omega) (by omega) (fun h_2 => ?_) (fun h_2 => ?_)
    · refine g_iconst C dX4_isWord_26 ?_
      refine g_istore_n C hn dX4_isWord_27 rfl rfl rfl ?_
      have L28 : ∀ i : Nat, i ≤ (lenS.getD w 0) → ∀ (x2 : Int), x2 = (i : Int) → wmS (σ 4) (σ 3 3) w i = 1 → G M ad 60 (cfC ad K) 28 [(0, .ref (ad 3)), (1, .ref (P.2.1 w)), (2, .int (iI x2))] [] σ := by
        refine loopUp (lenS.getD w 0) ?_
        rintro i hi ihi x2 rfl hok
        have hbi := hb4 (σ 3 3 + (i : Int))
        have hci := fun hlt : i < lenS.getD w 0 => chZ_S w hw i (by omega) hlt
        refine g_iload_n C dX4_isWord_28 (p := 2) (hi := rfl) (hv := rfl) ?_
        refine g_aload_n C dX4_isWord_29 (p := 1) (hi := rfl) (hv := rfl) ?_
        refine g_callE C dX4_isWord_30 (kJ0_length (σ := σ) (i := w) (P := P) hap hE (by first | assumption | omega | exact hw | exact hrp) (by first | assumption | omega | exact hw | exact hrp)) mw_J0_length_8abf5 wl_X4_115 (by decide) (by decide) (fun H locs h => vk_recv hcS.2.1.2.2 (by first | assumption | decide) h) rfl rfl (by simp [Value.category]) ?_
        refine g_icmp_ge C (tgt := 63) dX4_isWord_33 (by decide) (by omega) (by omega) (fun h_3 => ?_) (fun h_3 => ?_)
        · have hiN : i = (lenS.getD w 0) := by omega
          refine g_iconst C dX4_isWord_63 ?_
          exact hret _ _ _ _ dX4_isWord_64 (by (try subst hiN); first | (unfold isW; rw [if_pos (by assumption)]) | (unfold isW; rw [if_neg (by omega), if_pos (by omega)]) | (unfold isW; rw [if_neg (by omega), if_neg (by omega)]; exact hok.symm) | (have e1 : wmS (σ 4) (σ 3 3) w (i + 1) = 0 := (by simp only [wmS]; rw [if_neg (by omega), if_neg (by assumption)]); unfold isW; rw [if_neg (by omega), if_neg (by omega), wmS_stay e1 (by omega)])) (by (try subst hiN); first | rfl | omega | ((repeat' split) <;> first | (exfalso; omega) | rfl | exact mu_mu | omega))
        · refine g_aload_n C dX4_isWord_36 (p := 0) (hi := rfl) (hv := rfl) ?_
          refine gc_g_X4_tape C dX4_isWord_37 wf_X4_11 ?_
          refine g_aload_n C dX4_isWord_40 (p := 0) (hi := rfl) (hv := rfl) ?_
          refine gc_g_X4_at C dX4_isWord_41 wf_X4_112 ?_
          refine g_iload_n C dX4_isWord_44 (p := 2) (hi := rfl) (hv := rfl) ?_
          refine g_iadd C dX4_isWord_45 ?_
          refine gc_l_tape C dX4_isWord_46 (by omega) (by omega) ?_
          refine g_aload_n C dX4_isWord_47 (p := 1) (hi := rfl) (hv := rfl) ?_
          refine g_iload_n C dX4_isWord_48 (p := 2) (hi := rfl) (hv := rfl) ?_
          refine g_callE C dX4_isWord_49 (kJ0_charAt (σ := σ) (k := (i : Int)) (i := w) (P := P) hap hE (by first | assumption | omega | exact hw | exact hrp) (by first | assumption | omega | exact hw | exact hrp) (by first | assumption | omega | exact hw | exact hrp) (by first | assumption | omega | exact hw | exact hrp)) mw_J0_charAt_5068e wl_X4_120 (by decide) (by decide) (fun H locs h => vk_recv hcS.2.1.2.2 (by first | assumption | decide) h) rfl rfl (by simp [Value.category]) ?_
          refine g_icmp_eq C (tgt := 57) dX4_isWord_52 (by decide) (by constructor <;> omega) (by have := hci (by omega); rw [show ((i : Int).toNat) = i by omega]; constructor <;> omega) (fun h_4 => ?_) (fun h_4 => ?_)
          · refine g_iinc C hn dX4_isWord_57 (p := 2) rfl rfl rfl ?_
            refine g_goto C (tgt := 28) dX4_isWord_60 (by decide) ?_
            refine g_sub [1, 2, 0] rfl ?_
            exact ihi (by omega) _ (by first | rfl | omega) (by simp only [wmS]; rw [if_neg (by omega), if_pos (by assumption)])
          · refine g_iconst C dX4_isWord_55 ?_
            exact hret _ _ _ _ dX4_isWord_56 (by (try subst hiN); first | (unfold isW; rw [if_pos (by assumption)]) | (unfold isW; rw [if_neg (by omega), if_pos (by omega)]) | (unfold isW; rw [if_neg (by omega), if_neg (by omega)]; exact hok.symm) | (have e1 : wmS (σ 4) (σ 3 3) w (i + 1) = 0 := (by simp only [wmS]; rw [if_neg (by omega), if_neg (by assumption)]); unfold isW; rw [if_neg (by omega), if_neg (by omega), wmS_stay e1 (by omega)])) (by (try subst hiN); first | rfl | omega | ((repeat' split) <;> first | (exfalso; omega) | rfl | exact mu_mu | omega))
      refine g_sub [1, 2, 0] rfl ?_
      exact L28 0 (Nat.zero_le _) _ (by first | rfl | omega | simp) (by rfl)
    · refine g_iconst C dX4_isWord_24 ?_
      exact hret _ _ _ _ dX4_isWord_25 (by (try subst hiN); first | (unfold isW; rw [if_pos (by assumption)]) | (unfold isW; rw [if_neg (by omega), if_pos (by omega)]) | (unfold isW; rw [if_neg (by omega), if_neg (by omega)]; exact hok.symm) | (have e1 : wmS (σ 4) (σ 3 3) w (i + 1) = 0 := (by simp only [wmS]; rw [if_neg (by omega), if_neg (by assumption)]); unfold isW; rw [if_neg (by omega), if_neg (by omega), wmS_stay e1 (by omega)])) (by (try subst hiN); first | rfl | omega | ((repeat' split) <;> first | (exfalso; omega) | rfl | exact mu_mu | omega))
set_option maxHeartbeats 4000000 in
set_option maxRecDepth 100000 in
theorem kX4_numberTold {l : Launch} {K : Nat → ClassId} {D : va_G} {ad : Int → Nat} {E : gEnv} {σ : Mem} (hap : Apart ad 60) (hE : gEok E) (hrp : RPC σ) : CtI l K D ad 60 (cfC ad K) E yX4_numberTold cX4_numberTold 3 (some .int) 0 [.ref (ad 3)] σ (nuT σ) σ := by
  have htr := hrp.1
  have hb4 := htr.1
  have h31 := htr.2.1
  have h34 := htr.2.2
  have h33 := hrp.2.1
  have h35 := hrp.2.2.1
  have h352 := hrp.2.2.2
  refine ctI_of hap hE (by decide) rfl .int (nar_i _) (fun M C hn hret => ?_)
  have C : Good l K D ad 60 E 0 cX4_numberTold RX4 M := C
  show G M ad 60 (cfC ad K) 0 [(0, .ref (ad 3))] [] σ
  refine g_iconst C dX4_numberTold_0 ?_
  refine g_istore_n C hn dX4_numberTold_1 rfl rfl rfl ?_
  refine g_aload_n C dX4_numberTold_2 (p := 1) (hi := rfl) (hv := rfl) ?_
  refine gc_g_X4_at C dX4_numberTold_3 wf_X4_112 ?_
  refine g_istore_n C hn dX4_numberTold_6 rfl rfl rfl ?_
  have L7 : ∀ i : Nat, i ≤ ((σ 3 4 - σ 3 3).toNat) → ∀ (x1 x2 : Int), x1 = (fgF (σ 4) (σ 3 3) i) → x2 = (σ 3 3 + (i : Int)) → G M ad 60 (cfC ad K) 7 [(0, .ref (ad 3)), (1, .int (iI x1)), (2, .int (iI x2))] [] σ := by
    refine loopUp ((σ 3 4 - σ 3 3).toNat) ?_
    rintro i hi ihi x1 x2 rfl rfl
    refine g_iload_n C dX4_numberTold_7 (p := 2) (hi := rfl) (hv := rfl) ?_
    refine g_aload_n C dX4_numberTold_8 (p := 0) (hi := rfl) (hv := rfl) ?_
    refine gc_g_X4_behind C dX4_numberTold_9 wf_X4_27 ?_
    refine g_icmp_ge C (tgt := 36) dX4_numberTold_12 (by decide) (by omega) (by omega) (fun h_1 => ?_) (fun h_1 => ?_)
    · have hiN : i = ((σ 3 4 - σ 3 3).toNat) := by omega
      refine g_iload_n C dX4_numberTold_36 (p := 1) (hi := rfl) (hv := rfl) ?_
      exact hret _ _ _ _ dX4_numberTold_37 (by (try subst hiN); rfl) (by (try subst hiN); first | rfl | omega | ((repeat' split) <;> first | (exfalso; omega) | rfl | exact mu_mu | omega))
    · refine g_iload_n C dX4_numberTold_15 (p := 1) (hi := rfl) (hv := rfl) ?_
      refine (g_bipush C dX4_numberTold_16 (by decide)) ?_
      refine g_imul C dX4_numberTold_18 ?_
      refine g_aload_n C dX4_numberTold_19 (p := 0) (hi := rfl) (hv := rfl) ?_
      refine gc_g_X4_tape C dX4_numberTold_20 wf_X4_11 ?_
      refine g_iload_n C dX4_numberTold_23 (p := 2) (hi := rfl) (hv := rfl) ?_
      refine gc_l_tape C dX4_numberTold_24 (by omega) (by omega) ?_
      refine g_iadd C dX4_numberTold_25 ?_
      refine (g_bipush C dX4_numberTold_26 (by decide)) ?_
      refine g_isub C dX4_numberTold_28 ?_
      refine g_istore_n C hn dX4_numberTold_29 rfl rfl rfl ?_
      refine g_iinc C hn dX4_numberTold_30 (p := 2) rfl rfl rfl ?_
      refine g_goto C (tgt := 7) dX4_numberTold_33 (by decide) ?_
      refine g_sub [2, 1, 0] rfl ?_
      exact ihi (by omega) _ _ (by simp only [fgF]; omega) (by omega)
  refine g_sub [2, 1, 0] rfl ?_
  exact L7 0 (Nat.zero_le _) _ _ (by rfl) (by omega)
set_option maxHeartbeats 4000000 in
set_option maxRecDepth 100000 in
theorem kX4_hasRoom {l : Launch} {K : Nat → ClassId} {D : va_G} {ad : Int → Nat} {E : gEnv} {σ : Mem} {n : Int} (hap : Apart ad 60) (hE : gEok E) (h31 : 0 ≤ σ 3 1 ∧ σ 3 1 ≤ 400) (hn : 0 ≤ n ∧ n ≤ 8) : CtI l K D ad 60 (cfC ad K) E yX4_hasRoom cX4_hasRoom 2 (some .boolean) 0 [.ref (ad 3), .int (iI n)] σ (if σ 3 1 + n ≤ 400 then 1 else 0) σ := by
  refine ctI_of hap hE (by decide) rfl .boolean (nar_z (by split <;> simp)) (fun M C hn hret => ?_)
  have C : Good l K D ad 60 E 0 cX4_hasRoom RX4 M := C
  show G M ad 60 (cfC ad K) 0 [(0, .ref (ad 3)), (1, .int (iI n))] [] σ
  refine g_aload_n C dX4_hasRoom_0 (p := 0) (hi := rfl) (hv := rfl) ?_
  refine gc_g_X4_fed C dX4_hasRoom_1 wf_X4_15 ?_
  refine g_iload_n C dX4_hasRoom_4 (p := 1) (hi := rfl) (hv := rfl) ?_
  refine g_iadd C dX4_hasRoom_5 ?_
  refine (g_sipush C dX4_hasRoom_6 (by decide)) ?_
  refine g_icmp_gt C (tgt := 16) dX4_hasRoom_9 (by decide) (by omega) (by omega) (fun h_1 => ?_) (fun h_1 => ?_)
  · refine g_iconst C dX4_hasRoom_16 ?_
    exact hret _ _ _ _ dX4_hasRoom_17 (by first | rfl | omega | ((repeat' split) <;> first | (exfalso; omega) | rfl | exact mu_mu | omega)) (by first | rfl | omega | ((repeat' split) <;> first | (exfalso; omega) | rfl | exact mu_mu | omega))
  · refine g_iconst C dX4_hasRoom_12 ?_
    refine g_goto C (tgt := 17) dX4_hasRoom_13 (by decide) ?_
    exact hret _ _ _ _ dX4_hasRoom_17 (by first | rfl | omega | ((repeat' split) <;> first | (exfalso; omega) | rfl | exact mu_mu | omega)) (by first | rfl | omega | ((repeat' split) <;> first | (exfalso; omega) | rfl | exact mu_mu | omega))
