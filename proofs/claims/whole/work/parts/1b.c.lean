set_option maxHeartbeats 40000000 in
set_option maxRecDepth 100000 in
theorem cs_X3_readOne (l : Launch) (Z : ow_Z) (fu : Nat) (d : Nat) (g : Nat → Int32 → ow_S → Option ow_S) (ih0 : ∀ (o : Int32) (σ σr : ow_S), g 0 o σ = some σr → Met l yX3_readEither wsX3_readEither (ow_rg d) (ow_Pc Z 0 56 [.ref (ow_ad Z 7), .int o] σ) (ow_Qv Z 0 56 σr) 0 0 (ow_A Z 0 56)) (ih1 : ∀ (o : Int32) (σ σr : ow_S), g 1 o σ = some σr → Met l yX3_readBoth wsX3_readBoth (ow_rg d) (ow_Pc Z 0 56 [.ref (ow_ad Z 7), .int o] σ) (ow_Qv Z 0 56 σr) 0 0 (ow_A Z 0 56)) (ih2 : ∀ (o : Int32) (σ σr : ow_S), g 2 o σ = some σr → Met l yX3_readNot wsX3_readNot (ow_rg d) (ow_Pc Z 0 56 [.ref (ow_ad Z 7), .int o] σ) (ow_Qv Z 0 56 σr) 0 0 (ow_A Z 0 56)) (ih3 : ∀ (o : Int32) (σ σr : ow_S), g 3 o σ = some σr → Met l yX3_readSum wsX3_readSum (ow_rg d) (ow_Pc Z 0 56 [.ref (ow_ad Z 7), .int o] σ) (ow_Qv Z 0 56 σr) 0 0 (ow_A Z 0 56)) (ih4 : ∀ (o : Int32) (σ σr : ow_S), g 4 o σ = some σr → Met l yX3_readTerm wsX3_readTerm (ow_rg d) (ow_Pc Z 0 56 [.ref (ow_ad Z 7), .int o] σ) (ow_Qv Z 0 56 σr) 0 0 (ow_A Z 0 56)) (ih5 : ∀ (o : Int32) (σ σr : ow_S), g 5 o σ = some σr → Met l yX3_readOne wsX3_readOne (ow_rg d) (ow_Pc Z 0 56 [.ref (ow_ad Z 7), .int o] σ) (ow_Qv Z 0 56 σr) 0 0 (ow_A Z 0 56)) (a1 : Int32) (σ : ow_S) (σr : ow_S) (hf : b_X3_readOne fu g a1 σ = some σr) : Met l yX3_readOne wsX3_readOne (ow_rg (d + 1)) (ow_Pc Z 0 56 [.ref (ow_ad Z 7), .int a1] σ) (ow_Qv Z 0 56 σr) 0 0 (ow_A Z 0 56) := by
  refine Met.ofW (cc := cX3_readOne) (maxL := 2) (ret := none) (by decide) rfl ?_
  intro p e s m args below meth c s₁ B hml hv
  obtain ⟨hav, hB⟩ := hv
  obtain ⟨hG, hW⟩ := ow_begin hB
  have hx := B.exec
  have hb := B.bytes
  have hr := B.returns
  have hts := atoms_spec (ws := wsX3_readOne) B.pre
  have hown : s.vm.findClass RX3 = some m.cls := findClass_of_methodNamed B.named
  have hlocks := B.notSynchronized
  have hinX3 : ∀ w ∈ wsX30, w ∈ wsX3_readOne := by decide +kernel
  have hJ18 : ∀ (σ : ow_S) (H : Heap) (locs : List Loc) (ls : Array Slot), L_X3_readOne_18 fu g σ = some σr → ow_Wd Z 0 56 σ s H locs → lv_has ls 2 [(0, .ref (ow_ad Z 7))] → W p l e (headSpec wsX3_readOne (ow_rg (d + 1))).room s m args below meth c H locs 0 0 (MQ below (ow_Qv Z 0 56 σr) args s 0 0 (ow_A Z 0 56)) (F0 m 18 ls []) := by
    intro σ H locs ls hf hW hl
    unfold L_X3_readOne_18 at hf
    refine lv_aload_n hx hb dX3_readOne_18 rfl (lv_at hl 0 rfl) ?_
    refine lv_aload_n hx hb dX3_readOne_19 rfl (lv_at hl 0 rfl) ?_
    refine ow_getV (ci := 3) (C := RX3) (T := TX3) (N := 7) hx hb hts hown hG hW ow_i7 (by decide) rfl hinX3 3 (by decide) (fk := 0) rfl (hts (.fieldLink RX3 22 "FiftyOneCards$Reader" "token" "I") (by decide +kernel)) (v := .int (σ.1 7 3)) rfl dX3_readOne_20 ?_
    obtain ⟨σ_23, hc23, hf⟩ := ow_cv_i hf
    refine ow_callv (va_runV (As := [.int (σ.1 7 3)]) (rest := []) ⟨hx, hb, hml, hown, hts⟩ (c_X3_put l Z fu (σ.1 7 3) σ σ_23  hc23) (cwV 1 hts gX3_readOne_X3_put rfl rfl rfl (by decide +kernel) ⟨by show 2 + 1 ≤ 3 * (d + 1) + 30; omega, by show 8 + (2 + 11) + 81 ≤ 100 * (d + 1) + 2000; omega⟩) (ow_preV hG hW ow_i7 (by decide) rfl) rfl rfl hl.1 rfl (lv_room (Nat.le_of_ble_eq_true rfl)) dX3_readOne_23 ⟨Nat.zero_le _, Nat.zero_le _⟩) hW (fun H locs hW => ?_)
    refine lv_aload_n hx hb dX3_readOne_26 rfl (lv_at hl 0 rfl) ?_
    obtain ⟨σ_27, hc27, hf⟩ := ow_cv_i hf
    refine ow_callv (va_runV (As := []) (rest := []) ⟨hx, hb, hml, hown, hts⟩ (c_X3_advance l Z fu σ_23 σ_27  hc27) (cwV 0 hts gX3_readOne_X3_advance rfl rfl rfl (by decide +kernel) ⟨by show 8 + 1 ≤ 3 * (d + 1) + 30; omega, by show 8 + (2 + 11) + 446 ≤ 100 * (d + 1) + 2000; omega⟩) (ow_preV hG hW ow_i7 (by decide) rfl) rfl rfl hl.1 rfl (lv_room (Nat.le_of_ble_eq_true rfl)) dX3_readOne_27 ⟨Nat.zero_le _, Nat.zero_le _⟩) hW (fun H locs hW => ?_)
    refine lv_goto (tgt := 105) hx hb dX3_readOne_30 (by decide) ?_
    exact ow_vret hx hb hr hW hf dX3_readOne_105 hlocks
  have hJ101 : ∀ (σ : ow_S) (H : Heap) (locs : List Loc) (ls : Array Slot), L_X3_readOne_101 fu g σ = some σr → ow_Wd Z 0 56 σ s H locs → lv_has ls 2 [(0, .ref (ow_ad Z 7))] → W p l e (headSpec wsX3_readOne (ow_rg (d + 1))).room s m args below meth c H locs 0 0 (MQ below (ow_Qv Z 0 56 σr) args s 0 0 (ow_A Z 0 56)) (F0 m 101 ls []) := by
    intro σ H locs ls hf hW hl
    unfold L_X3_readOne_101 at hf
    refine lv_aload_n hx hb dX3_readOne_101 rfl (lv_at hl 0 rfl) ?_
    obtain ⟨σ_102, hc102, hf⟩ := ow_cv_i hf
    refine ow_callv (va_runV (As := []) (rest := []) ⟨hx, hb, hml, hown, hts⟩ (c_X3_refuse l Z fu σ σ_102  hc102) (cwV 0 hts gX3_readOne_X3_refuse rfl rfl rfl (by decide +kernel) ⟨by show 1 + 1 ≤ 3 * (d + 1) + 30; omega, by show 8 + (1 + 11) + 60 ≤ 100 * (d + 1) + 2000; omega⟩) (ow_preV hG hW ow_i7 (by decide) rfl) rfl rfl hl.1 rfl (lv_room (Nat.le_of_ble_eq_true rfl)) dX3_readOne_102 ⟨Nat.zero_le _, Nat.zero_le _⟩) hW (fun H locs hW => ?_)
    exact ow_vret hx hb hr hW hf dX3_readOne_105 hlocks
  have hJ67 : ∀ (x1 : Int32) (σ : ow_S) (H : Heap) (locs : List Loc) (ls : Array Slot), L_X3_readOne_67 fu g x1 σ = some σr → ow_Wd Z 0 56 σ s H locs → lv_has ls 2 [(0, .ref (ow_ad Z 7)), (1, .int x1)] → W p l e (headSpec wsX3_readOne (ow_rg (d + 1))).room s m args below meth c H locs 0 0 (MQ below (ow_Qv Z 0 56 σr) args s 0 0 (ow_A Z 0 56)) (F0 m 67 ls []) := by
    intro x1 σ H locs ls hf hW hl
    unfold L_X3_readOne_67 at hf
    refine lv_aload_n hx hb dX3_readOne_67 rfl (lv_at hl 0 rfl) ?_
    refine ow_getV (ci := 3) (C := RX3) (T := TX3) (N := 7) hx hb hts hown hG hW ow_i7 (by decide) rfl hinX3 3 (by decide) (fk := 0) rfl (hts (.fieldLink RX3 22 "FiftyOneCards$Reader" "token" "I") (by decide +kernel)) (v := .int (σ.1 7 3)) rfl dX3_readOne_68 ?_
    refine lv_bipush (v := 15) hx hb dX3_readOne_71 (by decide) ?_
    refine lv_icmp_ne (tgt := 101) hx hb dX3_readOne_73 (by decide) (fun c73 => ?_) (fun c73 => ?_)
    · replace hf := ow_if_f c73 hf
      exact hJ101 σ _ _ _ hf hW (lv_sub hl [0] rfl)
    · replace hf := ow_if_t c73 hf
      refine lv_iload_n hx hb dX3_readOne_76 rfl (lv_at hl 1 rfl) ?_
      refine lv_iconst (v := 5) hx hb dX3_readOne_77 (by decide) ?_
      refine lv_icmp_ge (tgt := 101) hx hb dX3_readOne_78 (by decide) (fun c78 => ?_) (fun c78 => ?_)
      · replace hf := ow_if_t c78 hf
        exact hJ101 σ _ _ _ hf hW (lv_sub hl [0] rfl)
      · replace hf := ow_if_f c78 hf
        refine lv_aload_n hx hb dX3_readOne_81 rfl (lv_at hl 0 rfl) ?_
        obtain ⟨σ_82, hc82, hf⟩ := ow_cv_i hf
        refine ow_callv (va_runV (As := []) (rest := []) ⟨hx, hb, hml, hown, hts⟩ (c_X3_advance l Z fu σ σ_82  hc82) (cwV 0 hts gX3_readOne_X3_advance rfl rfl rfl (by decide +kernel) ⟨by show 8 + 1 ≤ 3 * (d + 1) + 30; omega, by show 8 + (2 + 11) + 446 ≤ 100 * (d + 1) + 2000; omega⟩) (ow_preV hG hW ow_i7 (by decide) rfl) rfl rfl hl.1 rfl (lv_room (Nat.le_of_ble_eq_true rfl)) dX3_readOne_82 ⟨Nat.zero_le _, Nat.zero_le _⟩) hW (fun H locs hW => ?_)
        refine lv_aload_n hx hb dX3_readOne_85 rfl (lv_at hl 0 rfl) ?_
        refine lv_iload_n hx hb dX3_readOne_86 rfl (lv_at hl 1 rfl) ?_
        refine lv_iconst (v := 1) hx hb dX3_readOne_87 (by decide) ?_
        refine lv_iadd hx hb dX3_readOne_88 ?_
        obtain ⟨σ_89, hc89, hf⟩ := ow_cv_i hf
        refine ow_callv (va_runV (As := [.int (x1 + (1 : Int32))]) (rest := []) ⟨hx, hb, hml, hown, hts⟩ (ih0 (x1 + (1 : Int32)) σ_82 σ_89  hc89) (cwV 1 hts gX3_readOne_X3_readEither rfl rfl rfl (by decide +kernel) ⟨by show 3 * d + 30 + 1 ≤ 3 * (d + 1) + 30; omega, by show 8 + (3 + 11) + (100 * d + 2000) ≤ 100 * (d + 1) + 2000; omega⟩) (ow_preV hG hW ow_i7 (by decide) rfl) rfl rfl hl.1 rfl (lv_room (Nat.le_of_ble_eq_true rfl)) dX3_readOne_89 ⟨Nat.zero_le _, Nat.zero_le _⟩) hW (fun H locs hW => ?_)
        refine lv_aload_n hx hb dX3_readOne_92 rfl (lv_at hl 0 rfl) ?_
        refine lv_bipush (v := 16) hx hb dX3_readOne_93 (by decide) ?_
        obtain ⟨σ_95, hc95, hf⟩ := ow_cv_i hf
        refine ow_callv (va_runV (As := [.int (16 : Int32)]) (rest := []) ⟨hx, hb, hml, hown, hts⟩ (c_X3_expect l Z fu (16 : Int32) σ_89 σ_95  hc95) (cwV 1 hts gX3_readOne_X3_expect rfl rfl rfl (by decide +kernel) ⟨by show 9 + 1 ≤ 3 * (d + 1) + 30; omega, by show 8 + (2 + 11) + 467 ≤ 100 * (d + 1) + 2000; omega⟩) (ow_preV hG hW ow_i7 (by decide) rfl) rfl rfl hl.1 rfl (lv_room (Nat.le_of_ble_eq_true rfl)) dX3_readOne_95 ⟨Nat.zero_le _, Nat.zero_le _⟩) hW (fun H locs hW => ?_)
        refine lv_goto (tgt := 105) hx hb dX3_readOne_98 (by decide) ?_
        exact ow_vret hx hb hr hW hf dX3_readOne_105 hlocks
  have hl := lv_entry ([.ref (ow_ad Z 7), .int a1]) (n := 2) (Nat.le_of_ble_eq_true rfl)
  refine W.eq (g2 := F0 m 0 ((lg_sl ([.ref (ow_ad Z 7), .int a1]) ++ List.replicate (2 - (lg_sl ([.ref (ow_ad Z 7), .int a1])).length) Slot.unset).toArray) []) (by rw [hav]; exact lg_entry_eq _ _ _) ?_
  generalize (lg_sl ([.ref (ow_ad Z 7), .int a1]) ++ List.replicate (2 - (lg_sl ([.ref (ow_ad Z 7), .int a1])).length) Slot.unset).toArray = ls at hl ⊢
  have hl : lv_has ls 2 [(0, .ref (ow_ad Z 7)), (1, .int a1)] := hl
  unfold b_X3_readOne at hf
  refine lv_aload_n hx hb dX3_readOne_0 rfl (lv_at hl 0 rfl) ?_
  refine ow_getV (ci := 3) (C := RX3) (T := TX3) (N := 7) hx hb hts hown hG hW ow_i7 (by decide) rfl hinX3 3 (by decide) (fk := 0) rfl (hts (.fieldLink RX3 22 "FiftyOneCards$Reader" "token" "I") (by decide +kernel)) (v := .int (σ.1 7 3)) rfl dX3_readOne_1 ?_
  refine lv_bipush (v := 100) hx hb dX3_readOne_4 (by decide) ?_
  refine lv_icmp_ge (tgt := 18) hx hb dX3_readOne_6 (by decide) (fun c6 => ?_) (fun c6 => ?_)
  · replace hf := ow_if_t c6 hf
    exact hJ18 σ _ _ _ hf hW (lv_sub hl [0] rfl)
  · replace hf := ow_if_f c6 hf
    refine lv_aload_n hx hb dX3_readOne_9 rfl (lv_at hl 0 rfl) ?_
    refine ow_getV (ci := 3) (C := RX3) (T := TX3) (N := 7) hx hb hts hown hG hW ow_i7 (by decide) rfl hinX3 3 (by decide) (fk := 0) rfl (hts (.fieldLink RX3 22 "FiftyOneCards$Reader" "token" "I") (by decide +kernel)) (v := .int (σ.1 7 3)) rfl dX3_readOne_10 ?_
    refine lv_bipush (v := 6) hx hb dX3_readOne_13 (by decide) ?_
    refine lv_icmp_ge (tgt := 33) hx hb dX3_readOne_15 (by decide) (fun c15 => ?_) (fun c15 => ?_)
    · replace hf := ow_if_t c15 hf
      refine lv_aload_n hx hb dX3_readOne_33 rfl (lv_at hl 0 rfl) ?_
      refine ow_getV (ci := 3) (C := RX3) (T := TX3) (N := 7) hx hb hts hown hG hW ow_i7 (by decide) rfl hinX3 3 (by decide) (fk := 0) rfl (hts (.fieldLink RX3 22 "FiftyOneCards$Reader" "token" "I") (by decide +kernel)) (v := .int (σ.1 7 3)) rfl dX3_readOne_34 ?_
      refine lv_bipush (v := 12) hx hb dX3_readOne_37 (by decide) ?_
      refine lv_icmp_ne (tgt := 67) hx hb dX3_readOne_39 (by decide) (fun c39 => ?_) (fun c39 => ?_)
      · replace hf := ow_if_f c39 hf
        exact hJ67 a1 σ _ _ _ hf hW (lv_sub hl [0, 1] rfl)
      · replace hf := ow_if_t c39 hf
        refine lv_iload_n hx hb dX3_readOne_42 rfl (lv_at hl 1 rfl) ?_
        refine lv_iconst (v := 5) hx hb dX3_readOne_43 (by decide) ?_
        refine lv_icmp_ge (tgt := 67) hx hb dX3_readOne_44 (by decide) (fun c44 => ?_) (fun c44 => ?_)
        · replace hf := ow_if_t c44 hf
          exact hJ67 a1 σ _ _ _ hf hW (lv_sub hl [0, 1] rfl)
        · replace hf := ow_if_f c44 hf
          refine lv_aload_n hx hb dX3_readOne_47 rfl (lv_at hl 0 rfl) ?_
          obtain ⟨σ_48, hc48, hf⟩ := ow_cv_i hf
          refine ow_callv (va_runV (As := []) (rest := []) ⟨hx, hb, hml, hown, hts⟩ (c_X3_advance l Z fu σ σ_48  hc48) (cwV 0 hts gX3_readOne_X3_advance rfl rfl rfl (by decide +kernel) ⟨by show 8 + 1 ≤ 3 * (d + 1) + 30; omega, by show 8 + (2 + 11) + 446 ≤ 100 * (d + 1) + 2000; omega⟩) (ow_preV hG hW ow_i7 (by decide) rfl) rfl rfl hl.1 rfl (lv_room (Nat.le_of_ble_eq_true rfl)) dX3_readOne_48 ⟨Nat.zero_le _, Nat.zero_le _⟩) hW (fun H locs hW => ?_)
          refine lv_aload_n hx hb dX3_readOne_51 rfl (lv_at hl 0 rfl) ?_
          refine lv_iload_n hx hb dX3_readOne_52 rfl (lv_at hl 1 rfl) ?_
          refine lv_iconst (v := 1) hx hb dX3_readOne_53 (by decide) ?_
          refine lv_iadd hx hb dX3_readOne_54 ?_
          obtain ⟨σ_55, hc55, hf⟩ := ow_cv_i hf
          refine ow_callv (va_runV (As := [.int (a1 + (1 : Int32))]) (rest := []) ⟨hx, hb, hml, hown, hts⟩ (ih5 (a1 + (1 : Int32)) σ_48 σ_55  hc55) (cwV 1 hts gX3_readOne_X3_readOne rfl rfl rfl (by decide +kernel) ⟨by show 3 * d + 30 + 1 ≤ 3 * (d + 1) + 30; omega, by show 8 + (2 + 11) + (100 * d + 2000) ≤ 100 * (d + 1) + 2000; omega⟩) (ow_preV hG hW ow_i7 (by decide) rfl) rfl rfl hl.1 rfl (lv_room (Nat.le_of_ble_eq_true rfl)) dX3_readOne_55 ⟨Nat.zero_le _, Nat.zero_le _⟩) hW (fun H locs hW => ?_)
          refine lv_aload_n hx hb dX3_readOne_58 rfl (lv_at hl 0 rfl) ?_
          refine lv_bipush (v := 14) hx hb dX3_readOne_59 (by decide) ?_
          obtain ⟨σ_61, hc61, hf⟩ := ow_cv_i hf
          refine ow_callv (va_runV (As := [.int (14 : Int32)]) (rest := []) ⟨hx, hb, hml, hown, hts⟩ (c_X3_put l Z fu (14 : Int32) σ_55 σ_61  hc61) (cwV 1 hts gX3_readOne_X3_put rfl rfl rfl (by decide +kernel) ⟨by show 2 + 1 ≤ 3 * (d + 1) + 30; omega, by show 8 + (2 + 11) + 81 ≤ 100 * (d + 1) + 2000; omega⟩) (ow_preV hG hW ow_i7 (by decide) rfl) rfl rfl hl.1 rfl (lv_room (Nat.le_of_ble_eq_true rfl)) dX3_readOne_61 ⟨Nat.zero_le _, Nat.zero_le _⟩) hW (fun H locs hW => ?_)
          refine lv_goto (tgt := 105) hx hb dX3_readOne_64 (by decide) ?_
          exact ow_vret hx hb hr hW hf dX3_readOne_105 hlocks
    · replace hf := ow_if_f c15 hf
      exact hJ18 σ _ _ _ hf hW (lv_sub hl [0] rfl)
set_option maxHeartbeats 40000000 in
set_option maxRecDepth 100000 in
theorem cs_X3_readTerm (l : Launch) (Z : ow_Z) (fu : Nat) (d : Nat) (g : Nat → Int32 → ow_S → Option ow_S) (ih0 : ∀ (o : Int32) (σ σr : ow_S), g 0 o σ = some σr → Met l yX3_readEither wsX3_readEither (ow_rg d) (ow_Pc Z 0 56 [.ref (ow_ad Z 7), .int o] σ) (ow_Qv Z 0 56 σr) 0 0 (ow_A Z 0 56)) (ih1 : ∀ (o : Int32) (σ σr : ow_S), g 1 o σ = some σr → Met l yX3_readBoth wsX3_readBoth (ow_rg d) (ow_Pc Z 0 56 [.ref (ow_ad Z 7), .int o] σ) (ow_Qv Z 0 56 σr) 0 0 (ow_A Z 0 56)) (ih2 : ∀ (o : Int32) (σ σr : ow_S), g 2 o σ = some σr → Met l yX3_readNot wsX3_readNot (ow_rg d) (ow_Pc Z 0 56 [.ref (ow_ad Z 7), .int o] σ) (ow_Qv Z 0 56 σr) 0 0 (ow_A Z 0 56)) (ih3 : ∀ (o : Int32) (σ σr : ow_S), g 3 o σ = some σr → Met l yX3_readSum wsX3_readSum (ow_rg d) (ow_Pc Z 0 56 [.ref (ow_ad Z 7), .int o] σ) (ow_Qv Z 0 56 σr) 0 0 (ow_A Z 0 56)) (ih4 : ∀ (o : Int32) (σ σr : ow_S), g 4 o σ = some σr → Met l yX3_readTerm wsX3_readTerm (ow_rg d) (ow_Pc Z 0 56 [.ref (ow_ad Z 7), .int o] σ) (ow_Qv Z 0 56 σr) 0 0 (ow_A Z 0 56)) (ih5 : ∀ (o : Int32) (σ σr : ow_S), g 5 o σ = some σr → Met l yX3_readOne wsX3_readOne (ow_rg d) (ow_Pc Z 0 56 [.ref (ow_ad Z 7), .int o] σ) (ow_Qv Z 0 56 σr) 0 0 (ow_A Z 0 56)) (a1 : Int32) (σ : ow_S) (σr : ow_S) (hf : b_X3_readTerm fu g a1 σ = some σr) : Met l yX3_readTerm wsX3_readTerm (ow_rg (d + 1)) (ow_Pc Z 0 56 [.ref (ow_ad Z 7), .int a1] σ) (ow_Qv Z 0 56 σr) 0 0 (ow_A Z 0 56) := by
  refine Met.ofW (cc := cX3_readTerm) (maxL := 3) (ret := none) (by decide) rfl ?_
  intro p e s m args below meth c s₁ B hml hv
  obtain ⟨hav, hB⟩ := hv
  obtain ⟨hG, hW⟩ := ow_begin hB
  have hx := B.exec
  have hb := B.bytes
  have hr := B.returns
  have hts := atoms_spec (ws := wsX3_readTerm) B.pre
  have hown : s.vm.findClass RX3 = some m.cls := findClass_of_methodNamed B.named
  have hlocks := B.notSynchronized
  have hinX3 : ∀ w ∈ wsX30, w ∈ wsX3_readTerm := by decide +kernel
  have hJ7 : ∀ (fn : Nat), ∀ (x1 : Int32) (x2 : Int32) (σ : ow_S) (H : Heap) (locs : List Loc) (ls : Array Slot), L_X3_readTerm_7 fu g fn x1 x2 σ = some σr → ow_Wd Z 0 56 σ s H locs → lv_has ls 3 [(0, .ref (ow_ad Z 7)), (1, .int x1), (2, .int x2)] → W p l e (headSpec wsX3_readTerm (ow_rg (d + 1))).room s m args below meth c H locs 0 0 (MQ below (ow_Qv Z 0 56 σr) args s 0 0 (ow_A Z 0 56)) (F0 m 7 ls []) := by
    intro fn
    induction fn with
    | zero => intro x1 x2 σ H locs ls hf hW hl; simp [L_X3_readTerm_7] at hf
    | succ fn ih =>
      intro x1 x2 σ H locs ls hf hW hl
      rw [L_X3_readTerm_7] at hf
      refine lv_iload_n hx hb dX3_readTerm_7 rfl (lv_at hl 2 rfl) ?_
      refine lv_sipush (v := 160) hx hb dX3_readTerm_8 (by decide) ?_
      refine lv_icmp_ge (tgt := 44) hx hb dX3_readTerm_11 (by decide) (fun c11 => ?_) (fun c11 => ?_)
      · replace hf := ow_if_t c11 hf
        exact ow_vret hx hb hr hW hf dX3_readTerm_44 hlocks
      · replace hf := ow_if_f c11 hf
        refine lv_aload_n hx hb dX3_readTerm_14 rfl (lv_at hl 0 rfl) ?_
        refine ow_getV (ci := 3) (C := RX3) (T := TX3) (N := 7) hx hb hts hown hG hW ow_i7 (by decide) rfl hinX3 3 (by decide) (fk := 0) rfl (hts (.fieldLink RX3 22 "FiftyOneCards$Reader" "token" "I") (by decide +kernel)) (v := .int (σ.1 7 3)) rfl dX3_readTerm_15 ?_
        refine lv_bipush (v := 13) hx hb dX3_readTerm_18 (by decide) ?_
        refine lv_icmp_ne (tgt := 44) hx hb dX3_readTerm_20 (by decide) (fun c20 => ?_) (fun c20 => ?_)
        · replace hf := ow_if_f c20 hf
          exact ow_vret hx hb hr hW hf dX3_readTerm_44 hlocks
        · replace hf := ow_if_t c20 hf
          refine lv_aload_n hx hb dX3_readTerm_23 rfl (lv_at hl 0 rfl) ?_
          obtain ⟨σ_24, hc24, hf⟩ := ow_cv_i hf
          refine ow_callv (va_runV (As := []) (rest := []) ⟨hx, hb, hml, hown, hts⟩ (c_X3_advance l Z fu σ σ_24  hc24) (cwV 0 hts gX3_readTerm_X3_advance rfl rfl rfl (by decide +kernel) ⟨by show 8 + 1 ≤ 3 * (d + 1) + 30; omega, by show 8 + (2 + 11) + 446 ≤ 100 * (d + 1) + 2000; omega⟩) (ow_preV hG hW ow_i7 (by decide) rfl) rfl rfl hl.1 rfl (lv_room (Nat.le_of_ble_eq_true rfl)) dX3_readTerm_24 ⟨Nat.zero_le _, Nat.zero_le _⟩) hW (fun H locs hW => ?_)
          refine lv_aload_n hx hb dX3_readTerm_27 rfl (lv_at hl 0 rfl) ?_
          refine lv_iload_n hx hb dX3_readTerm_28 rfl (lv_at hl 1 rfl) ?_
          obtain ⟨σ_29, hc29, hf⟩ := ow_cv_i hf
          refine ow_callv (va_runV (As := [.int x1]) (rest := []) ⟨hx, hb, hml, hown, hts⟩ (ih5 x1 σ_24 σ_29  hc29) (cwV 1 hts gX3_readTerm_X3_readOne rfl rfl rfl (by decide +kernel) ⟨by show 3 * d + 30 + 1 ≤ 3 * (d + 1) + 30; omega, by show 8 + (2 + 11) + (100 * d + 2000) ≤ 100 * (d + 1) + 2000; omega⟩) (ow_preV hG hW ow_i7 (by decide) rfl) rfl rfl hl.1 rfl (lv_room (Nat.le_of_ble_eq_true rfl)) dX3_readTerm_29 ⟨Nat.zero_le _, Nat.zero_le _⟩) hW (fun H locs hW => ?_)
          refine lv_aload_n hx hb dX3_readTerm_32 rfl (lv_at hl 0 rfl) ?_
          refine lv_bipush (v := 13) hx hb dX3_readTerm_33 (by decide) ?_
          obtain ⟨σ_35, hc35, hf⟩ := ow_cv_i hf
          refine ow_callv (va_runV (As := [.int (13 : Int32)]) (rest := []) ⟨hx, hb, hml, hown, hts⟩ (c_X3_put l Z fu (13 : Int32) σ_29 σ_35  hc35) (cwV 1 hts gX3_readTerm_X3_put rfl rfl rfl (by decide +kernel) ⟨by show 2 + 1 ≤ 3 * (d + 1) + 30; omega, by show 8 + (2 + 11) + 81 ≤ 100 * (d + 1) + 2000; omega⟩) (ow_preV hG hW ow_i7 (by decide) rfl) rfl rfl hl.1 rfl (lv_room (Nat.le_of_ble_eq_true rfl)) dX3_readTerm_35 ⟨Nat.zero_le _, Nat.zero_le _⟩) hW (fun H locs hW => ?_)
          refine ow_iinc (d := 1) (lv' := fun z => [(2, .int z), (0, .ref (ow_ad Z 7)), (1, .int x1)]) hx hb hf dX3_readTerm_38 hl (k := 2) rfl (by decide) (by decide) (fun z => rfl) (fun x2_38 hf ls hl => ?_)
          refine lv_goto (tgt := 7) hx hb dX3_readTerm_41 (by decide) ?_
          exact ih x1 x2_38 σ_35 _ _ _ hf hW (lv_sub hl [1, 2, 0] rfl)
  have hl := lv_entry ([.ref (ow_ad Z 7), .int a1]) (n := 3) (Nat.le_of_ble_eq_true rfl)
  refine W.eq (g2 := F0 m 0 ((lg_sl ([.ref (ow_ad Z 7), .int a1]) ++ List.replicate (3 - (lg_sl ([.ref (ow_ad Z 7), .int a1])).length) Slot.unset).toArray) []) (by rw [hav]; exact lg_entry_eq _ _ _) ?_
  generalize (lg_sl ([.ref (ow_ad Z 7), .int a1]) ++ List.replicate (3 - (lg_sl ([.ref (ow_ad Z 7), .int a1])).length) Slot.unset).toArray = ls at hl ⊢
  have hl : lv_has ls 3 [(0, .ref (ow_ad Z 7)), (1, .int a1)] := hl
  unfold b_X3_readTerm at hf
  refine lv_aload_n hx hb dX3_readTerm_0 rfl (lv_at hl 0 rfl) ?_
  refine lv_iload_n hx hb dX3_readTerm_1 rfl (lv_at hl 1 rfl) ?_
  obtain ⟨σ_2, hc2, hf⟩ := ow_cv_i hf
  refine ow_callv (va_runV (As := [.int a1]) (rest := []) ⟨hx, hb, hml, hown, hts⟩ (ih5 a1 σ σ_2  hc2) (cwV 1 hts gX3_readTerm_X3_readOne rfl rfl rfl (by decide +kernel) ⟨by show 3 * d + 30 + 1 ≤ 3 * (d + 1) + 30; omega, by show 8 + (2 + 11) + (100 * d + 2000) ≤ 100 * (d + 1) + 2000; omega⟩) (ow_preV hG hW ow_i7 (by decide) rfl) rfl rfl hl.1 rfl (lv_room (Nat.le_of_ble_eq_true rfl)) dX3_readTerm_2 ⟨Nat.zero_le _, Nat.zero_le _⟩) hW (fun H locs hW => ?_)
  refine lv_iconst (v := 0) hx hb dX3_readTerm_5 (by decide) ?_
  refine lv_istore_n (lv' := [(2, .int (0 : Int32)), (0, .ref (ow_ad Z 7)), (1, .int a1)]) hx hb dX3_readTerm_6 rfl hl (by decide) rfl (fun ls hl => ?_)
  exact hJ7 fu a1 (0 : Int32) σ_2 _ _ _ hf hW (lv_sub hl [1, 2, 0] rfl)
set_option maxHeartbeats 40000000 in
set_option maxRecDepth 100000 in
theorem cs_X3_readSum (l : Launch) (Z : ow_Z) (fu : Nat) (d : Nat) (g : Nat → Int32 → ow_S → Option ow_S) (ih0 : ∀ (o : Int32) (σ σr : ow_S), g 0 o σ = some σr → Met l yX3_readEither wsX3_readEither (ow_rg d) (ow_Pc Z 0 56 [.ref (ow_ad Z 7), .int o] σ) (ow_Qv Z 0 56 σr) 0 0 (ow_A Z 0 56)) (ih1 : ∀ (o : Int32) (σ σr : ow_S), g 1 o σ = some σr → Met l yX3_readBoth wsX3_readBoth (ow_rg d) (ow_Pc Z 0 56 [.ref (ow_ad Z 7), .int o] σ) (ow_Qv Z 0 56 σr) 0 0 (ow_A Z 0 56)) (ih2 : ∀ (o : Int32) (σ σr : ow_S), g 2 o σ = some σr → Met l yX3_readNot wsX3_readNot (ow_rg d) (ow_Pc Z 0 56 [.ref (ow_ad Z 7), .int o] σ) (ow_Qv Z 0 56 σr) 0 0 (ow_A Z 0 56)) (ih3 : ∀ (o : Int32) (σ σr : ow_S), g 3 o σ = some σr → Met l yX3_readSum wsX3_readSum (ow_rg d) (ow_Pc Z 0 56 [.ref (ow_ad Z 7), .int o] σ) (ow_Qv Z 0 56 σr) 0 0 (ow_A Z 0 56)) (ih4 : ∀ (o : Int32) (σ σr : ow_S), g 4 o σ = some σr → Met l yX3_readTerm wsX3_readTerm (ow_rg d) (ow_Pc Z 0 56 [.ref (ow_ad Z 7), .int o] σ) (ow_Qv Z 0 56 σr) 0 0 (ow_A Z 0 56)) (ih5 : ∀ (o : Int32) (σ σr : ow_S), g 5 o σ = some σr → Met l yX3_readOne wsX3_readOne (ow_rg d) (ow_Pc Z 0 56 [.ref (ow_ad Z 7), .int o] σ) (ow_Qv Z 0 56 σr) 0 0 (ow_A Z 0 56)) (a1 : Int32) (σ : ow_S) (σr : ow_S) (hf : b_X3_readSum fu g a1 σ = some σr) : Met l yX3_readSum wsX3_readSum (ow_rg (d + 1)) (ow_Pc Z 0 56 [.ref (ow_ad Z 7), .int a1] σ) (ow_Qv Z 0 56 σr) 0 0 (ow_A Z 0 56) := by
  refine Met.ofW (cc := cX3_readSum) (maxL := 4) (ret := none) (by decide) rfl ?_
  intro p e s m args below meth c s₁ B hml hv
  obtain ⟨hav, hB⟩ := hv
  obtain ⟨hG, hW⟩ := ow_begin hB
  have hx := B.exec
  have hb := B.bytes
  have hr := B.returns
  have hts := atoms_spec (ws := wsX3_readSum) B.pre
  have hown : s.vm.findClass RX3 = some m.cls := findClass_of_methodNamed B.named
  have hlocks := B.notSynchronized
  have hinX3 : ∀ w ∈ wsX30, w ∈ wsX3_readSum := by decide +kernel
  have hJ32 : ∀ (k7 : Int32 → Int32 → ow_S → Option (ow_S)) (hk7 : ∀ (x1 : Int32) (x2 : Int32) (σ : ow_S) (H : Heap) (locs : List Loc) (ls : Array Slot), k7 x1 x2 σ = some σr → ow_Wd Z 0 56 σ s H locs → lv_has ls 4 [(0, .ref (ow_ad Z 7)), (1, .int x1), (2, .int x2)] → W p l e (headSpec wsX3_readSum (ow_rg (d + 1))).room s m args below meth c H locs 0 0 (MQ below (ow_Qv Z 0 56 σr) args s 0 0 (ow_A Z 0 56)) (F0 m 7 ls [])), ∀ (x1 : Int32) (x2 : Int32) (σ : ow_S) (H : Heap) (locs : List Loc) (ls : Array Slot), L_X3_readSum_32 fu g k7 x1 x2 σ = some σr → ow_Wd Z 0 56 σ s H locs → lv_has ls 4 [(0, .ref (ow_ad Z 7)), (1, .int x1), (2, .int x2)] → W p l e (headSpec wsX3_readSum (ow_rg (d + 1))).room s m args below meth c H locs 0 0 (MQ below (ow_Qv Z 0 56 σr) args s 0 0 (ow_A Z 0 56)) (F0 m 32 ls []) := by
    intro k7 hk7 x1 x2 σ H locs ls hf hW hl
    unfold L_X3_readSum_32 at hf
    refine lv_aload_n hx hb dX3_readSum_32 rfl (lv_at hl 0 rfl) ?_
    refine ow_getV (ci := 3) (C := RX3) (T := TX3) (N := 7) hx hb hts hown hG hW ow_i7 (by decide) rfl hinX3 3 (by decide) (fk := 0) rfl (hts (.fieldLink RX3 22 "FiftyOneCards$Reader" "token" "I") (by decide +kernel)) (v := .int (σ.1 7 3)) rfl dX3_readSum_33 ?_
    refine ow_topi hf (fun x3_36 hf => ?_)
    refine lv_istore_n (lv' := [(3, .int x3_36), (0, .ref (ow_ad Z 7)), (1, .int x1), (2, .int x2)]) hx hb dX3_readSum_36 rfl hl (by decide) rfl (fun ls hl => ?_)
    refine lv_aload_n hx hb dX3_readSum_37 rfl (lv_at hl 1 rfl) ?_
    obtain ⟨σ_38, hc38, hf⟩ := ow_cv_i hf
    refine ow_callv (va_runV (As := []) (rest := []) ⟨hx, hb, hml, hown, hts⟩ (c_X3_advance l Z fu σ σ_38  hc38) (cwV 0 hts gX3_readSum_X3_advance rfl rfl rfl (by decide +kernel) ⟨by show 8 + 1 ≤ 3 * (d + 1) + 30; omega, by show 8 + (2 + 11) + 446 ≤ 100 * (d + 1) + 2000; omega⟩) (ow_preV hG hW ow_i7 (by decide) rfl) rfl rfl hl.1 rfl (lv_room (Nat.le_of_ble_eq_true rfl)) dX3_readSum_38 ⟨Nat.zero_le _, Nat.zero_le _⟩) hW (fun H locs hW => ?_)
    refine lv_aload_n hx hb dX3_readSum_41 rfl (lv_at hl 1 rfl) ?_
    refine lv_iload_n hx hb dX3_readSum_42 rfl (lv_at hl 2 rfl) ?_
    obtain ⟨σ_43, hc43, hf⟩ := ow_cv_i hf
    refine ow_callv (va_runV (As := [.int x1]) (rest := []) ⟨hx, hb, hml, hown, hts⟩ (ih4 x1 σ_38 σ_43  hc43) (cwV 1 hts gX3_readSum_X3_readTerm rfl rfl rfl (by decide +kernel) ⟨by show 3 * d + 30 + 1 ≤ 3 * (d + 1) + 30; omega, by show 8 + (3 + 11) + (100 * d + 2000) ≤ 100 * (d + 1) + 2000; omega⟩) (ow_preV hG hW ow_i7 (by decide) rfl) rfl rfl hl.1 rfl (lv_room (Nat.le_of_ble_eq_true rfl)) dX3_readSum_43 ⟨Nat.zero_le _, Nat.zero_le _⟩) hW (fun H locs hW => ?_)
    refine lv_aload_n hx hb dX3_readSum_46 rfl (lv_at hl 1 rfl) ?_
    refine lv_iload_n hx hb dX3_readSum_47 rfl (lv_at hl 0 rfl) ?_
    obtain ⟨σ_48, hc48, hf⟩ := ow_cv_i hf
    refine ow_callv (va_runV (As := [.int x3_36]) (rest := []) ⟨hx, hb, hml, hown, hts⟩ (c_X3_put l Z fu x3_36 σ_43 σ_48  hc48) (cwV 1 hts gX3_readSum_X3_put rfl rfl rfl (by decide +kernel) ⟨by show 2 + 1 ≤ 3 * (d + 1) + 30; omega, by show 8 + (2 + 11) + 81 ≤ 100 * (d + 1) + 2000; omega⟩) (ow_preV hG hW ow_i7 (by decide) rfl) rfl rfl hl.1 rfl (lv_room (Nat.le_of_ble_eq_true rfl)) dX3_readSum_48 ⟨Nat.zero_le _, Nat.zero_le _⟩) hW (fun H locs hW => ?_)
    refine ow_iinc (d := 1) (lv' := fun z => [(2, .int z), (3, .int x3_36), (0, .ref (ow_ad Z 7)), (1, .int x1)]) hx hb hf dX3_readSum_51 hl (k := 3) rfl (by decide) (by decide) (fun z => rfl) (fun x2_51 hf ls hl => ?_)
    refine lv_goto (tgt := 7) hx hb dX3_readSum_54 (by decide) ?_
    exact hk7 x1 x2_51 σ_48 _ _ _ hf hW (lv_sub hl [2, 3, 0] rfl)
  have hJ7 : ∀ (fn : Nat), ∀ (x1 : Int32) (x2 : Int32) (σ : ow_S) (H : Heap) (locs : List Loc) (ls : Array Slot), L_X3_readSum_7 fu g fn x1 x2 σ = some σr → ow_Wd Z 0 56 σ s H locs → lv_has ls 4 [(0, .ref (ow_ad Z 7)), (1, .int x1), (2, .int x2)] → W p l e (headSpec wsX3_readSum (ow_rg (d + 1))).room s m args below meth c H locs 0 0 (MQ below (ow_Qv Z 0 56 σr) args s 0 0 (ow_A Z 0 56)) (F0 m 7 ls []) := by
    intro fn
    induction fn with
    | zero => intro x1 x2 σ H locs ls hf hW hl; simp [L_X3_readSum_7] at hf
    | succ fn ih =>
      intro x1 x2 σ H locs ls hf hW hl
      rw [L_X3_readSum_7] at hf
      refine lv_iload_n hx hb dX3_readSum_7 rfl (lv_at hl 2 rfl) ?_
      refine lv_sipush (v := 160) hx hb dX3_readSum_8 (by decide) ?_
      refine lv_icmp_ge (tgt := 57) hx hb dX3_readSum_11 (by decide) (fun c11 => ?_) (fun c11 => ?_)
      · replace hf := ow_if_t c11 hf
        exact ow_vret hx hb hr hW hf dX3_readSum_57 hlocks
      · replace hf := ow_if_f c11 hf
        refine lv_aload_n hx hb dX3_readSum_14 rfl (lv_at hl 0 rfl) ?_
        refine ow_getV (ci := 3) (C := RX3) (T := TX3) (N := 7) hx hb hts hown hG hW ow_i7 (by decide) rfl hinX3 3 (by decide) (fk := 0) rfl (hts (.fieldLink RX3 22 "FiftyOneCards$Reader" "token" "I") (by decide +kernel)) (v := .int (σ.1 7 3)) rfl dX3_readSum_15 ?_
        refine lv_bipush (v := 11) hx hb dX3_readSum_18 (by decide) ?_
        refine lv_icmp_eq (tgt := 32) hx hb dX3_readSum_20 (by decide) (fun c20 => ?_) (fun c20 => ?_)
        · replace hf := ow_if_t c20 hf
          exact hJ32 (L_X3_readSum_7 fu g fn) ih x1 x2 σ _ _ _ hf hW (lv_sub hl [0, 1, 2] rfl)
        · replace hf := ow_if_f c20 hf
          refine lv_aload_n hx hb dX3_readSum_23 rfl (lv_at hl 0 rfl) ?_
          refine ow_getV (ci := 3) (C := RX3) (T := TX3) (N := 7) hx hb hts hown hG hW ow_i7 (by decide) rfl hinX3 3 (by decide) (fk := 0) rfl (hts (.fieldLink RX3 22 "FiftyOneCards$Reader" "token" "I") (by decide +kernel)) (v := .int (σ.1 7 3)) rfl dX3_readSum_24 ?_
          refine lv_bipush (v := 12) hx hb dX3_readSum_27 (by decide) ?_
          refine lv_icmp_ne (tgt := 57) hx hb dX3_readSum_29 (by decide) (fun c29 => ?_) (fun c29 => ?_)
          · replace hf := ow_if_f c29 hf
            exact ow_vret hx hb hr hW hf dX3_readSum_57 hlocks
          · replace hf := ow_if_t c29 hf
            exact hJ32 (L_X3_readSum_7 fu g fn) ih x1 x2 σ _ _ _ hf hW (lv_sub hl [0, 1, 2] rfl)
  have hl := lv_entry ([.ref (ow_ad Z 7), .int a1]) (n := 4) (Nat.le_of_ble_eq_true rfl)
  refine W.eq (g2 := F0 m 0 ((lg_sl ([.ref (ow_ad Z 7), .int a1]) ++ List.replicate (4 - (lg_sl ([.ref (ow_ad Z 7), .int a1])).length) Slot.unset).toArray) []) (by rw [hav]; exact lg_entry_eq _ _ _) ?_
  generalize (lg_sl ([.ref (ow_ad Z 7), .int a1]) ++ List.replicate (4 - (lg_sl ([.ref (ow_ad Z 7), .int a1])).length) Slot.unset).toArray = ls at hl ⊢
  have hl : lv_has ls 4 [(0, .ref (ow_ad Z 7)), (1, .int a1)] := hl
  unfold b_X3_readSum at hf
  refine lv_aload_n hx hb dX3_readSum_0 rfl (lv_at hl 0 rfl) ?_
  refine lv_iload_n hx hb dX3_readSum_1 rfl (lv_at hl 1 rfl) ?_
  obtain ⟨σ_2, hc2, hf⟩ := ow_cv_i hf
  refine ow_callv (va_runV (As := [.int a1]) (rest := []) ⟨hx, hb, hml, hown, hts⟩ (ih4 a1 σ σ_2  hc2) (cwV 1 hts gX3_readSum_X3_readTerm rfl rfl rfl (by decide +kernel) ⟨by show 3 * d + 30 + 1 ≤ 3 * (d + 1) + 30; omega, by show 8 + (3 + 11) + (100 * d + 2000) ≤ 100 * (d + 1) + 2000; omega⟩) (ow_preV hG hW ow_i7 (by decide) rfl) rfl rfl hl.1 rfl (lv_room (Nat.le_of_ble_eq_true rfl)) dX3_readSum_2 ⟨Nat.zero_le _, Nat.zero_le _⟩) hW (fun H locs hW => ?_)
  refine lv_iconst (v := 0) hx hb dX3_readSum_5 (by decide) ?_
  refine lv_istore_n (lv' := [(2, .int (0 : Int32)), (0, .ref (ow_ad Z 7)), (1, .int a1)]) hx hb dX3_readSum_6 rfl hl (by decide) rfl (fun ls hl => ?_)
  exact hJ7 fu a1 (0 : Int32) σ_2 _ _ _ hf hW (lv_sub hl [1, 2, 0] rfl)
set_option maxHeartbeats 40000000 in
set_option maxRecDepth 100000 in
theorem cs_X3_readNot (l : Launch) (Z : ow_Z) (fu : Nat) (d : Nat) (g : Nat → Int32 → ow_S → Option ow_S) (ih0 : ∀ (o : Int32) (σ σr : ow_S), g 0 o σ = some σr → Met l yX3_readEither wsX3_readEither (ow_rg d) (ow_Pc Z 0 56 [.ref (ow_ad Z 7), .int o] σ) (ow_Qv Z 0 56 σr) 0 0 (ow_A Z 0 56)) (ih1 : ∀ (o : Int32) (σ σr : ow_S), g 1 o σ = some σr → Met l yX3_readBoth wsX3_readBoth (ow_rg d) (ow_Pc Z 0 56 [.ref (ow_ad Z 7), .int o] σ) (ow_Qv Z 0 56 σr) 0 0 (ow_A Z 0 56)) (ih2 : ∀ (o : Int32) (σ σr : ow_S), g 2 o σ = some σr → Met l yX3_readNot wsX3_readNot (ow_rg d) (ow_Pc Z 0 56 [.ref (ow_ad Z 7), .int o] σ) (ow_Qv Z 0 56 σr) 0 0 (ow_A Z 0 56)) (ih3 : ∀ (o : Int32) (σ σr : ow_S), g 3 o σ = some σr → Met l yX3_readSum wsX3_readSum (ow_rg d) (ow_Pc Z 0 56 [.ref (ow_ad Z 7), .int o] σ) (ow_Qv Z 0 56 σr) 0 0 (ow_A Z 0 56)) (ih4 : ∀ (o : Int32) (σ σr : ow_S), g 4 o σ = some σr → Met l yX3_readTerm wsX3_readTerm (ow_rg d) (ow_Pc Z 0 56 [.ref (ow_ad Z 7), .int o] σ) (ow_Qv Z 0 56 σr) 0 0 (ow_A Z 0 56)) (ih5 : ∀ (o : Int32) (σ σr : ow_S), g 5 o σ = some σr → Met l yX3_readOne wsX3_readOne (ow_rg d) (ow_Pc Z 0 56 [.ref (ow_ad Z 7), .int o] σ) (ow_Qv Z 0 56 σr) 0 0 (ow_A Z 0 56)) (a1 : Int32) (σ : ow_S) (σr : ow_S) (hf : b_X3_readNot fu g a1 σ = some σr) : Met l yX3_readNot wsX3_readNot (ow_rg (d + 1)) (ow_Pc Z 0 56 [.ref (ow_ad Z 7), .int a1] σ) (ow_Qv Z 0 56 σr) 0 0 (ow_A Z 0 56) := by
  refine Met.ofW (cc := cX3_readNot) (maxL := 3) (ret := none) (by decide) rfl ?_
  intro p e s m args below meth c s₁ B hml hv
  obtain ⟨hav, hB⟩ := hv
  obtain ⟨hG, hW⟩ := ow_begin hB
  have hx := B.exec
  have hb := B.bytes
  have hr := B.returns
  have hts := atoms_spec (ws := wsX3_readNot) B.pre
  have hown : s.vm.findClass RX3 = some m.cls := findClass_of_methodNamed B.named
  have hlocks := B.notSynchronized
  have hinX3 : ∀ w ∈ wsX30, w ∈ wsX3_readNot := by decide +kernel
  have hJ55 : ∀ (x1 : Int32) (σ : ow_S) (H : Heap) (locs : List Loc) (ls : Array Slot), L_X3_readNot_55 fu g x1 σ = some σr → ow_Wd Z 0 56 σ s H locs → lv_has ls 3 [(0, .ref (ow_ad Z 7)), (1, .int x1)] → W p l e (headSpec wsX3_readNot (ow_rg (d + 1))).room s m args below meth c H locs 0 0 (MQ below (ow_Qv Z 0 56 σr) args s 0 0 (ow_A Z 0 56)) (F0 m 55 ls []) := by
    intro x1 σ H locs ls hf hW hl
    unfold L_X3_readNot_55 at hf
    refine lv_aload_n hx hb dX3_readNot_55 rfl (lv_at hl 0 rfl) ?_
    refine ow_getV (ci := 3) (C := RX3) (T := TX3) (N := 7) hx hb hts hown hG hW ow_i7 (by decide) rfl hinX3 3 (by decide) (fk := 0) rfl (hts (.fieldLink RX3 22 "FiftyOneCards$Reader" "token" "I") (by decide +kernel)) (v := .int (σ.1 7 3)) rfl dX3_readNot_56 ?_
    refine ow_topi hf (fun x2_59 hf => ?_)
    refine lv_istore_n (lv' := [(2, .int x2_59), (0, .ref (ow_ad Z 7)), (1, .int x1)]) hx hb dX3_readNot_59 rfl hl (by decide) rfl (fun ls hl => ?_)
    refine lv_aload_n hx hb dX3_readNot_60 rfl (lv_at hl 1 rfl) ?_
    obtain ⟨σ_61, hc61, hf⟩ := ow_cv_i hf
    refine ow_callv (va_runV (As := []) (rest := []) ⟨hx, hb, hml, hown, hts⟩ (c_X3_advance l Z fu σ σ_61  hc61) (cwV 0 hts gX3_readNot_X3_advance rfl rfl rfl (by decide +kernel) ⟨by show 8 + 1 ≤ 3 * (d + 1) + 30; omega, by show 8 + (2 + 11) + 446 ≤ 100 * (d + 1) + 2000; omega⟩) (ow_preV hG hW ow_i7 (by decide) rfl) rfl rfl hl.1 rfl (lv_room (Nat.le_of_ble_eq_true rfl)) dX3_readNot_61 ⟨Nat.zero_le _, Nat.zero_le _⟩) hW (fun H locs hW => ?_)
    refine lv_aload_n hx hb dX3_readNot_64 rfl (lv_at hl 1 rfl) ?_
    refine lv_iload_n hx hb dX3_readNot_65 rfl (lv_at hl 2 rfl) ?_
    obtain ⟨σ_66, hc66, hf⟩ := ow_cv_i hf
    refine ow_callv (va_runV (As := [.int x1]) (rest := []) ⟨hx, hb, hml, hown, hts⟩ (ih3 x1 σ_61 σ_66  hc66) (cwV 1 hts gX3_readNot_X3_readSum rfl rfl rfl (by decide +kernel) ⟨by show 3 * d + 30 + 1 ≤ 3 * (d + 1) + 30; omega, by show 8 + (4 + 11) + (100 * d + 2000) ≤ 100 * (d + 1) + 2000; omega⟩) (ow_preV hG hW ow_i7 (by decide) rfl) rfl rfl hl.1 rfl (lv_room (Nat.le_of_ble_eq_true rfl)) dX3_readNot_66 ⟨Nat.zero_le _, Nat.zero_le _⟩) hW (fun H locs hW => ?_)
    refine lv_aload_n hx hb dX3_readNot_69 rfl (lv_at hl 1 rfl) ?_
    refine lv_iload_n hx hb dX3_readNot_70 rfl (lv_at hl 0 rfl) ?_
    obtain ⟨σ_71, hc71, hf⟩ := ow_cv_i hf
    refine ow_callv (va_runV (As := [.int x2_59]) (rest := []) ⟨hx, hb, hml, hown, hts⟩ (c_X3_put l Z fu x2_59 σ_66 σ_71  hc71) (cwV 1 hts gX3_readNot_X3_put rfl rfl rfl (by decide +kernel) ⟨by show 2 + 1 ≤ 3 * (d + 1) + 30; omega, by show 8 + (2 + 11) + 81 ≤ 100 * (d + 1) + 2000; omega⟩) (ow_preV hG hW ow_i7 (by decide) rfl) rfl rfl hl.1 rfl (lv_room (Nat.le_of_ble_eq_true rfl)) dX3_readNot_71 ⟨Nat.zero_le _, Nat.zero_le _⟩) hW (fun H locs hW => ?_)
    exact ow_vret hx hb hr hW hf dX3_readNot_74 hlocks
  have hJ32 : ∀ (x1 : Int32) (σ : ow_S) (H : Heap) (locs : List Loc) (ls : Array Slot), L_X3_readNot_32 fu g x1 σ = some σr → ow_Wd Z 0 56 σ s H locs → lv_has ls 3 [(0, .ref (ow_ad Z 7)), (1, .int x1)] → W p l e (headSpec wsX3_readNot (ow_rg (d + 1))).room s m args below meth c H locs 0 0 (MQ below (ow_Qv Z 0 56 σr) args s 0 0 (ow_A Z 0 56)) (F0 m 32 ls []) := by
    intro x1 σ H locs ls hf hW hl
    unfold L_X3_readNot_32 at hf
    refine lv_aload_n hx hb dX3_readNot_32 rfl (lv_at hl 0 rfl) ?_
    refine lv_iload_n hx hb dX3_readNot_33 rfl (lv_at hl 1 rfl) ?_
    obtain ⟨σ_34, hc34, hf⟩ := ow_cv_i hf
    refine ow_callv (va_runV (As := [.int x1]) (rest := []) ⟨hx, hb, hml, hown, hts⟩ (ih3 x1 σ σ_34  hc34) (cwV 1 hts gX3_readNot_X3_readSum rfl rfl rfl (by decide +kernel) ⟨by show 3 * d + 30 + 1 ≤ 3 * (d + 1) + 30; omega, by show 8 + (4 + 11) + (100 * d + 2000) ≤ 100 * (d + 1) + 2000; omega⟩) (ow_preV hG hW ow_i7 (by decide) rfl) rfl rfl hl.1 rfl (lv_room (Nat.le_of_ble_eq_true rfl)) dX3_readNot_34 ⟨Nat.zero_le _, Nat.zero_le _⟩) hW (fun H locs hW => ?_)
    refine lv_aload_n hx hb dX3_readNot_37 rfl (lv_at hl 0 rfl) ?_
    refine ow_getV (ci := 3) (C := RX3) (T := TX3) (N := 7) hx hb hts hown hG hW ow_i7 (by decide) rfl hinX3 3 (by decide) (fk := 0) rfl (hts (.fieldLink RX3 22 "FiftyOneCards$Reader" "token" "I") (by decide +kernel)) (v := .int (σ_34.1 7 3)) rfl dX3_readNot_38 ?_
    refine lv_bipush (v := 9) hx hb dX3_readNot_41 (by decide) ?_
    refine lv_icmp_eq (tgt := 55) hx hb dX3_readNot_43 (by decide) (fun c43 => ?_) (fun c43 => ?_)
    · replace hf := ow_if_t c43 hf
      exact hJ55 x1 σ_34 _ _ _ hf hW (lv_sub hl [0, 1] rfl)
    · replace hf := ow_if_f c43 hf
      refine lv_aload_n hx hb dX3_readNot_46 rfl (lv_at hl 0 rfl) ?_
      refine ow_getV (ci := 3) (C := RX3) (T := TX3) (N := 7) hx hb hts hown hG hW ow_i7 (by decide) rfl hinX3 3 (by decide) (fk := 0) rfl (hts (.fieldLink RX3 22 "FiftyOneCards$Reader" "token" "I") (by decide +kernel)) (v := .int (σ_34.1 7 3)) rfl dX3_readNot_47 ?_
      refine lv_bipush (v := 10) hx hb dX3_readNot_50 (by decide) ?_
      refine lv_icmp_ne (tgt := 74) hx hb dX3_readNot_52 (by decide) (fun c52 => ?_) (fun c52 => ?_)
      · replace hf := ow_if_f c52 hf
        exact ow_vret hx hb hr hW hf dX3_readNot_74 hlocks
      · replace hf := ow_if_t c52 hf
        exact hJ55 x1 σ_34 _ _ _ hf hW (lv_sub hl [0, 1] rfl)
  have hl := lv_entry ([.ref (ow_ad Z 7), .int a1]) (n := 3) (Nat.le_of_ble_eq_true rfl)
  refine W.eq (g2 := F0 m 0 ((lg_sl ([.ref (ow_ad Z 7), .int a1]) ++ List.replicate (3 - (lg_sl ([.ref (ow_ad Z 7), .int a1])).length) Slot.unset).toArray) []) (by rw [hav]; exact lg_entry_eq _ _ _) ?_
  generalize (lg_sl ([.ref (ow_ad Z 7), .int a1]) ++ List.replicate (3 - (lg_sl ([.ref (ow_ad Z 7), .int a1])).length) Slot.unset).toArray = ls at hl ⊢
  have hl : lv_has ls 3 [(0, .ref (ow_ad Z 7)), (1, .int a1)] := hl
  unfold b_X3_readNot at hf
  refine lv_aload_n hx hb dX3_readNot_0 rfl (lv_at hl 0 rfl) ?_
  refine ow_getV (ci := 3) (C := RX3) (T := TX3) (N := 7) hx hb hts hown hG hW ow_i7 (by decide) rfl hinX3 3 (by decide) (fk := 0) rfl (hts (.fieldLink RX3 22 "FiftyOneCards$Reader" "token" "I") (by decide +kernel)) (v := .int (σ.1 7 3)) rfl dX3_readNot_1 ?_
  refine lv_bipush (v := 8) hx hb dX3_readNot_4 (by decide) ?_
  refine lv_icmp_ne (tgt := 32) hx hb dX3_readNot_6 (by decide) (fun c6 => ?_) (fun c6 => ?_)
  · replace hf := ow_if_f c6 hf
    exact hJ32 a1 σ _ _ _ hf hW (lv_sub hl [0, 1] rfl)
  · replace hf := ow_if_t c6 hf
    refine lv_iload_n hx hb dX3_readNot_9 rfl (lv_at hl 1 rfl) ?_
    refine lv_iconst (v := 5) hx hb dX3_readNot_10 (by decide) ?_
    refine lv_icmp_ge (tgt := 32) hx hb dX3_readNot_11 (by decide) (fun c11 => ?_) (fun c11 => ?_)
    · replace hf := ow_if_t c11 hf
      exact hJ32 a1 σ _ _ _ hf hW (lv_sub hl [0, 1] rfl)
    · replace hf := ow_if_f c11 hf
      refine lv_aload_n hx hb dX3_readNot_14 rfl (lv_at hl 0 rfl) ?_
      obtain ⟨σ_15, hc15, hf⟩ := ow_cv_i hf
      refine ow_callv (va_runV (As := []) (rest := []) ⟨hx, hb, hml, hown, hts⟩ (c_X3_advance l Z fu σ σ_15  hc15) (cwV 0 hts gX3_readNot_X3_advance rfl rfl rfl (by decide +kernel) ⟨by show 8 + 1 ≤ 3 * (d + 1) + 30; omega, by show 8 + (2 + 11) + 446 ≤ 100 * (d + 1) + 2000; omega⟩) (ow_preV hG hW ow_i7 (by decide) rfl) rfl rfl hl.1 rfl (lv_room (Nat.le_of_ble_eq_true rfl)) dX3_readNot_15 ⟨Nat.zero_le _, Nat.zero_le _⟩) hW (fun H locs hW => ?_)
      refine lv_aload_n hx hb dX3_readNot_18 rfl (lv_at hl 0 rfl) ?_
      refine lv_iload_n hx hb dX3_readNot_19 rfl (lv_at hl 1 rfl) ?_
      refine lv_iconst (v := 1) hx hb dX3_readNot_20 (by decide) ?_
      refine lv_iadd hx hb dX3_readNot_21 ?_
      obtain ⟨σ_22, hc22, hf⟩ := ow_cv_i hf
      refine ow_callv (va_runV (As := [.int (a1 + (1 : Int32))]) (rest := []) ⟨hx, hb, hml, hown, hts⟩ (ih2 (a1 + (1 : Int32)) σ_15 σ_22  hc22) (cwV 1 hts gX3_readNot_X3_readNot rfl rfl rfl (by decide +kernel) ⟨by show 3 * d + 30 + 1 ≤ 3 * (d + 1) + 30; omega, by show 8 + (3 + 11) + (100 * d + 2000) ≤ 100 * (d + 1) + 2000; omega⟩) (ow_preV hG hW ow_i7 (by decide) rfl) rfl rfl hl.1 rfl (lv_room (Nat.le_of_ble_eq_true rfl)) dX3_readNot_22 ⟨Nat.zero_le _, Nat.zero_le _⟩) hW (fun H locs hW => ?_)
      refine lv_aload_n hx hb dX3_readNot_25 rfl (lv_at hl 0 rfl) ?_
      refine lv_bipush (v := 8) hx hb dX3_readNot_26 (by decide) ?_
      obtain ⟨σ_28, hc28, hf⟩ := ow_cv_i hf
      refine ow_callv (va_runV (As := [.int (8 : Int32)]) (rest := []) ⟨hx, hb, hml, hown, hts⟩ (c_X3_put l Z fu (8 : Int32) σ_22 σ_28  hc28) (cwV 1 hts gX3_readNot_X3_put rfl rfl rfl (by decide +kernel) ⟨by show 2 + 1 ≤ 3 * (d + 1) + 30; omega, by show 8 + (2 + 11) + 81 ≤ 100 * (d + 1) + 2000; omega⟩) (ow_preV hG hW ow_i7 (by decide) rfl) rfl rfl hl.1 rfl (lv_room (Nat.le_of_ble_eq_true rfl)) dX3_readNot_28 ⟨Nat.zero_le _, Nat.zero_le _⟩) hW (fun H locs hW => ?_)
      exact ow_vret hx hb hr hW hf dX3_readNot_31 hlocks
set_option maxHeartbeats 40000000 in
set_option maxRecDepth 100000 in
theorem cs_X3_readBoth (l : Launch) (Z : ow_Z) (fu : Nat) (d : Nat) (g : Nat → Int32 → ow_S → Option ow_S) (ih0 : ∀ (o : Int32) (σ σr : ow_S), g 0 o σ = some σr → Met l yX3_readEither wsX3_readEither (ow_rg d) (ow_Pc Z 0 56 [.ref (ow_ad Z 7), .int o] σ) (ow_Qv Z 0 56 σr) 0 0 (ow_A Z 0 56)) (ih1 : ∀ (o : Int32) (σ σr : ow_S), g 1 o σ = some σr → Met l yX3_readBoth wsX3_readBoth (ow_rg d) (ow_Pc Z 0 56 [.ref (ow_ad Z 7), .int o] σ) (ow_Qv Z 0 56 σr) 0 0 (ow_A Z 0 56)) (ih2 : ∀ (o : Int32) (σ σr : ow_S), g 2 o σ = some σr → Met l yX3_readNot wsX3_readNot (ow_rg d) (ow_Pc Z 0 56 [.ref (ow_ad Z 7), .int o] σ) (ow_Qv Z 0 56 σr) 0 0 (ow_A Z 0 56)) (ih3 : ∀ (o : Int32) (σ σr : ow_S), g 3 o σ = some σr → Met l yX3_readSum wsX3_readSum (ow_rg d) (ow_Pc Z 0 56 [.ref (ow_ad Z 7), .int o] σ) (ow_Qv Z 0 56 σr) 0 0 (ow_A Z 0 56)) (ih4 : ∀ (o : Int32) (σ σr : ow_S), g 4 o σ = some σr → Met l yX3_readTerm wsX3_readTerm (ow_rg d) (ow_Pc Z 0 56 [.ref (ow_ad Z 7), .int o] σ) (ow_Qv Z 0 56 σr) 0 0 (ow_A Z 0 56)) (ih5 : ∀ (o : Int32) (σ σr : ow_S), g 5 o σ = some σr → Met l yX3_readOne wsX3_readOne (ow_rg d) (ow_Pc Z 0 56 [.ref (ow_ad Z 7), .int o] σ) (ow_Qv Z 0 56 σr) 0 0 (ow_A Z 0 56)) (a1 : Int32) (σ : ow_S) (σr : ow_S) (hf : b_X3_readBoth fu g a1 σ = some σr) : Met l yX3_readBoth wsX3_readBoth (ow_rg (d + 1)) (ow_Pc Z 0 56 [.ref (ow_ad Z 7), .int a1] σ) (ow_Qv Z 0 56 σr) 0 0 (ow_A Z 0 56) := by
  refine Met.ofW (cc := cX3_readBoth) (maxL := 3) (ret := none) (by decide) rfl ?_
  intro p e s m args below meth c s₁ B hml hv
  obtain ⟨hav, hB⟩ := hv
  obtain ⟨hG, hW⟩ := ow_begin hB
  have hx := B.exec
  have hb := B.bytes
  have hr := B.returns
  have hts := atoms_spec (ws := wsX3_readBoth) B.pre
  have hown : s.vm.findClass RX3 = some m.cls := findClass_of_methodNamed B.named
  have hlocks := B.notSynchronized
  have hinX3 : ∀ w ∈ wsX30, w ∈ wsX3_readBoth := by decide +kernel
  have hJ7 : ∀ (fn : Nat), ∀ (x1 : Int32) (x2 : Int32) (σ : ow_S) (H : Heap) (locs : List Loc) (ls : Array Slot), L_X3_readBoth_7 fu g fn x1 x2 σ = some σr → ow_Wd Z 0 56 σ s H locs → lv_has ls 3 [(0, .ref (ow_ad Z 7)), (1, .int x1), (2, .int x2)] → W p l e (headSpec wsX3_readBoth (ow_rg (d + 1))).room s m args below meth c H locs 0 0 (MQ below (ow_Qv Z 0 56 σr) args s 0 0 (ow_A Z 0 56)) (F0 m 7 ls []) := by
    intro fn
    induction fn with
    | zero => intro x1 x2 σ H locs ls hf hW hl; simp [L_X3_readBoth_7] at hf
    | succ fn ih =>
      intro x1 x2 σ H locs ls hf hW hl
      rw [L_X3_readBoth_7] at hf
      refine lv_iload_n hx hb dX3_readBoth_7 rfl (lv_at hl 2 rfl) ?_
      refine lv_sipush (v := 160) hx hb dX3_readBoth_8 (by decide) ?_
      refine lv_icmp_ge (tgt := 44) hx hb dX3_readBoth_11 (by decide) (fun c11 => ?_) (fun c11 => ?_)
      · replace hf := ow_if_t c11 hf
        exact ow_vret hx hb hr hW hf dX3_readBoth_44 hlocks
      · replace hf := ow_if_f c11 hf
        refine lv_aload_n hx hb dX3_readBoth_14 rfl (lv_at hl 0 rfl) ?_
        refine ow_getV (ci := 3) (C := RX3) (T := TX3) (N := 7) hx hb hts hown hG hW ow_i7 (by decide) rfl hinX3 3 (by decide) (fk := 0) rfl (hts (.fieldLink RX3 22 "FiftyOneCards$Reader" "token" "I") (by decide +kernel)) (v := .int (σ.1 7 3)) rfl dX3_readBoth_15 ?_
        refine lv_bipush (v := 7) hx hb dX3_readBoth_18 (by decide) ?_
        refine lv_icmp_ne (tgt := 44) hx hb dX3_readBoth_20 (by decide) (fun c20 => ?_) (fun c20 => ?_)
        · replace hf := ow_if_f c20 hf
          exact ow_vret hx hb hr hW hf dX3_readBoth_44 hlocks
        · replace hf := ow_if_t c20 hf
          refine lv_aload_n hx hb dX3_readBoth_23 rfl (lv_at hl 0 rfl) ?_
          obtain ⟨σ_24, hc24, hf⟩ := ow_cv_i hf
          refine ow_callv (va_runV (As := []) (rest := []) ⟨hx, hb, hml, hown, hts⟩ (c_X3_advance l Z fu σ σ_24  hc24) (cwV 0 hts gX3_readBoth_X3_advance rfl rfl rfl (by decide +kernel) ⟨by show 8 + 1 ≤ 3 * (d + 1) + 30; omega, by show 8 + (2 + 11) + 446 ≤ 100 * (d + 1) + 2000; omega⟩) (ow_preV hG hW ow_i7 (by decide) rfl) rfl rfl hl.1 rfl (lv_room (Nat.le_of_ble_eq_true rfl)) dX3_readBoth_24 ⟨Nat.zero_le _, Nat.zero_le _⟩) hW (fun H locs hW => ?_)
          refine lv_aload_n hx hb dX3_readBoth_27 rfl (lv_at hl 0 rfl) ?_
          refine lv_iload_n hx hb dX3_readBoth_28 rfl (lv_at hl 1 rfl) ?_
          obtain ⟨σ_29, hc29, hf⟩ := ow_cv_i hf
          refine ow_callv (va_runV (As := [.int x1]) (rest := []) ⟨hx, hb, hml, hown, hts⟩ (ih2 x1 σ_24 σ_29  hc29) (cwV 1 hts gX3_readBoth_X3_readNot rfl rfl rfl (by decide +kernel) ⟨by show 3 * d + 30 + 1 ≤ 3 * (d + 1) + 30; omega, by show 8 + (3 + 11) + (100 * d + 2000) ≤ 100 * (d + 1) + 2000; omega⟩) (ow_preV hG hW ow_i7 (by decide) rfl) rfl rfl hl.1 rfl (lv_room (Nat.le_of_ble_eq_true rfl)) dX3_readBoth_29 ⟨Nat.zero_le _, Nat.zero_le _⟩) hW (fun H locs hW => ?_)
          refine lv_aload_n hx hb dX3_readBoth_32 rfl (lv_at hl 0 rfl) ?_
          refine lv_bipush (v := 7) hx hb dX3_readBoth_33 (by decide) ?_
          obtain ⟨σ_35, hc35, hf⟩ := ow_cv_i hf
          refine ow_callv (va_runV (As := [.int (7 : Int32)]) (rest := []) ⟨hx, hb, hml, hown, hts⟩ (c_X3_put l Z fu (7 : Int32) σ_29 σ_35  hc35) (cwV 1 hts gX3_readBoth_X3_put rfl rfl rfl (by decide +kernel) ⟨by show 2 + 1 ≤ 3 * (d + 1) + 30; omega, by show 8 + (2 + 11) + 81 ≤ 100 * (d + 1) + 2000; omega⟩) (ow_preV hG hW ow_i7 (by decide) rfl) rfl rfl hl.1 rfl (lv_room (Nat.le_of_ble_eq_true rfl)) dX3_readBoth_35 ⟨Nat.zero_le _, Nat.zero_le _⟩) hW (fun H locs hW => ?_)
          refine ow_iinc (d := 1) (lv' := fun z => [(2, .int z), (0, .ref (ow_ad Z 7)), (1, .int x1)]) hx hb hf dX3_readBoth_38 hl (k := 2) rfl (by decide) (by decide) (fun z => rfl) (fun x2_38 hf ls hl => ?_)
          refine lv_goto (tgt := 7) hx hb dX3_readBoth_41 (by decide) ?_
          exact ih x1 x2_38 σ_35 _ _ _ hf hW (lv_sub hl [1, 2, 0] rfl)
  have hl := lv_entry ([.ref (ow_ad Z 7), .int a1]) (n := 3) (Nat.le_of_ble_eq_true rfl)
  refine W.eq (g2 := F0 m 0 ((lg_sl ([.ref (ow_ad Z 7), .int a1]) ++ List.replicate (3 - (lg_sl ([.ref (ow_ad Z 7), .int a1])).length) Slot.unset).toArray) []) (by rw [hav]; exact lg_entry_eq _ _ _) ?_
  generalize (lg_sl ([.ref (ow_ad Z 7), .int a1]) ++ List.replicate (3 - (lg_sl ([.ref (ow_ad Z 7), .int a1])).length) Slot.unset).toArray = ls at hl ⊢
  have hl : lv_has ls 3 [(0, .ref (ow_ad Z 7)), (1, .int a1)] := hl
  unfold b_X3_readBoth at hf
  refine lv_aload_n hx hb dX3_readBoth_0 rfl (lv_at hl 0 rfl) ?_
  refine lv_iload_n hx hb dX3_readBoth_1 rfl (lv_at hl 1 rfl) ?_
  obtain ⟨σ_2, hc2, hf⟩ := ow_cv_i hf
  refine ow_callv (va_runV (As := [.int a1]) (rest := []) ⟨hx, hb, hml, hown, hts⟩ (ih2 a1 σ σ_2  hc2) (cwV 1 hts gX3_readBoth_X3_readNot rfl rfl rfl (by decide +kernel) ⟨by show 3 * d + 30 + 1 ≤ 3 * (d + 1) + 30; omega, by show 8 + (3 + 11) + (100 * d + 2000) ≤ 100 * (d + 1) + 2000; omega⟩) (ow_preV hG hW ow_i7 (by decide) rfl) rfl rfl hl.1 rfl (lv_room (Nat.le_of_ble_eq_true rfl)) dX3_readBoth_2 ⟨Nat.zero_le _, Nat.zero_le _⟩) hW (fun H locs hW => ?_)
  refine lv_iconst (v := 0) hx hb dX3_readBoth_5 (by decide) ?_
  refine lv_istore_n (lv' := [(2, .int (0 : Int32)), (0, .ref (ow_ad Z 7)), (1, .int a1)]) hx hb dX3_readBoth_6 rfl hl (by decide) rfl (fun ls hl => ?_)
  exact hJ7 fu a1 (0 : Int32) σ_2 _ _ _ hf hW (lv_sub hl [1, 2, 0] rfl)
set_option maxHeartbeats 40000000 in
set_option maxRecDepth 100000 in
theorem cs_X3_readEither (l : Launch) (Z : ow_Z) (fu : Nat) (d : Nat) (g : Nat → Int32 → ow_S → Option ow_S) (ih0 : ∀ (o : Int32) (σ σr : ow_S), g 0 o σ = some σr → Met l yX3_readEither wsX3_readEither (ow_rg d) (ow_Pc Z 0 56 [.ref (ow_ad Z 7), .int o] σ) (ow_Qv Z 0 56 σr) 0 0 (ow_A Z 0 56)) (ih1 : ∀ (o : Int32) (σ σr : ow_S), g 1 o σ = some σr → Met l yX3_readBoth wsX3_readBoth (ow_rg d) (ow_Pc Z 0 56 [.ref (ow_ad Z 7), .int o] σ) (ow_Qv Z 0 56 σr) 0 0 (ow_A Z 0 56)) (ih2 : ∀ (o : Int32) (σ σr : ow_S), g 2 o σ = some σr → Met l yX3_readNot wsX3_readNot (ow_rg d) (ow_Pc Z 0 56 [.ref (ow_ad Z 7), .int o] σ) (ow_Qv Z 0 56 σr) 0 0 (ow_A Z 0 56)) (ih3 : ∀ (o : Int32) (σ σr : ow_S), g 3 o σ = some σr → Met l yX3_readSum wsX3_readSum (ow_rg d) (ow_Pc Z 0 56 [.ref (ow_ad Z 7), .int o] σ) (ow_Qv Z 0 56 σr) 0 0 (ow_A Z 0 56)) (ih4 : ∀ (o : Int32) (σ σr : ow_S), g 4 o σ = some σr → Met l yX3_readTerm wsX3_readTerm (ow_rg d) (ow_Pc Z 0 56 [.ref (ow_ad Z 7), .int o] σ) (ow_Qv Z 0 56 σr) 0 0 (ow_A Z 0 56)) (ih5 : ∀ (o : Int32) (σ σr : ow_S), g 5 o σ = some σr → Met l yX3_readOne wsX3_readOne (ow_rg d) (ow_Pc Z 0 56 [.ref (ow_ad Z 7), .int o] σ) (ow_Qv Z 0 56 σr) 0 0 (ow_A Z 0 56)) (a1 : Int32) (σ : ow_S) (σr : ow_S) (hf : b_X3_readEither fu g a1 σ = some σr) : Met l yX3_readEither wsX3_readEither (ow_rg (d + 1)) (ow_Pc Z 0 56 [.ref (ow_ad Z 7), .int a1] σ) (ow_Qv Z 0 56 σr) 0 0 (ow_A Z 0 56) := by
  refine Met.ofW (cc := cX3_readEither) (maxL := 3) (ret := none) (by decide) rfl ?_
  intro p e s m args below meth c s₁ B hml hv
  obtain ⟨hav, hB⟩ := hv
  obtain ⟨hG, hW⟩ := ow_begin hB
  have hx := B.exec
  have hb := B.bytes
  have hr := B.returns
  have hts := atoms_spec (ws := wsX3_readEither) B.pre
  have hown : s.vm.findClass RX3 = some m.cls := findClass_of_methodNamed B.named
  have hlocks := B.notSynchronized
  have hinX3 : ∀ w ∈ wsX30, w ∈ wsX3_readEither := by decide +kernel
  have hJ7 : ∀ (fn : Nat), ∀ (x1 : Int32) (x2 : Int32) (σ : ow_S) (H : Heap) (locs : List Loc) (ls : Array Slot), L_X3_readEither_7 fu g fn x1 x2 σ = some σr → ow_Wd Z 0 56 σ s H locs → lv_has ls 3 [(0, .ref (ow_ad Z 7)), (1, .int x1), (2, .int x2)] → W p l e (headSpec wsX3_readEither (ow_rg (d + 1))).room s m args below meth c H locs 0 0 (MQ below (ow_Qv Z 0 56 σr) args s 0 0 (ow_A Z 0 56)) (F0 m 7 ls []) := by
    intro fn
    induction fn with
    | zero => intro x1 x2 σ H locs ls hf hW hl; simp [L_X3_readEither_7] at hf
    | succ fn ih =>
      intro x1 x2 σ H locs ls hf hW hl
      rw [L_X3_readEither_7] at hf
      refine lv_iload_n hx hb dX3_readEither_7 rfl (lv_at hl 2 rfl) ?_
      refine lv_sipush (v := 160) hx hb dX3_readEither_8 (by decide) ?_
      refine lv_icmp_ge (tgt := 44) hx hb dX3_readEither_11 (by decide) (fun c11 => ?_) (fun c11 => ?_)
      · replace hf := ow_if_t c11 hf
        exact ow_vret hx hb hr hW hf dX3_readEither_44 hlocks
      · replace hf := ow_if_f c11 hf
        refine lv_aload_n hx hb dX3_readEither_14 rfl (lv_at hl 0 rfl) ?_
        refine ow_getV (ci := 3) (C := RX3) (T := TX3) (N := 7) hx hb hts hown hG hW ow_i7 (by decide) rfl hinX3 3 (by decide) (fk := 0) rfl (hts (.fieldLink RX3 22 "FiftyOneCards$Reader" "token" "I") (by decide +kernel)) (v := .int (σ.1 7 3)) rfl dX3_readEither_15 ?_
        refine lv_bipush (v := 6) hx hb dX3_readEither_18 (by decide) ?_
        refine lv_icmp_ne (tgt := 44) hx hb dX3_readEither_20 (by decide) (fun c20 => ?_) (fun c20 => ?_)
        · replace hf := ow_if_f c20 hf
          exact ow_vret hx hb hr hW hf dX3_readEither_44 hlocks
        · replace hf := ow_if_t c20 hf
          refine lv_aload_n hx hb dX3_readEither_23 rfl (lv_at hl 0 rfl) ?_
          obtain ⟨σ_24, hc24, hf⟩ := ow_cv_i hf
          refine ow_callv (va_runV (As := []) (rest := []) ⟨hx, hb, hml, hown, hts⟩ (c_X3_advance l Z fu σ σ_24  hc24) (cwV 0 hts gX3_readEither_X3_advance rfl rfl rfl (by decide +kernel) ⟨by show 8 + 1 ≤ 3 * (d + 1) + 30; omega, by show 8 + (2 + 11) + 446 ≤ 100 * (d + 1) + 2000; omega⟩) (ow_preV hG hW ow_i7 (by decide) rfl) rfl rfl hl.1 rfl (lv_room (Nat.le_of_ble_eq_true rfl)) dX3_readEither_24 ⟨Nat.zero_le _, Nat.zero_le _⟩) hW (fun H locs hW => ?_)
          refine lv_aload_n hx hb dX3_readEither_27 rfl (lv_at hl 0 rfl) ?_
          refine lv_iload_n hx hb dX3_readEither_28 rfl (lv_at hl 1 rfl) ?_
          obtain ⟨σ_29, hc29, hf⟩ := ow_cv_i hf
          refine ow_callv (va_runV (As := [.int x1]) (rest := []) ⟨hx, hb, hml, hown, hts⟩ (ih1 x1 σ_24 σ_29  hc29) (cwV 1 hts gX3_readEither_X3_readBoth rfl rfl rfl (by decide +kernel) ⟨by show 3 * d + 30 + 1 ≤ 3 * (d + 1) + 30; omega, by show 8 + (3 + 11) + (100 * d + 2000) ≤ 100 * (d + 1) + 2000; omega⟩) (ow_preV hG hW ow_i7 (by decide) rfl) rfl rfl hl.1 rfl (lv_room (Nat.le_of_ble_eq_true rfl)) dX3_readEither_29 ⟨Nat.zero_le _, Nat.zero_le _⟩) hW (fun H locs hW => ?_)
          refine lv_aload_n hx hb dX3_readEither_32 rfl (lv_at hl 0 rfl) ?_
          refine lv_bipush (v := 6) hx hb dX3_readEither_33 (by decide) ?_
          obtain ⟨σ_35, hc35, hf⟩ := ow_cv_i hf
          refine ow_callv (va_runV (As := [.int (6 : Int32)]) (rest := []) ⟨hx, hb, hml, hown, hts⟩ (c_X3_put l Z fu (6 : Int32) σ_29 σ_35  hc35) (cwV 1 hts gX3_readEither_X3_put rfl rfl rfl (by decide +kernel) ⟨by show 2 + 1 ≤ 3 * (d + 1) + 30; omega, by show 8 + (2 + 11) + 81 ≤ 100 * (d + 1) + 2000; omega⟩) (ow_preV hG hW ow_i7 (by decide) rfl) rfl rfl hl.1 rfl (lv_room (Nat.le_of_ble_eq_true rfl)) dX3_readEither_35 ⟨Nat.zero_le _, Nat.zero_le _⟩) hW (fun H locs hW => ?_)
          refine ow_iinc (d := 1) (lv' := fun z => [(2, .int z), (0, .ref (ow_ad Z 7)), (1, .int x1)]) hx hb hf dX3_readEither_38 hl (k := 2) rfl (by decide) (by decide) (fun z => rfl) (fun x2_38 hf ls hl => ?_)
          refine lv_goto (tgt := 7) hx hb dX3_readEither_41 (by decide) ?_
          exact ih x1 x2_38 σ_35 _ _ _ hf hW (lv_sub hl [1, 2, 0] rfl)
  have hl := lv_entry ([.ref (ow_ad Z 7), .int a1]) (n := 3) (Nat.le_of_ble_eq_true rfl)
  refine W.eq (g2 := F0 m 0 ((lg_sl ([.ref (ow_ad Z 7), .int a1]) ++ List.replicate (3 - (lg_sl ([.ref (ow_ad Z 7), .int a1])).length) Slot.unset).toArray) []) (by rw [hav]; exact lg_entry_eq _ _ _) ?_
  generalize (lg_sl ([.ref (ow_ad Z 7), .int a1]) ++ List.replicate (3 - (lg_sl ([.ref (ow_ad Z 7), .int a1])).length) Slot.unset).toArray = ls at hl ⊢
  have hl : lv_has ls 3 [(0, .ref (ow_ad Z 7)), (1, .int a1)] := hl
  unfold b_X3_readEither at hf
  refine lv_aload_n hx hb dX3_readEither_0 rfl (lv_at hl 0 rfl) ?_
  refine lv_iload_n hx hb dX3_readEither_1 rfl (lv_at hl 1 rfl) ?_
  obtain ⟨σ_2, hc2, hf⟩ := ow_cv_i hf
  refine ow_callv (va_runV (As := [.int a1]) (rest := []) ⟨hx, hb, hml, hown, hts⟩ (ih1 a1 σ σ_2  hc2) (cwV 1 hts gX3_readEither_X3_readBoth rfl rfl rfl (by decide +kernel) ⟨by show 3 * d + 30 + 1 ≤ 3 * (d + 1) + 30; omega, by show 8 + (3 + 11) + (100 * d + 2000) ≤ 100 * (d + 1) + 2000; omega⟩) (ow_preV hG hW ow_i7 (by decide) rfl) rfl rfl hl.1 rfl (lv_room (Nat.le_of_ble_eq_true rfl)) dX3_readEither_2 ⟨Nat.zero_le _, Nat.zero_le _⟩) hW (fun H locs hW => ?_)
  refine lv_iconst (v := 0) hx hb dX3_readEither_5 (by decide) ?_
  refine lv_istore_n (lv' := [(2, .int (0 : Int32)), (0, .ref (ow_ad Z 7)), (1, .int a1)]) hx hb dX3_readEither_6 rfl hl (by decide) rfl (fun ls hl => ?_)
  exact hJ7 fu a1 (0 : Int32) σ_2 _ _ _ hf hW (lv_sub hl [1, 2, 0] rfl)
theorem c_X3_Gall (l : Launch) (Z : ow_Z) (fu : Nat) : ∀ d : Nat, (∀ (o : Int32) (σ σr : ow_S), f_X3_G fu d 0 o σ = some σr → Met l yX3_readEither wsX3_readEither (ow_rg d) (ow_Pc Z 0 56 [.ref (ow_ad Z 7), .int o] σ) (ow_Qv Z 0 56 σr) 0 0 (ow_A Z 0 56)) ∧ (∀ (o : Int32) (σ σr : ow_S), f_X3_G fu d 1 o σ = some σr → Met l yX3_readBoth wsX3_readBoth (ow_rg d) (ow_Pc Z 0 56 [.ref (ow_ad Z 7), .int o] σ) (ow_Qv Z 0 56 σr) 0 0 (ow_A Z 0 56)) ∧ (∀ (o : Int32) (σ σr : ow_S), f_X3_G fu d 2 o σ = some σr → Met l yX3_readNot wsX3_readNot (ow_rg d) (ow_Pc Z 0 56 [.ref (ow_ad Z 7), .int o] σ) (ow_Qv Z 0 56 σr) 0 0 (ow_A Z 0 56)) ∧ (∀ (o : Int32) (σ σr : ow_S), f_X3_G fu d 3 o σ = some σr → Met l yX3_readSum wsX3_readSum (ow_rg d) (ow_Pc Z 0 56 [.ref (ow_ad Z 7), .int o] σ) (ow_Qv Z 0 56 σr) 0 0 (ow_A Z 0 56)) ∧ (∀ (o : Int32) (σ σr : ow_S), f_X3_G fu d 4 o σ = some σr → Met l yX3_readTerm wsX3_readTerm (ow_rg d) (ow_Pc Z 0 56 [.ref (ow_ad Z 7), .int o] σ) (ow_Qv Z 0 56 σr) 0 0 (ow_A Z 0 56)) ∧ (∀ (o : Int32) (σ σr : ow_S), f_X3_G fu d 5 o σ = some σr → Met l yX3_readOne wsX3_readOne (ow_rg d) (ow_Pc Z 0 56 [.ref (ow_ad Z 7), .int o] σ) (ow_Qv Z 0 56 σr) 0 0 (ow_A Z 0 56)) := by
  intro d
  induction d with
  | zero => exact ⟨fun o σ σr h => by simp [f_X3_G] at h, fun o σ σr h => by simp [f_X3_G] at h, fun o σ σr h => by simp [f_X3_G] at h, fun o σ σr h => by simp [f_X3_G] at h, fun o σ σr h => by simp [f_X3_G] at h, fun o σ σr h => by simp [f_X3_G] at h⟩
  | succ d ih =>
    obtain ⟨ih0, ih1, ih2, ih3, ih4, ih5⟩ := ih
    exact ⟨fun o σ σr h => cs_X3_readEither l Z fu d (f_X3_G fu d) ih0 ih1 ih2 ih3 ih4 ih5 o σ σr (by rw [f_X3_G, if_pos rfl] at h; exact h),
      fun o σ σr h => cs_X3_readBoth l Z fu d (f_X3_G fu d) ih0 ih1 ih2 ih3 ih4 ih5 o σ σr (by rw [f_X3_G, if_neg (by decide), if_pos rfl] at h; exact h),
      fun o σ σr h => cs_X3_readNot l Z fu d (f_X3_G fu d) ih0 ih1 ih2 ih3 ih4 ih5 o σ σr (by rw [f_X3_G, if_neg (by decide), if_neg (by decide), if_pos rfl] at h; exact h),
      fun o σ σr h => cs_X3_readSum l Z fu d (f_X3_G fu d) ih0 ih1 ih2 ih3 ih4 ih5 o σ σr (by rw [f_X3_G, if_neg (by decide), if_neg (by decide), if_neg (by decide), if_pos rfl] at h; exact h),
      fun o σ σr h => cs_X3_readTerm l Z fu d (f_X3_G fu d) ih0 ih1 ih2 ih3 ih4 ih5 o σ σr (by rw [f_X3_G, if_neg (by decide), if_neg (by decide), if_neg (by decide), if_neg (by decide), if_pos rfl] at h; exact h),
      fun o σ σr h => cs_X3_readOne l Z fu d (f_X3_G fu d) ih0 ih1 ih2 ih3 ih4 ih5 o σ σr (by rw [f_X3_G, if_neg (by decide), if_neg (by decide), if_neg (by decide), if_neg (by decide), if_neg (by decide)] at h; exact h)⟩
theorem c_X3_G0 (l : Launch) (Z : ow_Z) (fu d : Nat) (o : Int32) (σ σr : ow_S) (h : f_X3_G fu d 0 o σ = some σr) : Met l yX3_readEither wsX3_readEither (ow_rg d) (ow_Pc Z 0 56 [.ref (ow_ad Z 7), .int o] σ) (ow_Qv Z 0 56 σr) 0 0 (ow_A Z 0 56) := (c_X3_Gall l Z fu d).1 o σ σr h
theorem c_X3_G1 (l : Launch) (Z : ow_Z) (fu d : Nat) (o : Int32) (σ σr : ow_S) (h : f_X3_G fu d 1 o σ = some σr) : Met l yX3_readBoth wsX3_readBoth (ow_rg d) (ow_Pc Z 0 56 [.ref (ow_ad Z 7), .int o] σ) (ow_Qv Z 0 56 σr) 0 0 (ow_A Z 0 56) := (c_X3_Gall l Z fu d).2.1 o σ σr h
theorem c_X3_G2 (l : Launch) (Z : ow_Z) (fu d : Nat) (o : Int32) (σ σr : ow_S) (h : f_X3_G fu d 2 o σ = some σr) : Met l yX3_readNot wsX3_readNot (ow_rg d) (ow_Pc Z 0 56 [.ref (ow_ad Z 7), .int o] σ) (ow_Qv Z 0 56 σr) 0 0 (ow_A Z 0 56) := (c_X3_Gall l Z fu d).2.2.1 o σ σr h
theorem c_X3_G3 (l : Launch) (Z : ow_Z) (fu d : Nat) (o : Int32) (σ σr : ow_S) (h : f_X3_G fu d 3 o σ = some σr) : Met l yX3_readSum wsX3_readSum (ow_rg d) (ow_Pc Z 0 56 [.ref (ow_ad Z 7), .int o] σ) (ow_Qv Z 0 56 σr) 0 0 (ow_A Z 0 56) := (c_X3_Gall l Z fu d).2.2.2.1 o σ σr h
theorem c_X3_G4 (l : Launch) (Z : ow_Z) (fu d : Nat) (o : Int32) (σ σr : ow_S) (h : f_X3_G fu d 4 o σ = some σr) : Met l yX3_readTerm wsX3_readTerm (ow_rg d) (ow_Pc Z 0 56 [.ref (ow_ad Z 7), .int o] σ) (ow_Qv Z 0 56 σr) 0 0 (ow_A Z 0 56) := (c_X3_Gall l Z fu d).2.2.2.2.1 o σ σr h
theorem c_X3_G5 (l : Launch) (Z : ow_Z) (fu d : Nat) (o : Int32) (σ σr : ow_S) (h : f_X3_G fu d 5 o σ = some σr) : Met l yX3_readOne wsX3_readOne (ow_rg d) (ow_Pc Z 0 56 [.ref (ow_ad Z 7), .int o] σ) (ow_Qv Z 0 56 σr) 0 0 (ow_A Z 0 56) := (c_X3_Gall l Z fu d).2.2.2.2.2 o σ σr h
set_option maxHeartbeats 40000000 in
set_option maxRecDepth 100000 in
theorem c_X6_endPart (l : Launch) (Z : ow_Z) (fu : Nat) (h : Nat) (hh : ow_in 0 56 h 6) (σ : ow_S) (σr : ow_S) (hf : f_X6_endPart fu h σ = some σr) : Met l yX6_endPart wsX6_endPart { frames := 1, cells := 0, slots := 0, locals := 60 } (ow_Pc Z 0 56 [.ref (ow_ad Z h)] σ) (ow_Qv Z 0 56 σr) 0 0 (ow_A Z 0 56) := by
  refine Met.ofW (cc := cX6_endPart) (maxL := 1) (ret := none) (by decide) rfl ?_
  intro p e s m args below meth c s₁ B hml hv
  obtain ⟨hav, hB⟩ := hv
  obtain ⟨hG, hW⟩ := ow_begin hB
  have hx := B.exec
  have hb := B.bytes
  have hr := B.returns
  have hts := atoms_spec (ws := wsX6_endPart) B.pre
  have hown : s.vm.findClass RX6 = some m.cls := findClass_of_methodNamed B.named
  have hlocks := B.notSynchronized
  have hinX6 : ∀ w ∈ wsX60, w ∈ wsX6_endPart := by decide +kernel
  have hl := lv_entry ([.ref (ow_ad Z h)]) (n := 1) (Nat.le_of_ble_eq_true rfl)
  refine W.eq (g2 := F0 m 0 ((lg_sl ([.ref (ow_ad Z h)]) ++ List.replicate (1 - (lg_sl ([.ref (ow_ad Z h)])).length) Slot.unset).toArray) []) (by rw [hav]; exact lg_entry_eq _ _ _) ?_
  generalize (lg_sl ([.ref (ow_ad Z h)]) ++ List.replicate (1 - (lg_sl ([.ref (ow_ad Z h)])).length) Slot.unset).toArray = ls at hl ⊢
  have hl : lv_has ls 1 [(0, .ref (ow_ad Z h))] := hl
  unfold f_X6_endPart at hf
  refine lv_aload_n hx hb dX6_endPart_0 rfl (lv_at hl 0 rfl) ?_
  refine ow_getV (ci := 6) (C := RX6) (T := TX6) (N := 4) hx hb hts hown hG hW hh (by decide) rfl hinX6 3 (by decide) (fk := 0) rfl (hts (.fieldLink RX6 22 "FiftyOneCards$Text" "parts" "I") (by decide +kernel)) (v := .int (σ.1 h 3)) rfl dX6_endPart_1 ?_
  refine lv_iconst (v := 3) hx hb dX6_endPart_4 (by decide) ?_
  refine lv_icmp_ge (tgt := 31) hx hb dX6_endPart_5 (by decide) (fun c5 => ?_) (fun c5 => ?_)
  · replace hf := ow_if_t c5 hf
    exact ow_vret hx hb hr hW hf dX6_endPart_31 hlocks
  · replace hf := ow_if_f c5 hf
    refine lv_aload_n hx hb dX6_endPart_8 rfl (lv_at hl 0 rfl) ?_
    refine ow_getV (ci := 6) (C := RX6) (T := TX6) (N := 4) hx hb hts hown hG hW hh (by decide) rfl hinX6 1 (by decide) (fk := 2) rfl (hts (.fieldLink RX6 15 "FiftyOneCards$Text" "ends" "[I") (by decide +kernel)) (v := .ref (ow_ad Z (h + 2))) (ow_vR hW hh.1 hh.2.1 (ow_tx1 hh).1) dX6_endPart_9 ?_
    refine lv_aload_n hx hb dX6_endPart_12 rfl (lv_at hl 0 rfl) ?_
    refine ow_getV (ci := 6) (C := RX6) (T := TX6) (N := 4) hx hb hts hown hG hW hh (by decide) rfl hinX6 3 (by decide) (fk := 0) rfl (hts (.fieldLink RX6 22 "FiftyOneCards$Text" "parts" "I") (by decide +kernel)) (v := .int (σ.1 h 3)) rfl dX6_endPart_13 ?_
    refine lv_aload_n hx hb dX6_endPart_16 rfl (lv_at hl 0 rfl) ?_
    refine ow_getV (ci := 6) (C := RX6) (T := TX6) (N := 4) hx hb hts hown hG hW hh (by decide) rfl hinX6 2 (by decide) (fk := 0) rfl (hts (.fieldLink RX6 18 "FiftyOneCards$Text" "size" "I") (by decide +kernel)) (v := .int (σ.1 h 2)) rfl dX6_endPart_17 ?_
    obtain ⟨q20, hf⟩ := ow_ck_i hf
    refine ow_ist (q := (σ.1 h 3).toNatClampNeg) hx hb hG hW (ow_tx1 hh).2.1 (ow_tx1 hh).2.2 q20 rfl hf dX6_endPart_20 (fun σ_20 H locs hf hW => ?_)
    refine lv_aload_n hx hb dX6_endPart_21 rfl (lv_at hl 0 rfl) ?_
    refine lv_dup hx hb dX6_endPart_22 rfl ?_
    refine ow_getV (ci := 6) (C := RX6) (T := TX6) (N := 4) hx hb hts hown hG hW hh (by decide) rfl hinX6 3 (by decide) (fk := 0) rfl (hts (.fieldLink RX6 22 "FiftyOneCards$Text" "parts" "I") (by decide +kernel)) (v := .int (σ_20.1 h 3)) rfl dX6_endPart_23 ?_
    refine lv_iconst (v := 1) hx hb dX6_endPart_26 (by decide) ?_
    refine lv_iadd hx hb dX6_endPart_27 ?_
    refine ow_putI (ci := 6) (C := RX6) (T := TX6) (N := 4) hx hb hts hown hG hW hh (by decide) rfl hinX6 tyX6 tyX6_ok nmX6 3 (by decide) rfl (hts (.fieldLink RX6 22 "FiftyOneCards$Text" "parts" "I") (by decide +kernel)) rfl rfl rfl hf dX6_endPart_28 (fun σ_28 H locs hf hW => ?_)
    exact ow_vret hx hb hr hW hf dX6_endPart_31 hlocks
set_option maxHeartbeats 40000000 in
set_option maxRecDepth 100000 in
theorem c_X3_readPart (l : Launch) (Z : ow_Z) (fu : Nat) (a1 : Int32) (σ : ow_S) (σr : ow_S) (hf : f_X3_readPart fu a1 σ = some σr) : Met l yX3_readPart wsX3_readPart { frames := 151, cells := 0, slots := 0, locals := 6022 } (ow_Pc Z 0 56 [.ref (ow_ad Z 7), .int a1] σ) (ow_Qv Z 0 56 σr) 0 0 (ow_A Z 0 56) := by
  refine Met.ofW (cc := cX3_readPart) (maxL := 2) (ret := none) (by decide) rfl ?_
  intro p e s m args below meth c s₁ B hml hv
  obtain ⟨hav, hB⟩ := hv
  obtain ⟨hG, hW⟩ := ow_begin hB
  have hx := B.exec
  have hb := B.bytes
  have hr := B.returns
  have hts := atoms_spec (ws := wsX3_readPart) B.pre
  have hown : s.vm.findClass RX3 = some m.cls := findClass_of_methodNamed B.named
  have hlocks := B.notSynchronized
  have hinX3 : ∀ w ∈ wsX30, w ∈ wsX3_readPart := by decide +kernel
  have hl := lv_entry ([.ref (ow_ad Z 7), .int a1]) (n := 2) (Nat.le_of_ble_eq_true rfl)
  refine W.eq (g2 := F0 m 0 ((lg_sl ([.ref (ow_ad Z 7), .int a1]) ++ List.replicate (2 - (lg_sl ([.ref (ow_ad Z 7), .int a1])).length) Slot.unset).toArray) []) (by rw [hav]; exact lg_entry_eq _ _ _) ?_
  generalize (lg_sl ([.ref (ow_ad Z 7), .int a1]) ++ List.replicate (2 - (lg_sl ([.ref (ow_ad Z 7), .int a1])).length) Slot.unset).toArray = ls at hl ⊢
  have hl : lv_has ls 2 [(0, .ref (ow_ad Z 7)), (1, .int a1)] := hl
  unfold f_X3_readPart at hf
  refine lv_aload_n hx hb dX3_readPart_0 rfl (lv_at hl 0 rfl) ?_
  refine lv_iload_n hx hb dX3_readPart_1 rfl (lv_at hl 1 rfl) ?_
  obtain ⟨σ_2, hc2, hf⟩ := ow_cv_i hf
  refine ow_callv (va_runV (As := [.int a1]) (rest := []) ⟨hx, hb, hml, hown, hts⟩ (c_X3_expect l Z fu a1 σ σ_2  hc2) (cwV 1 hts gX3_readPart_X3_expect rfl rfl rfl (by decide +kernel) ⟨Nat.le_of_ble_eq_true rfl, Nat.le_of_ble_eq_true rfl⟩) (ow_preV hG hW ow_i7 (by decide) rfl) rfl rfl hl.1 rfl (lv_room (Nat.le_of_ble_eq_true rfl)) dX3_readPart_2 ⟨Nat.zero_le _, Nat.zero_le _⟩) hW (fun H locs hW => ?_)
  refine lv_aload_n hx hb dX3_readPart_5 rfl (lv_at hl 0 rfl) ?_
  refine lv_iconst (v := 0) hx hb dX3_readPart_6 (by decide) ?_
  obtain ⟨σ_7, hc7, hf⟩ := ow_cv_i hf
  refine ow_callv (va_runV (As := [.int (0 : Int32)]) (rest := []) ⟨hx, hb, hml, hown, hts⟩ (c_X3_G0 l Z fu 40 (0 : Int32) σ_2 σ_7  hc7) (cwV 1 hts gX3_readPart_X3_readEither rfl rfl rfl (by decide +kernel) ⟨Nat.le_of_ble_eq_true rfl, Nat.le_of_ble_eq_true rfl⟩) (ow_preV hG hW ow_i7 (by decide) rfl) rfl rfl hl.1 rfl (lv_room (Nat.le_of_ble_eq_true rfl)) dX3_readPart_7 ⟨Nat.zero_le _, Nat.zero_le _⟩) hW (fun H locs hW => ?_)
  refine lv_aload_n hx hb dX3_readPart_10 rfl (lv_at hl 0 rfl) ?_
  refine lv_bipush (v := 17) hx hb dX3_readPart_11 (by decide) ?_
  obtain ⟨σ_13, hc13, hf⟩ := ow_cv_i hf
  refine ow_callv (va_runV (As := [.int (17 : Int32)]) (rest := []) ⟨hx, hb, hml, hown, hts⟩ (c_X3_expect l Z fu (17 : Int32) σ_7 σ_13  hc13) (cwV 1 hts gX3_readPart_X3_expect rfl rfl rfl (by decide +kernel) ⟨Nat.le_of_ble_eq_true rfl, Nat.le_of_ble_eq_true rfl⟩) (ow_preV hG hW ow_i7 (by decide) rfl) rfl rfl hl.1 rfl (lv_room (Nat.le_of_ble_eq_true rfl)) dX3_readPart_13 ⟨Nat.zero_le _, Nat.zero_le _⟩) hW (fun H locs hW => ?_)
  refine lv_aload_n hx hb dX3_readPart_16 rfl (lv_at hl 0 rfl) ?_
  refine ow_getV (ci := 3) (C := RX3) (T := TX3) (N := 7) hx hb hts hown hG hW ow_i7 (by decide) rfl hinX3 6 (by decide) (fk := 2) rfl (hts (.fieldLink RX3 31 "FiftyOneCards$Reader" "target" "LFiftyOneCards$Text;") (by decide +kernel)) (v := va_rf ((σ_13.2.2 7 6).map (ow_ad Z))) rfl dX3_readPart_17 ?_
  refine ow_ifnull (o := σ_13.2.2 7 6) (tgt := 30) hx hb dX3_readPart_20 (by decide) (fun c20 => ?_) (fun t20 c20 => ?_)
  · replace hf := ow_op_n hf c20
    exact ow_vret hx hb hr hW hf dX3_readPart_30 hlocks
  · replace hf := ow_op_s hf c20
    refine lv_aload_n hx hb dX3_readPart_23 rfl (lv_at hl 0 rfl) ?_
    have g24 := ow_tgt3 hW c20
    refine ow_getV (ci := 3) (C := RX3) (T := TX3) (N := 7) hx hb hts hown hG hW ow_i7 (by decide) rfl hinX3 6 (by decide) (fk := 2) rfl (hts (.fieldLink RX3 31 "FiftyOneCards$Reader" "target" "LFiftyOneCards$Text;") (by decide +kernel)) (v := .ref (ow_ad Z t20)) (ow_vS c20) dX3_readPart_24 ?_
    obtain ⟨σ_27, hc27, hf⟩ := ow_cv_i hf
    refine ow_callv (va_runVN (As := []) (rest := []) ⟨hx, hb, hml, hown, hts⟩ (c_X6_endPart l Z fu t20 g24 σ_13 σ_27  hc27) ⟨va_cnB (host := "FiftyOneCards") 0 hts ggX3_readPart_X6_endPart rfl rfl rfl (ow_nwp hG (.methodLinkNest RX3 62 yX6_endPart "FiftyOneCards") (by decide +kernel)) (hts (.initialized RX6) (by decide +kernel)) (by decide +kernel) ⟨Nat.le_of_ble_eq_true rfl, Nat.le_of_ble_eq_true rfl⟩, hts (.instanceMethod yX6_endPart) (by decide +kernel), hts (.selects RX6 yX6_endPart yX6_endPart) (by decide +kernel)⟩ (ow_preV hG hW g24 (by decide) rfl) rfl rfl hl.1 rfl (lv_room (Nat.le_of_ble_eq_true rfl)) dX3_readPart_27 ⟨Nat.zero_le _, Nat.zero_le _⟩) hW (fun H locs hW => ?_)
    exact ow_vret hx hb hr hW hf dX3_readPart_30 hlocks
set_option maxHeartbeats 40000000 in
set_option maxRecDepth 100000 in
theorem c_X3_expectAtEnd (l : Launch) (Z : ow_Z) (fu : Nat) (σ : ow_S) (σr : ow_S) (hf : f_X3_expectAtEnd fu σ = some σr) : Met l yX3_expectAtEnd wsX3_expectAtEnd { frames := 2, cells := 0, slots := 0, locals := 80 } (ow_Pc Z 0 56 [.ref (ow_ad Z 7)] σ) (ow_Qv Z 0 56 σr) 0 0 (ow_A Z 0 56) := by
  refine Met.ofW (cc := cX3_expectAtEnd) (maxL := 1) (ret := none) (by decide) rfl ?_
  intro p e s m args below meth c s₁ B hml hv
  obtain ⟨hav, hB⟩ := hv
  obtain ⟨hG, hW⟩ := ow_begin hB
  have hx := B.exec
  have hb := B.bytes
  have hr := B.returns
  have hts := atoms_spec (ws := wsX3_expectAtEnd) B.pre
  have hown : s.vm.findClass RX3 = some m.cls := findClass_of_methodNamed B.named
  have hlocks := B.notSynchronized
  have hinX3 : ∀ w ∈ wsX30, w ∈ wsX3_expectAtEnd := by decide +kernel
  have hl := lv_entry ([.ref (ow_ad Z 7)]) (n := 1) (Nat.le_of_ble_eq_true rfl)
  refine W.eq (g2 := F0 m 0 ((lg_sl ([.ref (ow_ad Z 7)]) ++ List.replicate (1 - (lg_sl ([.ref (ow_ad Z 7)])).length) Slot.unset).toArray) []) (by rw [hav]; exact lg_entry_eq _ _ _) ?_
  generalize (lg_sl ([.ref (ow_ad Z 7)]) ++ List.replicate (1 - (lg_sl ([.ref (ow_ad Z 7)])).length) Slot.unset).toArray = ls at hl ⊢
  have hl : lv_has ls 1 [(0, .ref (ow_ad Z 7))] := hl
  unfold f_X3_expectAtEnd at hf
  refine lv_aload_n hx hb dX3_expectAtEnd_0 rfl (lv_at hl 0 rfl) ?_
  refine ow_getV (ci := 3) (C := RX3) (T := TX3) (N := 7) hx hb hts hown hG hW ow_i7 (by decide) rfl hinX3 3 (by decide) (fk := 0) rfl (hts (.fieldLink RX3 22 "FiftyOneCards$Reader" "token" "I") (by decide +kernel)) (v := .int (σ.1 7 3)) rfl dX3_expectAtEnd_1 ?_
  refine lv_bipush (v := 21) hx hb dX3_expectAtEnd_4 (by decide) ?_
  refine lv_icmp_eq (tgt := 13) hx hb dX3_expectAtEnd_6 (by decide) (fun c6 => ?_) (fun c6 => ?_)
  · replace hf := ow_if_t c6 hf
    exact ow_vret hx hb hr hW hf dX3_expectAtEnd_13 hlocks
  · replace hf := ow_if_f c6 hf
    refine lv_aload_n hx hb dX3_expectAtEnd_9 rfl (lv_at hl 0 rfl) ?_
    obtain ⟨σ_10, hc10, hf⟩ := ow_cv_i hf
    refine ow_callv (va_runV (As := []) (rest := []) ⟨hx, hb, hml, hown, hts⟩ (c_X3_refuse l Z fu σ σ_10  hc10) (cwV 0 hts gX3_expectAtEnd_X3_refuse rfl rfl rfl (by decide +kernel) ⟨Nat.le_of_ble_eq_true rfl, Nat.le_of_ble_eq_true rfl⟩) (ow_preV hG hW ow_i7 (by decide) rfl) rfl rfl hl.1 rfl (lv_room (Nat.le_of_ble_eq_true rfl)) dX3_expectAtEnd_10 ⟨Nat.zero_le _, Nat.zero_le _⟩) hW (fun H locs hW => ?_)
    exact ow_vret hx hb hr hW hf dX3_expectAtEnd_13 hlocks
set_option maxHeartbeats 40000000 in
set_option maxRecDepth 100000 in
theorem c_X3_readInto (l : Launch) (Z : ow_Z) (fu : Nat) (a1 : Nat) (ha1 : ow_in 0 56 a1 6) (σ : ow_S) (rr : Int32) (σr : ow_S) (hf : f_X3_readInto fu a1 σ = some (rr, σr)) : Met l yX3_readInto wsX3_readInto { frames := 152, cells := 0, slots := 0, locals := 6043 } (ow_Pc Z 0 56 [.ref (ow_ad Z 7), .ref (ow_ad Z a1)] σ) (ow_Qi Z 0 56 rr σr) 0 0 (ow_A Z 0 56) := by
  refine Met.ofW (cc := cX3_readInto) (maxL := 2) (ret := (some .int)) (by decide) rfl ?_
  intro p e s m args below meth c s₁ B hml hv
  obtain ⟨hav, hB⟩ := hv
  obtain ⟨hG, hW⟩ := ow_begin hB
  have hx := B.exec
  have hb := B.bytes
  have hr := B.returns
  have hts := atoms_spec (ws := wsX3_readInto) B.pre
  have hown : s.vm.findClass RX3 = some m.cls := findClass_of_methodNamed B.named
  have hlocks := B.notSynchronized
  have hinX3 : ∀ w ∈ wsX30, w ∈ wsX3_readInto := by decide +kernel
  have hl := lv_entry ([.ref (ow_ad Z 7), .ref (ow_ad Z a1)]) (n := 2) (Nat.le_of_ble_eq_true rfl)
  refine W.eq (g2 := F0 m 0 ((lg_sl ([.ref (ow_ad Z 7), .ref (ow_ad Z a1)]) ++ List.replicate (2 - (lg_sl ([.ref (ow_ad Z 7), .ref (ow_ad Z a1)])).length) Slot.unset).toArray) []) (by rw [hav]; exact lg_entry_eq _ _ _) ?_
  generalize (lg_sl ([.ref (ow_ad Z 7), .ref (ow_ad Z a1)]) ++ List.replicate (2 - (lg_sl ([.ref (ow_ad Z 7), .ref (ow_ad Z a1)])).length) Slot.unset).toArray = ls at hl ⊢
  have hl : lv_has ls 2 [(0, .ref (ow_ad Z 7)), (1, .ref (ow_ad Z a1))] := hl
  unfold f_X3_readInto at hf
  refine lv_aload_n hx hb dX3_readInto_0 rfl (lv_at hl 1 rfl) ?_
  obtain ⟨σ_1, hc1, hf⟩ := ow_cv_i hf
  refine ow_callv (va_runVN (As := []) (rest := []) ⟨hx, hb, hml, hown, hts⟩ (c_X6_clear l Z fu a1 ha1 σ σ_1  hc1) ⟨va_cnB (host := "FiftyOneCards") 0 hts ggX3_readInto_X6_clear rfl rfl rfl (ow_nwp hG (.methodLinkNest RX3 35 yX6_clear "FiftyOneCards") (by decide +kernel)) (hts (.initialized RX6) (by decide +kernel)) (by decide +kernel) ⟨Nat.le_of_ble_eq_true rfl, Nat.le_of_ble_eq_true rfl⟩, hts (.instanceMethod yX6_clear) (by decide +kernel), hts (.selects RX6 yX6_clear yX6_clear) (by decide +kernel)⟩ (ow_preV hG hW ha1 (by decide) rfl) rfl rfl hl.1 rfl (lv_room (Nat.le_of_ble_eq_true rfl)) dX3_readInto_1 ⟨Nat.zero_le _, Nat.zero_le _⟩) hW (fun H locs hW => ?_)
  refine lv_aload_n hx hb dX3_readInto_4 rfl (lv_at hl 0 rfl) ?_
  refine lv_aload_n hx hb dX3_readInto_5 rfl (lv_at hl 1 rfl) ?_
  refine ow_putR3 (C := RX3) (T := TX3) (N := 7) hx hb hts hown hG hW rfl hinX3 tyX3 tyX3_ok nmX3 (by decide) ha1 (hts (.fieldLink RX3 31 "FiftyOneCards$Reader" "target" "LFiftyOneCards$Text;") (by decide +kernel)) rfl rfl rfl hf dX3_readInto_6 (fun σ_6 H locs hf hW => ?_)
  refine lv_aload_n hx hb dX3_readInto_9 rfl (lv_at hl 0 rfl) ?_
  refine lv_iconst (v := 0) hx hb dX3_readInto_10 (by decide) ?_
  refine ow_putI (ci := 3) (C := RX3) (T := TX3) (N := 7) hx hb hts hown hG hW ow_i7 (by decide) rfl hinX3 tyX3 tyX3_ok nmX3 2 (by decide) rfl (hts (.fieldLink RX3 19 "FiftyOneCards$Reader" "next" "I") (by decide +kernel)) rfl rfl rfl hf dX3_readInto_11 (fun σ_11 H locs hf hW => ?_)
  refine lv_aload_n hx hb dX3_readInto_14 rfl (lv_at hl 0 rfl) ?_
  refine lv_iconst (v := -1) hx hb dX3_readInto_15 (by decide) ?_
  refine ow_putI (ci := 3) (C := RX3) (T := TX3) (N := 7) hx hb hts hown hG hW ow_i7 (by decide) rfl hinX3 tyX3 tyX3_ok nmX3 5 (by decide) rfl (hts (.fieldLink RX3 28 "FiftyOneCards$Reader" "fault" "I") (by decide +kernel)) rfl rfl rfl hf dX3_readInto_16 (fun σ_16 H locs hf hW => ?_)
  refine lv_aload_n hx hb dX3_readInto_19 rfl (lv_at hl 0 rfl) ?_
  obtain ⟨σ_20, hc20, hf⟩ := ow_cv_i hf
  refine ow_callv (va_runV (As := []) (rest := []) ⟨hx, hb, hml, hown, hts⟩ (c_X3_advance l Z fu σ_16 σ_20  hc20) (cwV 0 hts gX3_readInto_X3_advance rfl rfl rfl (by decide +kernel) ⟨Nat.le_of_ble_eq_true rfl, Nat.le_of_ble_eq_true rfl⟩) (ow_preV hG hW ow_i7 (by decide) rfl) rfl rfl hl.1 rfl (lv_room (Nat.le_of_ble_eq_true rfl)) dX3_readInto_20 ⟨Nat.zero_le _, Nat.zero_le _⟩) hW (fun H locs hW => ?_)
  refine lv_aload_n hx hb dX3_readInto_23 rfl (lv_at hl 0 rfl) ?_
  refine lv_bipush (v := 18) hx hb dX3_readInto_24 (by decide) ?_
  obtain ⟨σ_26, hc26, hf⟩ := ow_cv_i hf
  refine ow_callv (va_runV (As := [.int (18 : Int32)]) (rest := []) ⟨hx, hb, hml, hown, hts⟩ (c_X3_readPart l Z fu (18 : Int32) σ_20 σ_26  hc26) (cwV 1 hts gX3_readInto_X3_readPart rfl rfl rfl (by decide +kernel) ⟨Nat.le_of_ble_eq_true rfl, Nat.le_of_ble_eq_true rfl⟩) (ow_preV hG hW ow_i7 (by decide) rfl) rfl rfl hl.1 rfl (lv_room (Nat.le_of_ble_eq_true rfl)) dX3_readInto_26 ⟨Nat.zero_le _, Nat.zero_le _⟩) hW (fun H locs hW => ?_)
  refine lv_aload_n hx hb dX3_readInto_29 rfl (lv_at hl 0 rfl) ?_
  refine lv_bipush (v := 19) hx hb dX3_readInto_30 (by decide) ?_
  obtain ⟨σ_32, hc32, hf⟩ := ow_cv_i hf
  refine ow_callv (va_runV (As := [.int (19 : Int32)]) (rest := []) ⟨hx, hb, hml, hown, hts⟩ (c_X3_readPart l Z fu (19 : Int32) σ_26 σ_32  hc32) (cwV 1 hts gX3_readInto_X3_readPart rfl rfl rfl (by decide +kernel) ⟨Nat.le_of_ble_eq_true rfl, Nat.le_of_ble_eq_true rfl⟩) (ow_preV hG hW ow_i7 (by decide) rfl) rfl rfl hl.1 rfl (lv_room (Nat.le_of_ble_eq_true rfl)) dX3_readInto_32 ⟨Nat.zero_le _, Nat.zero_le _⟩) hW (fun H locs hW => ?_)
  refine lv_aload_n hx hb dX3_readInto_35 rfl (lv_at hl 0 rfl) ?_
  refine lv_bipush (v := 20) hx hb dX3_readInto_36 (by decide) ?_
  obtain ⟨σ_38, hc38, hf⟩ := ow_cv_i hf
  refine ow_callv (va_runV (As := [.int (20 : Int32)]) (rest := []) ⟨hx, hb, hml, hown, hts⟩ (c_X3_readPart l Z fu (20 : Int32) σ_32 σ_38  hc38) (cwV 1 hts gX3_readInto_X3_readPart rfl rfl rfl (by decide +kernel) ⟨Nat.le_of_ble_eq_true rfl, Nat.le_of_ble_eq_true rfl⟩) (ow_preV hG hW ow_i7 (by decide) rfl) rfl rfl hl.1 rfl (lv_room (Nat.le_of_ble_eq_true rfl)) dX3_readInto_38 ⟨Nat.zero_le _, Nat.zero_le _⟩) hW (fun H locs hW => ?_)
  refine lv_aload_n hx hb dX3_readInto_41 rfl (lv_at hl 0 rfl) ?_
  obtain ⟨σ_42, hc42, hf⟩ := ow_cv_i hf
  refine ow_callv (va_runV (As := []) (rest := []) ⟨hx, hb, hml, hown, hts⟩ (c_X3_expectAtEnd l Z fu σ_38 σ_42  hc42) (cwV 0 hts gX3_readInto_X3_expectAtEnd rfl rfl rfl (by decide +kernel) ⟨Nat.le_of_ble_eq_true rfl, Nat.le_of_ble_eq_true rfl⟩) (ow_preV hG hW ow_i7 (by decide) rfl) rfl rfl hl.1 rfl (lv_room (Nat.le_of_ble_eq_true rfl)) dX3_readInto_42 ⟨Nat.zero_le _, Nat.zero_le _⟩) hW (fun H locs hW => ?_)
  refine lv_aload_n hx hb dX3_readInto_45 rfl (lv_at hl 0 rfl) ?_
  refine lv_iconst (v := 0) hx hb dX3_readInto_46 (by decide) ?_
  refine ow_putI (ci := 3) (C := RX3) (T := TX3) (N := 7) hx hb hts hown hG hW ow_i7 (by decide) rfl hinX3 tyX3 tyX3_ok nmX3 1 (by decide) rfl (hts (.fieldLink RX3 15 "FiftyOneCards$Reader" "size" "I") (by decide +kernel)) rfl rfl rfl hf dX3_readInto_47 (fun σ_47 H locs hf hW => ?_)
  refine lv_aload_n hx hb dX3_readInto_50 rfl (lv_at hl 0 rfl) ?_
  refine ow_getV (ci := 3) (C := RX3) (T := TX3) (N := 7) hx hb hts hown hG hW ow_i7 (by decide) rfl hinX3 5 (by decide) (fk := 0) rfl (hts (.fieldLink RX3 28 "FiftyOneCards$Reader" "fault" "I") (by decide +kernel)) (v := .int (σ_47.1 7 5)) rfl dX3_readInto_51 ?_
  exact ow_iret hx hb hr hW hf dX3_readInto_54 hlocks
set_option maxHeartbeats 40000000 in
set_option maxRecDepth 100000 in
theorem c_X4_has (l : Launch) (Z : ow_Z) (fu : Nat) (h : Nat) (hh : ow_in 0 56 h 4) (a1 : Int32) (σ : ow_S) (rr : Int32) (σr : ow_S) (hf : f_X4_has fu h a1 σ = some (rr, σr)) : Met l yX4_has wsX4_has { frames := 1, cells := 0, slots := 0, locals := 60 } (ow_Pc Z 0 56 [.ref (ow_ad Z h), .int a1] σ) (ow_Qz Z 0 56 rr σr) 0 0 (ow_A Z 0 56) := by
  refine Met.ofW (cc := cX4_has) (maxL := 2) (ret := (some .boolean)) (by decide) rfl ?_
  intro p e s m args below meth c s₁ B hml hv
  obtain ⟨hav, hB⟩ := hv
  obtain ⟨hG, hW⟩ := ow_begin hB
  have hx := B.exec
  have hb := B.bytes
  have hr := B.returns
  have hts := atoms_spec (ws := wsX4_has) B.pre
  have hown : s.vm.findClass RX4 = some m.cls := findClass_of_methodNamed B.named
  have hlocks := B.notSynchronized
  have hinX4 : ∀ w ∈ wsX40, w ∈ wsX4_has := by decide +kernel
  have hl := lv_entry ([.ref (ow_ad Z h), .int a1]) (n := 2) (Nat.le_of_ble_eq_true rfl)
  refine W.eq (g2 := F0 m 0 ((lg_sl ([.ref (ow_ad Z h), .int a1]) ++ List.replicate (2 - (lg_sl ([.ref (ow_ad Z h), .int a1])).length) Slot.unset).toArray) []) (by rw [hav]; exact lg_entry_eq _ _ _) ?_
  generalize (lg_sl ([.ref (ow_ad Z h), .int a1]) ++ List.replicate (2 - (lg_sl ([.ref (ow_ad Z h), .int a1])).length) Slot.unset).toArray = ls at hl ⊢
  have hl : lv_has ls 2 [(0, .ref (ow_ad Z h)), (1, .int a1)] := hl
  unfold f_X4_has at hf
  refine lv_iload_n hx hb dX4_has_0 rfl (lv_at hl 1 rfl) ?_
  refine lv_if_lt (tgt := 16) hx hb dX4_has_1 (by decide) (fun c1 => ?_) (fun c1 => ?_)
  · replace hf := ow_if_t c1 hf
    refine lv_iconst (v := 0) hx hb dX4_has_16 (by decide) ?_
    exact ow_zret hx hb hr (Or.inl rfl) hW hf dX4_has_17 hlocks
  · replace hf := ow_if_f c1 hf
    refine lv_iload_n hx hb dX4_has_4 rfl (lv_at hl 1 rfl) ?_
    refine lv_aload_n hx hb dX4_has_5 rfl (lv_at hl 0 rfl) ?_
    refine ow_getV (ci := 4) (C := RX4) (T := TX4) (N := 2) hx hb hts hown hG hW hh (by decide) rfl hinX4 1 (by decide) (fk := 0) rfl (hts (.fieldLink RX4 15 "FiftyOneCards$Row" "size" "I") (by decide +kernel)) (v := .int (σ.1 h 1)) rfl dX4_has_6 ?_
    refine lv_icmp_ge (tgt := 16) hx hb dX4_has_9 (by decide) (fun c9 => ?_) (fun c9 => ?_)
    · replace hf := ow_if_t c9 hf
      refine lv_iconst (v := 0) hx hb dX4_has_16 (by decide) ?_
      exact ow_zret hx hb hr (Or.inl rfl) hW hf dX4_has_17 hlocks
    · replace hf := ow_if_f c9 hf
      refine lv_iconst (v := 1) hx hb dX4_has_12 (by decide) ?_
      refine lv_goto (tgt := 17) hx hb dX4_has_13 (by decide) ?_
      exact ow_zret hx hb hr (Or.inr rfl) hW hf dX4_has_17 hlocks
set_option maxHeartbeats 40000000 in
set_option maxRecDepth 100000 in
theorem c_X4_add (l : Launch) (Z : ow_Z) (fu : Nat) (h : Nat) (hh : ow_in 0 56 h 4) (a1 : Int32) (σ : ow_S) (rr : Int32) (σr : ow_S) (hf : f_X4_add fu h a1 σ = some (rr, σr)) : Met l yX4_add wsX4_add { frames := 1, cells := 0, slots := 0, locals := 60 } (ow_Pc Z 0 56 [.ref (ow_ad Z h), .int a1] σ) (ow_Qz Z 0 56 rr σr) 0 0 (ow_A Z 0 56) := by
  refine Met.ofW (cc := cX4_add) (maxL := 2) (ret := (some .boolean)) (by decide) rfl ?_
  intro p e s m args below meth c s₁ B hml hv
  obtain ⟨hav, hB⟩ := hv
  obtain ⟨hG, hW⟩ := ow_begin hB
  have hx := B.exec
  have hb := B.bytes
  have hr := B.returns
  have hts := atoms_spec (ws := wsX4_add) B.pre
  have hown : s.vm.findClass RX4 = some m.cls := findClass_of_methodNamed B.named
  have hlocks := B.notSynchronized
  have hinX4 : ∀ w ∈ wsX40, w ∈ wsX4_add := by decide +kernel
  have hl := lv_entry ([.ref (ow_ad Z h), .int a1]) (n := 2) (Nat.le_of_ble_eq_true rfl)
  refine W.eq (g2 := F0 m 0 ((lg_sl ([.ref (ow_ad Z h), .int a1]) ++ List.replicate (2 - (lg_sl ([.ref (ow_ad Z h), .int a1])).length) Slot.unset).toArray) []) (by rw [hav]; exact lg_entry_eq _ _ _) ?_
  generalize (lg_sl ([.ref (ow_ad Z h), .int a1]) ++ List.replicate (2 - (lg_sl ([.ref (ow_ad Z h), .int a1])).length) Slot.unset).toArray = ls at hl ⊢
  have hl : lv_has ls 2 [(0, .ref (ow_ad Z h)), (1, .int a1)] := hl
  unfold f_X4_add at hf
  refine lv_aload_n hx hb dX4_add_0 rfl (lv_at hl 0 rfl) ?_
  refine ow_getV (ci := 4) (C := RX4) (T := TX4) (N := 2) hx hb hts hown hG hW hh (by decide) rfl hinX4 1 (by decide) (fk := 0) rfl (hts (.fieldLink RX4 15 "FiftyOneCards$Row" "size" "I") (by decide +kernel)) (v := .int (σ.1 h 1)) rfl dX4_add_1 ?_
  refine lv_bipush (v := 60) hx hb dX4_add_4 (by decide) ?_
  refine lv_icmp_lt (tgt := 11) hx hb dX4_add_6 (by decide) (fun c6 => ?_) (fun c6 => ?_)
  · replace hf := ow_if_t c6 hf
    refine lv_aload_n hx hb dX4_add_11 rfl (lv_at hl 0 rfl) ?_
    refine ow_getV (ci := 4) (C := RX4) (T := TX4) (N := 2) hx hb hts hown hG hW hh (by decide) rfl hinX4 0 (by decide) (fk := 2) rfl (hts (.fieldLink RX4 9 "FiftyOneCards$Row" "cards" "[I") (by decide +kernel)) (v := .ref (ow_ad Z (h + 1))) (ow_vR hW hh.1 hh.2.1 (ow_row hh).1) dX4_add_12 ?_
    refine lv_aload_n hx hb dX4_add_15 rfl (lv_at hl 0 rfl) ?_
    refine ow_getV (ci := 4) (C := RX4) (T := TX4) (N := 2) hx hb hts hown hG hW hh (by decide) rfl hinX4 1 (by decide) (fk := 0) rfl (hts (.fieldLink RX4 15 "FiftyOneCards$Row" "size" "I") (by decide +kernel)) (v := .int (σ.1 h 1)) rfl dX4_add_16 ?_
    refine lv_iload_n hx hb dX4_add_19 rfl (lv_at hl 1 rfl) ?_
    obtain ⟨q20, hf⟩ := ow_ck_i hf
    refine ow_ist (q := (σ.1 h 1).toNatClampNeg) hx hb hG hW (ow_row hh).2.1 (ow_row hh).2.2 q20 rfl hf dX4_add_20 (fun σ_20 H locs hf hW => ?_)
    refine lv_aload_n hx hb dX4_add_21 rfl (lv_at hl 0 rfl) ?_
    refine lv_dup hx hb dX4_add_22 rfl ?_
    refine ow_getV (ci := 4) (C := RX4) (T := TX4) (N := 2) hx hb hts hown hG hW hh (by decide) rfl hinX4 1 (by decide) (fk := 0) rfl (hts (.fieldLink RX4 15 "FiftyOneCards$Row" "size" "I") (by decide +kernel)) (v := .int (σ_20.1 h 1)) rfl dX4_add_23 ?_
    refine lv_iconst (v := 1) hx hb dX4_add_26 (by decide) ?_
    refine lv_iadd hx hb dX4_add_27 ?_
    refine ow_putI (ci := 4) (C := RX4) (T := TX4) (N := 2) hx hb hts hown hG hW hh (by decide) rfl hinX4 tyX4 tyX4_ok nmX4 1 (by decide) rfl (hts (.fieldLink RX4 15 "FiftyOneCards$Row" "size" "I") (by decide +kernel)) rfl rfl rfl hf dX4_add_28 (fun σ_28 H locs hf hW => ?_)
    refine lv_iconst (v := 1) hx hb dX4_add_31 (by decide) ?_
    exact ow_zret hx hb hr (Or.inr rfl) hW hf dX4_add_32 hlocks
  · replace hf := ow_if_f c6 hf
    refine lv_iconst (v := 0) hx hb dX4_add_9 (by decide) ?_
    exact ow_zret hx hb hr (Or.inl rfl) hW hf dX4_add_10 hlocks
set_option maxHeartbeats 40000000 in
set_option maxRecDepth 100000 in
theorem c_X4_become (l : Launch) (Z : ow_Z) (fu : Nat) (h : Nat) (hh : ow_in 0 56 h 4) (a1 : Nat) (ha1 : ow_in 0 56 a1 4) (σ : ow_S) (σr : ow_S) (hf : f_X4_become fu h a1 σ = some σr) : Met l yX4_become wsX4_become { frames := 2, cells := 0, slots := 0, locals := 81 } (ow_Pc Z 0 56 [.ref (ow_ad Z h), .ref (ow_ad Z a1)] σ) (ow_Qv Z 0 56 σr) 0 0 (ow_A Z 0 56) := by
  refine Met.ofW (cc := cX4_become) (maxL := 3) (ret := none) (by decide) rfl ?_
  intro p e s m args below meth c s₁ B hml hv
  obtain ⟨hav, hB⟩ := hv
  obtain ⟨hG, hW⟩ := ow_begin hB
  have hx := B.exec
  have hb := B.bytes
  have hr := B.returns
  have hts := atoms_spec (ws := wsX4_become) B.pre
  have hown : s.vm.findClass RX4 = some m.cls := findClass_of_methodNamed B.named
  have hlocks := B.notSynchronized
  have hinX4 : ∀ w ∈ wsX40, w ∈ wsX4_become := by decide +kernel
  have hJ7 : ∀ (fn : Nat), ∀ (r0 : Nat) (hr0 : ow_in 0 56 r0 4) (r1 : Nat) (hr1 : ow_in 0 56 r1 4) (x2 : Int32) (σ : ow_S) (H : Heap) (locs : List Loc) (ls : Array Slot), L_X4_become_7 fu fn r0 r1 x2 σ = some σr → ow_Wd Z 0 56 σ s H locs → lv_has ls 3 [(0, .ref (ow_ad Z r0)), (1, .ref (ow_ad Z r1)), (2, .int x2)] → W p l e (headSpec wsX4_become { frames := 2, cells := 0, slots := 0, locals := 81 }).room s m args below meth c H locs 0 0 (MQ below (ow_Qv Z 0 56 σr) args s 0 0 (ow_A Z 0 56)) (F0 m 7 ls []) := by
    intro fn
    induction fn with
    | zero => intro r0 hr0 r1 hr1 x2 σ H locs ls hf hW hl; simp [L_X4_become_7] at hf
    | succ fn ih =>
      intro r0 hr0 r1 hr1 x2 σ H locs ls hf hW hl
      rw [L_X4_become_7] at hf
      refine lv_iload_n hx hb dX4_become_7 rfl (lv_at hl 2 rfl) ?_
      refine lv_aload_n hx hb dX4_become_8 rfl (lv_at hl 1 rfl) ?_
      refine ow_getV (ci := 4) (C := RX4) (T := TX4) (N := 2) hx hb hts hown hG hW hr1 (by decide) rfl hinX4 1 (by decide) (fk := 0) rfl (hts (.fieldLink RX4 15 "FiftyOneCards$Row" "size" "I") (by decide +kernel)) (v := .int (σ.1 r1 1)) rfl dX4_become_9 ?_
      refine lv_icmp_ge (tgt := 32) hx hb dX4_become_12 (by decide) (fun c12 => ?_) (fun c12 => ?_)
      · replace hf := ow_if_t c12 hf
        exact ow_vret hx hb hr hW hf dX4_become_32 hlocks
      · replace hf := ow_if_f c12 hf
        refine lv_aload_n hx hb dX4_become_15 rfl (lv_at hl 0 rfl) ?_
        refine lv_aload_n hx hb dX4_become_16 rfl (lv_at hl 1 rfl) ?_
        refine ow_getV (ci := 4) (C := RX4) (T := TX4) (N := 2) hx hb hts hown hG hW hr1 (by decide) rfl hinX4 0 (by decide) (fk := 2) rfl (hts (.fieldLink RX4 9 "FiftyOneCards$Row" "cards" "[I") (by decide +kernel)) (v := .ref (ow_ad Z (r1 + 1))) (ow_vR hW hr1.1 hr1.2.1 (ow_row hr1).1) dX4_become_17 ?_
        refine lv_iload_n hx hb dX4_become_20 rfl (lv_at hl 2 rfl) ?_
        obtain ⟨q21, hf⟩ := ow_ck_i hf
        refine ow_ild (q := x2.toNatClampNeg) hx hb hG hW (ow_row hr1).2.1 (ow_row hr1).2.2 q21 rfl dX4_become_21 ?_
        obtain ⟨r_22, σ_22, hc22, hf⟩ := ow_cl_i hf
        refine ow_callz (va_runV (As := [.int (σ.1 (r1 + 1) x2.toNatClampNeg)]) (rest := []) ⟨hx, hb, hml, hown, hts⟩ (c_X4_add l Z fu r0 hr0 (σ.1 (r1 + 1) x2.toNatClampNeg) σ r_22 σ_22 hc22) (cwV 1 hts gX4_become_X4_add rfl rfl rfl (by decide +kernel) ⟨Nat.le_of_ble_eq_true rfl, Nat.le_of_ble_eq_true rfl⟩) (ow_preV hG hW hr0 (by decide) rfl) rfl rfl hl.1 rfl (lv_room (Nat.le_of_ble_eq_true rfl)) dX4_become_22 ⟨Nat.zero_le _, Nat.zero_le _⟩) hW (fun b22 H locs hW => ?_)
        refine lv_pop hx hb dX4_become_25 rfl ?_
        refine ow_iinc (d := 1) (lv' := fun z => [(2, .int z), (0, .ref (ow_ad Z r0)), (1, .ref (ow_ad Z r1))]) hx hb hf dX4_become_26 hl (k := 2) rfl (by decide) (by decide) (fun z => rfl) (fun x2_26 hf ls hl => ?_)
        refine lv_goto (tgt := 7) hx hb dX4_become_29 (by decide) ?_
        exact ih r0 hr0 r1 hr1 x2_26 σ_22 _ _ _ hf hW (lv_sub hl [1, 2, 0] rfl)
  have hl := lv_entry ([.ref (ow_ad Z h), .ref (ow_ad Z a1)]) (n := 3) (Nat.le_of_ble_eq_true rfl)
  refine W.eq (g2 := F0 m 0 ((lg_sl ([.ref (ow_ad Z h), .ref (ow_ad Z a1)]) ++ List.replicate (3 - (lg_sl ([.ref (ow_ad Z h), .ref (ow_ad Z a1)])).length) Slot.unset).toArray) []) (by rw [hav]; exact lg_entry_eq _ _ _) ?_
  generalize (lg_sl ([.ref (ow_ad Z h), .ref (ow_ad Z a1)]) ++ List.replicate (3 - (lg_sl ([.ref (ow_ad Z h), .ref (ow_ad Z a1)])).length) Slot.unset).toArray = ls at hl ⊢
  have hl : lv_has ls 3 [(0, .ref (ow_ad Z h)), (1, .ref (ow_ad Z a1))] := hl
  unfold f_X4_become at hf
  refine lv_aload_n hx hb dX4_become_0 rfl (lv_at hl 0 rfl) ?_
  refine lv_iconst (v := 0) hx hb dX4_become_1 (by decide) ?_
  refine ow_putI (ci := 4) (C := RX4) (T := TX4) (N := 2) hx hb hts hown hG hW hh (by decide) rfl hinX4 tyX4 tyX4_ok nmX4 1 (by decide) rfl (hts (.fieldLink RX4 15 "FiftyOneCards$Row" "size" "I") (by decide +kernel)) rfl rfl rfl hf dX4_become_2 (fun σ_2 H locs hf hW => ?_)
  refine lv_iconst (v := 0) hx hb dX4_become_5 (by decide) ?_
  refine lv_istore_n (lv' := [(2, .int (0 : Int32)), (0, .ref (ow_ad Z h)), (1, .ref (ow_ad Z a1))]) hx hb dX4_become_6 rfl hl (by decide) rfl (fun ls hl => ?_)
  exact hJ7 fu h hh a1 ha1 (0 : Int32) σ_2 _ _ _ hf hW (lv_sub hl [1, 2, 0] rfl)
set_option maxHeartbeats 40000000 in
set_option maxRecDepth 100000 in
theorem c_X4_becomeAllBut (l : Launch) (Z : ow_Z) (fu : Nat) (h : Nat) (hh : ow_in 0 56 h 4) (a1 : Int32) (a2 : Int32) (a3 : Int32) (σ : ow_S) (σr : ow_S) (hf : f_X4_becomeAllBut fu h a1 a2 a3 σ = some σr) : Met l yX4_becomeAllBut wsX4_becomeAllBut { frames := 2, cells := 0, slots := 0, locals := 81 } (ow_Pc Z 0 56 [.ref (ow_ad Z h), .int a1, .int a2, .int a3] σ) (ow_Qv Z 0 56 σr) 0 0 (ow_A Z 0 56) := by
  refine Met.ofW (cc := cX4_becomeAllBut) (maxL := 6) (ret := none) (by decide) rfl ?_
  intro p e s m args below meth c s₁ B hml hv
  obtain ⟨hav, hB⟩ := hv
  obtain ⟨hG, hW⟩ := ow_begin hB
  have hx := B.exec
  have hb := B.bytes
  have hr := B.returns
  have hts := atoms_spec (ws := wsX4_becomeAllBut) B.pre
  have hown : s.vm.findClass RX4 = some m.cls := findClass_of_methodNamed B.named
  have hlocks := B.notSynchronized
  have hinX4 : ∀ w ∈ wsX40, w ∈ wsX4_becomeAllBut := by decide +kernel
  have hJ44 : ∀ (k8 : Nat → Int32 → Int32 → Int32 → Int32 → ow_S → Option (ow_S)) (hk8 : ∀ (r0 : Nat) (hr0 : ow_in 0 56 r0 4) (x1 : Int32) (x2 : Int32) (x3 : Int32) (x4 : Int32) (σ : ow_S) (H : Heap) (locs : List Loc) (ls : Array Slot), k8 r0 x1 x2 x3 x4 σ = some σr → ow_Wd Z 0 56 σ s H locs → lv_has ls 6 [(0, .ref (ow_ad Z r0)), (1, .int x1), (2, .int x2), (3, .int x3), (4, .int x4)] → W p l e (headSpec wsX4_becomeAllBut { frames := 2, cells := 0, slots := 0, locals := 81 }).room s m args below meth c H locs 0 0 (MQ below (ow_Qv Z 0 56 σr) args s 0 0 (ow_A Z 0 56)) (F0 m 8 ls [])), ∀ (r0 : Nat) (hr0 : ow_in 0 56 r0 4) (x1 : Int32) (x2 : Int32) (x3 : Int32) (x4 : Int32) (σ : ow_S) (H : Heap) (locs : List Loc) (ls : Array Slot), L_X4_becomeAllBut_44 fu k8 r0 x1 x2 x3 x4 σ = some σr → ow_Wd Z 0 56 σ s H locs → lv_has ls 6 [(0, .ref (ow_ad Z r0)), (1, .int x1), (2, .int x2), (3, .int x3), (4, .int x4)] → W p l e (headSpec wsX4_becomeAllBut { frames := 2, cells := 0, slots := 0, locals := 81 }).room s m args below meth c H locs 0 0 (MQ below (ow_Qv Z 0 56 σr) args s 0 0 (ow_A Z 0 56)) (F0 m 44 ls []) := by
    intro k8 hk8 r0 hr0 x1 x2 x3 x4 σ H locs ls hf hW hl
    unfold L_X4_becomeAllBut_44 at hf
    refine ow_iinc (d := 1) (lv' := fun z => [(4, .int z), (0, .ref (ow_ad Z r0)), (1, .int x1), (2, .int x2), (3, .int x3)]) hx hb hf dX4_becomeAllBut_44 hl (k := 4) rfl (by decide) (by decide) (fun z => rfl) (fun x4_44 hf ls hl => ?_)
    refine lv_goto (tgt := 8) hx hb dX4_becomeAllBut_47 (by decide) ?_
    exact hk8 r0 hr0 x1 x2 x3 x4_44 σ _ _ _ hf hW (lv_sub hl [1, 2, 3, 4, 0] rfl)
  have hJ29 : ∀ (k8 : Nat → Int32 → Int32 → Int32 → Int32 → ow_S → Option (ow_S)) (hk8 : ∀ (r0 : Nat) (hr0 : ow_in 0 56 r0 4) (x1 : Int32) (x2 : Int32) (x3 : Int32) (x4 : Int32) (σ : ow_S) (H : Heap) (locs : List Loc) (ls : Array Slot), k8 r0 x1 x2 x3 x4 σ = some σr → ow_Wd Z 0 56 σ s H locs → lv_has ls 6 [(0, .ref (ow_ad Z r0)), (1, .int x1), (2, .int x2), (3, .int x3), (4, .int x4)] → W p l e (headSpec wsX4_becomeAllBut { frames := 2, cells := 0, slots := 0, locals := 81 }).room s m args below meth c H locs 0 0 (MQ below (ow_Qv Z 0 56 σr) args s 0 0 (ow_A Z 0 56)) (F0 m 8 ls [])), ∀ (r0 : Nat) (hr0 : ow_in 0 56 r0 4) (x1 : Int32) (x2 : Int32) (x3 : Int32) (x4 : Int32) (s0 : Int32) (σ : ow_S) (H : Heap) (locs : List Loc) (ls : Array Slot), L_X4_becomeAllBut_29 fu k8 r0 x1 x2 x3 x4 s0 σ = some σr → ow_Wd Z 0 56 σ s H locs → lv_has ls 6 [(0, .ref (ow_ad Z r0)), (1, .int x1), (2, .int x2), (3, .int x3), (4, .int x4)] → W p l e (headSpec wsX4_becomeAllBut { frames := 2, cells := 0, slots := 0, locals := 81 }).room s m args below meth c H locs 0 0 (MQ below (ow_Qv Z 0 56 σr) args s 0 0 (ow_A Z 0 56)) (F0 m 29 ls [.int s0]) := by
    intro k8 hk8 r0 hr0 x1 x2 x3 x4 s0 σ H locs ls hf hW hl
    unfold L_X4_becomeAllBut_29 at hf
    refine lv_istore (lv' := [(5, .int s0), (0, .ref (ow_ad Z r0)), (1, .int x1), (2, .int x2), (3, .int x3), (4, .int x4)]) hx hb dX4_becomeAllBut_29 hl (by decide) rfl (fun ls hl => ?_)
    refine lv_iload hx hb dX4_becomeAllBut_31 (lv_at hl 0 rfl) ?_
    refine lv_iload_n hx hb dX4_becomeAllBut_33 rfl (lv_at hl 2 rfl) ?_
    refine lv_icmp_eq (tgt := 44) hx hb dX4_becomeAllBut_34 (by decide) (fun c34 => ?_) (fun c34 => ?_)
    · replace hf := ow_if_t c34 hf
      exact hJ44 k8 hk8 r0 hr0 x1 x2 x3 x4 σ _ _ _ hf hW (lv_sub hl [1, 2, 3, 4, 5] rfl)
    · replace hf := ow_if_f c34 hf
      refine lv_aload_n hx hb dX4_becomeAllBut_37 rfl (lv_at hl 1 rfl) ?_
      refine lv_iload hx hb dX4_becomeAllBut_38 (lv_at hl 0 rfl) ?_
      obtain ⟨r_40, σ_40, hc40, hf⟩ := ow_cl_i hf
      refine ow_callz (va_runV (As := [.int s0]) (rest := []) ⟨hx, hb, hml, hown, hts⟩ (c_X4_add l Z fu r0 hr0 s0 σ r_40 σ_40 hc40) (cwV 1 hts gX4_becomeAllBut_X4_add rfl rfl rfl (by decide +kernel) ⟨Nat.le_of_ble_eq_true rfl, Nat.le_of_ble_eq_true rfl⟩) (ow_preV hG hW hr0 (by decide) rfl) rfl rfl hl.1 rfl (lv_room (Nat.le_of_ble_eq_true rfl)) dX4_becomeAllBut_40 ⟨Nat.zero_le _, Nat.zero_le _⟩) hW (fun b40 H locs hW => ?_)
      refine lv_pop hx hb dX4_becomeAllBut_43 rfl ?_
      exact hJ44 k8 hk8 r0 hr0 x1 x2 x3 x4 σ_40 _ _ _ hf hW (lv_sub hl [1, 2, 3, 4, 5] rfl)
  have hJ8 : ∀ (fn : Nat), ∀ (r0 : Nat) (hr0 : ow_in 0 56 r0 4) (x1 : Int32) (x2 : Int32) (x3 : Int32) (x4 : Int32) (σ : ow_S) (H : Heap) (locs : List Loc) (ls : Array Slot), L_X4_becomeAllBut_8 fu fn r0 x1 x2 x3 x4 σ = some σr → ow_Wd Z 0 56 σ s H locs → lv_has ls 6 [(0, .ref (ow_ad Z r0)), (1, .int x1), (2, .int x2), (3, .int x3), (4, .int x4)] → W p l e (headSpec wsX4_becomeAllBut { frames := 2, cells := 0, slots := 0, locals := 81 }).room s m args below meth c H locs 0 0 (MQ below (ow_Qv Z 0 56 σr) args s 0 0 (ow_A Z 0 56)) (F0 m 8 ls []) := by
    intro fn
    induction fn with
    | zero => intro r0 hr0 x1 x2 x3 x4 σ H locs ls hf hW hl; simp [L_X4_becomeAllBut_8] at hf
    | succ fn ih =>
      intro r0 hr0 x1 x2 x3 x4 σ H locs ls hf hW hl
      rw [L_X4_becomeAllBut_8] at hf
      refine lv_iload hx hb dX4_becomeAllBut_8 (lv_at hl 4 rfl) ?_
      refine lv_iload_n hx hb dX4_becomeAllBut_10 rfl (lv_at hl 2 rfl) ?_
      refine lv_icmp_gt (tgt := 50) hx hb dX4_becomeAllBut_11 (by decide) (fun c11 => ?_) (fun c11 => ?_)
      · replace hf := ow_if_t c11 hf
        exact ow_vret hx hb hr hW hf dX4_becomeAllBut_50 hlocks
      · replace hf := ow_if_f c11 hf
        refine lv_iload_n hx hb dX4_becomeAllBut_14 rfl (lv_at hl 3 rfl) ?_
        refine lv_if_ne (tgt := 23) hx hb dX4_becomeAllBut_15 (by decide) (fun c15 => ?_) (fun c15 => ?_)
        · replace hf := ow_if_f c15 hf
          refine lv_iload_n hx hb dX4_becomeAllBut_23 rfl (lv_at hl 2 rfl) ?_
          refine lv_iconst (v := 1) hx hb dX4_becomeAllBut_24 (by decide) ?_
          refine lv_iadd hx hb dX4_becomeAllBut_25 ?_
          refine lv_iload hx hb dX4_becomeAllBut_26 (lv_at hl 4 rfl) ?_
          refine lv_isub hx hb dX4_becomeAllBut_28 ?_
          exact hJ29 (L_X4_becomeAllBut_8 fu fn) ih r0 hr0 x1 x2 x3 x4 ((x2 + (1 : Int32)) - x4) σ _ _ _ hf hW (lv_sub hl [0, 1, 2, 3, 4] rfl)
        · replace hf := ow_if_t c15 hf
          refine lv_iload hx hb dX4_becomeAllBut_18 (lv_at hl 4 rfl) ?_
          refine lv_goto (tgt := 29) hx hb dX4_becomeAllBut_20 (by decide) ?_
          exact hJ29 (L_X4_becomeAllBut_8 fu fn) ih r0 hr0 x1 x2 x3 x4 x4 σ _ _ _ hf hW (lv_sub hl [0, 1, 2, 3, 4] rfl)
  have hl := lv_entry ([.ref (ow_ad Z h), .int a1, .int a2, .int a3]) (n := 6) (Nat.le_of_ble_eq_true rfl)
  refine W.eq (g2 := F0 m 0 ((lg_sl ([.ref (ow_ad Z h), .int a1, .int a2, .int a3]) ++ List.replicate (6 - (lg_sl ([.ref (ow_ad Z h), .int a1, .int a2, .int a3])).length) Slot.unset).toArray) []) (by rw [hav]; exact lg_entry_eq _ _ _) ?_
  generalize (lg_sl ([.ref (ow_ad Z h), .int a1, .int a2, .int a3]) ++ List.replicate (6 - (lg_sl ([.ref (ow_ad Z h), .int a1, .int a2, .int a3])).length) Slot.unset).toArray = ls at hl ⊢
  have hl : lv_has ls 6 [(0, .ref (ow_ad Z h)), (1, .int a1), (2, .int a2), (3, .int a3)] := hl
  unfold f_X4_becomeAllBut at hf
  refine lv_aload_n hx hb dX4_becomeAllBut_0 rfl (lv_at hl 0 rfl) ?_
  refine lv_iconst (v := 0) hx hb dX4_becomeAllBut_1 (by decide) ?_
  refine ow_putI (ci := 4) (C := RX4) (T := TX4) (N := 2) hx hb hts hown hG hW hh (by decide) rfl hinX4 tyX4 tyX4_ok nmX4 1 (by decide) rfl (hts (.fieldLink RX4 15 "FiftyOneCards$Row" "size" "I") (by decide +kernel)) rfl rfl rfl hf dX4_becomeAllBut_2 (fun σ_2 H locs hf hW => ?_)
  refine lv_iconst (v := 1) hx hb dX4_becomeAllBut_5 (by decide) ?_
  refine lv_istore (lv' := [(4, .int (1 : Int32)), (0, .ref (ow_ad Z h)), (1, .int a1), (2, .int a2), (3, .int a3)]) hx hb dX4_becomeAllBut_6 hl (by decide) rfl (fun ls hl => ?_)
  exact hJ8 fu h hh a1 a2 a3 (1 : Int32) σ_2 _ _ _ hf hW (lv_sub hl [1, 2, 3, 4, 0] rfl)
set_option maxHeartbeats 40000000 in
set_option maxRecDepth 100000 in
theorem c_X4_becomeWithout (l : Launch) (Z : ow_Z) (fu : Nat) (h : Nat) (hh : ow_in 0 56 h 4) (a1 : Nat) (ha1 : ow_in 0 56 a1 4) (a2 : Int32) (σ : ow_S) (σr : ow_S) (hf : f_X4_becomeWithout fu h a1 a2 σ = some σr) : Met l yX4_becomeWithout wsX4_becomeWithout { frames := 2, cells := 0, slots := 0, locals := 81 } (ow_Pc Z 0 56 [.ref (ow_ad Z h), .ref (ow_ad Z a1), .int a2] σ) (ow_Qv Z 0 56 σr) 0 0 (ow_A Z 0 56) := by
  refine Met.ofW (cc := cX4_becomeWithout) (maxL := 4) (ret := none) (by decide) rfl ?_
  intro p e s m args below meth c s₁ B hml hv
  obtain ⟨hav, hB⟩ := hv
  obtain ⟨hG, hW⟩ := ow_begin hB
  have hx := B.exec
  have hb := B.bytes
  have hr := B.returns
  have hts := atoms_spec (ws := wsX4_becomeWithout) B.pre
  have hown : s.vm.findClass RX4 = some m.cls := findClass_of_methodNamed B.named
  have hlocks := B.notSynchronized
  have hinX4 : ∀ w ∈ wsX40, w ∈ wsX4_becomeWithout := by decide +kernel
  have hJ31 : ∀ (k7 : Nat → Nat → Int32 → Int32 → ow_S → Option (ow_S)) (hk7 : ∀ (r0 : Nat) (hr0 : ow_in 0 56 r0 4) (r1 : Nat) (hr1 : ow_in 0 56 r1 4) (x2 : Int32) (x3 : Int32) (σ : ow_S) (H : Heap) (locs : List Loc) (ls : Array Slot), k7 r0 r1 x2 x3 σ = some σr → ow_Wd Z 0 56 σ s H locs → lv_has ls 4 [(0, .ref (ow_ad Z r0)), (1, .ref (ow_ad Z r1)), (2, .int x2), (3, .int x3)] → W p l e (headSpec wsX4_becomeWithout { frames := 2, cells := 0, slots := 0, locals := 81 }).room s m args below meth c H locs 0 0 (MQ below (ow_Qv Z 0 56 σr) args s 0 0 (ow_A Z 0 56)) (F0 m 7 ls [])), ∀ (r0 : Nat) (hr0 : ow_in 0 56 r0 4) (r1 : Nat) (hr1 : ow_in 0 56 r1 4) (x2 : Int32) (x3 : Int32) (σ : ow_S) (H : Heap) (locs : List Loc) (ls : Array Slot), L_X4_becomeWithout_31 fu k7 r0 r1 x2 x3 σ = some σr → ow_Wd Z 0 56 σ s H locs → lv_has ls 4 [(0, .ref (ow_ad Z r0)), (1, .ref (ow_ad Z r1)), (2, .int x2), (3, .int x3)] → W p l e (headSpec wsX4_becomeWithout { frames := 2, cells := 0, slots := 0, locals := 81 }).room s m args below meth c H locs 0 0 (MQ below (ow_Qv Z 0 56 σr) args s 0 0 (ow_A Z 0 56)) (F0 m 31 ls []) := by
    intro k7 hk7 r0 hr0 r1 hr1 x2 x3 σ H locs ls hf hW hl
    unfold L_X4_becomeWithout_31 at hf
    refine ow_iinc (d := 1) (lv' := fun z => [(3, .int z), (0, .ref (ow_ad Z r0)), (1, .ref (ow_ad Z r1)), (2, .int x2)]) hx hb hf dX4_becomeWithout_31 hl (k := 3) rfl (by decide) (by decide) (fun z => rfl) (fun x3_31 hf ls hl => ?_)
    refine lv_goto (tgt := 7) hx hb dX4_becomeWithout_34 (by decide) ?_
    exact hk7 r0 hr0 r1 hr1 x2 x3_31 σ _ _ _ hf hW (lv_sub hl [1, 2, 3, 0] rfl)
  have hJ7 : ∀ (fn : Nat), ∀ (r0 : Nat) (hr0 : ow_in 0 56 r0 4) (r1 : Nat) (hr1 : ow_in 0 56 r1 4) (x2 : Int32) (x3 : Int32) (σ : ow_S) (H : Heap) (locs : List Loc) (ls : Array Slot), L_X4_becomeWithout_7 fu fn r0 r1 x2 x3 σ = some σr → ow_Wd Z 0 56 σ s H locs → lv_has ls 4 [(0, .ref (ow_ad Z r0)), (1, .ref (ow_ad Z r1)), (2, .int x2), (3, .int x3)] → W p l e (headSpec wsX4_becomeWithout { frames := 2, cells := 0, slots := 0, locals := 81 }).room s m args below meth c H locs 0 0 (MQ below (ow_Qv Z 0 56 σr) args s 0 0 (ow_A Z 0 56)) (F0 m 7 ls []) := by
    intro fn
    induction fn with
    | zero => intro r0 hr0 r1 hr1 x2 x3 σ H locs ls hf hW hl; simp [L_X4_becomeWithout_7] at hf
    | succ fn ih =>
      intro r0 hr0 r1 hr1 x2 x3 σ H locs ls hf hW hl
      rw [L_X4_becomeWithout_7] at hf
      refine lv_iload_n hx hb dX4_becomeWithout_7 rfl (lv_at hl 3 rfl) ?_
      refine lv_aload_n hx hb dX4_becomeWithout_8 rfl (lv_at hl 1 rfl) ?_
      refine ow_getV (ci := 4) (C := RX4) (T := TX4) (N := 2) hx hb hts hown hG hW hr1 (by decide) rfl hinX4 1 (by decide) (fk := 0) rfl (hts (.fieldLink RX4 15 "FiftyOneCards$Row" "size" "I") (by decide +kernel)) (v := .int (σ.1 r1 1)) rfl dX4_becomeWithout_9 ?_
      refine lv_icmp_ge (tgt := 37) hx hb dX4_becomeWithout_12 (by decide) (fun c12 => ?_) (fun c12 => ?_)
      · replace hf := ow_if_t c12 hf
        exact ow_vret hx hb hr hW hf dX4_becomeWithout_37 hlocks
      · replace hf := ow_if_f c12 hf
        refine lv_iload_n hx hb dX4_becomeWithout_15 rfl (lv_at hl 3 rfl) ?_
        refine lv_iload_n hx hb dX4_becomeWithout_16 rfl (lv_at hl 2 rfl) ?_
        refine lv_icmp_eq (tgt := 31) hx hb dX4_becomeWithout_17 (by decide) (fun c17 => ?_) (fun c17 => ?_)
        · replace hf := ow_if_t c17 hf
          exact hJ31 (L_X4_becomeWithout_7 fu fn) ih r0 hr0 r1 hr1 x2 x3 σ _ _ _ hf hW (lv_sub hl [0, 1, 2, 3] rfl)
        · replace hf := ow_if_f c17 hf
          refine lv_aload_n hx hb dX4_becomeWithout_20 rfl (lv_at hl 0 rfl) ?_
          refine lv_aload_n hx hb dX4_becomeWithout_21 rfl (lv_at hl 1 rfl) ?_
          refine ow_getV (ci := 4) (C := RX4) (T := TX4) (N := 2) hx hb hts hown hG hW hr1 (by decide) rfl hinX4 0 (by decide) (fk := 2) rfl (hts (.fieldLink RX4 9 "FiftyOneCards$Row" "cards" "[I") (by decide +kernel)) (v := .ref (ow_ad Z (r1 + 1))) (ow_vR hW hr1.1 hr1.2.1 (ow_row hr1).1) dX4_becomeWithout_22 ?_
          refine lv_iload_n hx hb dX4_becomeWithout_25 rfl (lv_at hl 3 rfl) ?_
          obtain ⟨q26, hf⟩ := ow_ck_i hf
          refine ow_ild (q := x3.toNatClampNeg) hx hb hG hW (ow_row hr1).2.1 (ow_row hr1).2.2 q26 rfl dX4_becomeWithout_26 ?_
          obtain ⟨r_27, σ_27, hc27, hf⟩ := ow_cl_i hf
          refine ow_callz (va_runV (As := [.int (σ.1 (r1 + 1) x3.toNatClampNeg)]) (rest := []) ⟨hx, hb, hml, hown, hts⟩ (c_X4_add l Z fu r0 hr0 (σ.1 (r1 + 1) x3.toNatClampNeg) σ r_27 σ_27 hc27) (cwV 1 hts gX4_becomeWithout_X4_add rfl rfl rfl (by decide +kernel) ⟨Nat.le_of_ble_eq_true rfl, Nat.le_of_ble_eq_true rfl⟩) (ow_preV hG hW hr0 (by decide) rfl) rfl rfl hl.1 rfl (lv_room (Nat.le_of_ble_eq_true rfl)) dX4_becomeWithout_27 ⟨Nat.zero_le _, Nat.zero_le _⟩) hW (fun b27 H locs hW => ?_)
          refine lv_pop hx hb dX4_becomeWithout_30 rfl ?_
          exact hJ31 (L_X4_becomeWithout_7 fu fn) ih r0 hr0 r1 hr1 x2 x3 σ_27 _ _ _ hf hW (lv_sub hl [0, 1, 2, 3] rfl)
  have hl := lv_entry ([.ref (ow_ad Z h), .ref (ow_ad Z a1), .int a2]) (n := 4) (Nat.le_of_ble_eq_true rfl)
  refine W.eq (g2 := F0 m 0 ((lg_sl ([.ref (ow_ad Z h), .ref (ow_ad Z a1), .int a2]) ++ List.replicate (4 - (lg_sl ([.ref (ow_ad Z h), .ref (ow_ad Z a1), .int a2])).length) Slot.unset).toArray) []) (by rw [hav]; exact lg_entry_eq _ _ _) ?_
  generalize (lg_sl ([.ref (ow_ad Z h), .ref (ow_ad Z a1), .int a2]) ++ List.replicate (4 - (lg_sl ([.ref (ow_ad Z h), .ref (ow_ad Z a1), .int a2])).length) Slot.unset).toArray = ls at hl ⊢
  have hl : lv_has ls 4 [(0, .ref (ow_ad Z h)), (1, .ref (ow_ad Z a1)), (2, .int a2)] := hl
  unfold f_X4_becomeWithout at hf
  refine lv_aload_n hx hb dX4_becomeWithout_0 rfl (lv_at hl 0 rfl) ?_
  refine lv_iconst (v := 0) hx hb dX4_becomeWithout_1 (by decide) ?_
  refine ow_putI (ci := 4) (C := RX4) (T := TX4) (N := 2) hx hb hts hown hG hW hh (by decide) rfl hinX4 tyX4 tyX4_ok nmX4 1 (by decide) rfl (hts (.fieldLink RX4 15 "FiftyOneCards$Row" "size" "I") (by decide +kernel)) rfl rfl rfl hf dX4_becomeWithout_2 (fun σ_2 H locs hf hW => ?_)
  refine lv_iconst (v := 0) hx hb dX4_becomeWithout_5 (by decide) ?_
  refine lv_istore_n (lv' := [(3, .int (0 : Int32)), (0, .ref (ow_ad Z h)), (1, .ref (ow_ad Z a1)), (2, .int a2)]) hx hb dX4_becomeWithout_6 rfl hl (by decide) rfl (fun ls hl => ?_)
  exact hJ7 fu h hh a1 ha1 a2 (0 : Int32) σ_2 _ _ _ hf hW (lv_sub hl [1, 2, 3, 0] rfl)
set_option maxHeartbeats 40000000 in
set_option maxRecDepth 100000 in
theorem c_X4_becomeEverySecond (l : Launch) (Z : ow_Z) (fu : Nat) (h : Nat) (hh : ow_in 0 56 h 4) (a1 : Nat) (ha1 : ow_in 0 56 a1 4) (a2 : Int32) (σ : ow_S) (σr : ow_S) (hf : f_X4_becomeEverySecond fu h a1 a2 σ = some σr) : Met l yX4_becomeEverySecond wsX4_becomeEverySecond { frames := 2, cells := 0, slots := 0, locals := 81 } (ow_Pc Z 0 56 [.ref (ow_ad Z h), .ref (ow_ad Z a1), .int a2] σ) (ow_Qv Z 0 56 σr) 0 0 (ow_A Z 0 56) := by
  refine Met.ofW (cc := cX4_becomeEverySecond) (maxL := 4) (ret := none) (by decide) rfl ?_
  intro p e s m args below meth c s₁ B hml hv
  obtain ⟨hav, hB⟩ := hv
  obtain ⟨hG, hW⟩ := ow_begin hB
  have hx := B.exec
  have hb := B.bytes
  have hr := B.returns
  have hts := atoms_spec (ws := wsX4_becomeEverySecond) B.pre
  have hown : s.vm.findClass RX4 = some m.cls := findClass_of_methodNamed B.named
  have hlocks := B.notSynchronized
  have hinX4 : ∀ w ∈ wsX40, w ∈ wsX4_becomeEverySecond := by decide +kernel
  have hJ33 : ∀ (k7 : Nat → Nat → Int32 → Int32 → ow_S → Option (ow_S)) (hk7 : ∀ (r0 : Nat) (hr0 : ow_in 0 56 r0 4) (r1 : Nat) (hr1 : ow_in 0 56 r1 4) (x2 : Int32) (x3 : Int32) (σ : ow_S) (H : Heap) (locs : List Loc) (ls : Array Slot), k7 r0 r1 x2 x3 σ = some σr → ow_Wd Z 0 56 σ s H locs → lv_has ls 4 [(0, .ref (ow_ad Z r0)), (1, .ref (ow_ad Z r1)), (2, .int x2), (3, .int x3)] → W p l e (headSpec wsX4_becomeEverySecond { frames := 2, cells := 0, slots := 0, locals := 81 }).room s m args below meth c H locs 0 0 (MQ below (ow_Qv Z 0 56 σr) args s 0 0 (ow_A Z 0 56)) (F0 m 7 ls [])), ∀ (r0 : Nat) (hr0 : ow_in 0 56 r0 4) (r1 : Nat) (hr1 : ow_in 0 56 r1 4) (x2 : Int32) (x3 : Int32) (σ : ow_S) (H : Heap) (locs : List Loc) (ls : Array Slot), L_X4_becomeEverySecond_33 fu k7 r0 r1 x2 x3 σ = some σr → ow_Wd Z 0 56 σ s H locs → lv_has ls 4 [(0, .ref (ow_ad Z r0)), (1, .ref (ow_ad Z r1)), (2, .int x2), (3, .int x3)] → W p l e (headSpec wsX4_becomeEverySecond { frames := 2, cells := 0, slots := 0, locals := 81 }).room s m args below meth c H locs 0 0 (MQ below (ow_Qv Z 0 56 σr) args s 0 0 (ow_A Z 0 56)) (F0 m 33 ls []) := by
    intro k7 hk7 r0 hr0 r1 hr1 x2 x3 σ H locs ls hf hW hl
    unfold L_X4_becomeEverySecond_33 at hf
    refine ow_iinc (d := 1) (lv' := fun z => [(3, .int z), (0, .ref (ow_ad Z r0)), (1, .ref (ow_ad Z r1)), (2, .int x2)]) hx hb hf dX4_becomeEverySecond_33 hl (k := 3) rfl (by decide) (by decide) (fun z => rfl) (fun x3_33 hf ls hl => ?_)
    refine lv_goto (tgt := 7) hx hb dX4_becomeEverySecond_36 (by decide) ?_
    exact hk7 r0 hr0 r1 hr1 x2 x3_33 σ _ _ _ hf hW (lv_sub hl [1, 2, 3, 0] rfl)
  have hJ7 : ∀ (fn : Nat), ∀ (r0 : Nat) (hr0 : ow_in 0 56 r0 4) (r1 : Nat) (hr1 : ow_in 0 56 r1 4) (x2 : Int32) (x3 : Int32) (σ : ow_S) (H : Heap) (locs : List Loc) (ls : Array Slot), L_X4_becomeEverySecond_7 fu fn r0 r1 x2 x3 σ = some σr → ow_Wd Z 0 56 σ s H locs → lv_has ls 4 [(0, .ref (ow_ad Z r0)), (1, .ref (ow_ad Z r1)), (2, .int x2), (3, .int x3)] → W p l e (headSpec wsX4_becomeEverySecond { frames := 2, cells := 0, slots := 0, locals := 81 }).room s m args below meth c H locs 0 0 (MQ below (ow_Qv Z 0 56 σr) args s 0 0 (ow_A Z 0 56)) (F0 m 7 ls []) := by
    intro fn
    induction fn with
    | zero => intro r0 hr0 r1 hr1 x2 x3 σ H locs ls hf hW hl; simp [L_X4_becomeEverySecond_7] at hf
    | succ fn ih =>
      intro r0 hr0 r1 hr1 x2 x3 σ H locs ls hf hW hl
      rw [L_X4_becomeEverySecond_7] at hf
      refine lv_iload_n hx hb dX4_becomeEverySecond_7 rfl (lv_at hl 3 rfl) ?_
      refine lv_aload_n hx hb dX4_becomeEverySecond_8 rfl (lv_at hl 1 rfl) ?_
      refine ow_getV (ci := 4) (C := RX4) (T := TX4) (N := 2) hx hb hts hown hG hW hr1 (by decide) rfl hinX4 1 (by decide) (fk := 0) rfl (hts (.fieldLink RX4 15 "FiftyOneCards$Row" "size" "I") (by decide +kernel)) (v := .int (σ.1 r1 1)) rfl dX4_becomeEverySecond_9 ?_
      refine lv_icmp_ge (tgt := 39) hx hb dX4_becomeEverySecond_12 (by decide) (fun c12 => ?_) (fun c12 => ?_)
      · replace hf := ow_if_t c12 hf
        exact ow_vret hx hb hr hW hf dX4_becomeEverySecond_39 hlocks
      · replace hf := ow_if_f c12 hf
        refine lv_iload_n hx hb dX4_becomeEverySecond_15 rfl (lv_at hl 3 rfl) ?_
        refine lv_iconst (v := 2) hx hb dX4_becomeEverySecond_16 (by decide) ?_
        refine ow_r_irem hx hb dX4_becomeEverySecond_17 (by decide) ?_
        refine lv_iload_n hx hb dX4_becomeEverySecond_18 rfl (lv_at hl 2 rfl) ?_
        refine lv_icmp_ne (tgt := 33) hx hb dX4_becomeEverySecond_19 (by decide) (fun c19 => ?_) (fun c19 => ?_)
        · replace hf := ow_if_f c19 hf
          exact hJ33 (L_X4_becomeEverySecond_7 fu fn) ih r0 hr0 r1 hr1 x2 x3 σ _ _ _ hf hW (lv_sub hl [0, 1, 2, 3] rfl)
        · replace hf := ow_if_t c19 hf
          refine lv_aload_n hx hb dX4_becomeEverySecond_22 rfl (lv_at hl 0 rfl) ?_
          refine lv_aload_n hx hb dX4_becomeEverySecond_23 rfl (lv_at hl 1 rfl) ?_
          refine ow_getV (ci := 4) (C := RX4) (T := TX4) (N := 2) hx hb hts hown hG hW hr1 (by decide) rfl hinX4 0 (by decide) (fk := 2) rfl (hts (.fieldLink RX4 9 "FiftyOneCards$Row" "cards" "[I") (by decide +kernel)) (v := .ref (ow_ad Z (r1 + 1))) (ow_vR hW hr1.1 hr1.2.1 (ow_row hr1).1) dX4_becomeEverySecond_24 ?_
          refine lv_iload_n hx hb dX4_becomeEverySecond_27 rfl (lv_at hl 3 rfl) ?_
          obtain ⟨q28, hf⟩ := ow_ck_i hf
          refine ow_ild (q := x3.toNatClampNeg) hx hb hG hW (ow_row hr1).2.1 (ow_row hr1).2.2 q28 rfl dX4_becomeEverySecond_28 ?_
          obtain ⟨r_29, σ_29, hc29, hf⟩ := ow_cl_i hf
          refine ow_callz (va_runV (As := [.int (σ.1 (r1 + 1) x3.toNatClampNeg)]) (rest := []) ⟨hx, hb, hml, hown, hts⟩ (c_X4_add l Z fu r0 hr0 (σ.1 (r1 + 1) x3.toNatClampNeg) σ r_29 σ_29 hc29) (cwV 1 hts gX4_becomeEverySecond_X4_add rfl rfl rfl (by decide +kernel) ⟨Nat.le_of_ble_eq_true rfl, Nat.le_of_ble_eq_true rfl⟩) (ow_preV hG hW hr0 (by decide) rfl) rfl rfl hl.1 rfl (lv_room (Nat.le_of_ble_eq_true rfl)) dX4_becomeEverySecond_29 ⟨Nat.zero_le _, Nat.zero_le _⟩) hW (fun b29 H locs hW => ?_)
          refine lv_pop hx hb dX4_becomeEverySecond_32 rfl ?_
          exact hJ33 (L_X4_becomeEverySecond_7 fu fn) ih r0 hr0 r1 hr1 x2 x3 σ_29 _ _ _ hf hW (lv_sub hl [0, 1, 2, 3] rfl)
  have hl := lv_entry ([.ref (ow_ad Z h), .ref (ow_ad Z a1), .int a2]) (n := 4) (Nat.le_of_ble_eq_true rfl)
  refine W.eq (g2 := F0 m 0 ((lg_sl ([.ref (ow_ad Z h), .ref (ow_ad Z a1), .int a2]) ++ List.replicate (4 - (lg_sl ([.ref (ow_ad Z h), .ref (ow_ad Z a1), .int a2])).length) Slot.unset).toArray) []) (by rw [hav]; exact lg_entry_eq _ _ _) ?_
  generalize (lg_sl ([.ref (ow_ad Z h), .ref (ow_ad Z a1), .int a2]) ++ List.replicate (4 - (lg_sl ([.ref (ow_ad Z h), .ref (ow_ad Z a1), .int a2])).length) Slot.unset).toArray = ls at hl ⊢
  have hl : lv_has ls 4 [(0, .ref (ow_ad Z h)), (1, .ref (ow_ad Z a1)), (2, .int a2)] := hl
  unfold f_X4_becomeEverySecond at hf
  refine lv_aload_n hx hb dX4_becomeEverySecond_0 rfl (lv_at hl 0 rfl) ?_
  refine lv_iconst (v := 0) hx hb dX4_becomeEverySecond_1 (by decide) ?_
  refine ow_putI (ci := 4) (C := RX4) (T := TX4) (N := 2) hx hb hts hown hG hW hh (by decide) rfl hinX4 tyX4 tyX4_ok nmX4 1 (by decide) rfl (hts (.fieldLink RX4 15 "FiftyOneCards$Row" "size" "I") (by decide +kernel)) rfl rfl rfl hf dX4_becomeEverySecond_2 (fun σ_2 H locs hf hW => ?_)
  refine lv_iconst (v := 0) hx hb dX4_becomeEverySecond_5 (by decide) ?_
  refine lv_istore_n (lv' := [(3, .int (0 : Int32)), (0, .ref (ow_ad Z h)), (1, .ref (ow_ad Z a1)), (2, .int a2)]) hx hb dX4_becomeEverySecond_6 rfl hl (by decide) rfl (fun ls hl => ?_)
  exact hJ7 fu h hh a1 ha1 a2 (0 : Int32) σ_2 _ _ _ hf hW (lv_sub hl [1, 2, 3, 0] rfl)
set_option maxHeartbeats 40000000 in
set_option maxRecDepth 100000 in
theorem c_X4_dropAbove (l : Launch) (Z : ow_Z) (fu : Nat) (h : Nat) (hh : ow_in 0 56 h 4) (a1 : Int32) (σ : ow_S) (σr : ow_S) (hf : f_X4_dropAbove fu h a1 σ = some σr) : Met l yX4_dropAbove wsX4_dropAbove { frames := 2, cells := 0, slots := 0, locals := 81 } (ow_Pc Z 0 56 [.ref (ow_ad Z h), .int a1] σ) (ow_Qv Z 0 56 σr) 0 0 (ow_A Z 0 56) := by
  refine Met.ofW (cc := cX4_dropAbove) (maxL := 4) (ret := none) (by decide) rfl ?_
  intro p e s m args below meth c s₁ B hml hv
  obtain ⟨hav, hB⟩ := hv
  obtain ⟨hG, hW⟩ := ow_begin hB
  have hx := B.exec
  have hb := B.bytes
  have hr := B.returns
  have hts := atoms_spec (ws := wsX4_dropAbove) B.pre
  have hown : s.vm.findClass RX4 = some m.cls := findClass_of_methodNamed B.named
  have hlocks := B.notSynchronized
  have hinX4 : ∀ w ∈ wsX40, w ∈ wsX4_dropAbove := by decide +kernel
  have hJ38 : ∀ (k12 : Nat → Int32 → Int32 → Int32 → ow_S → Option (ow_S)) (hk12 : ∀ (r0 : Nat) (hr0 : ow_in 0 56 r0 4) (x1 : Int32) (x2 : Int32) (x3 : Int32) (σ : ow_S) (H : Heap) (locs : List Loc) (ls : Array Slot), k12 r0 x1 x2 x3 σ = some σr → ow_Wd Z 0 56 σ s H locs → lv_has ls 4 [(0, .ref (ow_ad Z r0)), (1, .int x1), (2, .int x2), (3, .int x3)] → W p l e (headSpec wsX4_dropAbove { frames := 2, cells := 0, slots := 0, locals := 81 }).room s m args below meth c H locs 0 0 (MQ below (ow_Qv Z 0 56 σr) args s 0 0 (ow_A Z 0 56)) (F0 m 12 ls [])), ∀ (r0 : Nat) (hr0 : ow_in 0 56 r0 4) (x1 : Int32) (x2 : Int32) (x3 : Int32) (σ : ow_S) (H : Heap) (locs : List Loc) (ls : Array Slot), L_X4_dropAbove_38 fu k12 r0 x1 x2 x3 σ = some σr → ow_Wd Z 0 56 σ s H locs → lv_has ls 4 [(0, .ref (ow_ad Z r0)), (1, .int x1), (2, .int x2), (3, .int x3)] → W p l e (headSpec wsX4_dropAbove { frames := 2, cells := 0, slots := 0, locals := 81 }).room s m args below meth c H locs 0 0 (MQ below (ow_Qv Z 0 56 σr) args s 0 0 (ow_A Z 0 56)) (F0 m 38 ls []) := by
    intro k12 hk12 r0 hr0 x1 x2 x3 σ H locs ls hf hW hl
    unfold L_X4_dropAbove_38 at hf
    refine ow_iinc (d := 1) (lv' := fun z => [(3, .int z), (0, .ref (ow_ad Z r0)), (1, .int x1), (2, .int x2)]) hx hb hf dX4_dropAbove_38 hl (k := 3) rfl (by decide) (by decide) (fun z => rfl) (fun x3_38 hf ls hl => ?_)
    refine lv_goto (tgt := 12) hx hb dX4_dropAbove_41 (by decide) ?_
    exact hk12 r0 hr0 x1 x2 x3_38 σ _ _ _ hf hW (lv_sub hl [1, 2, 3, 0] rfl)
  have hJ12 : ∀ (fn : Nat), ∀ (r0 : Nat) (hr0 : ow_in 0 56 r0 4) (x1 : Int32) (x2 : Int32) (x3 : Int32) (σ : ow_S) (H : Heap) (locs : List Loc) (ls : Array Slot), L_X4_dropAbove_12 fu fn r0 x1 x2 x3 σ = some σr → ow_Wd Z 0 56 σ s H locs → lv_has ls 4 [(0, .ref (ow_ad Z r0)), (1, .int x1), (2, .int x2), (3, .int x3)] → W p l e (headSpec wsX4_dropAbove { frames := 2, cells := 0, slots := 0, locals := 81 }).room s m args below meth c H locs 0 0 (MQ below (ow_Qv Z 0 56 σr) args s 0 0 (ow_A Z 0 56)) (F0 m 12 ls []) := by
    intro fn
    induction fn with
    | zero => intro r0 hr0 x1 x2 x3 σ H locs ls hf hW hl; simp [L_X4_dropAbove_12] at hf
    | succ fn ih =>
      intro r0 hr0 x1 x2 x3 σ H locs ls hf hW hl
      rw [L_X4_dropAbove_12] at hf
      refine lv_iload_n hx hb dX4_dropAbove_12 rfl (lv_at hl 3 rfl) ?_
      refine lv_iload_n hx hb dX4_dropAbove_13 rfl (lv_at hl 2 rfl) ?_
      refine lv_icmp_ge (tgt := 44) hx hb dX4_dropAbove_14 (by decide) (fun c14 => ?_) (fun c14 => ?_)
      · replace hf := ow_if_t c14 hf
        exact ow_vret hx hb hr hW hf dX4_dropAbove_44 hlocks
      · replace hf := ow_if_f c14 hf
        refine lv_aload_n hx hb dX4_dropAbove_17 rfl (lv_at hl 0 rfl) ?_
        refine ow_getV (ci := 4) (C := RX4) (T := TX4) (N := 2) hx hb hts hown hG hW hr0 (by decide) rfl hinX4 0 (by decide) (fk := 2) rfl (hts (.fieldLink RX4 9 "FiftyOneCards$Row" "cards" "[I") (by decide +kernel)) (v := .ref (ow_ad Z (r0 + 1))) (ow_vR hW hr0.1 hr0.2.1 (ow_row hr0).1) dX4_dropAbove_18 ?_
        refine lv_iload_n hx hb dX4_dropAbove_21 rfl (lv_at hl 3 rfl) ?_
        obtain ⟨q22, hf⟩ := ow_ck_i hf
        refine ow_ild (q := x3.toNatClampNeg) hx hb hG hW (ow_row hr0).2.1 (ow_row hr0).2.2 q22 rfl dX4_dropAbove_22 ?_
        refine lv_iload_n hx hb dX4_dropAbove_23 rfl (lv_at hl 1 rfl) ?_
        refine lv_icmp_gt (tgt := 38) hx hb dX4_dropAbove_24 (by decide) (fun c24 => ?_) (fun c24 => ?_)
        · replace hf := ow_if_t c24 hf
          exact hJ38 (L_X4_dropAbove_12 fu fn) ih r0 hr0 x1 x2 x3 σ _ _ _ hf hW (lv_sub hl [0, 1, 2, 3] rfl)
        · replace hf := ow_if_f c24 hf
          refine lv_aload_n hx hb dX4_dropAbove_27 rfl (lv_at hl 0 rfl) ?_
          refine lv_aload_n hx hb dX4_dropAbove_28 rfl (lv_at hl 0 rfl) ?_
          refine ow_getV (ci := 4) (C := RX4) (T := TX4) (N := 2) hx hb hts hown hG hW hr0 (by decide) rfl hinX4 0 (by decide) (fk := 2) rfl (hts (.fieldLink RX4 9 "FiftyOneCards$Row" "cards" "[I") (by decide +kernel)) (v := .ref (ow_ad Z (r0 + 1))) (ow_vR hW hr0.1 hr0.2.1 (ow_row hr0).1) dX4_dropAbove_29 ?_
          refine lv_iload_n hx hb dX4_dropAbove_32 rfl (lv_at hl 3 rfl) ?_
          obtain ⟨q33, hf⟩ := ow_ck_i hf
          refine ow_ild (q := x3.toNatClampNeg) hx hb hG hW (ow_row hr0).2.1 (ow_row hr0).2.2 q33 rfl dX4_dropAbove_33 ?_
          obtain ⟨r_34, σ_34, hc34, hf⟩ := ow_cl_i hf
          refine ow_callz (va_runV (As := [.int (σ.1 (r0 + 1) x3.toNatClampNeg)]) (rest := []) ⟨hx, hb, hml, hown, hts⟩ (c_X4_add l Z fu r0 hr0 (σ.1 (r0 + 1) x3.toNatClampNeg) σ r_34 σ_34 hc34) (cwV 1 hts gX4_dropAbove_X4_add rfl rfl rfl (by decide +kernel) ⟨Nat.le_of_ble_eq_true rfl, Nat.le_of_ble_eq_true rfl⟩) (ow_preV hG hW hr0 (by decide) rfl) rfl rfl hl.1 rfl (lv_room (Nat.le_of_ble_eq_true rfl)) dX4_dropAbove_34 ⟨Nat.zero_le _, Nat.zero_le _⟩) hW (fun b34 H locs hW => ?_)
          refine lv_pop hx hb dX4_dropAbove_37 rfl ?_
          exact hJ38 (L_X4_dropAbove_12 fu fn) ih r0 hr0 x1 x2 x3 σ_34 _ _ _ hf hW (lv_sub hl [0, 1, 2, 3] rfl)
  have hl := lv_entry ([.ref (ow_ad Z h), .int a1]) (n := 4) (Nat.le_of_ble_eq_true rfl)
  refine W.eq (g2 := F0 m 0 ((lg_sl ([.ref (ow_ad Z h), .int a1]) ++ List.replicate (4 - (lg_sl ([.ref (ow_ad Z h), .int a1])).length) Slot.unset).toArray) []) (by rw [hav]; exact lg_entry_eq _ _ _) ?_
  generalize (lg_sl ([.ref (ow_ad Z h), .int a1]) ++ List.replicate (4 - (lg_sl ([.ref (ow_ad Z h), .int a1])).length) Slot.unset).toArray = ls at hl ⊢
  have hl : lv_has ls 4 [(0, .ref (ow_ad Z h)), (1, .int a1)] := hl
  unfold f_X4_dropAbove at hf
  refine lv_aload_n hx hb dX4_dropAbove_0 rfl (lv_at hl 0 rfl) ?_
  refine ow_getV (ci := 4) (C := RX4) (T := TX4) (N := 2) hx hb hts hown hG hW hh (by decide) rfl hinX4 1 (by decide) (fk := 0) rfl (hts (.fieldLink RX4 15 "FiftyOneCards$Row" "size" "I") (by decide +kernel)) (v := .int (σ.1 h 1)) rfl dX4_dropAbove_1 ?_
  refine ow_topi hf (fun x2_4 hf => ?_)
  refine lv_istore_n (lv' := [(2, .int x2_4), (0, .ref (ow_ad Z h)), (1, .int a1)]) hx hb dX4_dropAbove_4 rfl hl (by decide) rfl (fun ls hl => ?_)
  refine lv_aload_n hx hb dX4_dropAbove_5 rfl (lv_at hl 1 rfl) ?_
  refine lv_iconst (v := 0) hx hb dX4_dropAbove_6 (by decide) ?_
  refine ow_putI (ci := 4) (C := RX4) (T := TX4) (N := 2) hx hb hts hown hG hW hh (by decide) rfl hinX4 tyX4 tyX4_ok nmX4 1 (by decide) rfl (hts (.fieldLink RX4 15 "FiftyOneCards$Row" "size" "I") (by decide +kernel)) rfl rfl rfl hf dX4_dropAbove_7 (fun σ_7 H locs hf hW => ?_)
  refine lv_iconst (v := 0) hx hb dX4_dropAbove_10 (by decide) ?_
  refine lv_istore_n (lv' := [(3, .int (0 : Int32)), (2, .int x2_4), (0, .ref (ow_ad Z h)), (1, .int a1)]) hx hb dX4_dropAbove_11 rfl hl (by decide) rfl (fun ls hl => ?_)
  exact hJ12 fu h hh a1 x2_4 (0 : Int32) σ_7 _ _ _ hf hW (lv_sub hl [2, 3, 1, 0] rfl)
set_option maxHeartbeats 40000000 in
set_option maxRecDepth 100000 in
theorem c_X4_change (l : Launch) (Z : ow_Z) (fu : Nat) (h : Nat) (hh : ow_in 0 56 h 4) (a1 : Int32) (a2 : Int32) (σ : ow_S) (σr : ow_S) (hf : f_X4_change fu h a1 a2 σ = some σr) : Met l yX4_change wsX4_change { frames := 2, cells := 0, slots := 0, locals := 81 } (ow_Pc Z 0 56 [.ref (ow_ad Z h), .int a1, .int a2] σ) (ow_Qv Z 0 56 σr) 0 0 (ow_A Z 0 56) := by
  refine Met.ofW (cc := cX4_change) (maxL := 4) (ret := none) (by decide) rfl ?_
  intro p e s m args below meth c s₁ B hml hv
  obtain ⟨hav, hB⟩ := hv
  obtain ⟨hG, hW⟩ := ow_begin hB
  have hx := B.exec
  have hb := B.bytes
  have hr := B.returns
  have hts := atoms_spec (ws := wsX4_change) B.pre
  have hown : s.vm.findClass RX4 = some m.cls := findClass_of_methodNamed B.named
  have hlocks := B.notSynchronized
  have hinX4 : ∀ w ∈ wsX40, w ∈ wsX4_change := by decide +kernel
  have hl := lv_entry ([.ref (ow_ad Z h), .int a1, .int a2]) (n := 4) (Nat.le_of_ble_eq_true rfl)
  refine W.eq (g2 := F0 m 0 ((lg_sl ([.ref (ow_ad Z h), .int a1, .int a2]) ++ List.replicate (4 - (lg_sl ([.ref (ow_ad Z h), .int a1, .int a2])).length) Slot.unset).toArray) []) (by rw [hav]; exact lg_entry_eq _ _ _) ?_
  generalize (lg_sl ([.ref (ow_ad Z h), .int a1, .int a2]) ++ List.replicate (4 - (lg_sl ([.ref (ow_ad Z h), .int a1, .int a2])).length) Slot.unset).toArray = ls at hl ⊢
  have hl : lv_has ls 4 [(0, .ref (ow_ad Z h)), (1, .int a1), (2, .int a2)] := hl
  unfold f_X4_change at hf
  refine lv_aload_n hx hb dX4_change_0 rfl (lv_at hl 0 rfl) ?_
  refine lv_iload_n hx hb dX4_change_1 rfl (lv_at hl 1 rfl) ?_
  obtain ⟨r_2, σ_2, hc2, hf⟩ := ow_cl_i hf
  refine ow_callz (va_runV (As := [.int a1]) (rest := []) ⟨hx, hb, hml, hown, hts⟩ (c_X4_has l Z fu h hh a1 σ r_2 σ_2 hc2) (cwV 1 hts gX4_change_X4_has rfl rfl rfl (by decide +kernel) ⟨Nat.le_of_ble_eq_true rfl, Nat.le_of_ble_eq_true rfl⟩) (ow_preV hG hW hh (by decide) rfl) rfl rfl hl.1 rfl (lv_room (Nat.le_of_ble_eq_true rfl)) dX4_change_2 ⟨Nat.zero_le _, Nat.zero_le _⟩) hW (fun b2 H locs hW => ?_)
  refine lv_if_eq (tgt := 42) hx hb dX4_change_5 (by decide) (fun c5 => ?_) (fun c5 => ?_)
  · replace hf := ow_if_t c5 hf
    exact ow_vret hx hb hr hW hf dX4_change_42 hlocks
  · replace hf := ow_if_f c5 hf
    refine lv_aload_n hx hb dX4_change_8 rfl (lv_at hl 0 rfl) ?_
    refine lv_iload_n hx hb dX4_change_9 rfl (lv_at hl 2 rfl) ?_
    obtain ⟨r_10, σ_10, hc10, hf⟩ := ow_cl_i hf
    refine ow_callz (va_runV (As := [.int a2]) (rest := []) ⟨hx, hb, hml, hown, hts⟩ (c_X4_has l Z fu h hh a2 σ_2 r_10 σ_10 hc10) (cwV 1 hts gX4_change_X4_has rfl rfl rfl (by decide +kernel) ⟨Nat.le_of_ble_eq_true rfl, Nat.le_of_ble_eq_true rfl⟩) (ow_preV hG hW hh (by decide) rfl) rfl rfl hl.1 rfl (lv_room (Nat.le_of_ble_eq_true rfl)) dX4_change_10 ⟨Nat.zero_le _, Nat.zero_le _⟩) hW (fun b10 H locs hW => ?_)
    refine lv_if_eq (tgt := 42) hx hb dX4_change_13 (by decide) (fun c13 => ?_) (fun c13 => ?_)
    · replace hf := ow_if_t c13 hf
      exact ow_vret hx hb hr hW hf dX4_change_42 hlocks
    · replace hf := ow_if_f c13 hf
      refine lv_aload_n hx hb dX4_change_16 rfl (lv_at hl 0 rfl) ?_
      refine ow_getV (ci := 4) (C := RX4) (T := TX4) (N := 2) hx hb hts hown hG hW hh (by decide) rfl hinX4 0 (by decide) (fk := 2) rfl (hts (.fieldLink RX4 9 "FiftyOneCards$Row" "cards" "[I") (by decide +kernel)) (v := .ref (ow_ad Z (h + 1))) (ow_vR hW hh.1 hh.2.1 (ow_row hh).1) dX4_change_17 ?_
      refine lv_iload_n hx hb dX4_change_20 rfl (lv_at hl 1 rfl) ?_
      obtain ⟨q21, hf⟩ := ow_ck_i hf
      refine ow_ild (q := a1.toNatClampNeg) hx hb hG hW (ow_row hh).2.1 (ow_row hh).2.2 q21 rfl dX4_change_21 ?_
      refine ow_topi hf (fun x3_22 hf => ?_)
      refine lv_istore_n (lv' := [(3, .int x3_22), (0, .ref (ow_ad Z h)), (1, .int a1), (2, .int a2)]) hx hb dX4_change_22 rfl hl (by decide) rfl (fun ls hl => ?_)
      refine lv_aload_n hx hb dX4_change_23 rfl (lv_at hl 1 rfl) ?_
      refine ow_getV (ci := 4) (C := RX4) (T := TX4) (N := 2) hx hb hts hown hG hW hh (by decide) rfl hinX4 0 (by decide) (fk := 2) rfl (hts (.fieldLink RX4 9 "FiftyOneCards$Row" "cards" "[I") (by decide +kernel)) (v := .ref (ow_ad Z (h + 1))) (ow_vR hW hh.1 hh.2.1 (ow_row hh).1) dX4_change_24 ?_
      refine lv_iload_n hx hb dX4_change_27 rfl (lv_at hl 2 rfl) ?_
      refine lv_aload_n hx hb dX4_change_28 rfl (lv_at hl 1 rfl) ?_
      refine ow_getV (ci := 4) (C := RX4) (T := TX4) (N := 2) hx hb hts hown hG hW hh (by decide) rfl hinX4 0 (by decide) (fk := 2) rfl (hts (.fieldLink RX4 9 "FiftyOneCards$Row" "cards" "[I") (by decide +kernel)) (v := .ref (ow_ad Z (h + 1))) (ow_vR hW hh.1 hh.2.1 (ow_row hh).1) dX4_change_29 ?_
      refine lv_iload_n hx hb dX4_change_32 rfl (lv_at hl 3 rfl) ?_
      obtain ⟨q33, hf⟩ := ow_ck_i hf
      refine ow_ild (q := a2.toNatClampNeg) hx hb hG hW (ow_row hh).2.1 (ow_row hh).2.2 q33 rfl dX4_change_33 ?_
      obtain ⟨q34, hf⟩ := ow_ck_i hf
      refine ow_ist (q := a1.toNatClampNeg) hx hb hG hW (ow_row hh).2.1 (ow_row hh).2.2 q34 rfl hf dX4_change_34 (fun σ_34 H locs hf hW => ?_)
      refine lv_aload_n hx hb dX4_change_35 rfl (lv_at hl 1 rfl) ?_
      refine ow_getV (ci := 4) (C := RX4) (T := TX4) (N := 2) hx hb hts hown hG hW hh (by decide) rfl hinX4 0 (by decide) (fk := 2) rfl (hts (.fieldLink RX4 9 "FiftyOneCards$Row" "cards" "[I") (by decide +kernel)) (v := .ref (ow_ad Z (h + 1))) (ow_vR hW hh.1 hh.2.1 (ow_row hh).1) dX4_change_36 ?_
      refine lv_iload_n hx hb dX4_change_39 rfl (lv_at hl 3 rfl) ?_
      refine lv_iload_n hx hb dX4_change_40 rfl (lv_at hl 0 rfl) ?_
      obtain ⟨q41, hf⟩ := ow_ck_i hf
      refine ow_ist (q := a2.toNatClampNeg) hx hb hG hW (ow_row hh).2.1 (ow_row hh).2.2 q41 rfl hf dX4_change_41 (fun σ_41 H locs hf hW => ?_)
      exact ow_vret hx hb hr hW hf dX4_change_42 hlocks
set_option maxHeartbeats 40000000 in
set_option maxRecDepth 100000 in
theorem c_X4_beTurned (l : Launch) (Z : ow_Z) (fu : Nat) (h : Nat) (hh : ow_in 0 56 h 4) (a1 : Int32) (σ : ow_S) (σr : ow_S) (hf : f_X4_beTurned fu h a1 σ = some σr) : Met l yX4_beTurned wsX4_beTurned { frames := 3, cells := 0, slots := 0, locals := 104 } (ow_Pc Z 0 56 [.ref (ow_ad Z h), .int a1] σ) (ow_Qv Z 0 56 σr) 0 0 (ow_A Z 0 56) := by
  refine Met.ofW (cc := cX4_beTurned) (maxL := 3) (ret := none) (by decide) rfl ?_
  intro p e s m args below meth c s₁ B hml hv
  obtain ⟨hav, hB⟩ := hv
  obtain ⟨hG, hW⟩ := ow_begin hB
  have hx := B.exec
  have hb := B.bytes
  have hr := B.returns
  have hts := atoms_spec (ws := wsX4_beTurned) B.pre
  have hown : s.vm.findClass RX4 = some m.cls := findClass_of_methodNamed B.named
  have hlocks := B.notSynchronized
  have hinX4 : ∀ w ∈ wsX40, w ∈ wsX4_beTurned := by decide +kernel
  have hJ79 : ∀ (fn : Nat), ∀ (r0 : Nat) (hr0 : ow_in 0 56 r0 4) (x2 : Int32) (σ : ow_S) (H : Heap) (locs : List Loc) (ls : Array Slot), L_X4_beTurned_79 fu fn r0 x2 σ = some σr → ow_Wd Z 0 56 σ s H locs → lv_has ls 3 [(0, .ref (ow_ad Z r0)), (2, .int x2)] → W p l e (headSpec wsX4_beTurned { frames := 3, cells := 0, slots := 0, locals := 104 }).room s m args below meth c H locs 0 0 (MQ below (ow_Qv Z 0 56 σr) args s 0 0 (ow_A Z 0 56)) (F0 m 79 ls []) := by
    intro fn
    induction fn with
    | zero => intro r0 hr0 x2 σ H locs ls hf hW hl; simp [L_X4_beTurned_79] at hf
    | succ fn ih =>
      intro r0 hr0 x2 σ H locs ls hf hW hl
      rw [L_X4_beTurned_79] at hf
      refine lv_iload_n hx hb dX4_beTurned_79 rfl (lv_at hl 1 rfl) ?_
      refine lv_if_le (tgt := 97) hx hb dX4_beTurned_80 (by decide) (fun c80 => ?_) (fun c80 => ?_)
      · replace hf := ow_if_t c80 hf
        exact ow_vret hx hb hr hW hf dX4_beTurned_97 hlocks
      · replace hf := ow_if_f c80 hf
        refine lv_aload_n hx hb dX4_beTurned_83 rfl (lv_at hl 0 rfl) ?_
        refine lv_iload_n hx hb dX4_beTurned_84 rfl (lv_at hl 1 rfl) ?_
        refine lv_iload_n hx hb dX4_beTurned_85 rfl (lv_at hl 1 rfl) ?_
        refine lv_iconst (v := 1) hx hb dX4_beTurned_86 (by decide) ?_
        refine lv_isub hx hb dX4_beTurned_87 ?_
        obtain ⟨σ_88, hc88, hf⟩ := ow_cv_i hf
        refine ow_callv (va_runV (As := [.int x2, .int (x2 - (1 : Int32))]) (rest := []) ⟨hx, hb, hml, hown, hts⟩ (c_X4_change l Z fu r0 hr0 x2 (x2 - (1 : Int32)) σ σ_88  hc88) (cwV 2 hts gX4_beTurned_X4_change rfl rfl rfl (by decide +kernel) ⟨Nat.le_of_ble_eq_true rfl, Nat.le_of_ble_eq_true rfl⟩) (ow_preV hG hW hr0 (by decide) rfl) rfl rfl hl.1 rfl (lv_room (Nat.le_of_ble_eq_true rfl)) dX4_beTurned_88 ⟨Nat.zero_le _, Nat.zero_le _⟩) hW (fun H locs hW => ?_)
        refine ow_iinc (d := -1) (lv' := fun z => [(2, .int z), (0, .ref (ow_ad Z r0))]) hx hb hf dX4_beTurned_91 hl (k := 1) rfl (by decide) (by decide) (fun z => rfl) (fun x2_91 hf ls hl => ?_)
        refine lv_goto (tgt := 79) hx hb dX4_beTurned_94 (by decide) ?_
        exact ih r0 hr0 x2_91 σ_88 _ _ _ hf hW (lv_sub hl [1, 0] rfl)
  have hJ45 : ∀ (fn : Nat), ∀ (r0 : Nat) (hr0 : ow_in 0 56 r0 4) (x2 : Int32) (σ : ow_S) (H : Heap) (locs : List Loc) (ls : Array Slot), L_X4_beTurned_45 fu fn r0 x2 σ = some σr → ow_Wd Z 0 56 σ s H locs → lv_has ls 3 [(0, .ref (ow_ad Z r0)), (2, .int x2)] → W p l e (headSpec wsX4_beTurned { frames := 3, cells := 0, slots := 0, locals := 104 }).room s m args below meth c H locs 0 0 (MQ below (ow_Qv Z 0 56 σr) args s 0 0 (ow_A Z 0 56)) (F0 m 45 ls []) := by
    intro fn
    induction fn with
    | zero => intro r0 hr0 x2 σ H locs ls hf hW hl; simp [L_X4_beTurned_45] at hf
    | succ fn ih =>
      intro r0 hr0 x2 σ H locs ls hf hW hl
      rw [L_X4_beTurned_45] at hf
      refine lv_iload_n hx hb dX4_beTurned_45 rfl (lv_at hl 1 rfl) ?_
      refine lv_aload_n hx hb dX4_beTurned_46 rfl (lv_at hl 0 rfl) ?_
      refine ow_getV (ci := 4) (C := RX4) (T := TX4) (N := 2) hx hb hts hown hG hW hr0 (by decide) rfl hinX4 1 (by decide) (fk := 0) rfl (hts (.fieldLink RX4 15 "FiftyOneCards$Row" "size" "I") (by decide +kernel)) (v := .int (σ.1 r0 1)) rfl dX4_beTurned_47 ?_
      refine lv_iconst (v := 1) hx hb dX4_beTurned_50 (by decide) ?_
      refine lv_isub hx hb dX4_beTurned_51 ?_
      refine lv_icmp_ge (tgt := 69) hx hb dX4_beTurned_52 (by decide) (fun c52 => ?_) (fun c52 => ?_)
      · replace hf := ow_if_t c52 hf
        refine lv_goto (tgt := 97) hx hb dX4_beTurned_69 (by decide) ?_
        exact ow_vret hx hb hr hW hf dX4_beTurned_97 hlocks
      · replace hf := ow_if_f c52 hf
        refine lv_aload_n hx hb dX4_beTurned_55 rfl (lv_at hl 0 rfl) ?_
        refine lv_iload_n hx hb dX4_beTurned_56 rfl (lv_at hl 1 rfl) ?_
        refine lv_iload_n hx hb dX4_beTurned_57 rfl (lv_at hl 1 rfl) ?_
        refine lv_iconst (v := 1) hx hb dX4_beTurned_58 (by decide) ?_
        refine lv_iadd hx hb dX4_beTurned_59 ?_
        obtain ⟨σ_60, hc60, hf⟩ := ow_cv_i hf
        refine ow_callv (va_runV (As := [.int x2, .int (x2 + (1 : Int32))]) (rest := []) ⟨hx, hb, hml, hown, hts⟩ (c_X4_change l Z fu r0 hr0 x2 (x2 + (1 : Int32)) σ σ_60  hc60) (cwV 2 hts gX4_beTurned_X4_change rfl rfl rfl (by decide +kernel) ⟨Nat.le_of_ble_eq_true rfl, Nat.le_of_ble_eq_true rfl⟩) (ow_preV hG hW hr0 (by decide) rfl) rfl rfl hl.1 rfl (lv_room (Nat.le_of_ble_eq_true rfl)) dX4_beTurned_60 ⟨Nat.zero_le _, Nat.zero_le _⟩) hW (fun H locs hW => ?_)
        refine ow_iinc (d := 1) (lv' := fun z => [(2, .int z), (0, .ref (ow_ad Z r0))]) hx hb hf dX4_beTurned_63 hl (k := 1) rfl (by decide) (by decide) (fun z => rfl) (fun x2_63 hf ls hl => ?_)
        refine lv_goto (tgt := 45) hx hb dX4_beTurned_66 (by decide) ?_
        exact ih r0 hr0 x2_63 σ_60 _ _ _ hf hW (lv_sub hl [1, 0] rfl)
  have hJ6 : ∀ (fn : Nat), ∀ (r0 : Nat) (hr0 : ow_in 0 56 r0 4) (x2 : Int32) (σ : ow_S) (H : Heap) (locs : List Loc) (ls : Array Slot), L_X4_beTurned_6 fu fn r0 x2 σ = some σr → ow_Wd Z 0 56 σ s H locs → lv_has ls 3 [(0, .ref (ow_ad Z r0)), (2, .int x2)] → W p l e (headSpec wsX4_beTurned { frames := 3, cells := 0, slots := 0, locals := 104 }).room s m args below meth c H locs 0 0 (MQ below (ow_Qv Z 0 56 σr) args s 0 0 (ow_A Z 0 56)) (F0 m 6 ls []) := by
    intro fn
    induction fn with
    | zero => intro r0 hr0 x2 σ H locs ls hf hW hl; simp [L_X4_beTurned_6] at hf
    | succ fn ih =>
      intro r0 hr0 x2 σ H locs ls hf hW hl
      rw [L_X4_beTurned_6] at hf
      refine lv_iload_n hx hb dX4_beTurned_6 rfl (lv_at hl 1 rfl) ?_
      refine lv_aload_n hx hb dX4_beTurned_7 rfl (lv_at hl 0 rfl) ?_
      refine ow_getV (ci := 4) (C := RX4) (T := TX4) (N := 2) hx hb hts hown hG hW hr0 (by decide) rfl hinX4 1 (by decide) (fk := 0) rfl (hts (.fieldLink RX4 15 "FiftyOneCards$Row" "size" "I") (by decide +kernel)) (v := .int (σ.1 r0 1)) rfl dX4_beTurned_8 ?_
      refine lv_iconst (v := 2) hx hb dX4_beTurned_11 (by decide) ?_
      refine lv_idiv hx hb dX4_beTurned_12 (by decide) ?_
      refine lv_icmp_ge (tgt := 35) hx hb dX4_beTurned_13 (by decide) (fun c13 => ?_) (fun c13 => ?_)
      · replace hf := ow_if_t c13 hf
        refine lv_goto (tgt := 97) hx hb dX4_beTurned_35 (by decide) ?_
        exact ow_vret hx hb hr hW hf dX4_beTurned_97 hlocks
      · replace hf := ow_if_f c13 hf
        refine lv_aload_n hx hb dX4_beTurned_16 rfl (lv_at hl 0 rfl) ?_
        refine lv_iload_n hx hb dX4_beTurned_17 rfl (lv_at hl 1 rfl) ?_
        refine lv_aload_n hx hb dX4_beTurned_18 rfl (lv_at hl 0 rfl) ?_
        refine ow_getV (ci := 4) (C := RX4) (T := TX4) (N := 2) hx hb hts hown hG hW hr0 (by decide) rfl hinX4 1 (by decide) (fk := 0) rfl (hts (.fieldLink RX4 15 "FiftyOneCards$Row" "size" "I") (by decide +kernel)) (v := .int (σ.1 r0 1)) rfl dX4_beTurned_19 ?_
        refine lv_iconst (v := 1) hx hb dX4_beTurned_22 (by decide) ?_
        refine lv_isub hx hb dX4_beTurned_23 ?_
        refine lv_iload_n hx hb dX4_beTurned_24 rfl (lv_at hl 1 rfl) ?_
        refine lv_isub hx hb dX4_beTurned_25 ?_
        obtain ⟨σ_26, hc26, hf⟩ := ow_cv_i hf
        refine ow_callv (va_runV (As := [.int x2, .int (((σ.1 r0 1) - (1 : Int32)) - x2)]) (rest := []) ⟨hx, hb, hml, hown, hts⟩ (c_X4_change l Z fu r0 hr0 x2 (((σ.1 r0 1) - (1 : Int32)) - x2) σ σ_26  hc26) (cwV 2 hts gX4_beTurned_X4_change rfl rfl rfl (by decide +kernel) ⟨Nat.le_of_ble_eq_true rfl, Nat.le_of_ble_eq_true rfl⟩) (ow_preV hG hW hr0 (by decide) rfl) rfl rfl hl.1 rfl (lv_room (Nat.le_of_ble_eq_true rfl)) dX4_beTurned_26 ⟨Nat.zero_le _, Nat.zero_le _⟩) hW (fun H locs hW => ?_)
        refine ow_iinc (d := 1) (lv' := fun z => [(2, .int z), (0, .ref (ow_ad Z r0))]) hx hb hf dX4_beTurned_29 hl (k := 1) rfl (by decide) (by decide) (fun z => rfl) (fun x2_29 hf ls hl => ?_)
        refine lv_goto (tgt := 6) hx hb dX4_beTurned_32 (by decide) ?_
        exact ih r0 hr0 x2_29 σ_26 _ _ _ hf hW (lv_sub hl [1, 0] rfl)
  have hl := lv_entry ([.ref (ow_ad Z h), .int a1]) (n := 3) (Nat.le_of_ble_eq_true rfl)
  refine W.eq (g2 := F0 m 0 ((lg_sl ([.ref (ow_ad Z h), .int a1]) ++ List.replicate (3 - (lg_sl ([.ref (ow_ad Z h), .int a1])).length) Slot.unset).toArray) []) (by rw [hav]; exact lg_entry_eq _ _ _) ?_
  generalize (lg_sl ([.ref (ow_ad Z h), .int a1]) ++ List.replicate (3 - (lg_sl ([.ref (ow_ad Z h), .int a1])).length) Slot.unset).toArray = ls at hl ⊢
  have hl : lv_has ls 3 [(0, .ref (ow_ad Z h)), (1, .int a1)] := hl
  unfold f_X4_beTurned at hf
  refine lv_iload_n hx hb dX4_beTurned_0 rfl (lv_at hl 1 rfl) ?_
  refine lv_if_ne (tgt := 38) hx hb dX4_beTurned_1 (by decide) (fun c1 => ?_) (fun c1 => ?_)
  · replace hf := ow_if_f c1 hf
    refine lv_iload_n hx hb dX4_beTurned_38 rfl (lv_at hl 1 rfl) ?_
    refine lv_iconst (v := 1) hx hb dX4_beTurned_39 (by decide) ?_
    refine lv_icmp_ne (tgt := 72) hx hb dX4_beTurned_40 (by decide) (fun c40 => ?_) (fun c40 => ?_)
    · replace hf := ow_if_f c40 hf
      refine lv_aload_n hx hb dX4_beTurned_72 rfl (lv_at hl 0 rfl) ?_
      refine ow_getV (ci := 4) (C := RX4) (T := TX4) (N := 2) hx hb hts hown hG hW hh (by decide) rfl hinX4 1 (by decide) (fk := 0) rfl (hts (.fieldLink RX4 15 "FiftyOneCards$Row" "size" "I") (by decide +kernel)) (v := .int (σ.1 h 1)) rfl dX4_beTurned_73 ?_
      refine lv_iconst (v := 1) hx hb dX4_beTurned_76 (by decide) ?_
      refine lv_isub hx hb dX4_beTurned_77 ?_
      refine ow_topi hf (fun x2_78 hf => ?_)
      refine lv_istore_n (lv' := [(2, .int x2_78), (0, .ref (ow_ad Z h)), (1, .int a1)]) hx hb dX4_beTurned_78 rfl hl (by decide) rfl (fun ls hl => ?_)
      exact hJ79 fu h hh x2_78 σ _ _ _ hf hW (lv_sub hl [1, 0] rfl)
    · replace hf := ow_if_t c40 hf
      refine lv_iconst (v := 0) hx hb dX4_beTurned_43 (by decide) ?_
      refine lv_istore_n (lv' := [(2, .int (0 : Int32)), (0, .ref (ow_ad Z h)), (1, .int a1)]) hx hb dX4_beTurned_44 rfl hl (by decide) rfl (fun ls hl => ?_)
      exact hJ45 fu h hh (0 : Int32) σ _ _ _ hf hW (lv_sub hl [1, 0] rfl)
  · replace hf := ow_if_t c1 hf
    refine lv_iconst (v := 0) hx hb dX4_beTurned_4 (by decide) ?_
    refine lv_istore_n (lv' := [(2, .int (0 : Int32)), (0, .ref (ow_ad Z h)), (1, .int a1)]) hx hb dX4_beTurned_5 rfl hl (by decide) rfl (fun ls hl => ?_)
    exact hJ6 fu h hh (0 : Int32) σ _ _ _ hf hW (lv_sub hl [1, 0] rfl)
