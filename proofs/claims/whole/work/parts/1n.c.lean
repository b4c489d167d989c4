set_option maxHeartbeats 40000000 in
set_option maxRecDepth 100000 in
theorem c_X9_taken (l : Launch) (Z : ow_Z) (fu : Nat) (a1 : Int32) (a2 : Int32) (σ : ow_S) (rr : Int32) (σr : ow_S) (hf : f_X9_taken fu a1 a2 σ = some (rr, σr)) : Met l yX9_taken wsX9_taken { frames := 2, cells := 0, slots := 0, locals := 82 } (ow_Pc Z 56 20 [.ref (ow_ad Z 56), .int a1, .int a2] σ) (ow_Qi Z 56 20 rr σr) 0 0 (ow_A Z 56 20) := by
  refine Met.ofW (cc := cX9_taken) (maxL := 3) (ret := (some .int)) (by decide) rfl ?_
  intro p e s m args below meth c s₁ B hml hv
  obtain ⟨hav, hB⟩ := hv
  obtain ⟨hG, hW⟩ := ow_begin hB
  have hx := B.exec
  have hb := B.bytes
  have hr := B.returns
  have hts := atoms_spec (ws := wsX9_taken) B.pre
  have hown : s.vm.findClass RX9 = some m.cls := findClass_of_methodNamed B.named
  have hlocks := B.notSynchronized
  have hinX9 : ∀ w ∈ wsX90, w ∈ wsX9_taken := by decide +kernel
  have hl := lv_entry ([.ref (ow_ad Z 56), .int a1, .int a2]) (n := 3) (Nat.le_of_ble_eq_true rfl)
  refine W.eq (g2 := F0 m 0 ((lg_sl ([.ref (ow_ad Z 56), .int a1, .int a2]) ++ List.replicate (3 - (lg_sl ([.ref (ow_ad Z 56), .int a1, .int a2])).length) Slot.unset).toArray) []) (by rw [hav]; exact lg_entry_eq _ _ _) ?_
  generalize (lg_sl ([.ref (ow_ad Z 56), .int a1, .int a2]) ++ List.replicate (3 - (lg_sl ([.ref (ow_ad Z 56), .int a1, .int a2])).length) Slot.unset).toArray = ls at hl ⊢
  have hl : lv_has ls 3 [(0, .ref (ow_ad Z 56)), (1, .int a1), (2, .int a2)] := hl
  unfold f_X9_taken at hf
  refine lv_iload_n hx hb dX9_taken_0 rfl (lv_at hl 2 rfl) ?_
  refine lv_iconst (v := 0) hx hb dX9_taken_1 (by decide) ?_
  refine lv_bipush (v := 6) hx hb dX9_taken_2 (by decide) ?_
  obtain ⟨r_4, σ_4, hc4, hf⟩ := ow_cl_i hf
  refine ow_callz (va_runS (As := [.int a2, .int (0 : Int32), .int (6 : Int32)]) (rest := []) ⟨hx, hb, hml, hown, hts⟩ (c_X9_in l Z fu a2 (0 : Int32) (6 : Int32) σ r_4 σ_4 hc4) (va_cwS 3 hts gX9_taken_X9_in rfl rfl rfl (by decide +kernel) ⟨Nat.le_of_ble_eq_true rfl, Nat.le_of_ble_eq_true rfl⟩) (ow_preS hG hW) rfl rfl hl.1 rfl (lv_room (Nat.le_of_ble_eq_true rfl)) dX9_taken_4 ⟨Nat.zero_le _, Nat.zero_le _⟩) hW (fun b4 H locs hW => ?_)
  refine lv_if_ne (tgt := 13) hx hb dX9_taken_7 (by decide) (fun c7 => ?_) (fun c7 => ?_)
  · replace hf := ow_if_f c7 hf
    refine lv_iload_n hx hb dX9_taken_13 rfl (lv_at hl 1 rfl) ?_
    refine lv_iconst (v := 0) hx hb dX9_taken_14 (by decide) ?_
    refine lv_bipush (v := 64) hx hb dX9_taken_15 (by decide) ?_
    obtain ⟨r_17, σ_17, hc17, hf⟩ := ow_cl_i hf
    refine ow_callz (va_runS (As := [.int a1, .int (0 : Int32), .int (64 : Int32)]) (rest := []) ⟨hx, hb, hml, hown, hts⟩ (c_X9_in l Z fu a1 (0 : Int32) (64 : Int32) σ_4 r_17 σ_17 hc17) (va_cwS 3 hts gX9_taken_X9_in rfl rfl rfl (by decide +kernel) ⟨Nat.le_of_ble_eq_true rfl, Nat.le_of_ble_eq_true rfl⟩) (ow_preS hG hW) rfl rfl hl.1 rfl (lv_room (Nat.le_of_ble_eq_true rfl)) dX9_taken_17 ⟨Nat.zero_le _, Nat.zero_le _⟩) hW (fun b17 H locs hW => ?_)
    refine lv_if_ne (tgt := 26) hx hb dX9_taken_20 (by decide) (fun c20 => ?_) (fun c20 => ?_)
    · replace hf := ow_if_f c20 hf
      refine lv_iload_n hx hb dX9_taken_26 rfl (lv_at hl 1 rfl) ?_
      refine lv_iconst (v := 5) hx hb dX9_taken_27 (by decide) ?_
      refine lv_icmp_lt (tgt := 66) hx hb dX9_taken_28 (by decide) (fun c28 => ?_) (fun c28 => ?_)
      · replace hf := ow_if_t c28 hf
        refine lv_iload_n hx hb dX9_taken_66 rfl (lv_at hl 1 rfl) ?_
        refine lv_aload_n hx hb dX9_taken_67 rfl (lv_at hl 0 rfl) ?_
        refine ow_getV (ci := 9) (C := RX9) (T := TX9) (N := 41) hx hb hts hown hG hW ow_i56 (by decide) rfl hinX9 3 (by decide) (fk := 0) rfl (hts (.fieldLink RX9 82 "FiftyOneCardsModel" "heads" "I") (by decide +kernel)) (v := .int (σ_17.1 56 3)) rfl dX9_taken_68 ?_
        refine lv_icmp_lt (tgt := 79) hx hb dX9_taken_71 (by decide) (fun c71 => ?_) (fun c71 => ?_)
        · replace hf := ow_if_t c71 hf
          refine lv_iload_n hx hb dX9_taken_79 rfl (lv_at hl 2 rfl) ?_
          refine lv_bipush (v := 6) hx hb dX9_taken_80 (by decide) ?_
          refine lv_icmp_ge (tgt := 102) hx hb dX9_taken_82 (by decide) (fun c82 => ?_) (fun c82 => ?_)
          · replace hf := ow_if_t c82 hf
            refine lv_bipush (v := -13) hx hb dX9_taken_102 (by decide) ?_
            exact ow_iret hx hb hr hW hf dX9_taken_104 hlocks
          · replace hf := ow_if_f c82 hf
            refine lv_aload_n hx hb dX9_taken_85 rfl (lv_at hl 0 rfl) ?_
            refine ow_getV (ci := 9) (C := RX9) (T := TX9) (N := 41) hx hb hts hown hG hW ow_i56 (by decide) rfl hinX9 4 (by decide) (fk := 2) rfl (hts (.fieldLink RX9 17 "FiftyOneCardsModel" "kind" "[I") (by decide +kernel)) (v := .ref (ow_ad Z 58)) (ow_vR hW ow_i56.1 ow_i56.2.1 rfl) dX9_taken_86 ?_
            refine lv_iload_n hx hb dX9_taken_89 rfl (lv_at hl 1 rfl) ?_
            obtain ⟨q90, hf⟩ := ow_ck_i hf
            refine ow_ild (q := a1.toNatClampNeg) hx hb hG hW ow_i58 rfl q90 rfl dX9_taken_90 ?_
            refine lv_iload_n hx hb dX9_taken_91 rfl (lv_at hl 2 rfl) ?_
            obtain ⟨r_92, σ_92, hc92, hf⟩ := ow_cl_i hf
            refine ow_callz (va_runS (As := [.int (σ_17.1 58 a1.toNatClampNeg), .int a2]) (rest := []) ⟨hx, hb, hml, hown, hts⟩ (c_X9_isUnder l Z fu (σ_17.1 58 a1.toNatClampNeg) a2 σ_17 r_92 σ_92 hc92) (va_cwS 2 hts gX9_taken_X9_isUnder rfl rfl rfl (by decide +kernel) ⟨Nat.le_of_ble_eq_true rfl, Nat.le_of_ble_eq_true rfl⟩) (ow_preS hG hW) rfl rfl hl.1 rfl (lv_room (Nat.le_of_ble_eq_true rfl)) dX9_taken_92 ⟨Nat.zero_le _, Nat.zero_le _⟩) hW (fun b92 H locs hW => ?_)
            refine lv_if_eq (tgt := 102) hx hb dX9_taken_95 (by decide) (fun c95 => ?_) (fun c95 => ?_)
            · replace hf := ow_if_t c95 hf
              refine lv_bipush (v := -13) hx hb dX9_taken_102 (by decide) ?_
              exact ow_iret hx hb hr hW hf dX9_taken_104 hlocks
            · replace hf := ow_if_f c95 hf
              refine lv_iload_n hx hb dX9_taken_98 rfl (lv_at hl 1 rfl) ?_
              refine lv_goto (tgt := 104) hx hb dX9_taken_99 (by decide) ?_
              exact ow_iret hx hb hr hW hf dX9_taken_104 hlocks
        · replace hf := ow_if_f c71 hf
          refine lv_bipush (v := -11) hx hb dX9_taken_74 (by decide) ?_
          refine lv_goto (tgt := 104) hx hb dX9_taken_76 (by decide) ?_
          exact ow_iret hx hb hr hW hf dX9_taken_104 hlocks
      · replace hf := ow_if_f c28 hf
        refine lv_iload_n hx hb dX9_taken_31 rfl (lv_at hl 1 rfl) ?_
        refine lv_iconst (v := 5) hx hb dX9_taken_32 (by decide) ?_
        refine lv_isub hx hb dX9_taken_33 ?_
        refine lv_aload_n hx hb dX9_taken_34 rfl (lv_at hl 0 rfl) ?_
        refine ow_getV (ci := 9) (C := RX9) (T := TX9) (N := 41) hx hb hts hown hG hW ow_i56 (by decide) rfl hinX9 2 (by decide) (fk := 0) rfl (hts (.fieldLink RX9 85 "FiftyOneCardsModel" "rowMany" "I") (by decide +kernel)) (v := .int (σ_17.1 56 2)) rfl dX9_taken_35 ?_
        refine lv_icmp_lt (tgt := 46) hx hb dX9_taken_38 (by decide) (fun c38 => ?_) (fun c38 => ?_)
        · replace hf := ow_if_t c38 hf
          refine lv_iload_n hx hb dX9_taken_46 rfl (lv_at hl 2 rfl) ?_
          refine lv_bipush (v := 6) hx hb dX9_taken_47 (by decide) ?_
          refine lv_icmp_ne (tgt := 63) hx hb dX9_taken_49 (by decide) (fun c49 => ?_) (fun c49 => ?_)
          · replace hf := ow_if_f c49 hf
            refine lv_bipush (v := -13) hx hb dX9_taken_63 (by decide) ?_
            exact ow_iret hx hb hr hW hf dX9_taken_65 hlocks
          · replace hf := ow_if_t c49 hf
            refine lv_aload_n hx hb dX9_taken_52 rfl (lv_at hl 0 rfl) ?_
            refine ow_getV (ci := 9) (C := RX9) (T := TX9) (N := 41) hx hb hts hown hG hW ow_i56 (by decide) rfl hinX9 1 (by decide) (fk := 2) rfl (hts (.fieldLink RX9 13 "FiftyOneCardsModel" "row" "[I") (by decide +kernel)) (v := .ref (ow_ad Z 57)) (ow_vR hW ow_i56.1 ow_i56.2.1 rfl) dX9_taken_53 ?_
            refine lv_iload_n hx hb dX9_taken_56 rfl (lv_at hl 1 rfl) ?_
            refine lv_iconst (v := 5) hx hb dX9_taken_57 (by decide) ?_
            refine lv_isub hx hb dX9_taken_58 ?_
            obtain ⟨q59, hf⟩ := ow_ck_i hf
            refine ow_ild (q := (a1 - (5 : Int32)).toNatClampNeg) hx hb hG hW ow_i57 rfl q59 rfl dX9_taken_59 ?_
            refine lv_goto (tgt := 65) hx hb dX9_taken_60 (by decide) ?_
            exact ow_iret hx hb hr hW hf dX9_taken_65 hlocks
        · replace hf := ow_if_f c38 hf
          refine lv_bipush (v := -11) hx hb dX9_taken_41 (by decide) ?_
          refine lv_goto (tgt := 65) hx hb dX9_taken_43 (by decide) ?_
          exact ow_iret hx hb hr hW hf dX9_taken_65 hlocks
    · replace hf := ow_if_t c20 hf
      refine lv_bipush (v := -12) hx hb dX9_taken_23 (by decide) ?_
      exact ow_iret hx hb hr hW hf dX9_taken_25 hlocks
  · replace hf := ow_if_t c7 hf
    refine lv_bipush (v := -2) hx hb dX9_taken_10 (by decide) ?_
    exact ow_iret hx hb hr hW hf dX9_taken_12 hlocks
