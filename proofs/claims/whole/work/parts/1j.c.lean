set_option maxHeartbeats 40000000 in
set_option maxRecDepth 100000 in
theorem c_X9_signOf (l : Launch) (Z : ow_Z) (fu : Nat) (σ : ow_S) (rr : Int32) (σr : ow_S) (hf : f_X9_signOf fu σ = some (rr, σr)) : Met l yX9_signOf wsX9_signOf { frames := 1, cells := 0, slots := 0, locals := 60 } (ow_Pc Z 56 20 [.ref (ow_ad Z 56)] σ) (ow_Qi Z 56 20 rr σr) 0 0 (ow_A Z 56 20) := by
  refine Met.ofW (cc := cX9_signOf) (maxL := 1) (ret := (some .int)) (by decide) rfl ?_
  intro p e s m args below meth c s₁ B hml hv
  obtain ⟨hav, hB⟩ := hv
  obtain ⟨hG, hW⟩ := ow_begin hB
  have hx := B.exec
  have hb := B.bytes
  have hr := B.returns
  have hts := atoms_spec (ws := wsX9_signOf) B.pre
  have hown : s.vm.findClass RX9 = some m.cls := findClass_of_methodNamed B.named
  have hlocks := B.notSynchronized
  have hinX9 : ∀ w ∈ wsX90, w ∈ wsX9_signOf := by decide +kernel
  have hl := lv_entry ([.ref (ow_ad Z 56)]) (n := 1) (Nat.le_of_ble_eq_true rfl)
  refine W.eq (g2 := F0 m 0 ((lg_sl ([.ref (ow_ad Z 56)]) ++ List.replicate (1 - (lg_sl ([.ref (ow_ad Z 56)])).length) Slot.unset).toArray) []) (by rw [hav]; exact lg_entry_eq _ _ _) ?_
  generalize (lg_sl ([.ref (ow_ad Z 56)]) ++ List.replicate (1 - (lg_sl ([.ref (ow_ad Z 56)])).length) Slot.unset).toArray = ls at hl ⊢
  have hl : lv_has ls 1 [(0, .ref (ow_ad Z 56))] := hl
  unfold f_X9_signOf at hf
  refine lv_aload_n hx hb dX9_signOf_0 rfl (lv_at hl 0 rfl) ?_
  refine ow_getV (ci := 9) (C := RX9) (T := TX9) (N := 41) hx hb hts hown hG hW ow_i56 (by decide) rfl hinX9 26 (by decide) (fk := 0) rfl (hts (.fieldLink RX9 141 "FiftyOneCardsModel" "token" "I") (by decide +kernel)) (v := .int (σ.1 56 26)) rfl dX9_signOf_1 ?_
  refine lv_iconst (v := 4) hx hb dX9_signOf_4 (by decide) ?_
  refine lv_icmp_ne (tgt := 13) hx hb dX9_signOf_5 (by decide) (fun c5 => ?_) (fun c5 => ?_)
  · replace hf := ow_if_f c5 hf
    refine lv_aload_n hx hb dX9_signOf_13 rfl (lv_at hl 0 rfl) ?_
    refine ow_getV (ci := 9) (C := RX9) (T := TX9) (N := 41) hx hb hts hown hG hW ow_i56 (by decide) rfl hinX9 26 (by decide) (fk := 0) rfl (hts (.fieldLink RX9 141 "FiftyOneCardsModel" "token" "I") (by decide +kernel)) (v := .int (σ.1 56 26)) rfl dX9_signOf_14 ?_
    refine lv_iconst (v := 5) hx hb dX9_signOf_17 (by decide) ?_
    refine lv_icmp_ne (tgt := 26) hx hb dX9_signOf_18 (by decide) (fun c18 => ?_) (fun c18 => ?_)
    · replace hf := ow_if_f c18 hf
      refine lv_aload_n hx hb dX9_signOf_26 rfl (lv_at hl 0 rfl) ?_
      refine ow_getV (ci := 9) (C := RX9) (T := TX9) (N := 41) hx hb hts hown hG hW ow_i56 (by decide) rfl hinX9 26 (by decide) (fk := 0) rfl (hts (.fieldLink RX9 141 "FiftyOneCardsModel" "token" "I") (by decide +kernel)) (v := .int (σ.1 56 26)) rfl dX9_signOf_27 ?_
      refine lv_bipush (v := 60) hx hb dX9_signOf_30 (by decide) ?_
      refine lv_icmp_ne (tgt := 40) hx hb dX9_signOf_32 (by decide) (fun c32 => ?_) (fun c32 => ?_)
      · replace hf := ow_if_f c32 hf
        refine lv_aload_n hx hb dX9_signOf_40 rfl (lv_at hl 0 rfl) ?_
        refine ow_getV (ci := 9) (C := RX9) (T := TX9) (N := 41) hx hb hts hown hG hW ow_i56 (by decide) rfl hinX9 26 (by decide) (fk := 0) rfl (hts (.fieldLink RX9 141 "FiftyOneCardsModel" "token" "I") (by decide +kernel)) (v := .int (σ.1 56 26)) rfl dX9_signOf_41 ?_
        refine lv_bipush (v := 61) hx hb dX9_signOf_44 (by decide) ?_
        refine lv_icmp_ne (tgt := 54) hx hb dX9_signOf_46 (by decide) (fun c46 => ?_) (fun c46 => ?_)
        · replace hf := ow_if_f c46 hf
          refine lv_aload_n hx hb dX9_signOf_54 rfl (lv_at hl 0 rfl) ?_
          refine ow_getV (ci := 9) (C := RX9) (T := TX9) (N := 41) hx hb hts hown hG hW ow_i56 (by decide) rfl hinX9 26 (by decide) (fk := 0) rfl (hts (.fieldLink RX9 141 "FiftyOneCardsModel" "token" "I") (by decide +kernel)) (v := .int (σ.1 56 26)) rfl dX9_signOf_55 ?_
          refine lv_bipush (v := 43) hx hb dX9_signOf_58 (by decide) ?_
          refine lv_icmp_ne (tgt := 68) hx hb dX9_signOf_60 (by decide) (fun c60 => ?_) (fun c60 => ?_)
          · replace hf := ow_if_f c60 hf
            refine lv_aload_n hx hb dX9_signOf_68 rfl (lv_at hl 0 rfl) ?_
            refine ow_getV (ci := 9) (C := RX9) (T := TX9) (N := 41) hx hb hts hown hG hW ow_i56 (by decide) rfl hinX9 26 (by decide) (fk := 0) rfl (hts (.fieldLink RX9 141 "FiftyOneCardsModel" "token" "I") (by decide +kernel)) (v := .int (σ.1 56 26)) rfl dX9_signOf_69 ?_
            refine lv_bipush (v := 45) hx hb dX9_signOf_72 (by decide) ?_
            refine lv_icmp_ne (tgt := 82) hx hb dX9_signOf_74 (by decide) (fun c74 => ?_) (fun c74 => ?_)
            · replace hf := ow_if_f c74 hf
              refine lv_aload_n hx hb dX9_signOf_82 rfl (lv_at hl 0 rfl) ?_
              refine ow_getV (ci := 9) (C := RX9) (T := TX9) (N := 41) hx hb hts hown hG hW ow_i56 (by decide) rfl hinX9 26 (by decide) (fk := 0) rfl (hts (.fieldLink RX9 141 "FiftyOneCardsModel" "token" "I") (by decide +kernel)) (v := .int (σ.1 56 26)) rfl dX9_signOf_83 ?_
              refine lv_bipush (v := 42) hx hb dX9_signOf_86 (by decide) ?_
              refine lv_icmp_ne (tgt := 96) hx hb dX9_signOf_88 (by decide) (fun c88 => ?_) (fun c88 => ?_)
              · replace hf := ow_if_f c88 hf
                refine lv_iconst (v := -1) hx hb dX9_signOf_96 (by decide) ?_
                exact ow_iret hx hb hr hW hf dX9_signOf_97 hlocks
              · replace hf := ow_if_t c88 hf
                refine lv_bipush (v := 18) hx hb dX9_signOf_91 (by decide) ?_
                refine lv_goto (tgt := 97) hx hb dX9_signOf_93 (by decide) ?_
                exact ow_iret hx hb hr hW hf dX9_signOf_97 hlocks
            · replace hf := ow_if_t c74 hf
              refine lv_bipush (v := 17) hx hb dX9_signOf_77 (by decide) ?_
              refine lv_goto (tgt := 97) hx hb dX9_signOf_79 (by decide) ?_
              exact ow_iret hx hb hr hW hf dX9_signOf_97 hlocks
          · replace hf := ow_if_t c60 hf
            refine lv_bipush (v := 16) hx hb dX9_signOf_63 (by decide) ?_
            refine lv_goto (tgt := 97) hx hb dX9_signOf_65 (by decide) ?_
            exact ow_iret hx hb hr hW hf dX9_signOf_97 hlocks
        · replace hf := ow_if_t c46 hf
          refine lv_bipush (v := 15) hx hb dX9_signOf_49 (by decide) ?_
          refine lv_goto (tgt := 97) hx hb dX9_signOf_51 (by decide) ?_
          exact ow_iret hx hb hr hW hf dX9_signOf_97 hlocks
      · replace hf := ow_if_t c32 hf
        refine lv_bipush (v := 14) hx hb dX9_signOf_35 (by decide) ?_
        refine lv_goto (tgt := 97) hx hb dX9_signOf_37 (by decide) ?_
        exact ow_iret hx hb hr hW hf dX9_signOf_97 hlocks
    · replace hf := ow_if_t c18 hf
      refine lv_bipush (v := 12) hx hb dX9_signOf_21 (by decide) ?_
      refine lv_goto (tgt := 97) hx hb dX9_signOf_23 (by decide) ?_
      exact ow_iret hx hb hr hW hf dX9_signOf_97 hlocks
  · replace hf := ow_if_t c5 hf
    refine lv_bipush (v := 11) hx hb dX9_signOf_8 (by decide) ?_
    refine lv_goto (tgt := 97) hx hb dX9_signOf_10 (by decide) ?_
    exact ow_iret hx hb hr hW hf dX9_signOf_97 hlocks
set_option maxHeartbeats 40000000 in
set_option maxRecDepth 100000 in
theorem c_X9_eRead (l : Launch) (Z : ow_Z) (fu : Nat) (σ : ow_S) (rr : Int32) (σr : ow_S) (hf : f_X9_eRead fu σ = some (rr, σr)) : Met l yX9_eRead wsX9_eRead { frames := 4, cells := 0, slots := 0, locals := 124 } (ow_Pc Z 56 20 [.ref (ow_ad Z 56)] σ) (ow_Qz Z 56 20 rr σr) 0 0 (ow_A Z 56 20) := by
  refine Met.ofW (cc := cX9_eRead) (maxL := 4) (ret := (some .boolean)) (by decide) rfl ?_
  intro p e s m args below meth c s₁ B hml hv
  obtain ⟨hav, hB⟩ := hv
  obtain ⟨hG, hW⟩ := ow_begin hB
  have hx := B.exec
  have hb := B.bytes
  have hr := B.returns
  have hts := atoms_spec (ws := wsX9_eRead) B.pre
  have hown : s.vm.findClass RX9 = some m.cls := findClass_of_methodNamed B.named
  have hlocks := B.notSynchronized
  have hinX9 : ∀ w ∈ wsX90, w ∈ wsX9_eRead := by decide +kernel
  have hJ262 : ∀ (k14 : Int32 → Int32 → ow_S → Option (Int32 × ow_S)) (hk14 : ∀ (x1 : Int32) (x2 : Int32) (σ : ow_S) (H : Heap) (locs : List Loc) (ls : Array Slot), k14 x1 x2 σ = some (rr, σr) → ow_Wd Z 56 20 σ s H locs → lv_has ls 4 [(0, .ref (ow_ad Z 56)), (1, .int x1), (2, .int x2)] → W p l e (headSpec wsX9_eRead { frames := 4, cells := 0, slots := 0, locals := 124 }).room s m args below meth c H locs 0 0 (MQ below (ow_Qz Z 56 20 rr σr) args s 0 0 (ow_A Z 56 20)) (F0 m 14 ls [])), ∀ (x1 : Int32) (s0 : Int32) (σ : ow_S) (H : Heap) (locs : List Loc) (ls : Array Slot), L_X9_eRead_262 fu k14 x1 s0 σ = some (rr, σr) → ow_Wd Z 56 20 σ s H locs → lv_has ls 4 [(0, .ref (ow_ad Z 56)), (1, .int x1)] → W p l e (headSpec wsX9_eRead { frames := 4, cells := 0, slots := 0, locals := 124 }).room s m args below meth c H locs 0 0 (MQ below (ow_Qz Z 56 20 rr σr) args s 0 0 (ow_A Z 56 20)) (F0 m 262 ls [.int s0]) := by
    intro k14 hk14 x1 s0 σ H locs ls hf hW hl
    unfold L_X9_eRead_262 at hf
    refine lv_istore_n (lv' := [(2, .int s0), (0, .ref (ow_ad Z 56)), (1, .int x1)]) hx hb dX9_eRead_262 rfl hl (by decide) rfl (fun ls hl => ?_)
    refine lv_goto (tgt := 14) hx hb dX9_eRead_263 (by decide) ?_
    exact hk14 x1 s0 σ _ _ _ hf hW (lv_sub hl [1, 2, 0] rfl)
  have hJ61 : ∀ (k14 : Int32 → Int32 → ow_S → Option (Int32 × ow_S)) (hk14 : ∀ (x1 : Int32) (x2 : Int32) (σ : ow_S) (H : Heap) (locs : List Loc) (ls : Array Slot), k14 x1 x2 σ = some (rr, σr) → ow_Wd Z 56 20 σ s H locs → lv_has ls 4 [(0, .ref (ow_ad Z 56)), (1, .int x1), (2, .int x2)] → W p l e (headSpec wsX9_eRead { frames := 4, cells := 0, slots := 0, locals := 124 }).room s m args below meth c H locs 0 0 (MQ below (ow_Qz Z 56 20 rr σr) args s 0 0 (ow_A Z 56 20)) (F0 m 14 ls [])), ∀ (x2 : Int32) (s1 : Int32) (σ : ow_S) (H : Heap) (locs : List Loc) (ls : Array Slot), L_X9_eRead_61 fu k14 x2 s1 σ = some (rr, σr) → ow_Wd Z 56 20 σ s H locs → lv_has ls 4 [(0, .ref (ow_ad Z 56)), (2, .int x2)] → W p l e (headSpec wsX9_eRead { frames := 4, cells := 0, slots := 0, locals := 124 }).room s m args below meth c H locs 0 0 (MQ below (ow_Qz Z 56 20 rr σr) args s 0 0 (ow_A Z 56 20)) (F0 m 61 ls [.int s1, .ref (ow_ad Z 56)]) := by
    intro k14 hk14 x2 s1 σ H locs ls hf hW hl
    unfold L_X9_eRead_61 at hf
    obtain ⟨σ_61, hc61, hf⟩ := ow_cv_i hf
    refine ow_callv (va_runV (As := [.int s1]) (rest := []) ⟨hx, hb, hml, hown, hts⟩ (c_X9_puts l Z fu s1 σ σ_61  hc61) (cwV 1 hts gX9_eRead_X9_puts rfl rfl rfl (by decide +kernel) ⟨Nat.le_of_ble_eq_true rfl, Nat.le_of_ble_eq_true rfl⟩) (ow_preV hG hW ow_i56 (by decide) rfl) rfl rfl hl.1 rfl (lv_room (Nat.le_of_ble_eq_true rfl)) dX9_eRead_61 ⟨Nat.zero_le _, Nat.zero_le _⟩) hW (fun H locs hW => ?_)
    refine lv_aload_n hx hb dX9_eRead_64 rfl (lv_at hl 0 rfl) ?_
    refine lv_bipush (v := 7) hx hb dX9_eRead_65 (by decide) ?_
    obtain ⟨σ_67, hc67, hf⟩ := ow_cv_i hf
    refine ow_callv (va_runV (As := [.int (7 : Int32)]) (rest := []) ⟨hx, hb, hml, hown, hts⟩ (c_X9_unwinds l Z fu (7 : Int32) σ_61 σ_67  hc67) (cwV 1 hts gX9_eRead_X9_unwinds rfl rfl rfl (by decide +kernel) ⟨Nat.le_of_ble_eq_true rfl, Nat.le_of_ble_eq_true rfl⟩) (ow_preV hG hW ow_i56 (by decide) rfl) rfl rfl hl.1 rfl (lv_room (Nat.le_of_ble_eq_true rfl)) dX9_eRead_67 ⟨Nat.zero_le _, Nat.zero_le _⟩) hW (fun H locs hW => ?_)
    refine lv_iconst (v := 0) hx hb dX9_eRead_70 (by decide) ?_
    refine lv_istore_n (lv' := [(1, .int (0 : Int32)), (0, .ref (ow_ad Z 56)), (2, .int x2)]) hx hb dX9_eRead_71 rfl hl (by decide) rfl (fun ls hl => ?_)
    refine lv_goto (tgt := 14) hx hb dX9_eRead_72 (by decide) ?_
    exact hk14 (0 : Int32) x2 σ_67 _ _ _ hf hW (lv_sub hl [1, 0, 2] rfl)
  have hJ38 : ∀ (k14 : Int32 → Int32 → ow_S → Option (Int32 × ow_S)) (hk14 : ∀ (x1 : Int32) (x2 : Int32) (σ : ow_S) (H : Heap) (locs : List Loc) (ls : Array Slot), k14 x1 x2 σ = some (rr, σr) → ow_Wd Z 56 20 σ s H locs → lv_has ls 4 [(0, .ref (ow_ad Z 56)), (1, .int x1), (2, .int x2)] → W p l e (headSpec wsX9_eRead { frames := 4, cells := 0, slots := 0, locals := 124 }).room s m args below meth c H locs 0 0 (MQ below (ow_Qz Z 56 20 rr σr) args s 0 0 (ow_A Z 56 20)) (F0 m 14 ls [])), ∀ (x2 : Int32) (σ : ow_S) (H : Heap) (locs : List Loc) (ls : Array Slot), L_X9_eRead_38 fu k14 x2 σ = some (rr, σr) → ow_Wd Z 56 20 σ s H locs → lv_has ls 4 [(0, .ref (ow_ad Z 56)), (2, .int x2)] → W p l e (headSpec wsX9_eRead { frames := 4, cells := 0, slots := 0, locals := 124 }).room s m args below meth c H locs 0 0 (MQ below (ow_Qz Z 56 20 rr σr) args s 0 0 (ow_A Z 56 20)) (F0 m 38 ls []) := by
    intro k14 hk14 x2 σ H locs ls hf hW hl
    unfold L_X9_eRead_38 at hf
    refine lv_aload_n hx hb dX9_eRead_38 rfl (lv_at hl 0 rfl) ?_
    refine lv_aload_n hx hb dX9_eRead_39 rfl (lv_at hl 0 rfl) ?_
    refine ow_getV (ci := 9) (C := RX9) (T := TX9) (N := 41) hx hb hts hown hG hW ow_i56 (by decide) rfl hinX9 26 (by decide) (fk := 0) rfl (hts (.fieldLink RX9 141 "FiftyOneCardsModel" "token" "I") (by decide +kernel)) (v := .int (σ.1 56 26)) rfl dX9_eRead_40 ?_
    refine lv_iconst (v := 1) hx hb dX9_eRead_43 (by decide) ?_
    refine lv_icmp_ne (tgt := 57) hx hb dX9_eRead_44 (by decide) (fun c44 => ?_) (fun c44 => ?_)
    · replace hf := ow_if_f c44 hf
      refine lv_aload_n hx hb dX9_eRead_57 rfl (lv_at hl 0 rfl) ?_
      refine ow_getV (ci := 9) (C := RX9) (T := TX9) (N := 41) hx hb hts hown hG hW ow_i56 (by decide) rfl hinX9 27 (by decide) (fk := 0) rfl (hts (.fieldLink RX9 144 "FiftyOneCardsModel" "value" "I") (by decide +kernel)) (v := .int (σ.1 56 27)) rfl dX9_eRead_58 ?_
      exact hJ61 k14 hk14 x2 (σ.1 56 27) σ _ _ _ hf hW (lv_sub hl [0, 1] rfl)
    · replace hf := ow_if_t c44 hf
      refine lv_ldc (v := 100000) hx hb hown (hts (.constant RX9 175 (100000)) (by decide +kernel)) dX9_eRead_47 ?_
      refine lv_aload_n hx hb dX9_eRead_49 rfl (lv_at hl 0 rfl) ?_
      refine ow_getV (ci := 9) (C := RX9) (T := TX9) (N := 41) hx hb hts hown hG hW ow_i56 (by decide) rfl hinX9 27 (by decide) (fk := 0) rfl (hts (.fieldLink RX9 144 "FiftyOneCardsModel" "value" "I") (by decide +kernel)) (v := .int (σ.1 56 27)) rfl dX9_eRead_50 ?_
      refine lv_iadd hx hb dX9_eRead_53 ?_
      refine lv_goto (tgt := 61) hx hb dX9_eRead_54 (by decide) ?_
      exact hJ61 k14 hk14 x2 ((100000 : Int32) + (σ.1 56 27)) σ _ _ _ hf hW (lv_sub hl [0, 1] rfl)
  have hJ99 : ∀ (k14 : Int32 → Int32 → ow_S → Option (Int32 × ow_S)) (hk14 : ∀ (x1 : Int32) (x2 : Int32) (σ : ow_S) (H : Heap) (locs : List Loc) (ls : Array Slot), k14 x1 x2 σ = some (rr, σr) → ow_Wd Z 56 20 σ s H locs → lv_has ls 4 [(0, .ref (ow_ad Z 56)), (1, .int x1), (2, .int x2)] → W p l e (headSpec wsX9_eRead { frames := 4, cells := 0, slots := 0, locals := 124 }).room s m args below meth c H locs 0 0 (MQ below (ow_Qz Z 56 20 rr σr) args s 0 0 (ow_A Z 56 20)) (F0 m 14 ls [])), ∀ (x1 : Int32) (σ : ow_S) (H : Heap) (locs : List Loc) (ls : Array Slot), L_X9_eRead_99 fu k14 x1 σ = some (rr, σr) → ow_Wd Z 56 20 σ s H locs → lv_has ls 4 [(0, .ref (ow_ad Z 56)), (1, .int x1)] → W p l e (headSpec wsX9_eRead { frames := 4, cells := 0, slots := 0, locals := 124 }).room s m args below meth c H locs 0 0 (MQ below (ow_Qz Z 56 20 rr σr) args s 0 0 (ow_A Z 56 20)) (F0 m 99 ls []) := by
    intro k14 hk14 x1 σ H locs ls hf hW hl
    unfold L_X9_eRead_99 at hf
    refine lv_aload_n hx hb dX9_eRead_99 rfl (lv_at hl 0 rfl) ?_
    refine ow_getV (ci := 9) (C := RX9) (T := TX9) (N := 41) hx hb hts hown hG hW ow_i56 (by decide) rfl hinX9 26 (by decide) (fk := 0) rfl (hts (.fieldLink RX9 141 "FiftyOneCardsModel" "token" "I") (by decide +kernel)) (v := .int (σ.1 56 26)) rfl dX9_eRead_100 ?_
    refine lv_bipush (v := 45) hx hb dX9_eRead_103 (by decide) ?_
    refine lv_icmp_ne (tgt := 124) hx hb dX9_eRead_105 (by decide) (fun c105 => ?_) (fun c105 => ?_)
    · replace hf := ow_if_f c105 hf
      refine lv_aload_n hx hb dX9_eRead_124 rfl (lv_at hl 0 rfl) ?_
      refine ow_getV (ci := 9) (C := RX9) (T := TX9) (N := 41) hx hb hts hown hG hW ow_i56 (by decide) rfl hinX9 26 (by decide) (fk := 0) rfl (hts (.fieldLink RX9 141 "FiftyOneCardsModel" "token" "I") (by decide +kernel)) (v := .int (σ.1 56 26)) rfl dX9_eRead_125 ?_
      refine lv_bipush (v := 40) hx hb dX9_eRead_128 (by decide) ?_
      refine lv_icmp_ne (tgt := 148) hx hb dX9_eRead_130 (by decide) (fun c130 => ?_) (fun c130 => ?_)
      · replace hf := ow_if_f c130 hf
        refine lv_iconst (v := 0) hx hb dX9_eRead_148 (by decide) ?_
        exact ow_zret hx hb hr (Or.inl rfl) hW hf dX9_eRead_149 hlocks
      · replace hf := ow_if_t c130 hf
        refine lv_aload_n hx hb dX9_eRead_133 rfl (lv_at hl 0 rfl) ?_
        refine lv_iconst (v := 0) hx hb dX9_eRead_134 (by decide) ?_
        obtain ⟨r_135, σ_135, hc135, hf⟩ := ow_cl_i hf
        refine ow_callz (va_runV (As := [.int (0 : Int32)]) (rest := []) ⟨hx, hb, hml, hown, hts⟩ (c_X9_opensOne l Z fu (0 : Int32) σ r_135 σ_135 hc135) (cwV 1 hts gX9_eRead_X9_opensOne rfl rfl rfl (by decide +kernel) ⟨Nat.le_of_ble_eq_true rfl, Nat.le_of_ble_eq_true rfl⟩) (ow_preV hG hW ow_i56 (by decide) rfl) rfl rfl hl.1 rfl (lv_room (Nat.le_of_ble_eq_true rfl)) dX9_eRead_135 ⟨Nat.zero_le _, Nat.zero_le _⟩) hW (fun b135 H locs hW => ?_)
        refine lv_if_ne (tgt := 143) hx hb dX9_eRead_138 (by decide) (fun c138 => ?_) (fun c138 => ?_)
        · replace hf := ow_if_f c138 hf
          refine lv_iconst (v := 1) hx hb dX9_eRead_143 (by decide) ?_
          refine lv_istore_n (lv' := [(2, .int (1 : Int32)), (0, .ref (ow_ad Z 56)), (1, .int x1)]) hx hb dX9_eRead_144 rfl hl (by decide) rfl (fun ls hl => ?_)
          refine lv_goto (tgt := 14) hx hb dX9_eRead_145 (by decide) ?_
          exact hk14 x1 (1 : Int32) σ_135 _ _ _ hf hW (lv_sub hl [1, 2, 0] rfl)
        · replace hf := ow_if_t c138 hf
          refine lv_iconst (v := 0) hx hb dX9_eRead_141 (by decide) ?_
          exact ow_zret hx hb hr (Or.inl rfl) hW hf dX9_eRead_142 hlocks
    · replace hf := ow_if_t c105 hf
      refine lv_aload_n hx hb dX9_eRead_108 rfl (lv_at hl 0 rfl) ?_
      refine lv_bipush (v := 19) hx hb dX9_eRead_109 (by decide) ?_
      obtain ⟨r_111, σ_111, hc111, hf⟩ := ow_cl_i hf
      refine ow_callz (va_runV (As := [.int (19 : Int32)]) (rest := []) ⟨hx, hb, hml, hown, hts⟩ (c_X9_opensOne l Z fu (19 : Int32) σ r_111 σ_111 hc111) (cwV 1 hts gX9_eRead_X9_opensOne rfl rfl rfl (by decide +kernel) ⟨Nat.le_of_ble_eq_true rfl, Nat.le_of_ble_eq_true rfl⟩) (ow_preV hG hW ow_i56 (by decide) rfl) rfl rfl hl.1 rfl (lv_room (Nat.le_of_ble_eq_true rfl)) dX9_eRead_111 ⟨Nat.zero_le _, Nat.zero_le _⟩) hW (fun b111 H locs hW => ?_)
      refine lv_if_ne (tgt := 119) hx hb dX9_eRead_114 (by decide) (fun c114 => ?_) (fun c114 => ?_)
      · replace hf := ow_if_f c114 hf
        refine lv_iconst (v := 0) hx hb dX9_eRead_119 (by decide) ?_
        refine lv_istore_n (lv' := [(2, .int (0 : Int32)), (0, .ref (ow_ad Z 56)), (1, .int x1)]) hx hb dX9_eRead_120 rfl hl (by decide) rfl (fun ls hl => ?_)
        refine lv_goto (tgt := 14) hx hb dX9_eRead_121 (by decide) ?_
        exact hk14 x1 (0 : Int32) σ_111 _ _ _ hf hW (lv_sub hl [1, 2, 0] rfl)
      · replace hf := ow_if_t c114 hf
        refine lv_iconst (v := 0) hx hb dX9_eRead_117 (by decide) ?_
        exact ow_zret hx hb hr (Or.inl rfl) hW hf dX9_eRead_118 hlocks
  have hJ14 : ∀ (fn : Nat), ∀ (x1 : Int32) (x2 : Int32) (σ : ow_S) (H : Heap) (locs : List Loc) (ls : Array Slot), L_X9_eRead_14 fu fn x1 x2 σ = some (rr, σr) → ow_Wd Z 56 20 σ s H locs → lv_has ls 4 [(0, .ref (ow_ad Z 56)), (1, .int x1), (2, .int x2)] → W p l e (headSpec wsX9_eRead { frames := 4, cells := 0, slots := 0, locals := 124 }).room s m args below meth c H locs 0 0 (MQ below (ow_Qz Z 56 20 rr σr) args s 0 0 (ow_A Z 56 20)) (F0 m 14 ls []) := by
    intro fn
    induction fn with
    | zero => intro x1 x2 σ H locs ls hf hW hl; simp [L_X9_eRead_14] at hf
    | succ fn ih =>
      intro x1 x2 σ H locs ls hf hW hl
      rw [L_X9_eRead_14] at hf
      refine lv_aload_n hx hb dX9_eRead_14 rfl (lv_at hl 0 rfl) ?_
      obtain ⟨σ_15, hc15, hf⟩ := ow_cv_i hf
      refine ow_callv (va_runV (As := []) (rest := []) ⟨hx, hb, hml, hown, hts⟩ (c_X9_next l Z fu σ σ_15  hc15) (cwV 0 hts gX9_eRead_X9_next rfl rfl rfl (by decide +kernel) ⟨Nat.le_of_ble_eq_true rfl, Nat.le_of_ble_eq_true rfl⟩) (ow_preV hG hW ow_i56 (by decide) rfl) rfl rfl hl.1 rfl (lv_room (Nat.le_of_ble_eq_true rfl)) dX9_eRead_15 ⟨Nat.zero_le _, Nat.zero_le _⟩) hW (fun H locs hW => ?_)
      refine lv_iload_n hx hb dX9_eRead_18 rfl (lv_at hl 1 rfl) ?_
      refine lv_if_eq (tgt := 150) hx hb dX9_eRead_19 (by decide) (fun c19 => ?_) (fun c19 => ?_)
      · replace hf := ow_if_t c19 hf
        refine lv_aload_n hx hb dX9_eRead_150 rfl (lv_at hl 0 rfl) ?_
        refine ow_getV (ci := 9) (C := RX9) (T := TX9) (N := 41) hx hb hts hown hG hW ow_i56 (by decide) rfl hinX9 26 (by decide) (fk := 0) rfl (hts (.fieldLink RX9 141 "FiftyOneCardsModel" "token" "I") (by decide +kernel)) (v := .int (σ_15.1 56 26)) rfl dX9_eRead_151 ?_
        refine lv_bipush (v := 59) hx hb dX9_eRead_154 (by decide) ?_
        refine lv_icmp_ne (tgt := 177) hx hb dX9_eRead_156 (by decide) (fun c156 => ?_) (fun c156 => ?_)
        · replace hf := ow_if_f c156 hf
          refine lv_aload_n hx hb dX9_eRead_177 rfl (lv_at hl 0 rfl) ?_
          refine ow_getV (ci := 9) (C := RX9) (T := TX9) (N := 41) hx hb hts hown hG hW ow_i56 (by decide) rfl hinX9 26 (by decide) (fk := 0) rfl (hts (.fieldLink RX9 141 "FiftyOneCardsModel" "token" "I") (by decide +kernel)) (v := .int (σ_15.1 56 26)) rfl dX9_eRead_178 ?_
          refine lv_bipush (v := 41) hx hb dX9_eRead_181 (by decide) ?_
          refine lv_icmp_ne (tgt := 229) hx hb dX9_eRead_183 (by decide) (fun c183 => ?_) (fun c183 => ?_)
          · replace hf := ow_if_f c183 hf
            refine lv_aload_n hx hb dX9_eRead_229 rfl (lv_at hl 0 rfl) ?_
            obtain ⟨r_230, σ_230, hc230, hf⟩ := ow_cl_i hf
            refine ow_calli (va_runV (As := []) (rest := []) ⟨hx, hb, hml, hown, hts⟩ (c_X9_signOf l Z fu σ_15 r_230 σ_230 hc230) (cwV 0 hts gX9_eRead_X9_signOf rfl rfl rfl (by decide +kernel) ⟨Nat.le_of_ble_eq_true rfl, Nat.le_of_ble_eq_true rfl⟩) (ow_preV hG hW ow_i56 (by decide) rfl) rfl rfl hl.1 rfl (lv_room (Nat.le_of_ble_eq_true rfl)) dX9_eRead_230 ⟨Nat.zero_le _, Nat.zero_le _⟩) hW (fun H locs hW => ?_)
            refine lv_istore_n (lv' := [(3, .int r_230), (0, .ref (ow_ad Z 56)), (1, .int x1), (2, .int x2)]) hx hb dX9_eRead_233 rfl hl (by decide) rfl (fun ls hl => ?_)
            refine lv_iload_n hx hb dX9_eRead_234 rfl (lv_at hl 0 rfl) ?_
            refine lv_iconst (v := -1) hx hb dX9_eRead_235 (by decide) ?_
            refine lv_icmp_eq (tgt := 247) hx hb dX9_eRead_236 (by decide) (fun c236 => ?_) (fun c236 => ?_)
            · replace hf := ow_if_t c236 hf
              refine lv_iconst (v := 0) hx hb dX9_eRead_247 (by decide) ?_
              exact ow_zret hx hb hr (Or.inl rfl) hW hf dX9_eRead_248 hlocks
            · replace hf := ow_if_f c236 hf
              refine lv_aload_n hx hb dX9_eRead_239 rfl (lv_at hl 1 rfl) ?_
              refine lv_iload_n hx hb dX9_eRead_240 rfl (lv_at hl 0 rfl) ?_
              obtain ⟨r_241, σ_241, hc241, hf⟩ := ow_cl_i hf
              refine ow_callz (va_runV (As := [.int r_230]) (rest := []) ⟨hx, hb, hml, hown, hts⟩ (c_X9_between l Z fu r_230 σ_230 r_241 σ_241 hc241) (cwV 1 hts gX9_eRead_X9_between rfl rfl rfl (by decide +kernel) ⟨Nat.le_of_ble_eq_true rfl, Nat.le_of_ble_eq_true rfl⟩) (ow_preV hG hW ow_i56 (by decide) rfl) rfl rfl hl.1 rfl (lv_room (Nat.le_of_ble_eq_true rfl)) dX9_eRead_241 ⟨Nat.zero_le _, Nat.zero_le _⟩) hW (fun b241 H locs hW => ?_)
              refine lv_if_ne (tgt := 249) hx hb dX9_eRead_244 (by decide) (fun c244 => ?_) (fun c244 => ?_)
              · replace hf := ow_if_f c244 hf
                refine lv_iconst (v := 1) hx hb dX9_eRead_249 (by decide) ?_
                refine lv_istore_n (lv' := [(1, .int (1 : Int32)), (3, .int r_230), (0, .ref (ow_ad Z 56)), (2, .int x2)]) hx hb dX9_eRead_250 rfl hl (by decide) rfl (fun ls hl => ?_)
                refine lv_iload_n hx hb dX9_eRead_251 rfl (lv_at hl 1 rfl) ?_
                refine lv_bipush (v := 12) hx hb dX9_eRead_252 (by decide) ?_
                refine lv_icmp_gt (tgt := 261) hx hb dX9_eRead_254 (by decide) (fun c254 => ?_) (fun c254 => ?_)
                · replace hf := ow_if_t c254 hf
                  refine lv_iconst (v := 0) hx hb dX9_eRead_261 (by decide) ?_
                  exact hJ262 (L_X9_eRead_14 fu fn) ih (1 : Int32) (0 : Int32) σ_241 _ _ _ hf hW (lv_sub hl [2, 0] rfl)
                · replace hf := ow_if_f c254 hf
                  refine lv_iconst (v := 1) hx hb dX9_eRead_257 (by decide) ?_
                  refine lv_goto (tgt := 262) hx hb dX9_eRead_258 (by decide) ?_
                  exact hJ262 (L_X9_eRead_14 fu fn) ih (1 : Int32) (1 : Int32) σ_241 _ _ _ hf hW (lv_sub hl [2, 0] rfl)
              · replace hf := ow_if_t c244 hf
                refine lv_iconst (v := 0) hx hb dX9_eRead_247 (by decide) ?_
                exact ow_zret hx hb hr (Or.inl rfl) hW hf dX9_eRead_248 hlocks
          · replace hf := ow_if_t c183 hf
            refine lv_aload_n hx hb dX9_eRead_186 rfl (lv_at hl 0 rfl) ?_
            refine lv_iconst (v := 1) hx hb dX9_eRead_187 (by decide) ?_
            obtain ⟨σ_188, hc188, hf⟩ := ow_cv_i hf
            refine ow_callv (va_runV (As := [.int (1 : Int32)]) (rest := []) ⟨hx, hb, hml, hown, hts⟩ (c_X9_unwinds l Z fu (1 : Int32) σ_15 σ_188  hc188) (cwV 1 hts gX9_eRead_X9_unwinds rfl rfl rfl (by decide +kernel) ⟨Nat.le_of_ble_eq_true rfl, Nat.le_of_ble_eq_true rfl⟩) (ow_preV hG hW ow_i56 (by decide) rfl) rfl rfl hl.1 rfl (lv_room (Nat.le_of_ble_eq_true rfl)) dX9_eRead_188 ⟨Nat.zero_le _, Nat.zero_le _⟩) hW (fun H locs hW => ?_)
            refine lv_aload_n hx hb dX9_eRead_191 rfl (lv_at hl 0 rfl) ?_
            refine ow_getV (ci := 9) (C := RX9) (T := TX9) (N := 41) hx hb hts hown hG hW ow_i56 (by decide) rfl hinX9 30 (by decide) (fk := 0) rfl (hts (.fieldLink RX9 154 "FiftyOneCardsModel" "heldMany" "I") (by decide +kernel)) (v := .int (σ_188.1 56 30)) rfl dX9_eRead_192 ?_
            refine lv_if_ne (tgt := 200) hx hb dX9_eRead_195 (by decide) (fun c195 => ?_) (fun c195 => ?_)
            · replace hf := ow_if_f c195 hf
              refine lv_aload_n hx hb dX9_eRead_200 rfl (lv_at hl 0 rfl) ?_
              refine lv_dup hx hb dX9_eRead_201 rfl ?_
              refine ow_getV (ci := 9) (C := RX9) (T := TX9) (N := 41) hx hb hts hown hG hW ow_i56 (by decide) rfl hinX9 30 (by decide) (fk := 0) rfl (hts (.fieldLink RX9 154 "FiftyOneCardsModel" "heldMany" "I") (by decide +kernel)) (v := .int (σ_188.1 56 30)) rfl dX9_eRead_202 ?_
              refine lv_iconst (v := 1) hx hb dX9_eRead_205 (by decide) ?_
              refine lv_isub hx hb dX9_eRead_206 ?_
              refine ow_putI (ci := 9) (C := RX9) (T := TX9) (N := 41) hx hb hts hown hG hW ow_i56 (by decide) rfl hinX9 tyX9 tyX9_ok nmX9 30 (by decide) rfl (hts (.fieldLink RX9 154 "FiftyOneCardsModel" "heldMany" "I") (by decide +kernel)) rfl rfl rfl hf dX9_eRead_207 (fun σ_207 H locs hf hW => ?_)
              refine lv_aload_n hx hb dX9_eRead_210 rfl (lv_at hl 0 rfl) ?_
              refine lv_dup hx hb dX9_eRead_211 rfl ?_
              refine ow_getV (ci := 9) (C := RX9) (T := TX9) (N := 41) hx hb hts hown hG hW ow_i56 (by decide) rfl hinX9 31 (by decide) (fk := 0) rfl (hts (.fieldLink RX9 160 "FiftyOneCardsModel" "opens" "I") (by decide +kernel)) (v := .int (σ_207.1 56 31)) rfl dX9_eRead_212 ?_
              refine lv_iconst (v := 1) hx hb dX9_eRead_215 (by decide) ?_
              refine lv_isub hx hb dX9_eRead_216 ?_
              refine ow_putI (ci := 9) (C := RX9) (T := TX9) (N := 41) hx hb hts hown hG hW ow_i56 (by decide) rfl hinX9 tyX9 tyX9_ok nmX9 31 (by decide) rfl (hts (.fieldLink RX9 160 "FiftyOneCardsModel" "opens" "I") (by decide +kernel)) rfl rfl rfl hf dX9_eRead_217 (fun σ_217 H locs hf hW => ?_)
              refine lv_aload_n hx hb dX9_eRead_220 rfl (lv_at hl 0 rfl) ?_
              refine lv_bipush (v := 7) hx hb dX9_eRead_221 (by decide) ?_
              obtain ⟨σ_223, hc223, hf⟩ := ow_cv_i hf
              refine ow_callv (va_runV (As := [.int (7 : Int32)]) (rest := []) ⟨hx, hb, hml, hown, hts⟩ (c_X9_unwinds l Z fu (7 : Int32) σ_217 σ_223  hc223) (cwV 1 hts gX9_eRead_X9_unwinds rfl rfl rfl (by decide +kernel) ⟨Nat.le_of_ble_eq_true rfl, Nat.le_of_ble_eq_true rfl⟩) (ow_preV hG hW ow_i56 (by decide) rfl) rfl rfl hl.1 rfl (lv_room (Nat.le_of_ble_eq_true rfl)) dX9_eRead_223 ⟨Nat.zero_le _, Nat.zero_le _⟩) hW (fun H locs hW => ?_)
              refine lv_goto (tgt := 14) hx hb dX9_eRead_226 (by decide) ?_
              exact ih x1 x2 σ_223 _ _ _ hf hW (lv_sub hl [0, 1, 2] rfl)
            · replace hf := ow_if_t c195 hf
              refine lv_iconst (v := 0) hx hb dX9_eRead_198 (by decide) ?_
              exact ow_zret hx hb hr (Or.inl rfl) hW hf dX9_eRead_199 hlocks
        · replace hf := ow_if_t c156 hf
          refine lv_aload_n hx hb dX9_eRead_159 rfl (lv_at hl 0 rfl) ?_
          refine lv_iconst (v := 1) hx hb dX9_eRead_160 (by decide) ?_
          obtain ⟨σ_161, hc161, hf⟩ := ow_cv_i hf
          refine ow_callv (va_runV (As := [.int (1 : Int32)]) (rest := []) ⟨hx, hb, hml, hown, hts⟩ (c_X9_unwinds l Z fu (1 : Int32) σ_15 σ_161  hc161) (cwV 1 hts gX9_eRead_X9_unwinds rfl rfl rfl (by decide +kernel) ⟨Nat.le_of_ble_eq_true rfl, Nat.le_of_ble_eq_true rfl⟩) (ow_preV hG hW ow_i56 (by decide) rfl) rfl rfl hl.1 rfl (lv_room (Nat.le_of_ble_eq_true rfl)) dX9_eRead_161 ⟨Nat.zero_le _, Nat.zero_le _⟩) hW (fun H locs hW => ?_)
          refine lv_aload_n hx hb dX9_eRead_164 rfl (lv_at hl 0 rfl) ?_
          refine ow_getV (ci := 9) (C := RX9) (T := TX9) (N := 41) hx hb hts hown hG hW ow_i56 (by decide) rfl hinX9 30 (by decide) (fk := 0) rfl (hts (.fieldLink RX9 154 "FiftyOneCardsModel" "heldMany" "I") (by decide +kernel)) (v := .int (σ_161.1 56 30)) rfl dX9_eRead_165 ?_
          refine lv_if_ne (tgt := 175) hx hb dX9_eRead_168 (by decide) (fun c168 => ?_) (fun c168 => ?_)
          · replace hf := ow_if_f c168 hf
            refine lv_iconst (v := 0) hx hb dX9_eRead_175 (by decide) ?_
            exact ow_zret hx hb hr (Or.inl rfl) hW hf dX9_eRead_176 hlocks
          · replace hf := ow_if_t c168 hf
            refine lv_iconst (v := 1) hx hb dX9_eRead_171 (by decide) ?_
            refine lv_goto (tgt := 176) hx hb dX9_eRead_172 (by decide) ?_
            exact ow_zret hx hb hr (Or.inr rfl) hW hf dX9_eRead_176 hlocks
      · replace hf := ow_if_f c19 hf
        refine lv_aload_n hx hb dX9_eRead_22 rfl (lv_at hl 0 rfl) ?_
        refine ow_getV (ci := 9) (C := RX9) (T := TX9) (N := 41) hx hb hts hown hG hW ow_i56 (by decide) rfl hinX9 26 (by decide) (fk := 0) rfl (hts (.fieldLink RX9 141 "FiftyOneCardsModel" "token" "I") (by decide +kernel)) (v := .int (σ_15.1 56 26)) rfl dX9_eRead_23 ?_
        refine lv_iconst (v := 1) hx hb dX9_eRead_26 (by decide) ?_
        refine lv_icmp_eq (tgt := 38) hx hb dX9_eRead_27 (by decide) (fun c27 => ?_) (fun c27 => ?_)
        · replace hf := ow_if_t c27 hf
          exact hJ38 (L_X9_eRead_14 fu fn) ih x2 σ_15 _ _ _ hf hW (lv_sub hl [0, 2] rfl)
        · replace hf := ow_if_f c27 hf
          refine lv_aload_n hx hb dX9_eRead_30 rfl (lv_at hl 0 rfl) ?_
          refine ow_getV (ci := 9) (C := RX9) (T := TX9) (N := 41) hx hb hts hown hG hW ow_i56 (by decide) rfl hinX9 26 (by decide) (fk := 0) rfl (hts (.fieldLink RX9 141 "FiftyOneCardsModel" "token" "I") (by decide +kernel)) (v := .int (σ_15.1 56 26)) rfl dX9_eRead_31 ?_
          refine lv_iconst (v := 2) hx hb dX9_eRead_34 (by decide) ?_
          refine lv_icmp_ne (tgt := 75) hx hb dX9_eRead_35 (by decide) (fun c35 => ?_) (fun c35 => ?_)
          · replace hf := ow_if_f c35 hf
            refine lv_aload_n hx hb dX9_eRead_75 rfl (lv_at hl 0 rfl) ?_
            refine ow_getV (ci := 9) (C := RX9) (T := TX9) (N := 41) hx hb hts hown hG hW ow_i56 (by decide) rfl hinX9 26 (by decide) (fk := 0) rfl (hts (.fieldLink RX9 141 "FiftyOneCardsModel" "token" "I") (by decide +kernel)) (v := .int (σ_15.1 56 26)) rfl dX9_eRead_76 ?_
            refine lv_bipush (v := 6) hx hb dX9_eRead_79 (by decide) ?_
            refine lv_icmp_ne (tgt := 99) hx hb dX9_eRead_81 (by decide) (fun c81 => ?_) (fun c81 => ?_)
            · replace hf := ow_if_f c81 hf
              exact hJ99 (L_X9_eRead_14 fu fn) ih x1 σ_15 _ _ _ hf hW (lv_sub hl [0, 1] rfl)
            · replace hf := ow_if_t c81 hf
              refine lv_iload_n hx hb dX9_eRead_84 rfl (lv_at hl 2 rfl) ?_
              refine lv_if_eq (tgt := 99) hx hb dX9_eRead_85 (by decide) (fun c85 => ?_) (fun c85 => ?_)
              · replace hf := ow_if_t c85 hf
                exact hJ99 (L_X9_eRead_14 fu fn) ih x1 σ_15 _ _ _ hf hW (lv_sub hl [0, 1] rfl)
              · replace hf := ow_if_f c85 hf
                refine lv_aload_n hx hb dX9_eRead_88 rfl (lv_at hl 0 rfl) ?_
                refine lv_bipush (v := 13) hx hb dX9_eRead_89 (by decide) ?_
                obtain ⟨r_91, σ_91, hc91, hf⟩ := ow_cl_i hf
                refine ow_callz (va_runV (As := [.int (13 : Int32)]) (rest := []) ⟨hx, hb, hml, hown, hts⟩ (c_X9_opensOne l Z fu (13 : Int32) σ_15 r_91 σ_91 hc91) (cwV 1 hts gX9_eRead_X9_opensOne rfl rfl rfl (by decide +kernel) ⟨Nat.le_of_ble_eq_true rfl, Nat.le_of_ble_eq_true rfl⟩) (ow_preV hG hW ow_i56 (by decide) rfl) rfl rfl hl.1 rfl (lv_room (Nat.le_of_ble_eq_true rfl)) dX9_eRead_91 ⟨Nat.zero_le _, Nat.zero_le _⟩) hW (fun b91 H locs hW => ?_)
                refine lv_if_ne (tgt := 14) hx hb dX9_eRead_94 (by decide) (fun c94 => ?_) (fun c94 => ?_)
                · replace hf := ow_if_f c94 hf
                  exact ih x1 x2 σ_91 _ _ _ hf hW (lv_sub hl [0, 1, 2] rfl)
                · replace hf := ow_if_t c94 hf
                  refine lv_iconst (v := 0) hx hb dX9_eRead_97 (by decide) ?_
                  exact ow_zret hx hb hr (Or.inl rfl) hW hf dX9_eRead_98 hlocks
          · replace hf := ow_if_t c35 hf
            exact hJ38 (L_X9_eRead_14 fu fn) ih x2 σ_15 _ _ _ hf hW (lv_sub hl [0, 2] rfl)
  have hl := lv_entry ([.ref (ow_ad Z 56)]) (n := 4) (Nat.le_of_ble_eq_true rfl)
  refine W.eq (g2 := F0 m 0 ((lg_sl ([.ref (ow_ad Z 56)]) ++ List.replicate (4 - (lg_sl ([.ref (ow_ad Z 56)])).length) Slot.unset).toArray) []) (by rw [hav]; exact lg_entry_eq _ _ _) ?_
  generalize (lg_sl ([.ref (ow_ad Z 56)]) ++ List.replicate (4 - (lg_sl ([.ref (ow_ad Z 56)])).length) Slot.unset).toArray = ls at hl ⊢
  have hl : lv_has ls 4 [(0, .ref (ow_ad Z 56))] := hl
  unfold f_X9_eRead at hf
  refine lv_aload_n hx hb dX9_eRead_0 rfl (lv_at hl 0 rfl) ?_
  refine lv_iconst (v := 0) hx hb dX9_eRead_1 (by decide) ?_
  refine ow_putI (ci := 9) (C := RX9) (T := TX9) (N := 41) hx hb hts hown hG hW ow_i56 (by decide) rfl hinX9 tyX9 tyX9_ok nmX9 30 (by decide) rfl (hts (.fieldLink RX9 154 "FiftyOneCardsModel" "heldMany" "I") (by decide +kernel)) rfl rfl rfl hf dX9_eRead_2 (fun σ_2 H locs hf hW => ?_)
  refine lv_aload_n hx hb dX9_eRead_5 rfl (lv_at hl 0 rfl) ?_
  refine lv_iconst (v := 0) hx hb dX9_eRead_6 (by decide) ?_
  refine ow_putI (ci := 9) (C := RX9) (T := TX9) (N := 41) hx hb hts hown hG hW ow_i56 (by decide) rfl hinX9 tyX9 tyX9_ok nmX9 31 (by decide) rfl (hts (.fieldLink RX9 160 "FiftyOneCardsModel" "opens" "I") (by decide +kernel)) rfl rfl rfl hf dX9_eRead_7 (fun σ_7 H locs hf hW => ?_)
  refine lv_iconst (v := 1) hx hb dX9_eRead_10 (by decide) ?_
  refine lv_istore_n (lv' := [(1, .int (1 : Int32)), (0, .ref (ow_ad Z 56))]) hx hb dX9_eRead_11 rfl hl (by decide) rfl (fun ls hl => ?_)
  refine lv_iconst (v := 1) hx hb dX9_eRead_12 (by decide) ?_
  refine lv_istore_n (lv' := [(2, .int (1 : Int32)), (1, .int (1 : Int32)), (0, .ref (ow_ad Z 56))]) hx hb dX9_eRead_13 rfl hl (by decide) rfl (fun ls hl => ?_)
  exact hJ14 fu (1 : Int32) (1 : Int32) σ_7 _ _ _ hf hW (lv_sub hl [2, 1, 0] rfl)
set_option maxHeartbeats 40000000 in
set_option maxRecDepth 100000 in
theorem c_X9_text (l : Launch) (Z : ow_Z) (fu : Nat) (σ : ow_S) (rr : Int32) (σr : ow_S) (hf : f_X9_text fu σ = some (rr, σr)) : Met l yX9_text wsX9_text { frames := 5, cells := 0, slots := 0, locals := 147 } (ow_Pc Z 56 20 [.ref (ow_ad Z 56)] σ) (ow_Qi Z 56 20 rr σr) 0 0 (ow_A Z 56 20) := by
  refine Met.ofW (cc := cX9_text) (maxL := 3) (ret := (some .int)) (by decide) rfl ?_
  intro p e s m args below meth c s₁ B hml hv
  obtain ⟨hav, hB⟩ := hv
  obtain ⟨hG, hW⟩ := ow_begin hB
  have hx := B.exec
  have hb := B.bytes
  have hr := B.returns
  have hts := atoms_spec (ws := wsX9_text) B.pre
  have hown : s.vm.findClass RX9 = some m.cls := findClass_of_methodNamed B.named
  have hlocks := B.notSynchronized
  have hinX9 : ∀ w ∈ wsX90, w ∈ wsX9_text := by decide +kernel
  have hJ122 : ∀ (x1 : Int32) (σ : ow_S) (H : Heap) (locs : List Loc) (ls : Array Slot), L_X9_text_122 fu x1 σ = some (rr, σr) → ow_Wd Z 56 20 σ s H locs → lv_has ls 3 [(0, .ref (ow_ad Z 56)), (1, .int x1)] → W p l e (headSpec wsX9_text { frames := 5, cells := 0, slots := 0, locals := 147 }).room s m args below meth c H locs 0 0 (MQ below (ow_Qi Z 56 20 rr σr) args s 0 0 (ow_A Z 56 20)) (F0 m 122 ls []) := by
    intro x1 σ H locs ls hf hW hl
    unfold L_X9_text_122 at hf
    refine lv_aload_n hx hb dX9_text_122 rfl (lv_at hl 0 rfl) ?_
    refine ow_getV (ci := 9) (C := RX9) (T := TX9) (N := 41) hx hb hts hown hG hW ow_i56 (by decide) rfl hinX9 10 (by decide) (fk := 2) rfl (hts (.fieldLink RX9 32 "FiftyOneCardsModel" "starts" "[I") (by decide +kernel)) (v := .ref (ow_ad Z 63)) (ow_vR hW ow_i56.1 ow_i56.2.1 rfl) dX9_text_123 ?_
    refine lv_iconst (v := 4) hx hb dX9_text_126 (by decide) ?_
    refine lv_aload_n hx hb dX9_text_127 rfl (lv_at hl 0 rfl) ?_
    refine ow_getV (ci := 9) (C := RX9) (T := TX9) (N := 41) hx hb hts hown hG hW ow_i56 (by decide) rfl hinX9 11 (by decide) (fk := 0) rfl (hts (.fieldLink RX9 88 "FiftyOneCardsModel" "texts" "I") (by decide +kernel)) (v := .int (σ.1 56 11)) rfl dX9_text_128 ?_
    refine lv_imul hx hb dX9_text_131 ?_
    refine lv_iconst (v := 3) hx hb dX9_text_132 (by decide) ?_
    refine lv_iadd hx hb dX9_text_133 ?_
    refine lv_aload_n hx hb dX9_text_134 rfl (lv_at hl 0 rfl) ?_
    refine ow_getV (ci := 9) (C := RX9) (T := TX9) (N := 41) hx hb hts hown hG hW ow_i56 (by decide) rfl hinX9 32 (by decide) (fk := 0) rfl (hts (.fieldLink RX9 151 "FiftyOneCardsModel" "out" "I") (by decide +kernel)) (v := .int (σ.1 56 32)) rfl dX9_text_135 ?_
    obtain ⟨q138, hf⟩ := ow_ck_i hf
    refine ow_ist (q := (((4 : Int32) * (σ.1 56 11)) + (3 : Int32)).toNatClampNeg) hx hb hG hW ow_i63 rfl q138 rfl hf dX9_text_138 (fun σ_138 H locs hf hW => ?_)
    refine lv_aload_n hx hb dX9_text_139 rfl (lv_at hl 0 rfl) ?_
    refine lv_iconst (v := 0) hx hb dX9_text_140 (by decide) ?_
    refine ow_putI (ci := 9) (C := RX9) (T := TX9) (N := 41) hx hb hts hown hG hW ow_i56 (by decide) rfl hinX9 tyX9 tyX9_ok nmX9 8 (by decide) rfl (hts (.fieldLink RX9 71 "FiftyOneCardsModel" "taped" "I") (by decide +kernel)) rfl rfl rfl hf dX9_text_141 (fun σ_141 H locs hf hW => ?_)
    refine lv_iload_n hx hb dX9_text_144 rfl (lv_at hl 1 rfl) ?_
    refine lv_if_ne (tgt := 156) hx hb dX9_text_145 (by decide) (fun c145 => ?_) (fun c145 => ?_)
    · replace hf := ow_if_f c145 hf
      refine lv_aload_n hx hb dX9_text_156 rfl (lv_at hl 0 rfl) ?_
      refine lv_dup hx hb dX9_text_157 rfl ?_
      refine ow_getV (ci := 9) (C := RX9) (T := TX9) (N := 41) hx hb hts hown hG hW ow_i56 (by decide) rfl hinX9 11 (by decide) (fk := 0) rfl (hts (.fieldLink RX9 88 "FiftyOneCardsModel" "texts" "I") (by decide +kernel)) (v := .int (σ_141.1 56 11)) rfl dX9_text_158 ?_
      refine lv_iconst (v := 1) hx hb dX9_text_161 (by decide) ?_
      refine lv_iadd hx hb dX9_text_162 ?_
      refine ow_putI (ci := 9) (C := RX9) (T := TX9) (N := 41) hx hb hts hown hG hW ow_i56 (by decide) rfl hinX9 tyX9 tyX9_ok nmX9 11 (by decide) rfl (hts (.fieldLink RX9 88 "FiftyOneCardsModel" "texts" "I") (by decide +kernel)) rfl rfl rfl hf dX9_text_163 (fun σ_163 H locs hf hW => ?_)
      refine lv_aload_n hx hb dX9_text_166 rfl (lv_at hl 0 rfl) ?_
      refine ow_getV (ci := 9) (C := RX9) (T := TX9) (N := 41) hx hb hts hown hG hW ow_i56 (by decide) rfl hinX9 11 (by decide) (fk := 0) rfl (hts (.fieldLink RX9 88 "FiftyOneCardsModel" "texts" "I") (by decide +kernel)) (v := .int (σ_163.1 56 11)) rfl dX9_text_167 ?_
      refine lv_iconst (v := 1) hx hb dX9_text_170 (by decide) ?_
      refine lv_isub hx hb dX9_text_171 ?_
      exact ow_iret hx hb hr hW hf dX9_text_172 hlocks
    · replace hf := ow_if_t c145 hf
      refine lv_bipush (v := -100) hx hb dX9_text_148 (by decide) ?_
      refine lv_aload_n hx hb dX9_text_150 rfl (lv_at hl 0 rfl) ?_
      refine ow_getV (ci := 9) (C := RX9) (T := TX9) (N := 41) hx hb hts hown hG hW ow_i56 (by decide) rfl hinX9 25 (by decide) (fk := 0) rfl (hts (.fieldLink RX9 138 "FiftyOneCardsModel" "begun" "I") (by decide +kernel)) (v := .int (σ_141.1 56 25)) rfl dX9_text_151 ?_
      refine lv_isub hx hb dX9_text_154 ?_
      exact ow_iret hx hb hr hW hf dX9_text_155 hlocks
  have hJ121 : ∀ (s0 : Int32) (σ : ow_S) (H : Heap) (locs : List Loc) (ls : Array Slot), L_X9_text_121 fu s0 σ = some (rr, σr) → ow_Wd Z 56 20 σ s H locs → lv_has ls 3 [(0, .ref (ow_ad Z 56))] → W p l e (headSpec wsX9_text { frames := 5, cells := 0, slots := 0, locals := 147 }).room s m args below meth c H locs 0 0 (MQ below (ow_Qi Z 56 20 rr σr) args s 0 0 (ow_A Z 56 20)) (F0 m 121 ls [.int s0]) := by
    intro s0 σ H locs ls hf hW hl
    unfold L_X9_text_121 at hf
    refine lv_istore_n (lv' := [(1, .int s0), (0, .ref (ow_ad Z 56))]) hx hb dX9_text_121 rfl hl (by decide) rfl (fun ls hl => ?_)
    exact hJ122 s0 σ _ _ _ hf hW (lv_sub hl [1, 0] rfl)
  have hJ101 : ∀ (x1 : Int32) (σ : ow_S) (H : Heap) (locs : List Loc) (ls : Array Slot), L_X9_text_101 fu x1 σ = some (rr, σr) → ow_Wd Z 56 20 σ s H locs → lv_has ls 3 [(0, .ref (ow_ad Z 56)), (1, .int x1)] → W p l e (headSpec wsX9_text { frames := 5, cells := 0, slots := 0, locals := 147 }).room s m args below meth c H locs 0 0 (MQ below (ow_Qi Z 56 20 rr σr) args s 0 0 (ow_A Z 56 20)) (F0 m 101 ls []) := by
    intro x1 σ H locs ls hf hW hl
    unfold L_X9_text_101 at hf
    refine lv_iload_n hx hb dX9_text_101 rfl (lv_at hl 1 rfl) ?_
    refine lv_if_eq (tgt := 122) hx hb dX9_text_102 (by decide) (fun c102 => ?_) (fun c102 => ?_)
    · replace hf := ow_if_t c102 hf
      exact hJ122 x1 σ _ _ _ hf hW (lv_sub hl [0, 1] rfl)
    · replace hf := ow_if_f c102 hf
      refine lv_aload_n hx hb dX9_text_105 rfl (lv_at hl 0 rfl) ?_
      obtain ⟨σ_106, hc106, hf⟩ := ow_cv_i hf
      refine ow_callv (va_runV (As := []) (rest := []) ⟨hx, hb, hml, hown, hts⟩ (c_X9_next l Z fu σ σ_106  hc106) (cwV 0 hts gX9_text_X9_next rfl rfl rfl (by decide +kernel) ⟨Nat.le_of_ble_eq_true rfl, Nat.le_of_ble_eq_true rfl⟩) (ow_preV hG hW ow_i56 (by decide) rfl) rfl rfl hl.1 rfl (lv_room (Nat.le_of_ble_eq_true rfl)) dX9_text_106 ⟨Nat.zero_le _, Nat.zero_le _⟩) hW (fun H locs hW => ?_)
      refine lv_aload_n hx hb dX9_text_109 rfl (lv_at hl 0 rfl) ?_
      refine ow_getV (ci := 9) (C := RX9) (T := TX9) (N := 41) hx hb hts hown hG hW ow_i56 (by decide) rfl hinX9 26 (by decide) (fk := 0) rfl (hts (.fieldLink RX9 141 "FiftyOneCardsModel" "token" "I") (by decide +kernel)) (v := .int (σ_106.1 56 26)) rfl dX9_text_110 ?_
      refine lv_if_ne (tgt := 120) hx hb dX9_text_113 (by decide) (fun c113 => ?_) (fun c113 => ?_)
      · replace hf := ow_if_f c113 hf
        refine lv_iconst (v := 0) hx hb dX9_text_120 (by decide) ?_
        exact hJ121 (0 : Int32) σ_106 _ _ _ hf hW (lv_sub hl [0] rfl)
      · replace hf := ow_if_t c113 hf
        refine lv_iconst (v := 1) hx hb dX9_text_116 (by decide) ?_
        refine lv_goto (tgt := 121) hx hb dX9_text_117 (by decide) ?_
        exact hJ121 (1 : Int32) σ_106 _ _ _ hf hW (lv_sub hl [0] rfl)
  have hJ94 : ∀ (k26 : Int32 → Int32 → ow_S → Option (Int32 × ow_S)) (hk26 : ∀ (x1 : Int32) (x2 : Int32) (σ : ow_S) (H : Heap) (locs : List Loc) (ls : Array Slot), k26 x1 x2 σ = some (rr, σr) → ow_Wd Z 56 20 σ s H locs → lv_has ls 3 [(0, .ref (ow_ad Z 56)), (1, .int x1), (2, .int x2)] → W p l e (headSpec wsX9_text { frames := 5, cells := 0, slots := 0, locals := 147 }).room s m args below meth c H locs 0 0 (MQ below (ow_Qi Z 56 20 rr σr) args s 0 0 (ow_A Z 56 20)) (F0 m 26 ls [])), ∀ (x2 : Int32) (s0 : Int32) (σ : ow_S) (H : Heap) (locs : List Loc) (ls : Array Slot), L_X9_text_94 fu k26 x2 s0 σ = some (rr, σr) → ow_Wd Z 56 20 σ s H locs → lv_has ls 3 [(0, .ref (ow_ad Z 56)), (2, .int x2)] → W p l e (headSpec wsX9_text { frames := 5, cells := 0, slots := 0, locals := 147 }).room s m args below meth c H locs 0 0 (MQ below (ow_Qi Z 56 20 rr σr) args s 0 0 (ow_A Z 56 20)) (F0 m 94 ls [.int s0]) := by
    intro k26 hk26 x2 s0 σ H locs ls hf hW hl
    unfold L_X9_text_94 at hf
    refine lv_istore_n (lv' := [(1, .int s0), (0, .ref (ow_ad Z 56)), (2, .int x2)]) hx hb dX9_text_94 rfl hl (by decide) rfl (fun ls hl => ?_)
    refine ow_iinc (d := 1) (lv' := fun z => [(2, .int z), (1, .int s0), (0, .ref (ow_ad Z 56))]) hx hb hf dX9_text_95 hl (k := 2) rfl (by decide) (by decide) (fun z => rfl) (fun x2_95 hf ls hl => ?_)
    refine lv_goto (tgt := 26) hx hb dX9_text_98 (by decide) ?_
    exact hk26 s0 x2_95 σ _ _ _ hf hW (lv_sub hl [2, 1, 0] rfl)
  have hJ93 : ∀ (k26 : Int32 → Int32 → ow_S → Option (Int32 × ow_S)) (hk26 : ∀ (x1 : Int32) (x2 : Int32) (σ : ow_S) (H : Heap) (locs : List Loc) (ls : Array Slot), k26 x1 x2 σ = some (rr, σr) → ow_Wd Z 56 20 σ s H locs → lv_has ls 3 [(0, .ref (ow_ad Z 56)), (1, .int x1), (2, .int x2)] → W p l e (headSpec wsX9_text { frames := 5, cells := 0, slots := 0, locals := 147 }).room s m args below meth c H locs 0 0 (MQ below (ow_Qi Z 56 20 rr σr) args s 0 0 (ow_A Z 56 20)) (F0 m 26 ls [])), ∀ (x2 : Int32) (σ : ow_S) (H : Heap) (locs : List Loc) (ls : Array Slot), L_X9_text_93 fu k26 x2 σ = some (rr, σr) → ow_Wd Z 56 20 σ s H locs → lv_has ls 3 [(0, .ref (ow_ad Z 56)), (2, .int x2)] → W p l e (headSpec wsX9_text { frames := 5, cells := 0, slots := 0, locals := 147 }).room s m args below meth c H locs 0 0 (MQ below (ow_Qi Z 56 20 rr σr) args s 0 0 (ow_A Z 56 20)) (F0 m 93 ls []) := by
    intro k26 hk26 x2 σ H locs ls hf hW hl
    unfold L_X9_text_93 at hf
    refine lv_iconst (v := 0) hx hb dX9_text_93 (by decide) ?_
    exact hJ94 k26 hk26 x2 (0 : Int32) σ _ _ _ hf hW (lv_sub hl [0, 1] rfl)
  have hJ60 : ∀ (k26 : Int32 → Int32 → ow_S → Option (Int32 × ow_S)) (hk26 : ∀ (x1 : Int32) (x2 : Int32) (σ : ow_S) (H : Heap) (locs : List Loc) (ls : Array Slot), k26 x1 x2 σ = some (rr, σr) → ow_Wd Z 56 20 σ s H locs → lv_has ls 3 [(0, .ref (ow_ad Z 56)), (1, .int x1), (2, .int x2)] → W p l e (headSpec wsX9_text { frames := 5, cells := 0, slots := 0, locals := 147 }).room s m args below meth c H locs 0 0 (MQ below (ow_Qi Z 56 20 rr σr) args s 0 0 (ow_A Z 56 20)) (F0 m 26 ls [])), ∀ (x2 : Int32) (s0 : Int32) (σ : ow_S) (H : Heap) (locs : List Loc) (ls : Array Slot), L_X9_text_60 fu k26 x2 s0 σ = some (rr, σr) → ow_Wd Z 56 20 σ s H locs → lv_has ls 3 [(0, .ref (ow_ad Z 56)), (2, .int x2)] → W p l e (headSpec wsX9_text { frames := 5, cells := 0, slots := 0, locals := 147 }).room s m args below meth c H locs 0 0 (MQ below (ow_Qi Z 56 20 rr σr) args s 0 0 (ow_A Z 56 20)) (F0 m 60 ls [.int s0]) := by
    intro k26 hk26 x2 s0 σ H locs ls hf hW hl
    unfold L_X9_text_60 at hf
    refine lv_istore_n (lv' := [(1, .int s0), (0, .ref (ow_ad Z 56)), (2, .int x2)]) hx hb dX9_text_60 rfl hl (by decide) rfl (fun ls hl => ?_)
    refine lv_aload_n hx hb dX9_text_61 rfl (lv_at hl 1 rfl) ?_
    refine ow_getV (ci := 9) (C := RX9) (T := TX9) (N := 41) hx hb hts hown hG hW ow_i56 (by decide) rfl hinX9 10 (by decide) (fk := 2) rfl (hts (.fieldLink RX9 32 "FiftyOneCardsModel" "starts" "[I") (by decide +kernel)) (v := .ref (ow_ad Z 63)) (ow_vR hW ow_i56.1 ow_i56.2.1 rfl) dX9_text_62 ?_
    refine lv_iconst (v := 4) hx hb dX9_text_65 (by decide) ?_
    refine lv_aload_n hx hb dX9_text_66 rfl (lv_at hl 1 rfl) ?_
    refine ow_getV (ci := 9) (C := RX9) (T := TX9) (N := 41) hx hb hts hown hG hW ow_i56 (by decide) rfl hinX9 11 (by decide) (fk := 0) rfl (hts (.fieldLink RX9 88 "FiftyOneCardsModel" "texts" "I") (by decide +kernel)) (v := .int (σ.1 56 11)) rfl dX9_text_67 ?_
    refine lv_imul hx hb dX9_text_70 ?_
    refine lv_iload_n hx hb dX9_text_71 rfl (lv_at hl 2 rfl) ?_
    refine lv_iadd hx hb dX9_text_72 ?_
    refine lv_aload_n hx hb dX9_text_73 rfl (lv_at hl 1 rfl) ?_
    refine ow_getV (ci := 9) (C := RX9) (T := TX9) (N := 41) hx hb hts hown hG hW ow_i56 (by decide) rfl hinX9 32 (by decide) (fk := 0) rfl (hts (.fieldLink RX9 151 "FiftyOneCardsModel" "out" "I") (by decide +kernel)) (v := .int (σ.1 56 32)) rfl dX9_text_74 ?_
    obtain ⟨q77, hf⟩ := ow_ck_i hf
    refine ow_ist (q := (((4 : Int32) * (σ.1 56 11)) + x2).toNatClampNeg) hx hb hG hW ow_i63 rfl q77 rfl hf dX9_text_77 (fun σ_77 H locs hf hW => ?_)
    refine lv_iload_n hx hb dX9_text_78 rfl (lv_at hl 0 rfl) ?_
    refine lv_if_eq (tgt := 93) hx hb dX9_text_79 (by decide) (fun c79 => ?_) (fun c79 => ?_)
    · replace hf := ow_if_t c79 hf
      exact hJ93 k26 hk26 x2 σ_77 _ _ _ hf hW (lv_sub hl [1, 2] rfl)
    · replace hf := ow_if_f c79 hf
      refine lv_aload_n hx hb dX9_text_82 rfl (lv_at hl 1 rfl) ?_
      obtain ⟨r_83, σ_83, hc83, hf⟩ := ow_cl_i hf
      refine ow_callz (va_runV (As := []) (rest := []) ⟨hx, hb, hml, hown, hts⟩ (c_X9_eRead l Z fu σ_77 r_83 σ_83 hc83) (cwV 0 hts gX9_text_X9_eRead rfl rfl rfl (by decide +kernel) ⟨Nat.le_of_ble_eq_true rfl, Nat.le_of_ble_eq_true rfl⟩) (ow_preV hG hW ow_i56 (by decide) rfl) rfl rfl hl.1 rfl (lv_room (Nat.le_of_ble_eq_true rfl)) dX9_text_83 ⟨Nat.zero_le _, Nat.zero_le _⟩) hW (fun b83 H locs hW => ?_)
      refine lv_if_eq (tgt := 93) hx hb dX9_text_86 (by decide) (fun c86 => ?_) (fun c86 => ?_)
      · replace hf := ow_if_t c86 hf
        exact hJ93 k26 hk26 x2 σ_83 _ _ _ hf hW (lv_sub hl [1, 2] rfl)
      · replace hf := ow_if_f c86 hf
        refine lv_iconst (v := 1) hx hb dX9_text_89 (by decide) ?_
        refine lv_goto (tgt := 94) hx hb dX9_text_90 (by decide) ?_
        exact hJ94 k26 hk26 x2 (1 : Int32) σ_83 _ _ _ hf hW (lv_sub hl [1, 2] rfl)
  have hJ59 : ∀ (k26 : Int32 → Int32 → ow_S → Option (Int32 × ow_S)) (hk26 : ∀ (x1 : Int32) (x2 : Int32) (σ : ow_S) (H : Heap) (locs : List Loc) (ls : Array Slot), k26 x1 x2 σ = some (rr, σr) → ow_Wd Z 56 20 σ s H locs → lv_has ls 3 [(0, .ref (ow_ad Z 56)), (1, .int x1), (2, .int x2)] → W p l e (headSpec wsX9_text { frames := 5, cells := 0, slots := 0, locals := 147 }).room s m args below meth c H locs 0 0 (MQ below (ow_Qi Z 56 20 rr σr) args s 0 0 (ow_A Z 56 20)) (F0 m 26 ls [])), ∀ (x2 : Int32) (σ : ow_S) (H : Heap) (locs : List Loc) (ls : Array Slot), L_X9_text_59 fu k26 x2 σ = some (rr, σr) → ow_Wd Z 56 20 σ s H locs → lv_has ls 3 [(0, .ref (ow_ad Z 56)), (2, .int x2)] → W p l e (headSpec wsX9_text { frames := 5, cells := 0, slots := 0, locals := 147 }).room s m args below meth c H locs 0 0 (MQ below (ow_Qi Z 56 20 rr σr) args s 0 0 (ow_A Z 56 20)) (F0 m 59 ls []) := by
    intro k26 hk26 x2 σ H locs ls hf hW hl
    unfold L_X9_text_59 at hf
    refine lv_iconst (v := 0) hx hb dX9_text_59 (by decide) ?_
    exact hJ60 k26 hk26 x2 (0 : Int32) σ _ _ _ hf hW (lv_sub hl [0, 1] rfl)
  have hJ26 : ∀ (fn : Nat), ∀ (x1 : Int32) (x2 : Int32) (σ : ow_S) (H : Heap) (locs : List Loc) (ls : Array Slot), L_X9_text_26 fu fn x1 x2 σ = some (rr, σr) → ow_Wd Z 56 20 σ s H locs → lv_has ls 3 [(0, .ref (ow_ad Z 56)), (1, .int x1), (2, .int x2)] → W p l e (headSpec wsX9_text { frames := 5, cells := 0, slots := 0, locals := 147 }).room s m args below meth c H locs 0 0 (MQ below (ow_Qi Z 56 20 rr σr) args s 0 0 (ow_A Z 56 20)) (F0 m 26 ls []) := by
    intro fn
    induction fn with
    | zero => intro x1 x2 σ H locs ls hf hW hl; simp [L_X9_text_26] at hf
    | succ fn ih =>
      intro x1 x2 σ H locs ls hf hW hl
      rw [L_X9_text_26] at hf
      refine lv_iload_n hx hb dX9_text_26 rfl (lv_at hl 2 rfl) ?_
      refine lv_iconst (v := 3) hx hb dX9_text_27 (by decide) ?_
      refine lv_icmp_ge (tgt := 101) hx hb dX9_text_28 (by decide) (fun c28 => ?_) (fun c28 => ?_)
      · replace hf := ow_if_t c28 hf
        exact hJ101 x1 σ _ _ _ hf hW (lv_sub hl [0, 1] rfl)
      · replace hf := ow_if_f c28 hf
        refine lv_iload_n hx hb dX9_text_31 rfl (lv_at hl 1 rfl) ?_
        refine lv_if_eq (tgt := 101) hx hb dX9_text_32 (by decide) (fun c32 => ?_) (fun c32 => ?_)
        · replace hf := ow_if_t c32 hf
          exact hJ101 x1 σ _ _ _ hf hW (lv_sub hl [0, 1] rfl)
        · replace hf := ow_if_f c32 hf
          refine lv_aload_n hx hb dX9_text_35 rfl (lv_at hl 0 rfl) ?_
          obtain ⟨σ_36, hc36, hf⟩ := ow_cv_i hf
          refine ow_callv (va_runV (As := []) (rest := []) ⟨hx, hb, hml, hown, hts⟩ (c_X9_next l Z fu σ σ_36  hc36) (cwV 0 hts gX9_text_X9_next rfl rfl rfl (by decide +kernel) ⟨Nat.le_of_ble_eq_true rfl, Nat.le_of_ble_eq_true rfl⟩) (ow_preV hG hW ow_i56 (by decide) rfl) rfl rfl hl.1 rfl (lv_room (Nat.le_of_ble_eq_true rfl)) dX9_text_36 ⟨Nat.zero_le _, Nat.zero_le _⟩) hW (fun H locs hW => ?_)
          refine lv_aload_n hx hb dX9_text_39 rfl (lv_at hl 0 rfl) ?_
          refine ow_getV (ci := 9) (C := RX9) (T := TX9) (N := 41) hx hb hts hown hG hW ow_i56 (by decide) rfl hinX9 26 (by decide) (fk := 0) rfl (hts (.fieldLink RX9 141 "FiftyOneCardsModel" "token" "I") (by decide +kernel)) (v := .int (σ_36.1 56 26)) rfl dX9_text_40 ?_
          refine lv_iconst (v := 3) hx hb dX9_text_43 (by decide) ?_
          refine lv_icmp_ne (tgt := 59) hx hb dX9_text_44 (by decide) (fun c44 => ?_) (fun c44 => ?_)
          · replace hf := ow_if_f c44 hf
            exact hJ59 (L_X9_text_26 fu fn) ih x2 σ_36 _ _ _ hf hW (lv_sub hl [0, 2] rfl)
          · replace hf := ow_if_t c44 hf
            refine lv_aload_n hx hb dX9_text_47 rfl (lv_at hl 0 rfl) ?_
            refine ow_getV (ci := 9) (C := RX9) (T := TX9) (N := 41) hx hb hts hown hG hW ow_i56 (by decide) rfl hinX9 27 (by decide) (fk := 0) rfl (hts (.fieldLink RX9 144 "FiftyOneCardsModel" "value" "I") (by decide +kernel)) (v := .int (σ_36.1 56 27)) rfl dX9_text_48 ?_
            refine lv_iload_n hx hb dX9_text_51 rfl (lv_at hl 2 rfl) ?_
            refine lv_icmp_ne (tgt := 59) hx hb dX9_text_52 (by decide) (fun c52 => ?_) (fun c52 => ?_)
            · replace hf := ow_if_f c52 hf
              exact hJ59 (L_X9_text_26 fu fn) ih x2 σ_36 _ _ _ hf hW (lv_sub hl [0, 2] rfl)
            · replace hf := ow_if_t c52 hf
              refine lv_iconst (v := 1) hx hb dX9_text_55 (by decide) ?_
              refine lv_goto (tgt := 60) hx hb dX9_text_56 (by decide) ?_
              exact hJ60 (L_X9_text_26 fu fn) ih x2 (1 : Int32) σ_36 _ _ _ hf hW (lv_sub hl [0, 2] rfl)
  have hl := lv_entry ([.ref (ow_ad Z 56)]) (n := 3) (Nat.le_of_ble_eq_true rfl)
  refine W.eq (g2 := F0 m 0 ((lg_sl ([.ref (ow_ad Z 56)]) ++ List.replicate (3 - (lg_sl ([.ref (ow_ad Z 56)])).length) Slot.unset).toArray) []) (by rw [hav]; exact lg_entry_eq _ _ _) ?_
  generalize (lg_sl ([.ref (ow_ad Z 56)]) ++ List.replicate (3 - (lg_sl ([.ref (ow_ad Z 56)])).length) Slot.unset).toArray = ls at hl ⊢
  have hl : lv_has ls 3 [(0, .ref (ow_ad Z 56))] := hl
  unfold f_X9_text at hf
  refine lv_aload_n hx hb dX9_text_0 rfl (lv_at hl 0 rfl) ?_
  refine ow_getV (ci := 9) (C := RX9) (T := TX9) (N := 41) hx hb hts hown hG hW ow_i56 (by decide) rfl hinX9 11 (by decide) (fk := 0) rfl (hts (.fieldLink RX9 88 "FiftyOneCardsModel" "texts" "I") (by decide +kernel)) (v := .int (σ.1 56 11)) rfl dX9_text_1 ?_
  refine lv_bipush (v := 6) hx hb dX9_text_4 (by decide) ?_
  refine lv_icmp_ne (tgt := 12) hx hb dX9_text_6 (by decide) (fun c6 => ?_) (fun c6 => ?_)
  · replace hf := ow_if_f c6 hf
    refine lv_aload_n hx hb dX9_text_12 rfl (lv_at hl 0 rfl) ?_
    refine lv_iconst (v := 0) hx hb dX9_text_13 (by decide) ?_
    refine ow_putI (ci := 9) (C := RX9) (T := TX9) (N := 41) hx hb hts hown hG hW ow_i56 (by decide) rfl hinX9 tyX9 tyX9_ok nmX9 24 (by decide) rfl (hts (.fieldLink RX9 135 "FiftyOneCardsModel" "at" "I") (by decide +kernel)) rfl rfl rfl hf dX9_text_14 (fun σ_14 H locs hf hW => ?_)
    refine lv_aload_n hx hb dX9_text_17 rfl (lv_at hl 0 rfl) ?_
    refine lv_iconst (v := 0) hx hb dX9_text_18 (by decide) ?_
    refine ow_putI (ci := 9) (C := RX9) (T := TX9) (N := 41) hx hb hts hown hG hW ow_i56 (by decide) rfl hinX9 tyX9 tyX9_ok nmX9 32 (by decide) rfl (hts (.fieldLink RX9 151 "FiftyOneCardsModel" "out" "I") (by decide +kernel)) rfl rfl rfl hf dX9_text_19 (fun σ_19 H locs hf hW => ?_)
    refine lv_iconst (v := 1) hx hb dX9_text_22 (by decide) ?_
    refine lv_istore_n (lv' := [(1, .int (1 : Int32)), (0, .ref (ow_ad Z 56))]) hx hb dX9_text_23 rfl hl (by decide) rfl (fun ls hl => ?_)
    refine lv_iconst (v := 0) hx hb dX9_text_24 (by decide) ?_
    refine lv_istore_n (lv' := [(2, .int (0 : Int32)), (1, .int (1 : Int32)), (0, .ref (ow_ad Z 56))]) hx hb dX9_text_25 rfl hl (by decide) rfl (fun ls hl => ?_)
    exact hJ26 fu (1 : Int32) (0 : Int32) σ_19 _ _ _ hf hW (lv_sub hl [2, 1, 0] rfl)
  · replace hf := ow_if_t c6 hf
    refine lv_bipush (v := -4) hx hb dX9_text_9 (by decide) ?_
    exact ow_iret hx hb hr hW hf dX9_text_11 hlocks
set_option maxHeartbeats 40000000 in
set_option maxRecDepth 100000 in
theorem c_X9_two_ (l : Launch) (Z : ow_Z) (fu : Nat) (a1 : Int32) (a2 : Int32) (a3 : Int32) (σ : ow_S) (rr : Int32) (σr : ow_S) (hf : f_X9_two_ fu a1 a2 a3 σ = some (rr, σr)) : Met l yX9_two_ wsX9_two_ { frames := 1, cells := 0, slots := 0, locals := 60 } (ow_Pc Z 56 20 [.int a1, .int a2, .int a3] σ) (ow_Qi Z 56 20 rr σr) 0 0 (ow_A Z 56 20) := by
  refine Met.ofW (cc := cX9_two_) (maxL := 3) (ret := (some .int)) (by decide) rfl ?_
  intro p e s m args below meth c s₁ B hml hv
  obtain ⟨hav, hB⟩ := hv
  obtain ⟨hG, hW⟩ := ow_begin hB
  have hx := B.exec
  have hb := B.bytes
  have hr := B.returns
  have hts := atoms_spec (ws := wsX9_two_) B.pre
  have hown : s.vm.findClass RX9 = some m.cls := findClass_of_methodNamed B.named
  have hlocks := B.notSynchronized
  have hJ52 : ∀ (σ : ow_S) (H : Heap) (locs : List Loc) (ls : Array Slot), L_X9_two__52 fu σ = some (rr, σr) → ow_Wd Z 56 20 σ s H locs → lv_has ls 3 [] → W p l e (headSpec wsX9_two_ { frames := 1, cells := 0, slots := 0, locals := 60 }).room s m args below meth c H locs 0 0 (MQ below (ow_Qi Z 56 20 rr σr) args s 0 0 (ow_A Z 56 20)) (F0 m 52 ls []) := by
    intro σ H locs ls hf hW hl
    unfold L_X9_two__52 at hf
    refine lv_iconst (v := 1) hx hb dX9_two__52 (by decide) ?_
    refine lv_goto (tgt := 57) hx hb dX9_two__53 (by decide) ?_
    exact ow_iret hx hb hr hW hf dX9_two__57 hlocks
  have hJ102 : ∀ (x1 : Int32) (x2 : Int32) (σ : ow_S) (H : Heap) (locs : List Loc) (ls : Array Slot), L_X9_two__102 fu x1 x2 σ = some (rr, σr) → ow_Wd Z 56 20 σ s H locs → lv_has ls 3 [(1, .int x1), (2, .int x2)] → W p l e (headSpec wsX9_two_ { frames := 1, cells := 0, slots := 0, locals := 60 }).room s m args below meth c H locs 0 0 (MQ below (ow_Qi Z 56 20 rr σr) args s 0 0 (ow_A Z 56 20)) (F0 m 102 ls []) := by
    intro x1 x2 σ H locs ls hf hW hl
    unfold L_X9_two__102 at hf
    refine lv_iload_n hx hb dX9_two__102 rfl (lv_at hl 0 rfl) ?_
    refine lv_iload_n hx hb dX9_two__103 rfl (lv_at hl 1 rfl) ?_
    refine lv_imul hx hb dX9_two__104 ?_
    exact ow_iret hx hb hr hW hf dX9_two__105 hlocks
  have hl := lv_entry ([.int a1, .int a2, .int a3]) (n := 3) (Nat.le_of_ble_eq_true rfl)
  refine W.eq (g2 := F0 m 0 ((lg_sl ([.int a1, .int a2, .int a3]) ++ List.replicate (3 - (lg_sl ([.int a1, .int a2, .int a3])).length) Slot.unset).toArray) []) (by rw [hav]; exact lg_entry_eq _ _ _) ?_
  generalize (lg_sl ([.int a1, .int a2, .int a3]) ++ List.replicate (3 - (lg_sl ([.int a1, .int a2, .int a3])).length) Slot.unset).toArray = ls at hl ⊢
  have hl : lv_has ls 3 [(0, .int a1), (1, .int a2), (2, .int a3)] := hl
  unfold f_X9_two_ at hf
  refine lv_iload_n hx hb dX9_two__0 rfl (lv_at hl 0 rfl) ?_
  by_cases c1_11 : a1 = (11 : Int32)
  · replace hf := ow_if_t c1_11 hf
    refine lv_tableIn (off := 43) (tgt := 44) hx hb dX9_two__1 (by rw [c1_11]; decide) (by rw [c1_11]; decide) (by rw [c1_11]; rfl) (by decide) ?_
    refine lv_iload_n hx hb dX9_two__44 rfl (lv_at hl 1 rfl) ?_
    refine lv_if_ne (tgt := 52) hx hb dX9_two__45 (by decide) (fun c45 => ?_) (fun c45 => ?_)
    · replace hf := ow_if_f c45 hf
      exact hJ52 σ _ _ _ hf hW (lv_sub hl [] rfl)
    · replace hf := ow_if_t c45 hf
      refine lv_iload_n hx hb dX9_two__48 rfl (lv_at hl 2 rfl) ?_
      refine lv_if_eq (tgt := 56) hx hb dX9_two__49 (by decide) (fun c49 => ?_) (fun c49 => ?_)
      · replace hf := ow_if_t c49 hf
        refine lv_iconst (v := 0) hx hb dX9_two__56 (by decide) ?_
        exact ow_iret hx hb hr hW hf dX9_two__57 hlocks
      · replace hf := ow_if_f c49 hf
        exact hJ52 σ _ _ _ hf hW (lv_sub hl [] rfl)
  · replace hf := ow_if_f c1_11 hf
    by_cases c1_12 : a1 = (12 : Int32)
    · replace hf := ow_if_t c1_12 hf
      refine lv_tableIn (off := 57) (tgt := 58) hx hb dX9_two__1 (by rw [c1_12]; decide) (by rw [c1_12]; decide) (by rw [c1_12]; rfl) (by decide) ?_
      refine lv_iload_n hx hb dX9_two__58 rfl (lv_at hl 1 rfl) ?_
      refine lv_if_eq (tgt := 70) hx hb dX9_two__59 (by decide) (fun c59 => ?_) (fun c59 => ?_)
      · replace hf := ow_if_t c59 hf
        refine lv_iconst (v := 0) hx hb dX9_two__70 (by decide) ?_
        exact ow_iret hx hb hr hW hf dX9_two__71 hlocks
      · replace hf := ow_if_f c59 hf
        refine lv_iload_n hx hb dX9_two__62 rfl (lv_at hl 2 rfl) ?_
        refine lv_if_eq (tgt := 70) hx hb dX9_two__63 (by decide) (fun c63 => ?_) (fun c63 => ?_)
        · replace hf := ow_if_t c63 hf
          refine lv_iconst (v := 0) hx hb dX9_two__70 (by decide) ?_
          exact ow_iret hx hb hr hW hf dX9_two__71 hlocks
        · replace hf := ow_if_f c63 hf
          refine lv_iconst (v := 1) hx hb dX9_two__66 (by decide) ?_
          refine lv_goto (tgt := 71) hx hb dX9_two__67 (by decide) ?_
          exact ow_iret hx hb hr hW hf dX9_two__71 hlocks
    · replace hf := ow_if_f c1_12 hf
      by_cases c1_13 : a1 = (13 : Int32)
      · replace hf := ow_if_t c1_13 hf
        refine lv_tableIn (off := 101) (tgt := 102) hx hb dX9_two__1 (by rw [c1_13]; decide) (by rw [c1_13]; decide) (by rw [c1_13]; rfl) (by decide) ?_
        exact hJ102 a2 a3 σ _ _ _ hf hW (lv_sub hl [1, 2] rfl)
      · replace hf := ow_if_f c1_13 hf
        by_cases c1_14 : a1 = (14 : Int32)
        · replace hf := ow_if_t c1_14 hf
          refine lv_tableIn (off := 71) (tgt := 72) hx hb dX9_two__1 (by rw [c1_14]; decide) (by rw [c1_14]; decide) (by rw [c1_14]; rfl) (by decide) ?_
          refine lv_iload_n hx hb dX9_two__72 rfl (lv_at hl 1 rfl) ?_
          refine lv_iload_n hx hb dX9_two__73 rfl (lv_at hl 2 rfl) ?_
          refine lv_icmp_ge (tgt := 81) hx hb dX9_two__74 (by decide) (fun c74 => ?_) (fun c74 => ?_)
          · replace hf := ow_if_t c74 hf
            refine lv_iconst (v := 0) hx hb dX9_two__81 (by decide) ?_
            exact ow_iret hx hb hr hW hf dX9_two__82 hlocks
          · replace hf := ow_if_f c74 hf
            refine lv_iconst (v := 1) hx hb dX9_two__77 (by decide) ?_
            refine lv_goto (tgt := 82) hx hb dX9_two__78 (by decide) ?_
            exact ow_iret hx hb hr hW hf dX9_two__82 hlocks
        · replace hf := ow_if_f c1_14 hf
          by_cases c1_15 : a1 = (15 : Int32)
          · replace hf := ow_if_t c1_15 hf
            refine lv_tableIn (off := 82) (tgt := 83) hx hb dX9_two__1 (by rw [c1_15]; decide) (by rw [c1_15]; decide) (by rw [c1_15]; rfl) (by decide) ?_
            refine lv_iload_n hx hb dX9_two__83 rfl (lv_at hl 1 rfl) ?_
            refine lv_iload_n hx hb dX9_two__84 rfl (lv_at hl 2 rfl) ?_
            refine lv_icmp_ne (tgt := 92) hx hb dX9_two__85 (by decide) (fun c85 => ?_) (fun c85 => ?_)
            · replace hf := ow_if_f c85 hf
              refine lv_iconst (v := 0) hx hb dX9_two__92 (by decide) ?_
              exact ow_iret hx hb hr hW hf dX9_two__93 hlocks
            · replace hf := ow_if_t c85 hf
              refine lv_iconst (v := 1) hx hb dX9_two__88 (by decide) ?_
              refine lv_goto (tgt := 93) hx hb dX9_two__89 (by decide) ?_
              exact ow_iret hx hb hr hW hf dX9_two__93 hlocks
          · replace hf := ow_if_f c1_15 hf
            by_cases c1_16 : a1 = (16 : Int32)
            · replace hf := ow_if_t c1_16 hf
              refine lv_tableIn (off := 93) (tgt := 94) hx hb dX9_two__1 (by rw [c1_16]; decide) (by rw [c1_16]; decide) (by rw [c1_16]; rfl) (by decide) ?_
              refine lv_iload_n hx hb dX9_two__94 rfl (lv_at hl 1 rfl) ?_
              refine lv_iload_n hx hb dX9_two__95 rfl (lv_at hl 2 rfl) ?_
              refine lv_iadd hx hb dX9_two__96 ?_
              exact ow_iret hx hb hr hW hf dX9_two__97 hlocks
            · replace hf := ow_if_f c1_16 hf
              by_cases c1_17 : a1 = (17 : Int32)
              · replace hf := ow_if_t c1_17 hf
                refine lv_tableIn (off := 97) (tgt := 98) hx hb dX9_two__1 (by rw [c1_17]; decide) (by rw [c1_17]; decide) (by rw [c1_17]; rfl) (by decide) ?_
                refine lv_iload_n hx hb dX9_two__98 rfl (lv_at hl 1 rfl) ?_
                refine lv_iload_n hx hb dX9_two__99 rfl (lv_at hl 2 rfl) ?_
                refine lv_isub hx hb dX9_two__100 ?_
                exact ow_iret hx hb hr hW hf dX9_two__101 hlocks
              · replace hf := ow_if_f c1_17 hf
                have e1_11 := lv_neT c1_11 (a := 11) (by decide)
                have e1_12 := lv_neT c1_12 (a := 12) (by decide)
                have e1_13 := lv_neT c1_13 (a := 13) (by decide)
                have e1_14 := lv_neT c1_14 (a := 14) (by decide)
                have e1_15 := lv_neT c1_15 (a := 15) (by decide)
                have e1_16 := lv_neT c1_16 (a := 16) (by decide)
                have e1_17 := lv_neT c1_17 (a := 17) (by decide)
                refine lv_tableOut (tgt := 102) hx hb dX9_two__1 (by omega) (by decide) ?_
                exact hJ102 a2 a3 σ _ _ _ hf hW (lv_sub hl [1, 2] rfl)
set_option maxHeartbeats 40000000 in
set_option maxRecDepth 100000 in
theorem c_X9_tellsOf (l : Launch) (Z : ow_Z) (fu : Nat) (a1 : Int32) (σ : ow_S) (rr : Int32) (σr : ow_S) (hf : f_X9_tellsOf fu a1 σ = some (rr, σr)) : Met l yX9_tellsOf wsX9_tellsOf { frames := 2, cells := 0, slots := 0, locals := 82 } (ow_Pc Z 56 20 [.ref (ow_ad Z 56), .int a1] σ) (ow_Qi Z 56 20 rr σr) 0 0 (ow_A Z 56 20) := by
  refine Met.ofW (cc := cX9_tellsOf) (maxL := 5) (ret := (some .int)) (by decide) rfl ?_
  intro p e s m args below meth c s₁ B hml hv
  obtain ⟨hav, hB⟩ := hv
  obtain ⟨hG, hW⟩ := ow_begin hB
  have hx := B.exec
  have hb := B.bytes
  have hr := B.returns
  have hts := atoms_spec (ws := wsX9_tellsOf) B.pre
  have hown : s.vm.findClass RX9 = some m.cls := findClass_of_methodNamed B.named
  have hlocks := B.notSynchronized
  have hinX9 : ∀ w ∈ wsX90, w ∈ wsX9_tellsOf := by decide +kernel
  have hJ191 : ∀ (k16 : Int32 → Int32 → Int32 → ow_S → Option (Int32 × ow_S)) (hk16 : ∀ (x1 : Int32) (x2 : Int32) (x3 : Int32) (σ : ow_S) (H : Heap) (locs : List Loc) (ls : Array Slot), k16 x1 x2 x3 σ = some (rr, σr) → ow_Wd Z 56 20 σ s H locs → lv_has ls 5 [(0, .ref (ow_ad Z 56)), (1, .int x1), (2, .int x2), (3, .int x3)] → W p l e (headSpec wsX9_tellsOf { frames := 2, cells := 0, slots := 0, locals := 82 }).room s m args below meth c H locs 0 0 (MQ below (ow_Qi Z 56 20 rr σr) args s 0 0 (ow_A Z 56 20)) (F0 m 16 ls [])), ∀ (x1 : Int32) (x2 : Int32) (x3 : Int32) (σ : ow_S) (H : Heap) (locs : List Loc) (ls : Array Slot), L_X9_tellsOf_191 fu k16 x1 x2 x3 σ = some (rr, σr) → ow_Wd Z 56 20 σ s H locs → lv_has ls 5 [(0, .ref (ow_ad Z 56)), (1, .int x1), (2, .int x2), (3, .int x3)] → W p l e (headSpec wsX9_tellsOf { frames := 2, cells := 0, slots := 0, locals := 82 }).room s m args below meth c H locs 0 0 (MQ below (ow_Qi Z 56 20 rr σr) args s 0 0 (ow_A Z 56 20)) (F0 m 191 ls []) := by
    intro k16 hk16 x1 x2 x3 σ H locs ls hf hW hl
    unfold L_X9_tellsOf_191 at hf
    refine ow_iinc (d := 1) (lv' := fun z => [(3, .int z), (0, .ref (ow_ad Z 56)), (1, .int x1), (2, .int x2)]) hx hb hf dX9_tellsOf_191 hl (k := 3) rfl (by decide) (by decide) (fun z => rfl) (fun x3_191 hf ls hl => ?_)
    refine lv_goto (tgt := 16) hx hb dX9_tellsOf_194 (by decide) ?_
    exact hk16 x1 x2 x3_191 σ _ _ _ hf hW (lv_sub hl [1, 2, 3, 0] rfl)
  have hJ93 : ∀ (k16 : Int32 → Int32 → Int32 → ow_S → Option (Int32 × ow_S)) (hk16 : ∀ (x1 : Int32) (x2 : Int32) (x3 : Int32) (σ : ow_S) (H : Heap) (locs : List Loc) (ls : Array Slot), k16 x1 x2 x3 σ = some (rr, σr) → ow_Wd Z 56 20 σ s H locs → lv_has ls 5 [(0, .ref (ow_ad Z 56)), (1, .int x1), (2, .int x2), (3, .int x3)] → W p l e (headSpec wsX9_tellsOf { frames := 2, cells := 0, slots := 0, locals := 82 }).room s m args below meth c H locs 0 0 (MQ below (ow_Qi Z 56 20 rr σr) args s 0 0 (ow_A Z 56 20)) (F0 m 16 ls [])), ∀ (x1 : Int32) (x2 : Int32) (x3 : Int32) (s1 : Int32) (s2 : Int32) (σ : ow_S) (H : Heap) (locs : List Loc) (ls : Array Slot), L_X9_tellsOf_93 fu k16 x1 x2 x3 s1 s2 σ = some (rr, σr) → ow_Wd Z 56 20 σ s H locs → lv_has ls 5 [(0, .ref (ow_ad Z 56)), (1, .int x1), (2, .int x2), (3, .int x3)] → W p l e (headSpec wsX9_tellsOf { frames := 2, cells := 0, slots := 0, locals := 82 }).room s m args below meth c H locs 0 0 (MQ below (ow_Qi Z 56 20 rr σr) args s 0 0 (ow_A Z 56 20)) (F0 m 93 ls [.int s2, .int s1, .ref (ow_ad Z 72)]) := by
    intro k16 hk16 x1 x2 x3 s1 s2 σ H locs ls hf hW hl
    unfold L_X9_tellsOf_93 at hf
    obtain ⟨q93, hf⟩ := ow_ck_i hf
    refine ow_ist (q := s1.toNatClampNeg) hx hb hG hW ow_i72 rfl q93 rfl hf dX9_tellsOf_93 (fun σ_93 H locs hf hW => ?_)
    refine ow_iinc (d := 1) (lv' := fun z => [(2, .int z), (0, .ref (ow_ad Z 56)), (1, .int x1), (3, .int x3)]) hx hb hf dX9_tellsOf_94 hl (k := 2) rfl (by decide) (by decide) (fun z => rfl) (fun x2_94 hf ls hl => ?_)
    refine lv_goto (tgt := 191) hx hb dX9_tellsOf_97 (by decide) ?_
    exact hJ191 k16 hk16 x1 x2_94 x3 σ_93 _ _ _ hf hW (lv_sub hl [1, 2, 0, 3] rfl)
  have hJ66 : ∀ (k16 : Int32 → Int32 → Int32 → ow_S → Option (Int32 × ow_S)) (hk16 : ∀ (x1 : Int32) (x2 : Int32) (x3 : Int32) (σ : ow_S) (H : Heap) (locs : List Loc) (ls : Array Slot), k16 x1 x2 x3 σ = some (rr, σr) → ow_Wd Z 56 20 σ s H locs → lv_has ls 5 [(0, .ref (ow_ad Z 56)), (1, .int x1), (2, .int x2), (3, .int x3)] → W p l e (headSpec wsX9_tellsOf { frames := 2, cells := 0, slots := 0, locals := 82 }).room s m args below meth c H locs 0 0 (MQ below (ow_Qi Z 56 20 rr σr) args s 0 0 (ow_A Z 56 20)) (F0 m 16 ls [])), ∀ (x1 : Int32) (x2 : Int32) (x3 : Int32) (x4 : Int32) (σ : ow_S) (H : Heap) (locs : List Loc) (ls : Array Slot), L_X9_tellsOf_66 fu k16 x1 x2 x3 x4 σ = some (rr, σr) → ow_Wd Z 56 20 σ s H locs → lv_has ls 5 [(0, .ref (ow_ad Z 56)), (1, .int x1), (2, .int x2), (3, .int x3), (4, .int x4)] → W p l e (headSpec wsX9_tellsOf { frames := 2, cells := 0, slots := 0, locals := 82 }).room s m args below meth c H locs 0 0 (MQ below (ow_Qi Z 56 20 rr σr) args s 0 0 (ow_A Z 56 20)) (F0 m 66 ls []) := by
    intro k16 hk16 x1 x2 x3 x4 σ H locs ls hf hW hl
    unfold L_X9_tellsOf_66 at hf
    refine lv_aload_n hx hb dX9_tellsOf_66 rfl (lv_at hl 0 rfl) ?_
    refine ow_getV (ci := 9) (C := RX9) (T := TX9) (N := 41) hx hb hts hown hG hW ow_i56 (by decide) rfl hinX9 33 (by decide) (fk := 2) rfl (hts (.fieldLink RX9 59 "FiftyOneCardsModel" "stack" "[I") (by decide +kernel)) (v := .ref (ow_ad Z 72)) (ow_vR hW ow_i56.1 ow_i56.2.1 rfl) dX9_tellsOf_67 ?_
    refine lv_iload_n hx hb dX9_tellsOf_70 rfl (lv_at hl 2 rfl) ?_
    refine lv_iload hx hb dX9_tellsOf_71 (lv_at hl 4 rfl) ?_
    refine lv_bipush (v := 11) hx hb dX9_tellsOf_73 (by decide) ?_
    refine lv_icmp_ge (tgt := 88) hx hb dX9_tellsOf_75 (by decide) (fun c75 => ?_) (fun c75 => ?_)
    · replace hf := ow_if_t c75 hf
      refine lv_iload hx hb dX9_tellsOf_88 (lv_at hl 4 rfl) ?_
      refine lv_ldc (v := 100000) hx hb hown (hts (.constant RX9 175 (100000)) (by decide +kernel)) dX9_tellsOf_90 ?_
      refine lv_isub hx hb dX9_tellsOf_92 ?_
      exact hJ93 k16 hk16 x1 x2 x3 x2 (x4 - (100000 : Int32)) σ _ _ _ hf hW (lv_sub hl [0, 1, 2, 3] rfl)
    · replace hf := ow_if_f c75 hf
      refine lv_aload_n hx hb dX9_tellsOf_78 rfl (lv_at hl 0 rfl) ?_
      refine ow_getV (ci := 9) (C := RX9) (T := TX9) (N := 41) hx hb hts hown hG hW ow_i56 (by decide) rfl hinX9 34 (by decide) (fk := 2) rfl (hts (.fieldLink RX9 62 "FiftyOneCardsModel" "named" "[I") (by decide +kernel)) (v := .ref (ow_ad Z 73)) (ow_vR hW ow_i56.1 ow_i56.2.1 rfl) dX9_tellsOf_79 ?_
      refine lv_iload hx hb dX9_tellsOf_82 (lv_at hl 4 rfl) ?_
      obtain ⟨q84, hf⟩ := ow_ck_i hf
      refine ow_ild (q := x4.toNatClampNeg) hx hb hG hW ow_i73 rfl q84 rfl dX9_tellsOf_84 ?_
      refine lv_goto (tgt := 93) hx hb dX9_tellsOf_85 (by decide) ?_
      exact hJ93 k16 hk16 x1 x2 x3 x2 (σ.1 73 x4.toNatClampNeg) σ _ _ _ hf hW (lv_sub hl [0, 1, 2, 3] rfl)
  have hJ130 : ∀ (k16 : Int32 → Int32 → Int32 → ow_S → Option (Int32 × ow_S)) (hk16 : ∀ (x1 : Int32) (x2 : Int32) (x3 : Int32) (σ : ow_S) (H : Heap) (locs : List Loc) (ls : Array Slot), k16 x1 x2 x3 σ = some (rr, σr) → ow_Wd Z 56 20 σ s H locs → lv_has ls 5 [(0, .ref (ow_ad Z 56)), (1, .int x1), (2, .int x2), (3, .int x3)] → W p l e (headSpec wsX9_tellsOf { frames := 2, cells := 0, slots := 0, locals := 82 }).room s m args below meth c H locs 0 0 (MQ below (ow_Qi Z 56 20 rr σr) args s 0 0 (ow_A Z 56 20)) (F0 m 16 ls [])), ∀ (x1 : Int32) (x2 : Int32) (x3 : Int32) (s1 : Int32) (s2 : Int32) (σ : ow_S) (H : Heap) (locs : List Loc) (ls : Array Slot), L_X9_tellsOf_130 fu k16 x1 x2 x3 s1 s2 σ = some (rr, σr) → ow_Wd Z 56 20 σ s H locs → lv_has ls 5 [(0, .ref (ow_ad Z 56)), (1, .int x1), (2, .int x2), (3, .int x3)] → W p l e (headSpec wsX9_tellsOf { frames := 2, cells := 0, slots := 0, locals := 82 }).room s m args below meth c H locs 0 0 (MQ below (ow_Qi Z 56 20 rr σr) args s 0 0 (ow_A Z 56 20)) (F0 m 130 ls [.int s2, .int s1, .ref (ow_ad Z 72)]) := by
    intro k16 hk16 x1 x2 x3 s1 s2 σ H locs ls hf hW hl
    unfold L_X9_tellsOf_130 at hf
    obtain ⟨q130, hf⟩ := ow_ck_i hf
    refine ow_ist (q := s1.toNatClampNeg) hx hb hG hW ow_i72 rfl q130 rfl hf dX9_tellsOf_130 (fun σ_130 H locs hf hW => ?_)
    refine lv_goto (tgt := 191) hx hb dX9_tellsOf_131 (by decide) ?_
    exact hJ191 k16 hk16 x1 x2 x3 σ_130 _ _ _ hf hW (lv_sub hl [0, 1, 2, 3] rfl)
  have hJ16 : ∀ (fn : Nat), ∀ (x1 : Int32) (x2 : Int32) (x3 : Int32) (σ : ow_S) (H : Heap) (locs : List Loc) (ls : Array Slot), L_X9_tellsOf_16 fu fn x1 x2 x3 σ = some (rr, σr) → ow_Wd Z 56 20 σ s H locs → lv_has ls 5 [(0, .ref (ow_ad Z 56)), (1, .int x1), (2, .int x2), (3, .int x3)] → W p l e (headSpec wsX9_tellsOf { frames := 2, cells := 0, slots := 0, locals := 82 }).room s m args below meth c H locs 0 0 (MQ below (ow_Qi Z 56 20 rr σr) args s 0 0 (ow_A Z 56 20)) (F0 m 16 ls []) := by
    intro fn
    induction fn with
    | zero => intro x1 x2 x3 σ H locs ls hf hW hl; simp [L_X9_tellsOf_16] at hf
    | succ fn ih =>
      intro x1 x2 x3 σ H locs ls hf hW hl
      rw [L_X9_tellsOf_16] at hf
      refine lv_iload_n hx hb dX9_tellsOf_16 rfl (lv_at hl 3 rfl) ?_
      refine lv_aload_n hx hb dX9_tellsOf_17 rfl (lv_at hl 0 rfl) ?_
      refine ow_getV (ci := 9) (C := RX9) (T := TX9) (N := 41) hx hb hts hown hG hW ow_i56 (by decide) rfl hinX9 10 (by decide) (fk := 2) rfl (hts (.fieldLink RX9 32 "FiftyOneCardsModel" "starts" "[I") (by decide +kernel)) (v := .ref (ow_ad Z 63)) (ow_vR hW ow_i56.1 ow_i56.2.1 rfl) dX9_tellsOf_18 ?_
      refine lv_iconst (v := 4) hx hb dX9_tellsOf_21 (by decide) ?_
      refine lv_aload_n hx hb dX9_tellsOf_22 rfl (lv_at hl 0 rfl) ?_
      refine ow_getV (ci := 9) (C := RX9) (T := TX9) (N := 41) hx hb hts hown hG hW ow_i56 (by decide) rfl hinX9 12 (by decide) (fk := 0) rfl (hts (.fieldLink RX9 91 "FiftyOneCardsModel" "rule" "I") (by decide +kernel)) (v := .int (σ.1 56 12)) rfl dX9_tellsOf_23 ?_
      refine lv_imul hx hb dX9_tellsOf_26 ?_
      refine lv_iload_n hx hb dX9_tellsOf_27 rfl (lv_at hl 1 rfl) ?_
      refine lv_iadd hx hb dX9_tellsOf_28 ?_
      refine lv_iconst (v := 1) hx hb dX9_tellsOf_29 (by decide) ?_
      refine lv_iadd hx hb dX9_tellsOf_30 ?_
      obtain ⟨q31, hf⟩ := ow_ck_i hf
      refine ow_ild (q := ((((4 : Int32) * (σ.1 56 12)) + x1) + (1 : Int32)).toNatClampNeg) hx hb hG hW ow_i63 rfl q31 rfl dX9_tellsOf_31 ?_
      refine lv_icmp_ge (tgt := 197) hx hb dX9_tellsOf_32 (by decide) (fun c32 => ?_) (fun c32 => ?_)
      · replace hf := ow_if_t c32 hf
        refine lv_aload_n hx hb dX9_tellsOf_197 rfl (lv_at hl 0 rfl) ?_
        refine ow_getV (ci := 9) (C := RX9) (T := TX9) (N := 41) hx hb hts hown hG hW ow_i56 (by decide) rfl hinX9 33 (by decide) (fk := 2) rfl (hts (.fieldLink RX9 59 "FiftyOneCardsModel" "stack" "[I") (by decide +kernel)) (v := .ref (ow_ad Z 72)) (ow_vR hW ow_i56.1 ow_i56.2.1 rfl) dX9_tellsOf_198 ?_
        refine lv_iconst (v := 0) hx hb dX9_tellsOf_201 (by decide) ?_
        refine ow_ild (q := 0) hx hb hG hW ow_i72 rfl (by decide) (by decide) dX9_tellsOf_202 ?_
        exact ow_iret hx hb hr hW hf dX9_tellsOf_203 hlocks
      · replace hf := ow_if_f c32 hf
        refine lv_aload_n hx hb dX9_tellsOf_35 rfl (lv_at hl 0 rfl) ?_
        refine ow_getV (ci := 9) (C := RX9) (T := TX9) (N := 41) hx hb hts hown hG hW ow_i56 (by decide) rfl hinX9 9 (by decide) (fk := 2) rfl (hts (.fieldLink RX9 29 "FiftyOneCardsModel" "codes" "[I") (by decide +kernel)) (v := .ref (ow_ad Z 62)) (ow_vR hW ow_i56.1 ow_i56.2.1 rfl) dX9_tellsOf_36 ?_
        refine lv_sipush (v := 200) hx hb dX9_tellsOf_39 (by decide) ?_
        refine lv_aload_n hx hb dX9_tellsOf_42 rfl (lv_at hl 0 rfl) ?_
        refine ow_getV (ci := 9) (C := RX9) (T := TX9) (N := 41) hx hb hts hown hG hW ow_i56 (by decide) rfl hinX9 12 (by decide) (fk := 0) rfl (hts (.fieldLink RX9 91 "FiftyOneCardsModel" "rule" "I") (by decide +kernel)) (v := .int (σ.1 56 12)) rfl dX9_tellsOf_43 ?_
        refine lv_imul hx hb dX9_tellsOf_46 ?_
        refine lv_iload_n hx hb dX9_tellsOf_47 rfl (lv_at hl 3 rfl) ?_
        refine lv_iadd hx hb dX9_tellsOf_48 ?_
        obtain ⟨q49, hf⟩ := ow_ck_i hf
        refine ow_ild (q := (((200 : Int32) * (σ.1 56 12)) + x3).toNatClampNeg) hx hb hG hW ow_i62 rfl q49 rfl dX9_tellsOf_49 ?_
        refine ow_topi hf (fun x4_50 hf => ?_)
        refine lv_istore (lv' := [(4, .int x4_50), (0, .ref (ow_ad Z 56)), (1, .int x1), (2, .int x2), (3, .int x3)]) hx hb dX9_tellsOf_50 hl (by decide) rfl (fun ls hl => ?_)
        refine lv_iload hx hb dX9_tellsOf_52 (lv_at hl 0 rfl) ?_
        refine lv_ldc (v := 100000) hx hb hown (hts (.constant RX9 175 (100000)) (by decide +kernel)) dX9_tellsOf_54 ?_
        refine lv_icmp_ge (tgt := 66) hx hb dX9_tellsOf_56 (by decide) (fun c56 => ?_) (fun c56 => ?_)
        · replace hf := ow_if_t c56 hf
          exact hJ66 (L_X9_tellsOf_16 fu fn) ih x1 x2 x3 x4_50 σ _ _ _ hf hW (lv_sub hl [1, 2, 3, 4, 0] rfl)
        · replace hf := ow_if_f c56 hf
          refine lv_iload hx hb dX9_tellsOf_59 (lv_at hl 0 rfl) ?_
          refine lv_bipush (v := 11) hx hb dX9_tellsOf_61 (by decide) ?_
          refine lv_icmp_ge (tgt := 100) hx hb dX9_tellsOf_63 (by decide) (fun c63 => ?_) (fun c63 => ?_)
          · replace hf := ow_if_t c63 hf
            refine lv_iload hx hb dX9_tellsOf_100 (lv_at hl 0 rfl) ?_
            refine lv_bipush (v := 13) hx hb dX9_tellsOf_102 (by decide) ?_
            refine lv_icmp_ne (tgt := 134) hx hb dX9_tellsOf_104 (by decide) (fun c104 => ?_) (fun c104 => ?_)
            · replace hf := ow_if_f c104 hf
              refine lv_iload hx hb dX9_tellsOf_134 (lv_at hl 0 rfl) ?_
              refine lv_bipush (v := 19) hx hb dX9_tellsOf_136 (by decide) ?_
              refine lv_icmp_ne (tgt := 161) hx hb dX9_tellsOf_138 (by decide) (fun c138 => ?_) (fun c138 => ?_)
              · replace hf := ow_if_f c138 hf
                refine ow_iinc (d := -1) (lv' := fun z => [(2, .int z), (4, .int x4_50), (0, .ref (ow_ad Z 56)), (1, .int x1), (3, .int x3)]) hx hb hf dX9_tellsOf_161 hl (k := 3) rfl (by decide) (by decide) (fun z => rfl) (fun x2_161 hf ls hl => ?_)
                refine lv_aload_n hx hb dX9_tellsOf_164 rfl (lv_at hl 2 rfl) ?_
                refine ow_getV (ci := 9) (C := RX9) (T := TX9) (N := 41) hx hb hts hown hG hW ow_i56 (by decide) rfl hinX9 33 (by decide) (fk := 2) rfl (hts (.fieldLink RX9 59 "FiftyOneCardsModel" "stack" "[I") (by decide +kernel)) (v := .ref (ow_ad Z 72)) (ow_vR hW ow_i56.1 ow_i56.2.1 rfl) dX9_tellsOf_165 ?_
                refine lv_iload_n hx hb dX9_tellsOf_168 rfl (lv_at hl 0 rfl) ?_
                refine lv_iconst (v := 1) hx hb dX9_tellsOf_169 (by decide) ?_
                refine lv_isub hx hb dX9_tellsOf_170 ?_
                refine lv_iload hx hb dX9_tellsOf_171 (lv_at hl 1 rfl) ?_
                refine lv_aload_n hx hb dX9_tellsOf_173 rfl (lv_at hl 2 rfl) ?_
                refine ow_getV (ci := 9) (C := RX9) (T := TX9) (N := 41) hx hb hts hown hG hW ow_i56 (by decide) rfl hinX9 33 (by decide) (fk := 2) rfl (hts (.fieldLink RX9 59 "FiftyOneCardsModel" "stack" "[I") (by decide +kernel)) (v := .ref (ow_ad Z 72)) (ow_vR hW ow_i56.1 ow_i56.2.1 rfl) dX9_tellsOf_174 ?_
                refine lv_iload_n hx hb dX9_tellsOf_177 rfl (lv_at hl 0 rfl) ?_
                refine lv_iconst (v := 1) hx hb dX9_tellsOf_178 (by decide) ?_
                refine lv_isub hx hb dX9_tellsOf_179 ?_
                obtain ⟨q180, hf⟩ := ow_ck_i hf
                refine ow_ild (q := (x2_161 - (1 : Int32)).toNatClampNeg) hx hb hG hW ow_i72 rfl q180 rfl dX9_tellsOf_180 ?_
                refine lv_aload_n hx hb dX9_tellsOf_181 rfl (lv_at hl 2 rfl) ?_
                refine ow_getV (ci := 9) (C := RX9) (T := TX9) (N := 41) hx hb hts hown hG hW ow_i56 (by decide) rfl hinX9 33 (by decide) (fk := 2) rfl (hts (.fieldLink RX9 59 "FiftyOneCardsModel" "stack" "[I") (by decide +kernel)) (v := .ref (ow_ad Z 72)) (ow_vR hW ow_i56.1 ow_i56.2.1 rfl) dX9_tellsOf_182 ?_
                refine lv_iload_n hx hb dX9_tellsOf_185 rfl (lv_at hl 0 rfl) ?_
                obtain ⟨q186, hf⟩ := ow_ck_i hf
                refine ow_ild (q := x2_161.toNatClampNeg) hx hb hG hW ow_i72 rfl q186 rfl dX9_tellsOf_186 ?_
                obtain ⟨r_187, σ_187, hc187, hf⟩ := ow_cl_i hf
                refine ow_calli (va_runS (As := [.int x4_50, .int (σ.1 72 (x2_161 - (1 : Int32)).toNatClampNeg), .int (σ.1 72 x2_161.toNatClampNeg)]) (rest := [.int (x2_161 - (1 : Int32)), .ref (ow_ad Z 72)]) ⟨hx, hb, hml, hown, hts⟩ (c_X9_two_ l Z fu x4_50 (σ.1 72 (x2_161 - (1 : Int32)).toNatClampNeg) (σ.1 72 x2_161.toNatClampNeg) σ r_187 σ_187 hc187) (va_cwS 3 hts gX9_tellsOf_X9_two_ rfl rfl rfl (by decide +kernel) ⟨Nat.le_of_ble_eq_true rfl, Nat.le_of_ble_eq_true rfl⟩) (ow_preS hG hW) rfl rfl hl.1 rfl (lv_room (Nat.le_of_ble_eq_true rfl)) dX9_tellsOf_187 ⟨Nat.zero_le _, Nat.zero_le _⟩) hW (fun H locs hW => ?_)
                obtain ⟨q190, hf⟩ := ow_ck_i hf
                refine ow_ist (q := (x2_161 - (1 : Int32)).toNatClampNeg) hx hb hG hW ow_i72 rfl q190 rfl hf dX9_tellsOf_190 (fun σ_190 H locs hf hW => ?_)
                exact hJ191 (L_X9_tellsOf_16 fu fn) ih x1 x2_161 x3 σ_190 _ _ _ hf hW (lv_sub hl [2, 3, 0, 4] rfl)
              · replace hf := ow_if_t c138 hf
                refine lv_aload_n hx hb dX9_tellsOf_141 rfl (lv_at hl 1 rfl) ?_
                refine ow_getV (ci := 9) (C := RX9) (T := TX9) (N := 41) hx hb hts hown hG hW ow_i56 (by decide) rfl hinX9 33 (by decide) (fk := 2) rfl (hts (.fieldLink RX9 59 "FiftyOneCardsModel" "stack" "[I") (by decide +kernel)) (v := .ref (ow_ad Z 72)) (ow_vR hW ow_i56.1 ow_i56.2.1 rfl) dX9_tellsOf_142 ?_
                refine lv_iload_n hx hb dX9_tellsOf_145 rfl (lv_at hl 3 rfl) ?_
                refine lv_iconst (v := 1) hx hb dX9_tellsOf_146 (by decide) ?_
                refine lv_isub hx hb dX9_tellsOf_147 ?_
                refine lv_aload_n hx hb dX9_tellsOf_148 rfl (lv_at hl 1 rfl) ?_
                refine ow_getV (ci := 9) (C := RX9) (T := TX9) (N := 41) hx hb hts hown hG hW ow_i56 (by decide) rfl hinX9 33 (by decide) (fk := 2) rfl (hts (.fieldLink RX9 59 "FiftyOneCardsModel" "stack" "[I") (by decide +kernel)) (v := .ref (ow_ad Z 72)) (ow_vR hW ow_i56.1 ow_i56.2.1 rfl) dX9_tellsOf_149 ?_
                refine lv_iload_n hx hb dX9_tellsOf_152 rfl (lv_at hl 3 rfl) ?_
                refine lv_iconst (v := 1) hx hb dX9_tellsOf_153 (by decide) ?_
                refine lv_isub hx hb dX9_tellsOf_154 ?_
                obtain ⟨q155, hf⟩ := ow_ck_i hf
                refine ow_ild (q := (x2 - (1 : Int32)).toNatClampNeg) hx hb hG hW ow_i72 rfl q155 rfl dX9_tellsOf_155 ?_
                refine lv_ineg hx hb dX9_tellsOf_156 ?_
                obtain ⟨q157, hf⟩ := ow_ck_i hf
                refine ow_ist (q := (x2 - (1 : Int32)).toNatClampNeg) hx hb hG hW ow_i72 rfl q157 rfl hf dX9_tellsOf_157 (fun σ_157 H locs hf hW => ?_)
                refine lv_goto (tgt := 191) hx hb dX9_tellsOf_158 (by decide) ?_
                exact hJ191 (L_X9_tellsOf_16 fu fn) ih x1 x2 x3 σ_157 _ _ _ hf hW (lv_sub hl [1, 2, 3, 4] rfl)
            · replace hf := ow_if_t c104 hf
              refine lv_aload_n hx hb dX9_tellsOf_107 rfl (lv_at hl 1 rfl) ?_
              refine ow_getV (ci := 9) (C := RX9) (T := TX9) (N := 41) hx hb hts hown hG hW ow_i56 (by decide) rfl hinX9 33 (by decide) (fk := 2) rfl (hts (.fieldLink RX9 59 "FiftyOneCardsModel" "stack" "[I") (by decide +kernel)) (v := .ref (ow_ad Z 72)) (ow_vR hW ow_i56.1 ow_i56.2.1 rfl) dX9_tellsOf_108 ?_
              refine lv_iload_n hx hb dX9_tellsOf_111 rfl (lv_at hl 3 rfl) ?_
              refine lv_iconst (v := 1) hx hb dX9_tellsOf_112 (by decide) ?_
              refine lv_isub hx hb dX9_tellsOf_113 ?_
              refine lv_aload_n hx hb dX9_tellsOf_114 rfl (lv_at hl 1 rfl) ?_
              refine ow_getV (ci := 9) (C := RX9) (T := TX9) (N := 41) hx hb hts hown hG hW ow_i56 (by decide) rfl hinX9 33 (by decide) (fk := 2) rfl (hts (.fieldLink RX9 59 "FiftyOneCardsModel" "stack" "[I") (by decide +kernel)) (v := .ref (ow_ad Z 72)) (ow_vR hW ow_i56.1 ow_i56.2.1 rfl) dX9_tellsOf_115 ?_
              refine lv_iload_n hx hb dX9_tellsOf_118 rfl (lv_at hl 3 rfl) ?_
              refine lv_iconst (v := 1) hx hb dX9_tellsOf_119 (by decide) ?_
              refine lv_isub hx hb dX9_tellsOf_120 ?_
              obtain ⟨q121, hf⟩ := ow_ck_i hf
              refine ow_ild (q := (x2 - (1 : Int32)).toNatClampNeg) hx hb hG hW ow_i72 rfl q121 rfl dX9_tellsOf_121 ?_
              refine lv_if_ne (tgt := 129) hx hb dX9_tellsOf_122 (by decide) (fun c122 => ?_) (fun c122 => ?_)
              · replace hf := ow_if_f c122 hf
                refine lv_iconst (v := 0) hx hb dX9_tellsOf_129 (by decide) ?_
                exact hJ130 (L_X9_tellsOf_16 fu fn) ih x1 x2 x3 (x2 - (1 : Int32)) (0 : Int32) σ _ _ _ hf hW (lv_sub hl [1, 2, 3, 4] rfl)
              · replace hf := ow_if_t c122 hf
                refine lv_iconst (v := 1) hx hb dX9_tellsOf_125 (by decide) ?_
                refine lv_goto (tgt := 130) hx hb dX9_tellsOf_126 (by decide) ?_
                exact hJ130 (L_X9_tellsOf_16 fu fn) ih x1 x2 x3 (x2 - (1 : Int32)) (1 : Int32) σ _ _ _ hf hW (lv_sub hl [1, 2, 3, 4] rfl)
          · replace hf := ow_if_f c63 hf
            exact hJ66 (L_X9_tellsOf_16 fu fn) ih x1 x2 x3 x4_50 σ _ _ _ hf hW (lv_sub hl [1, 2, 3, 4, 0] rfl)
  have hl := lv_entry ([.ref (ow_ad Z 56), .int a1]) (n := 5) (Nat.le_of_ble_eq_true rfl)
  refine W.eq (g2 := F0 m 0 ((lg_sl ([.ref (ow_ad Z 56), .int a1]) ++ List.replicate (5 - (lg_sl ([.ref (ow_ad Z 56), .int a1])).length) Slot.unset).toArray) []) (by rw [hav]; exact lg_entry_eq _ _ _) ?_
  generalize (lg_sl ([.ref (ow_ad Z 56), .int a1]) ++ List.replicate (5 - (lg_sl ([.ref (ow_ad Z 56), .int a1])).length) Slot.unset).toArray = ls at hl ⊢
  have hl : lv_has ls 5 [(0, .ref (ow_ad Z 56)), (1, .int a1)] := hl
  unfold f_X9_tellsOf at hf
  refine lv_iconst (v := 0) hx hb dX9_tellsOf_0 (by decide) ?_
  refine lv_istore_n (lv' := [(2, .int (0 : Int32)), (0, .ref (ow_ad Z 56)), (1, .int a1)]) hx hb dX9_tellsOf_1 rfl hl (by decide) rfl (fun ls hl => ?_)
  refine lv_aload_n hx hb dX9_tellsOf_2 rfl (lv_at hl 1 rfl) ?_
  refine ow_getV (ci := 9) (C := RX9) (T := TX9) (N := 41) hx hb hts hown hG hW ow_i56 (by decide) rfl hinX9 10 (by decide) (fk := 2) rfl (hts (.fieldLink RX9 32 "FiftyOneCardsModel" "starts" "[I") (by decide +kernel)) (v := .ref (ow_ad Z 63)) (ow_vR hW ow_i56.1 ow_i56.2.1 rfl) dX9_tellsOf_3 ?_
  refine lv_iconst (v := 4) hx hb dX9_tellsOf_6 (by decide) ?_
  refine lv_aload_n hx hb dX9_tellsOf_7 rfl (lv_at hl 1 rfl) ?_
  refine ow_getV (ci := 9) (C := RX9) (T := TX9) (N := 41) hx hb hts hown hG hW ow_i56 (by decide) rfl hinX9 12 (by decide) (fk := 0) rfl (hts (.fieldLink RX9 91 "FiftyOneCardsModel" "rule" "I") (by decide +kernel)) (v := .int (σ.1 56 12)) rfl dX9_tellsOf_8 ?_
  refine lv_imul hx hb dX9_tellsOf_11 ?_
  refine lv_iload_n hx hb dX9_tellsOf_12 rfl (lv_at hl 2 rfl) ?_
  refine lv_iadd hx hb dX9_tellsOf_13 ?_
  obtain ⟨q14, hf⟩ := ow_ck_i hf
  refine ow_ild (q := (((4 : Int32) * (σ.1 56 12)) + a1).toNatClampNeg) hx hb hG hW ow_i63 rfl q14 rfl dX9_tellsOf_14 ?_
  refine ow_topi hf (fun x3_15 hf => ?_)
  refine lv_istore_n (lv' := [(3, .int x3_15), (2, .int (0 : Int32)), (0, .ref (ow_ad Z 56)), (1, .int a1)]) hx hb dX9_tellsOf_15 rfl hl (by decide) rfl (fun ls hl => ?_)
  exact hJ16 fu a1 (0 : Int32) x3_15 σ _ _ _ hf hW (lv_sub hl [2, 3, 1, 0] rfl)
set_option maxHeartbeats 40000000 in
set_option maxRecDepth 100000 in
theorem c_X9_force (l : Launch) (Z : ow_Z) (fu : Nat) (a1 : Int32) (σ : ow_S) (rr : Int32) (σr : ow_S) (hf : f_X9_force fu a1 σ = some (rr, σr)) : Met l yX9_force wsX9_force { frames := 2, cells := 0, slots := 0, locals := 82 } (ow_Pc Z 56 20 [.ref (ow_ad Z 56), .int a1] σ) (ow_Qi Z 56 20 rr σr) 0 0 (ow_A Z 56 20) := by
  refine Met.ofW (cc := cX9_force) (maxL := 3) (ret := (some .int)) (by decide) rfl ?_
  intro p e s m args below meth c s₁ B hml hv
  obtain ⟨hav, hB⟩ := hv
  obtain ⟨hG, hW⟩ := ow_begin hB
  have hx := B.exec
  have hb := B.bytes
  have hr := B.returns
  have hts := atoms_spec (ws := wsX9_force) B.pre
  have hown : s.vm.findClass RX9 = some m.cls := findClass_of_methodNamed B.named
  have hlocks := B.notSynchronized
  have hinX9 : ∀ w ∈ wsX90, w ∈ wsX9_force := by decide +kernel
  have hl := lv_entry ([.ref (ow_ad Z 56), .int a1]) (n := 3) (Nat.le_of_ble_eq_true rfl)
  refine W.eq (g2 := F0 m 0 ((lg_sl ([.ref (ow_ad Z 56), .int a1]) ++ List.replicate (3 - (lg_sl ([.ref (ow_ad Z 56), .int a1])).length) Slot.unset).toArray) []) (by rw [hav]; exact lg_entry_eq _ _ _) ?_
  generalize (lg_sl ([.ref (ow_ad Z 56), .int a1]) ++ List.replicate (3 - (lg_sl ([.ref (ow_ad Z 56), .int a1])).length) Slot.unset).toArray = ls at hl ⊢
  have hl : lv_has ls 3 [(0, .ref (ow_ad Z 56)), (1, .int a1)] := hl
  unfold f_X9_force at hf
  refine lv_iload_n hx hb dX9_force_0 rfl (lv_at hl 1 rfl) ?_
  refine lv_iconst (v := 0) hx hb dX9_force_1 (by decide) ?_
  refine lv_aload_n hx hb dX9_force_2 rfl (lv_at hl 0 rfl) ?_
  refine ow_getV (ci := 9) (C := RX9) (T := TX9) (N := 41) hx hb hts hown hG hW ow_i56 (by decide) rfl hinX9 11 (by decide) (fk := 0) rfl (hts (.fieldLink RX9 88 "FiftyOneCardsModel" "texts" "I") (by decide +kernel)) (v := .int (σ.1 56 11)) rfl dX9_force_3 ?_
  refine lv_iconst (v := 1) hx hb dX9_force_6 (by decide) ?_
  refine lv_isub hx hb dX9_force_7 ?_
  obtain ⟨r_8, σ_8, hc8, hf⟩ := ow_cl_i hf
  refine ow_callz (va_runS (As := [.int a1, .int (0 : Int32), .int ((σ.1 56 11) - (1 : Int32))]) (rest := []) ⟨hx, hb, hml, hown, hts⟩ (c_X9_in l Z fu a1 (0 : Int32) ((σ.1 56 11) - (1 : Int32)) σ r_8 σ_8 hc8) (va_cwS 3 hts gX9_force_X9_in rfl rfl rfl (by decide +kernel) ⟨Nat.le_of_ble_eq_true rfl, Nat.le_of_ble_eq_true rfl⟩) (ow_preS hG hW) rfl rfl hl.1 rfl (lv_room (Nat.le_of_ble_eq_true rfl)) dX9_force_8 ⟨Nat.zero_le _, Nat.zero_le _⟩) hW (fun b8 H locs hW => ?_)
  refine lv_if_ne (tgt := 17) hx hb dX9_force_11 (by decide) (fun c11 => ?_) (fun c11 => ?_)
  · replace hf := ow_if_f c11 hf
    refine lv_aload_n hx hb dX9_force_17 rfl (lv_at hl 0 rfl) ?_
    refine ow_getV (ci := 9) (C := RX9) (T := TX9) (N := 41) hx hb hts hown hG hW ow_i56 (by decide) rfl hinX9 12 (by decide) (fk := 0) rfl (hts (.fieldLink RX9 91 "FiftyOneCardsModel" "rule" "I") (by decide +kernel)) (v := .int (σ_8.1 56 12)) rfl dX9_force_18 ?_
    refine ow_topi hf (fun x2_21 hf => ?_)
    refine lv_istore_n (lv' := [(2, .int x2_21), (0, .ref (ow_ad Z 56)), (1, .int a1)]) hx hb dX9_force_21 rfl hl (by decide) rfl (fun ls hl => ?_)
    refine lv_aload_n hx hb dX9_force_22 rfl (lv_at hl 1 rfl) ?_
    refine lv_iload_n hx hb dX9_force_23 rfl (lv_at hl 2 rfl) ?_
    refine ow_putI (ci := 9) (C := RX9) (T := TX9) (N := 41) hx hb hts hown hG hW ow_i56 (by decide) rfl hinX9 tyX9 tyX9_ok nmX9 12 (by decide) rfl (hts (.fieldLink RX9 91 "FiftyOneCardsModel" "rule" "I") (by decide +kernel)) rfl rfl rfl hf dX9_force_24 (fun σ_24 H locs hf hW => ?_)
    refine lv_iload_n hx hb dX9_force_27 rfl (lv_at hl 0 rfl) ?_
    exact ow_iret hx hb hr hW hf dX9_force_28 hlocks
  · replace hf := ow_if_t c11 hf
    refine lv_bipush (v := -2) hx hb dX9_force_14 (by decide) ?_
    exact ow_iret hx hb hr hW hf dX9_force_16 hlocks
set_option maxHeartbeats 40000000 in
set_option maxRecDepth 100000 in
theorem c_X9_asksOf (l : Launch) (Z : ow_Z) (fu : Nat) (a1 : Int32) (a2 : Int32) (a3 : Int32) (a4 : Int32) (a5 : Int32) (a6 : Int32) (σ : ow_S) (rr : Int32) (σr : ow_S) (hf : f_X9_asksOf fu a1 a2 a3 a4 a5 a6 σ = some (rr, σr)) : Met l yX9_asksOf wsX9_asksOf { frames := 3, cells := 0, slots := 0, locals := 106 } (ow_Pc Z 56 20 [.ref (ow_ad Z 56), .int a1, .int a2, .int a3, .int a4, .int a5, .int a6] σ) (ow_Qi Z 56 20 rr σr) 0 0 (ow_A Z 56 20) := by
  refine Met.ofW (cc := cX9_asksOf) (maxL := 7) (ret := (some .int)) (by decide) rfl ?_
  intro p e s m args below meth c s₁ B hml hv
  obtain ⟨hav, hB⟩ := hv
  obtain ⟨hG, hW⟩ := ow_begin hB
  have hx := B.exec
  have hb := B.bytes
  have hr := B.returns
  have hts := atoms_spec (ws := wsX9_asksOf) B.pre
  have hown : s.vm.findClass RX9 = some m.cls := findClass_of_methodNamed B.named
  have hlocks := B.notSynchronized
  have hinX9 : ∀ w ∈ wsX90, w ∈ wsX9_asksOf := by decide +kernel
  have hl := lv_entry ([.ref (ow_ad Z 56), .int a1, .int a2, .int a3, .int a4, .int a5, .int a6]) (n := 7) (Nat.le_of_ble_eq_true rfl)
  refine W.eq (g2 := F0 m 0 ((lg_sl ([.ref (ow_ad Z 56), .int a1, .int a2, .int a3, .int a4, .int a5, .int a6]) ++ List.replicate (7 - (lg_sl ([.ref (ow_ad Z 56), .int a1, .int a2, .int a3, .int a4, .int a5, .int a6])).length) Slot.unset).toArray) []) (by rw [hav]; exact lg_entry_eq _ _ _) ?_
  generalize (lg_sl ([.ref (ow_ad Z 56), .int a1, .int a2, .int a3, .int a4, .int a5, .int a6]) ++ List.replicate (7 - (lg_sl ([.ref (ow_ad Z 56), .int a1, .int a2, .int a3, .int a4, .int a5, .int a6])).length) Slot.unset).toArray = ls at hl ⊢
  have hl : lv_has ls 7 [(0, .ref (ow_ad Z 56)), (1, .int a1), (2, .int a2), (3, .int a3), (4, .int a4), (5, .int a5), (6, .int a6)] := hl
  unfold f_X9_asksOf at hf
  refine lv_aload_n hx hb dX9_asksOf_0 rfl (lv_at hl 0 rfl) ?_
  refine ow_getV (ci := 9) (C := RX9) (T := TX9) (N := 41) hx hb hts hown hG hW ow_i56 (by decide) rfl hinX9 34 (by decide) (fk := 2) rfl (hts (.fieldLink RX9 62 "FiftyOneCardsModel" "named" "[I") (by decide +kernel)) (v := .ref (ow_ad Z 73)) (ow_vR hW ow_i56.1 ow_i56.2.1 rfl) dX9_asksOf_1 ?_
  refine lv_iconst (v := 0) hx hb dX9_asksOf_4 (by decide) ?_
  refine lv_iload_n hx hb dX9_asksOf_5 rfl (lv_at hl 2 rfl) ?_
  refine ow_ist (q := 0) hx hb hG hW ow_i73 rfl (by decide) (by decide) hf dX9_asksOf_6 (fun σ_6 H locs hf hW => ?_)
  refine lv_aload_n hx hb dX9_asksOf_7 rfl (lv_at hl 0 rfl) ?_
  refine ow_getV (ci := 9) (C := RX9) (T := TX9) (N := 41) hx hb hts hown hG hW ow_i56 (by decide) rfl hinX9 34 (by decide) (fk := 2) rfl (hts (.fieldLink RX9 62 "FiftyOneCardsModel" "named" "[I") (by decide +kernel)) (v := .ref (ow_ad Z 73)) (ow_vR hW ow_i56.1 ow_i56.2.1 rfl) dX9_asksOf_8 ?_
  refine lv_iconst (v := 1) hx hb dX9_asksOf_11 (by decide) ?_
  refine lv_iload_n hx hb dX9_asksOf_12 rfl (lv_at hl 3 rfl) ?_
  refine ow_ist (q := 1) hx hb hG hW ow_i73 rfl (by decide) (by decide) hf dX9_asksOf_13 (fun σ_13 H locs hf hW => ?_)
  refine lv_aload_n hx hb dX9_asksOf_14 rfl (lv_at hl 0 rfl) ?_
  refine ow_getV (ci := 9) (C := RX9) (T := TX9) (N := 41) hx hb hts hown hG hW ow_i56 (by decide) rfl hinX9 34 (by decide) (fk := 2) rfl (hts (.fieldLink RX9 62 "FiftyOneCardsModel" "named" "[I") (by decide +kernel)) (v := .ref (ow_ad Z 73)) (ow_vR hW ow_i56.1 ow_i56.2.1 rfl) dX9_asksOf_15 ?_
  refine lv_iconst (v := 2) hx hb dX9_asksOf_18 (by decide) ?_
  refine lv_iload hx hb dX9_asksOf_19 (lv_at hl 4 rfl) ?_
  refine ow_ist (q := 2) hx hb hG hW ow_i73 rfl (by decide) (by decide) hf dX9_asksOf_21 (fun σ_21 H locs hf hW => ?_)
  refine lv_aload_n hx hb dX9_asksOf_22 rfl (lv_at hl 0 rfl) ?_
  refine ow_getV (ci := 9) (C := RX9) (T := TX9) (N := 41) hx hb hts hown hG hW ow_i56 (by decide) rfl hinX9 34 (by decide) (fk := 2) rfl (hts (.fieldLink RX9 62 "FiftyOneCardsModel" "named" "[I") (by decide +kernel)) (v := .ref (ow_ad Z 73)) (ow_vR hW ow_i56.1 ow_i56.2.1 rfl) dX9_asksOf_23 ?_
  refine lv_iconst (v := 3) hx hb dX9_asksOf_26 (by decide) ?_
  refine lv_iload hx hb dX9_asksOf_27 (lv_at hl 5 rfl) ?_
  refine ow_ist (q := 3) hx hb hG hW ow_i73 rfl (by decide) (by decide) hf dX9_asksOf_29 (fun σ_29 H locs hf hW => ?_)
  refine lv_aload_n hx hb dX9_asksOf_30 rfl (lv_at hl 0 rfl) ?_
  refine ow_getV (ci := 9) (C := RX9) (T := TX9) (N := 41) hx hb hts hown hG hW ow_i56 (by decide) rfl hinX9 34 (by decide) (fk := 2) rfl (hts (.fieldLink RX9 62 "FiftyOneCardsModel" "named" "[I") (by decide +kernel)) (v := .ref (ow_ad Z 73)) (ow_vR hW ow_i56.1 ow_i56.2.1 rfl) dX9_asksOf_31 ?_
  refine lv_iconst (v := 4) hx hb dX9_asksOf_34 (by decide) ?_
  refine lv_aload_n hx hb dX9_asksOf_35 rfl (lv_at hl 0 rfl) ?_
  refine ow_getV (ci := 9) (C := RX9) (T := TX9) (N := 41) hx hb hts hown hG hW ow_i56 (by decide) rfl hinX9 0 (by decide) (fk := 0) rfl (hts (.fieldLink RX9 7 "FiftyOneCardsModel" "pack" "I") (by decide +kernel)) (v := .int (σ_29.1 56 0)) rfl dX9_asksOf_36 ?_
  refine ow_ist (q := 4) hx hb hG hW ow_i73 rfl (by decide) (by decide) hf dX9_asksOf_39 (fun σ_39 H locs hf hW => ?_)
  refine lv_aload_n hx hb dX9_asksOf_40 rfl (lv_at hl 0 rfl) ?_
  refine ow_getV (ci := 9) (C := RX9) (T := TX9) (N := 41) hx hb hts hown hG hW ow_i56 (by decide) rfl hinX9 34 (by decide) (fk := 2) rfl (hts (.fieldLink RX9 62 "FiftyOneCardsModel" "named" "[I") (by decide +kernel)) (v := .ref (ow_ad Z 73)) (ow_vR hW ow_i56.1 ow_i56.2.1 rfl) dX9_asksOf_41 ?_
  refine lv_iconst (v := 5) hx hb dX9_asksOf_44 (by decide) ?_
  refine lv_iload hx hb dX9_asksOf_45 (lv_at hl 6 rfl) ?_
  refine ow_ist (q := 5) hx hb hG hW ow_i73 rfl (by decide) (by decide) hf dX9_asksOf_47 (fun σ_47 H locs hf hW => ?_)
  refine lv_aload_n hx hb dX9_asksOf_48 rfl (lv_at hl 0 rfl) ?_
  refine lv_iload_n hx hb dX9_asksOf_49 rfl (lv_at hl 1 rfl) ?_
  obtain ⟨r_50, σ_50, hc50, hf⟩ := ow_cl_i hf
  refine ow_calli (va_runV (As := [.int a1]) (rest := []) ⟨hx, hb, hml, hown, hts⟩ (c_X9_tellsOf l Z fu a1 σ_47 r_50 σ_50 hc50) (cwV 1 hts gX9_asksOf_X9_tellsOf rfl rfl rfl (by decide +kernel) ⟨Nat.le_of_ble_eq_true rfl, Nat.le_of_ble_eq_true rfl⟩) (ow_preV hG hW ow_i56 (by decide) rfl) rfl rfl hl.1 rfl (lv_room (Nat.le_of_ble_eq_true rfl)) dX9_asksOf_50 ⟨Nat.zero_le _, Nat.zero_le _⟩) hW (fun H locs hW => ?_)
  exact ow_iret hx hb hr hW hf dX9_asksOf_53 hlocks
set_option maxHeartbeats 40000000 in
set_option maxRecDepth 100000 in
theorem c_X9_asks (l : Launch) (Z : ow_Z) (fu : Nat) (a1 : Int32) (a2 : Int32) (a3 : Int32) (a4 : Int32) (σ : ow_S) (rr : Int32) (σr : ow_S) (hf : f_X9_asks fu a1 a2 a3 a4 σ = some (rr, σr)) : Met l yX9_asks wsX9_asks { frames := 4, cells := 0, slots := 0, locals := 132 } (ow_Pc Z 56 20 [.ref (ow_ad Z 56), .int a1, .int a2, .int a3, .int a4] σ) (ow_Qi Z 56 20 rr σr) 0 0 (ow_A Z 56 20) := by
  refine Met.ofW (cc := cX9_asks) (maxL := 6) (ret := (some .int)) (by decide) rfl ?_
  intro p e s m args below meth c s₁ B hml hv
  obtain ⟨hav, hB⟩ := hv
  obtain ⟨hG, hW⟩ := ow_begin hB
  have hx := B.exec
  have hb := B.bytes
  have hr := B.returns
  have hts := atoms_spec (ws := wsX9_asks) B.pre
  have hown : s.vm.findClass RX9 = some m.cls := findClass_of_methodNamed B.named
  have hlocks := B.notSynchronized
  have hJ57 : ∀ (x1 : Int32) (x2 : Int32) (x3 : Int32) (x4 : Int32) (s0 : Int32) (σ : ow_S) (H : Heap) (locs : List Loc) (ls : Array Slot), L_X9_asks_57 fu x1 x2 x3 x4 s0 σ = some (rr, σr) → ow_Wd Z 56 20 σ s H locs → lv_has ls 6 [(0, .ref (ow_ad Z 56)), (1, .int x1), (2, .int x2), (3, .int x3), (4, .int x4)] → W p l e (headSpec wsX9_asks { frames := 4, cells := 0, slots := 0, locals := 132 }).room s m args below meth c H locs 0 0 (MQ below (ow_Qi Z 56 20 rr σr) args s 0 0 (ow_A Z 56 20)) (F0 m 57 ls [.int s0]) := by
    intro x1 x2 x3 x4 s0 σ H locs ls hf hW hl
    unfold L_X9_asks_57 at hf
    refine lv_istore (lv' := [(5, .int s0), (0, .ref (ow_ad Z 56)), (1, .int x1), (2, .int x2), (3, .int x3), (4, .int x4)]) hx hb dX9_asks_57 hl (by decide) rfl (fun ls hl => ?_)
    refine lv_iload hx hb dX9_asks_59 (lv_at hl 0 rfl) ?_
    refine lv_if_eq (tgt := 100) hx hb dX9_asks_61 (by decide) (fun c61 => ?_) (fun c61 => ?_)
    · replace hf := ow_if_t c61 hf
      refine lv_bipush (v := -2) hx hb dX9_asks_100 (by decide) ?_
      exact ow_iret hx hb hr hW hf dX9_asks_102 hlocks
    · replace hf := ow_if_f c61 hf
      refine lv_aload_n hx hb dX9_asks_64 rfl (lv_at hl 1 rfl) ?_
      refine lv_iload_n hx hb dX9_asks_65 rfl (lv_at hl 2 rfl) ?_
      refine lv_iload_n hx hb dX9_asks_66 rfl (lv_at hl 3 rfl) ?_
      refine lv_iload_n hx hb dX9_asks_67 rfl (lv_at hl 4 rfl) ?_
      refine lv_iload hx hb dX9_asks_68 (lv_at hl 5 rfl) ?_
      refine lv_sipush (v := 1000) hx hb dX9_asks_70 (by decide) ?_
      refine lv_idiv hx hb dX9_asks_73 (by decide) ?_
      refine lv_iload hx hb dX9_asks_74 (lv_at hl 5 rfl) ?_
      refine lv_bipush (v := 10) hx hb dX9_asks_76 (by decide) ?_
      refine lv_idiv hx hb dX9_asks_78 (by decide) ?_
      refine lv_bipush (v := 100) hx hb dX9_asks_79 (by decide) ?_
      refine ow_r_irem hx hb dX9_asks_81 (by decide) ?_
      refine lv_iload hx hb dX9_asks_82 (lv_at hl 5 rfl) ?_
      refine lv_bipush (v := 10) hx hb dX9_asks_84 (by decide) ?_
      refine ow_r_irem hx hb dX9_asks_86 (by decide) ?_
      obtain ⟨r_87, σ_87, hc87, hf⟩ := ow_cl_i hf
      refine ow_calli (va_runV (As := [.int x1, .int x2, .int x3, .int (x4 / (1000 : Int32)), .int (ow_irem (x4 / (10 : Int32)) (100 : Int32)), .int (ow_irem x4 (10 : Int32))]) (rest := []) ⟨hx, hb, hml, hown, hts⟩ (c_X9_asksOf l Z fu x1 x2 x3 (x4 / (1000 : Int32)) (ow_irem (x4 / (10 : Int32)) (100 : Int32)) (ow_irem x4 (10 : Int32)) σ r_87 σ_87 hc87) (cwV 6 hts gX9_asks_X9_asksOf rfl rfl rfl (by decide +kernel) ⟨Nat.le_of_ble_eq_true rfl, Nat.le_of_ble_eq_true rfl⟩) (ow_preV hG hW ow_i56 (by decide) rfl) rfl rfl hl.1 rfl (lv_room (Nat.le_of_ble_eq_true rfl)) dX9_asks_87 ⟨Nat.zero_le _, Nat.zero_le _⟩) hW (fun H locs hW => ?_)
      refine lv_ldc (v := -1000000) hx hb hown (hts (.constant RX9 202 (-1000000)) (by decide +kernel)) dX9_asks_90 ?_
      refine lv_ldc (v := 1000000) hx hb hown (hts (.constant RX9 203 (1000000)) (by decide +kernel)) dX9_asks_92 ?_
      obtain ⟨r_94, σ_94, hc94, hf⟩ := ow_cl_i hf
      refine ow_calli (va_runS (As := [.int r_87, .int (-1000000 : Int32), .int (1000000 : Int32)]) (rest := []) ⟨hx, hb, hml, hown, hts⟩ (c_X9_within l Z fu r_87 (-1000000 : Int32) (1000000 : Int32) σ_87 r_94 σ_94 hc94) (va_cwS 3 hts gX9_asks_X9_within rfl rfl rfl (by decide +kernel) ⟨Nat.le_of_ble_eq_true rfl, Nat.le_of_ble_eq_true rfl⟩) (ow_preS hG hW) rfl rfl hl.1 rfl (lv_room (Nat.le_of_ble_eq_true rfl)) dX9_asks_94 ⟨Nat.zero_le _, Nat.zero_le _⟩) hW (fun H locs hW => ?_)
      refine lv_goto (tgt := 102) hx hb dX9_asks_97 (by decide) ?_
      exact ow_iret hx hb hr hW hf dX9_asks_102 hlocks
  have hJ56 : ∀ (x1 : Int32) (x2 : Int32) (x3 : Int32) (x4 : Int32) (σ : ow_S) (H : Heap) (locs : List Loc) (ls : Array Slot), L_X9_asks_56 fu x1 x2 x3 x4 σ = some (rr, σr) → ow_Wd Z 56 20 σ s H locs → lv_has ls 6 [(0, .ref (ow_ad Z 56)), (1, .int x1), (2, .int x2), (3, .int x3), (4, .int x4)] → W p l e (headSpec wsX9_asks { frames := 4, cells := 0, slots := 0, locals := 132 }).room s m args below meth c H locs 0 0 (MQ below (ow_Qi Z 56 20 rr σr) args s 0 0 (ow_A Z 56 20)) (F0 m 56 ls []) := by
    intro x1 x2 x3 x4 σ H locs ls hf hW hl
    unfold L_X9_asks_56 at hf
    refine lv_iconst (v := 0) hx hb dX9_asks_56 (by decide) ?_
    exact hJ57 x1 x2 x3 x4 (0 : Int32) σ _ _ _ hf hW (lv_sub hl [0, 1, 2, 3, 4] rfl)
  have hl := lv_entry ([.ref (ow_ad Z 56), .int a1, .int a2, .int a3, .int a4]) (n := 6) (Nat.le_of_ble_eq_true rfl)
  refine W.eq (g2 := F0 m 0 ((lg_sl ([.ref (ow_ad Z 56), .int a1, .int a2, .int a3, .int a4]) ++ List.replicate (6 - (lg_sl ([.ref (ow_ad Z 56), .int a1, .int a2, .int a3, .int a4])).length) Slot.unset).toArray) []) (by rw [hav]; exact lg_entry_eq _ _ _) ?_
  generalize (lg_sl ([.ref (ow_ad Z 56), .int a1, .int a2, .int a3, .int a4]) ++ List.replicate (6 - (lg_sl ([.ref (ow_ad Z 56), .int a1, .int a2, .int a3, .int a4])).length) Slot.unset).toArray = ls at hl ⊢
  have hl : lv_has ls 6 [(0, .ref (ow_ad Z 56)), (1, .int a1), (2, .int a2), (3, .int a3), (4, .int a4)] := hl
  unfold f_X9_asks at hf
  refine lv_iload_n hx hb dX9_asks_0 rfl (lv_at hl 1 rfl) ?_
  refine lv_iconst (v := 0) hx hb dX9_asks_1 (by decide) ?_
  refine lv_iconst (v := 2) hx hb dX9_asks_2 (by decide) ?_
  obtain ⟨r_3, σ_3, hc3, hf⟩ := ow_cl_i hf
  refine ow_callz (va_runS (As := [.int a1, .int (0 : Int32), .int (2 : Int32)]) (rest := []) ⟨hx, hb, hml, hown, hts⟩ (c_X9_in l Z fu a1 (0 : Int32) (2 : Int32) σ r_3 σ_3 hc3) (va_cwS 3 hts gX9_asks_X9_in rfl rfl rfl (by decide +kernel) ⟨Nat.le_of_ble_eq_true rfl, Nat.le_of_ble_eq_true rfl⟩) (ow_preS hG hW) rfl rfl hl.1 rfl (lv_room (Nat.le_of_ble_eq_true rfl)) dX9_asks_3 ⟨Nat.zero_le _, Nat.zero_le _⟩) hW (fun b3 H locs hW => ?_)
  refine lv_if_eq (tgt := 56) hx hb dX9_asks_6 (by decide) (fun c6 => ?_) (fun c6 => ?_)
  · replace hf := ow_if_t c6 hf
    exact hJ56 a1 a2 a3 a4 σ_3 _ _ _ hf hW (lv_sub hl [0, 1, 2, 3, 4] rfl)
  · replace hf := ow_if_f c6 hf
    refine lv_iload_n hx hb dX9_asks_9 rfl (lv_at hl 2 rfl) ?_
    refine lv_iconst (v := 0) hx hb dX9_asks_10 (by decide) ?_
    refine lv_ldc (v := 65535) hx hb hown (hts (.constant RX9 196 (65535)) (by decide +kernel)) dX9_asks_11 ?_
    obtain ⟨r_13, σ_13, hc13, hf⟩ := ow_cl_i hf
    refine ow_callz (va_runS (As := [.int a2, .int (0 : Int32), .int (65535 : Int32)]) (rest := []) ⟨hx, hb, hml, hown, hts⟩ (c_X9_in l Z fu a2 (0 : Int32) (65535 : Int32) σ_3 r_13 σ_13 hc13) (va_cwS 3 hts gX9_asks_X9_in rfl rfl rfl (by decide +kernel) ⟨Nat.le_of_ble_eq_true rfl, Nat.le_of_ble_eq_true rfl⟩) (ow_preS hG hW) rfl rfl hl.1 rfl (lv_room (Nat.le_of_ble_eq_true rfl)) dX9_asks_13 ⟨Nat.zero_le _, Nat.zero_le _⟩) hW (fun b13 H locs hW => ?_)
    refine lv_if_eq (tgt := 56) hx hb dX9_asks_16 (by decide) (fun c16 => ?_) (fun c16 => ?_)
    · replace hf := ow_if_t c16 hf
      exact hJ56 a1 a2 a3 a4 σ_13 _ _ _ hf hW (lv_sub hl [0, 1, 2, 3, 4] rfl)
    · replace hf := ow_if_f c16 hf
      refine lv_iload_n hx hb dX9_asks_19 rfl (lv_at hl 3 rfl) ?_
      refine lv_iconst (v := 0) hx hb dX9_asks_20 (by decide) ?_
      refine lv_ldc (v := 65535) hx hb hown (hts (.constant RX9 196 (65535)) (by decide +kernel)) dX9_asks_21 ?_
      obtain ⟨r_23, σ_23, hc23, hf⟩ := ow_cl_i hf
      refine ow_callz (va_runS (As := [.int a3, .int (0 : Int32), .int (65535 : Int32)]) (rest := []) ⟨hx, hb, hml, hown, hts⟩ (c_X9_in l Z fu a3 (0 : Int32) (65535 : Int32) σ_13 r_23 σ_23 hc23) (va_cwS 3 hts gX9_asks_X9_in rfl rfl rfl (by decide +kernel) ⟨Nat.le_of_ble_eq_true rfl, Nat.le_of_ble_eq_true rfl⟩) (ow_preS hG hW) rfl rfl hl.1 rfl (lv_room (Nat.le_of_ble_eq_true rfl)) dX9_asks_23 ⟨Nat.zero_le _, Nat.zero_le _⟩) hW (fun b23 H locs hW => ?_)
      refine lv_if_eq (tgt := 56) hx hb dX9_asks_26 (by decide) (fun c26 => ?_) (fun c26 => ?_)
      · replace hf := ow_if_t c26 hf
        exact hJ56 a1 a2 a3 a4 σ_23 _ _ _ hf hW (lv_sub hl [0, 1, 2, 3, 4] rfl)
      · replace hf := ow_if_f c26 hf
        refine lv_iload hx hb dX9_asks_29 (lv_at hl 4 rfl) ?_
        refine lv_iconst (v := 0) hx hb dX9_asks_31 (by decide) ?_
        refine lv_ldc (v := 52599) hx hb hown (hts (.constant RX9 197 (52599)) (by decide +kernel)) dX9_asks_32 ?_
        obtain ⟨r_34, σ_34, hc34, hf⟩ := ow_cl_i hf
        refine ow_callz (va_runS (As := [.int a4, .int (0 : Int32), .int (52599 : Int32)]) (rest := []) ⟨hx, hb, hml, hown, hts⟩ (c_X9_in l Z fu a4 (0 : Int32) (52599 : Int32) σ_23 r_34 σ_34 hc34) (va_cwS 3 hts gX9_asks_X9_in rfl rfl rfl (by decide +kernel) ⟨Nat.le_of_ble_eq_true rfl, Nat.le_of_ble_eq_true rfl⟩) (ow_preS hG hW) rfl rfl hl.1 rfl (lv_room (Nat.le_of_ble_eq_true rfl)) dX9_asks_34 ⟨Nat.zero_le _, Nat.zero_le _⟩) hW (fun b34 H locs hW => ?_)
        refine lv_if_eq (tgt := 56) hx hb dX9_asks_37 (by decide) (fun c37 => ?_) (fun c37 => ?_)
        · replace hf := ow_if_t c37 hf
          exact hJ56 a1 a2 a3 a4 σ_34 _ _ _ hf hW (lv_sub hl [0, 1, 2, 3, 4] rfl)
        · replace hf := ow_if_f c37 hf
          refine lv_iload hx hb dX9_asks_40 (lv_at hl 4 rfl) ?_
          refine lv_sipush (v := 1000) hx hb dX9_asks_42 (by decide) ?_
          refine ow_r_irem hx hb dX9_asks_45 (by decide) ?_
          refine lv_sipush (v := 600) hx hb dX9_asks_46 (by decide) ?_
          refine lv_icmp_ge (tgt := 56) hx hb dX9_asks_49 (by decide) (fun c49 => ?_) (fun c49 => ?_)
          · replace hf := ow_if_t c49 hf
            exact hJ56 a1 a2 a3 a4 σ_34 _ _ _ hf hW (lv_sub hl [0, 1, 2, 3, 4] rfl)
          · replace hf := ow_if_f c49 hf
            refine lv_iconst (v := 1) hx hb dX9_asks_52 (by decide) ?_
            refine lv_goto (tgt := 57) hx hb dX9_asks_53 (by decide) ?_
            exact hJ57 a1 a2 a3 a4 (1 : Int32) σ_34 _ _ _ hf hW (lv_sub hl [0, 1, 2, 3, 4] rfl)
set_option maxHeartbeats 40000000 in
set_option maxRecDepth 100000 in
theorem c_X9_head (l : Launch) (Z : ow_Z) (fu : Nat) (a1 : Int32) (a2 : Int32) (a3 : Int32) (σ : ow_S) (rr : Int32) (σr : ow_S) (hf : f_X9_head fu a1 a2 a3 σ = some (rr, σr)) : Met l yX9_head wsX9_head { frames := 2, cells := 0, slots := 0, locals := 82 } (ow_Pc Z 56 20 [.ref (ow_ad Z 56), .int a1, .int a2, .int a3] σ) (ow_Qi Z 56 20 rr σr) 0 0 (ow_A Z 56 20) := by
  refine Met.ofW (cc := cX9_head) (maxL := 4) (ret := (some .int)) (by decide) rfl ?_
  intro p e s m args below meth c s₁ B hml hv
  obtain ⟨hav, hB⟩ := hv
  obtain ⟨hG, hW⟩ := ow_begin hB
  have hx := B.exec
  have hb := B.bytes
  have hr := B.returns
  have hts := atoms_spec (ws := wsX9_head) B.pre
  have hown : s.vm.findClass RX9 = some m.cls := findClass_of_methodNamed B.named
  have hlocks := B.notSynchronized
  have hinX9 : ∀ w ∈ wsX90, w ∈ wsX9_head := by decide +kernel
  have hl := lv_entry ([.ref (ow_ad Z 56), .int a1, .int a2, .int a3]) (n := 4) (Nat.le_of_ble_eq_true rfl)
  refine W.eq (g2 := F0 m 0 ((lg_sl ([.ref (ow_ad Z 56), .int a1, .int a2, .int a3]) ++ List.replicate (4 - (lg_sl ([.ref (ow_ad Z 56), .int a1, .int a2, .int a3])).length) Slot.unset).toArray) []) (by rw [hav]; exact lg_entry_eq _ _ _) ?_
  generalize (lg_sl ([.ref (ow_ad Z 56), .int a1, .int a2, .int a3]) ++ List.replicate (4 - (lg_sl ([.ref (ow_ad Z 56), .int a1, .int a2, .int a3])).length) Slot.unset).toArray = ls at hl ⊢
  have hl : lv_has ls 4 [(0, .ref (ow_ad Z 56)), (1, .int a1), (2, .int a2), (3, .int a3)] := hl
  unfold f_X9_head at hf
  refine lv_iload_n hx hb dX9_head_0 rfl (lv_at hl 1 rfl) ?_
  refine lv_iconst (v := 0) hx hb dX9_head_1 (by decide) ?_
  refine lv_bipush (v := 59) hx hb dX9_head_2 (by decide) ?_
  obtain ⟨r_4, σ_4, hc4, hf⟩ := ow_cl_i hf
  refine ow_callz (va_runS (As := [.int a1, .int (0 : Int32), .int (59 : Int32)]) (rest := []) ⟨hx, hb, hml, hown, hts⟩ (c_X9_in l Z fu a1 (0 : Int32) (59 : Int32) σ r_4 σ_4 hc4) (va_cwS 3 hts gX9_head_X9_in rfl rfl rfl (by decide +kernel) ⟨Nat.le_of_ble_eq_true rfl, Nat.le_of_ble_eq_true rfl⟩) (ow_preS hG hW) rfl rfl hl.1 rfl (lv_room (Nat.le_of_ble_eq_true rfl)) dX9_head_4 ⟨Nat.zero_le _, Nat.zero_le _⟩) hW (fun b4 H locs hW => ?_)
  refine lv_if_eq (tgt := 30) hx hb dX9_head_7 (by decide) (fun c7 => ?_) (fun c7 => ?_)
  · replace hf := ow_if_t c7 hf
    refine lv_bipush (v := -2) hx hb dX9_head_30 (by decide) ?_
    exact ow_iret hx hb hr hW hf dX9_head_32 hlocks
  · replace hf := ow_if_f c7 hf
    refine lv_iload_n hx hb dX9_head_10 rfl (lv_at hl 2 rfl) ?_
    refine lv_iconst (v := 1) hx hb dX9_head_11 (by decide) ?_
    refine lv_bipush (v := 16) hx hb dX9_head_12 (by decide) ?_
    obtain ⟨r_14, σ_14, hc14, hf⟩ := ow_cl_i hf
    refine ow_callz (va_runS (As := [.int a2, .int (1 : Int32), .int (16 : Int32)]) (rest := []) ⟨hx, hb, hml, hown, hts⟩ (c_X9_in l Z fu a2 (1 : Int32) (16 : Int32) σ_4 r_14 σ_14 hc14) (va_cwS 3 hts gX9_head_X9_in rfl rfl rfl (by decide +kernel) ⟨Nat.le_of_ble_eq_true rfl, Nat.le_of_ble_eq_true rfl⟩) (ow_preS hG hW) rfl rfl hl.1 rfl (lv_room (Nat.le_of_ble_eq_true rfl)) dX9_head_14 ⟨Nat.zero_le _, Nat.zero_le _⟩) hW (fun b14 H locs hW => ?_)
    refine lv_if_eq (tgt := 30) hx hb dX9_head_17 (by decide) (fun c17 => ?_) (fun c17 => ?_)
    · replace hf := ow_if_t c17 hf
      refine lv_bipush (v := -2) hx hb dX9_head_30 (by decide) ?_
      exact ow_iret hx hb hr hW hf dX9_head_32 hlocks
    · replace hf := ow_if_f c17 hf
      refine lv_iload_n hx hb dX9_head_20 rfl (lv_at hl 3 rfl) ?_
      refine lv_iconst (v := 0) hx hb dX9_head_21 (by decide) ?_
      refine lv_ldc (v := 65535) hx hb hown (hts (.constant RX9 196 (65535)) (by decide +kernel)) dX9_head_22 ?_
      obtain ⟨r_24, σ_24, hc24, hf⟩ := ow_cl_i hf
      refine ow_callz (va_runS (As := [.int a3, .int (0 : Int32), .int (65535 : Int32)]) (rest := []) ⟨hx, hb, hml, hown, hts⟩ (c_X9_in l Z fu a3 (0 : Int32) (65535 : Int32) σ_14 r_24 σ_24 hc24) (va_cwS 3 hts gX9_head_X9_in rfl rfl rfl (by decide +kernel) ⟨Nat.le_of_ble_eq_true rfl, Nat.le_of_ble_eq_true rfl⟩) (ow_preS hG hW) rfl rfl hl.1 rfl (lv_room (Nat.le_of_ble_eq_true rfl)) dX9_head_24 ⟨Nat.zero_le _, Nat.zero_le _⟩) hW (fun b24 H locs hW => ?_)
      refine lv_if_ne (tgt := 33) hx hb dX9_head_27 (by decide) (fun c27 => ?_) (fun c27 => ?_)
      · replace hf := ow_if_f c27 hf
        refine lv_aload_n hx hb dX9_head_33 rfl (lv_at hl 0 rfl) ?_
        refine ow_getV (ci := 9) (C := RX9) (T := TX9) (N := 41) hx hb hts hown hG hW ow_i56 (by decide) rfl hinX9 3 (by decide) (fk := 0) rfl (hts (.fieldLink RX9 82 "FiftyOneCardsModel" "heads" "I") (by decide +kernel)) (v := .int (σ_24.1 56 3)) rfl dX9_head_34 ?_
        refine lv_iconst (v := 5) hx hb dX9_head_37 (by decide) ?_
        refine lv_icmp_ne (tgt := 44) hx hb dX9_head_38 (by decide) (fun c38 => ?_) (fun c38 => ?_)
        · replace hf := ow_if_f c38 hf
          refine lv_aload_n hx hb dX9_head_44 rfl (lv_at hl 0 rfl) ?_
          refine ow_getV (ci := 9) (C := RX9) (T := TX9) (N := 41) hx hb hts hown hG hW ow_i56 (by decide) rfl hinX9 4 (by decide) (fk := 2) rfl (hts (.fieldLink RX9 17 "FiftyOneCardsModel" "kind" "[I") (by decide +kernel)) (v := .ref (ow_ad Z 58)) (ow_vR hW ow_i56.1 ow_i56.2.1 rfl) dX9_head_45 ?_
          refine lv_aload_n hx hb dX9_head_48 rfl (lv_at hl 0 rfl) ?_
          refine ow_getV (ci := 9) (C := RX9) (T := TX9) (N := 41) hx hb hts hown hG hW ow_i56 (by decide) rfl hinX9 3 (by decide) (fk := 0) rfl (hts (.fieldLink RX9 82 "FiftyOneCardsModel" "heads" "I") (by decide +kernel)) (v := .int (σ_24.1 56 3)) rfl dX9_head_49 ?_
          refine lv_iload_n hx hb dX9_head_52 rfl (lv_at hl 1 rfl) ?_
          refine lv_bipush (v := 10) hx hb dX9_head_53 (by decide) ?_
          refine lv_idiv hx hb dX9_head_55 (by decide) ?_
          obtain ⟨q56, hf⟩ := ow_ck_i hf
          refine ow_ist (q := (σ_24.1 56 3).toNatClampNeg) hx hb hG hW ow_i58 rfl q56 rfl hf dX9_head_56 (fun σ_56 H locs hf hW => ?_)
          refine lv_aload_n hx hb dX9_head_57 rfl (lv_at hl 0 rfl) ?_
          refine ow_getV (ci := 9) (C := RX9) (T := TX9) (N := 41) hx hb hts hown hG hW ow_i56 (by decide) rfl hinX9 5 (by decide) (fk := 2) rfl (hts (.fieldLink RX9 20 "FiftyOneCardsModel" "moreOf" "[I") (by decide +kernel)) (v := .ref (ow_ad Z 59)) (ow_vR hW ow_i56.1 ow_i56.2.1 rfl) dX9_head_58 ?_
          refine lv_aload_n hx hb dX9_head_61 rfl (lv_at hl 0 rfl) ?_
          refine ow_getV (ci := 9) (C := RX9) (T := TX9) (N := 41) hx hb hts hown hG hW ow_i56 (by decide) rfl hinX9 3 (by decide) (fk := 0) rfl (hts (.fieldLink RX9 82 "FiftyOneCardsModel" "heads" "I") (by decide +kernel)) (v := .int (σ_56.1 56 3)) rfl dX9_head_62 ?_
          refine lv_iload_n hx hb dX9_head_65 rfl (lv_at hl 1 rfl) ?_
          refine lv_bipush (v := 10) hx hb dX9_head_66 (by decide) ?_
          refine ow_r_irem hx hb dX9_head_68 (by decide) ?_
          obtain ⟨q69, hf⟩ := ow_ck_i hf
          refine ow_ist (q := (σ_56.1 56 3).toNatClampNeg) hx hb hG hW ow_i59 rfl q69 rfl hf dX9_head_69 (fun σ_69 H locs hf hW => ?_)
          refine lv_aload_n hx hb dX9_head_70 rfl (lv_at hl 0 rfl) ?_
          refine ow_getV (ci := 9) (C := RX9) (T := TX9) (N := 41) hx hb hts hown hG hW ow_i56 (by decide) rfl hinX9 6 (by decide) (fk := 2) rfl (hts (.fieldLink RX9 23 "FiftyOneCardsModel" "kept" "[I") (by decide +kernel)) (v := .ref (ow_ad Z 60)) (ow_vR hW ow_i56.1 ow_i56.2.1 rfl) dX9_head_71 ?_
          refine lv_iconst (v := 3) hx hb dX9_head_74 (by decide) ?_
          refine lv_aload_n hx hb dX9_head_75 rfl (lv_at hl 0 rfl) ?_
          refine ow_getV (ci := 9) (C := RX9) (T := TX9) (N := 41) hx hb hts hown hG hW ow_i56 (by decide) rfl hinX9 3 (by decide) (fk := 0) rfl (hts (.fieldLink RX9 82 "FiftyOneCardsModel" "heads" "I") (by decide +kernel)) (v := .int (σ_69.1 56 3)) rfl dX9_head_76 ?_
          refine lv_imul hx hb dX9_head_79 ?_
          refine lv_iload_n hx hb dX9_head_80 rfl (lv_at hl 2 rfl) ?_
          obtain ⟨q81, hf⟩ := ow_ck_i hf
          refine ow_ist (q := ((3 : Int32) * (σ_69.1 56 3)).toNatClampNeg) hx hb hG hW ow_i60 rfl q81 rfl hf dX9_head_81 (fun σ_81 H locs hf hW => ?_)
          refine lv_aload_n hx hb dX9_head_82 rfl (lv_at hl 0 rfl) ?_
          refine ow_getV (ci := 9) (C := RX9) (T := TX9) (N := 41) hx hb hts hown hG hW ow_i56 (by decide) rfl hinX9 6 (by decide) (fk := 2) rfl (hts (.fieldLink RX9 23 "FiftyOneCardsModel" "kept" "[I") (by decide +kernel)) (v := .ref (ow_ad Z 60)) (ow_vR hW ow_i56.1 ow_i56.2.1 rfl) dX9_head_83 ?_
          refine lv_iconst (v := 3) hx hb dX9_head_86 (by decide) ?_
          refine lv_aload_n hx hb dX9_head_87 rfl (lv_at hl 0 rfl) ?_
          refine ow_getV (ci := 9) (C := RX9) (T := TX9) (N := 41) hx hb hts hown hG hW ow_i56 (by decide) rfl hinX9 3 (by decide) (fk := 0) rfl (hts (.fieldLink RX9 82 "FiftyOneCardsModel" "heads" "I") (by decide +kernel)) (v := .int (σ_81.1 56 3)) rfl dX9_head_88 ?_
          refine lv_imul hx hb dX9_head_91 ?_
          refine lv_iconst (v := 1) hx hb dX9_head_92 (by decide) ?_
          refine lv_iadd hx hb dX9_head_93 ?_
          refine lv_iload_n hx hb dX9_head_94 rfl (lv_at hl 3 rfl) ?_
          obtain ⟨q95, hf⟩ := ow_ck_i hf
          refine ow_ist (q := (((3 : Int32) * (σ_81.1 56 3)) + (1 : Int32)).toNatClampNeg) hx hb hG hW ow_i60 rfl q95 rfl hf dX9_head_95 (fun σ_95 H locs hf hW => ?_)
          refine lv_aload_n hx hb dX9_head_96 rfl (lv_at hl 0 rfl) ?_
          refine ow_getV (ci := 9) (C := RX9) (T := TX9) (N := 41) hx hb hts hown hG hW ow_i56 (by decide) rfl hinX9 6 (by decide) (fk := 2) rfl (hts (.fieldLink RX9 23 "FiftyOneCardsModel" "kept" "[I") (by decide +kernel)) (v := .ref (ow_ad Z 60)) (ow_vR hW ow_i56.1 ow_i56.2.1 rfl) dX9_head_97 ?_
          refine lv_iconst (v := 3) hx hb dX9_head_100 (by decide) ?_
          refine lv_aload_n hx hb dX9_head_101 rfl (lv_at hl 0 rfl) ?_
          refine ow_getV (ci := 9) (C := RX9) (T := TX9) (N := 41) hx hb hts hown hG hW ow_i56 (by decide) rfl hinX9 3 (by decide) (fk := 0) rfl (hts (.fieldLink RX9 82 "FiftyOneCardsModel" "heads" "I") (by decide +kernel)) (v := .int (σ_95.1 56 3)) rfl dX9_head_102 ?_
          refine lv_imul hx hb dX9_head_105 ?_
          refine lv_iconst (v := 2) hx hb dX9_head_106 (by decide) ?_
          refine lv_iadd hx hb dX9_head_107 ?_
          refine lv_iconst (v := 0) hx hb dX9_head_108 (by decide) ?_
          obtain ⟨q109, hf⟩ := ow_ck_i hf
          refine ow_ist (q := (((3 : Int32) * (σ_95.1 56 3)) + (2 : Int32)).toNatClampNeg) hx hb hG hW ow_i60 rfl q109 rfl hf dX9_head_109 (fun σ_109 H locs hf hW => ?_)
          refine lv_aload_n hx hb dX9_head_110 rfl (lv_at hl 0 rfl) ?_
          refine lv_dup hx hb dX9_head_111 rfl ?_
          refine ow_getV (ci := 9) (C := RX9) (T := TX9) (N := 41) hx hb hts hown hG hW ow_i56 (by decide) rfl hinX9 3 (by decide) (fk := 0) rfl (hts (.fieldLink RX9 82 "FiftyOneCardsModel" "heads" "I") (by decide +kernel)) (v := .int (σ_109.1 56 3)) rfl dX9_head_112 ?_
          refine lv_iconst (v := 1) hx hb dX9_head_115 (by decide) ?_
          refine lv_iadd hx hb dX9_head_116 ?_
          refine ow_putI (ci := 9) (C := RX9) (T := TX9) (N := 41) hx hb hts hown hG hW ow_i56 (by decide) rfl hinX9 tyX9 tyX9_ok nmX9 3 (by decide) rfl (hts (.fieldLink RX9 82 "FiftyOneCardsModel" "heads" "I") (by decide +kernel)) rfl rfl rfl hf dX9_head_117 (fun σ_117 H locs hf hW => ?_)
          refine lv_aload_n hx hb dX9_head_120 rfl (lv_at hl 0 rfl) ?_
          refine ow_getV (ci := 9) (C := RX9) (T := TX9) (N := 41) hx hb hts hown hG hW ow_i56 (by decide) rfl hinX9 3 (by decide) (fk := 0) rfl (hts (.fieldLink RX9 82 "FiftyOneCardsModel" "heads" "I") (by decide +kernel)) (v := .int (σ_117.1 56 3)) rfl dX9_head_121 ?_
          refine lv_iconst (v := 1) hx hb dX9_head_124 (by decide) ?_
          refine lv_isub hx hb dX9_head_125 ?_
          exact ow_iret hx hb hr hW hf dX9_head_126 hlocks
        · replace hf := ow_if_t c38 hf
          refine lv_bipush (v := -4) hx hb dX9_head_41 (by decide) ?_
          exact ow_iret hx hb hr hW hf dX9_head_43 hlocks
      · replace hf := ow_if_t c27 hf
        refine lv_bipush (v := -2) hx hb dX9_head_30 (by decide) ?_
        exact ow_iret hx hb hr hW hf dX9_head_32 hlocks
set_option maxHeartbeats 40000000 in
set_option maxRecDepth 100000 in
theorem c_X9_set (l : Launch) (Z : ow_Z) (fu : Nat) (a1 : Int32) (a2 : Int32) (a3 : Int32) (σ : ow_S) (rr : Int32) (σr : ow_S) (hf : f_X9_set fu a1 a2 a3 σ = some (rr, σr)) : Met l yX9_set wsX9_set { frames := 3, cells := 0, slots := 0, locals := 103 } (ow_Pc Z 56 20 [.ref (ow_ad Z 56), .int a1, .int a2, .int a3] σ) (ow_Qi Z 56 20 rr σr) 0 0 (ow_A Z 56 20) := by
  refine Met.ofW (cc := cX9_set) (maxL := 5) (ret := (some .int)) (by decide) rfl ?_
  intro p e s m args below meth c s₁ B hml hv
  obtain ⟨hav, hB⟩ := hv
  obtain ⟨hG, hW⟩ := ow_begin hB
  have hx := B.exec
  have hb := B.bytes
  have hr := B.returns
  have hts := atoms_spec (ws := wsX9_set) B.pre
  have hown : s.vm.findClass RX9 = some m.cls := findClass_of_methodNamed B.named
  have hlocks := B.notSynchronized
  have hinX9 : ∀ w ∈ wsX90, w ∈ wsX9_set := by decide +kernel
  have hJ41 : ∀ (x1 : Int32) (x2 : Int32) (x3 : Int32) (s0 : Int32) (s1 : Int32) (s2 : Int32) (σ : ow_S) (H : Heap) (locs : List Loc) (ls : Array Slot), L_X9_set_41 fu x1 x2 x3 s0 s1 s2 σ = some (rr, σr) → ow_Wd Z 56 20 σ s H locs → lv_has ls 5 [(0, .ref (ow_ad Z 56)), (1, .int x1), (2, .int x2), (3, .int x3)] → W p l e (headSpec wsX9_set { frames := 3, cells := 0, slots := 0, locals := 103 }).room s m args below meth c H locs 0 0 (MQ below (ow_Qi Z 56 20 rr σr) args s 0 0 (ow_A Z 56 20)) (F0 m 41 ls [.int s2, .int s1, .int s0]) := by
    intro x1 x2 x3 s0 s1 s2 σ H locs ls hf hW hl
    unfold L_X9_set_41 at hf
    obtain ⟨r_41, σ_41, hc41, hf⟩ := ow_cl_i hf
    refine ow_callz (va_runS (As := [.int s0, .int s1, .int s2]) (rest := []) ⟨hx, hb, hml, hown, hts⟩ (c_X9_in l Z fu s0 s1 s2 σ r_41 σ_41 hc41) (va_cwS 3 hts gX9_set_X9_in rfl rfl rfl (by decide +kernel) ⟨Nat.le_of_ble_eq_true rfl, Nat.le_of_ble_eq_true rfl⟩) (ow_preS hG hW) rfl rfl hl.1 rfl (lv_room (Nat.le_of_ble_eq_true rfl)) dX9_set_41 ⟨Nat.zero_le _, Nat.zero_le _⟩) hW (fun b41 H locs hW => ?_)
    refine lv_if_ne (tgt := 50) hx hb dX9_set_44 (by decide) (fun c44 => ?_) (fun c44 => ?_)
    · replace hf := ow_if_f c44 hf
      refine lv_aload_n hx hb dX9_set_50 rfl (lv_at hl 0 rfl) ?_
      refine ow_getV (ci := 9) (C := RX9) (T := TX9) (N := 41) hx hb hts hown hG hW ow_i56 (by decide) rfl hinX9 6 (by decide) (fk := 2) rfl (hts (.fieldLink RX9 23 "FiftyOneCardsModel" "kept" "[I") (by decide +kernel)) (v := .ref (ow_ad Z 60)) (ow_vR hW ow_i56.1 ow_i56.2.1 rfl) dX9_set_51 ?_
      refine lv_iconst (v := 3) hx hb dX9_set_54 (by decide) ?_
      refine lv_iload_n hx hb dX9_set_55 rfl (lv_at hl 1 rfl) ?_
      refine lv_imul hx hb dX9_set_56 ?_
      refine lv_iload_n hx hb dX9_set_57 rfl (lv_at hl 2 rfl) ?_
      refine lv_iadd hx hb dX9_set_58 ?_
      obtain ⟨q59, hf⟩ := ow_ck_i hf
      refine ow_ild (q := (((3 : Int32) * x1) + x2).toNatClampNeg) hx hb hG hW ow_i60 rfl q59 rfl dX9_set_59 ?_
      refine ow_topi hf (fun x4_60 hf => ?_)
      refine lv_istore (lv' := [(4, .int x4_60), (0, .ref (ow_ad Z 56)), (1, .int x1), (2, .int x2), (3, .int x3)]) hx hb dX9_set_60 hl (by decide) rfl (fun ls hl => ?_)
      refine lv_aload_n hx hb dX9_set_62 rfl (lv_at hl 1 rfl) ?_
      refine ow_getV (ci := 9) (C := RX9) (T := TX9) (N := 41) hx hb hts hown hG hW ow_i56 (by decide) rfl hinX9 6 (by decide) (fk := 2) rfl (hts (.fieldLink RX9 23 "FiftyOneCardsModel" "kept" "[I") (by decide +kernel)) (v := .ref (ow_ad Z 60)) (ow_vR hW ow_i56.1 ow_i56.2.1 rfl) dX9_set_63 ?_
      refine lv_iconst (v := 3) hx hb dX9_set_66 (by decide) ?_
      refine lv_iload_n hx hb dX9_set_67 rfl (lv_at hl 2 rfl) ?_
      refine lv_imul hx hb dX9_set_68 ?_
      refine lv_iload_n hx hb dX9_set_69 rfl (lv_at hl 3 rfl) ?_
      refine lv_iadd hx hb dX9_set_70 ?_
      refine lv_iload_n hx hb dX9_set_71 rfl (lv_at hl 4 rfl) ?_
      obtain ⟨q72, hf⟩ := ow_ck_i hf
      refine ow_ist (q := (((3 : Int32) * x1) + x2).toNatClampNeg) hx hb hG hW ow_i60 rfl q72 rfl hf dX9_set_72 (fun σ_72 H locs hf hW => ?_)
      refine lv_iload hx hb dX9_set_73 (lv_at hl 0 rfl) ?_
      exact ow_iret hx hb hr hW hf dX9_set_75 hlocks
    · replace hf := ow_if_t c44 hf
      refine lv_bipush (v := -7) hx hb dX9_set_47 (by decide) ?_
      exact ow_iret hx hb hr hW hf dX9_set_49 hlocks
  have hJ30 : ∀ (x1 : Int32) (x2 : Int32) (x3 : Int32) (s0 : Int32) (s1 : Int32) (σ : ow_S) (H : Heap) (locs : List Loc) (ls : Array Slot), L_X9_set_30 fu x1 x2 x3 s0 s1 σ = some (rr, σr) → ow_Wd Z 56 20 σ s H locs → lv_has ls 5 [(0, .ref (ow_ad Z 56)), (1, .int x1), (2, .int x2), (3, .int x3)] → W p l e (headSpec wsX9_set { frames := 3, cells := 0, slots := 0, locals := 103 }).room s m args below meth c H locs 0 0 (MQ below (ow_Qi Z 56 20 rr σr) args s 0 0 (ow_A Z 56 20)) (F0 m 30 ls [.int s1, .int s0]) := by
    intro x1 x2 x3 s0 s1 σ H locs ls hf hW hl
    unfold L_X9_set_30 at hf
    refine lv_iload_n hx hb dX9_set_30 rfl (lv_at hl 2 rfl) ?_
    refine lv_if_ne (tgt := 39) hx hb dX9_set_31 (by decide) (fun c31 => ?_) (fun c31 => ?_)
    · replace hf := ow_if_f c31 hf
      refine lv_ldc (v := 65535) hx hb hown (hts (.constant RX9 196 (65535)) (by decide +kernel)) dX9_set_39 ?_
      exact hJ41 x1 x2 x3 s0 s1 (65535 : Int32) σ _ _ _ hf hW (lv_sub hl [0, 1, 2, 3] rfl)
    · replace hf := ow_if_t c31 hf
      refine lv_bipush (v := 16) hx hb dX9_set_34 (by decide) ?_
      refine lv_goto (tgt := 41) hx hb dX9_set_36 (by decide) ?_
      exact hJ41 x1 x2 x3 s0 s1 (16 : Int32) σ _ _ _ hf hW (lv_sub hl [0, 1, 2, 3] rfl)
  have hl := lv_entry ([.ref (ow_ad Z 56), .int a1, .int a2, .int a3]) (n := 5) (Nat.le_of_ble_eq_true rfl)
  refine W.eq (g2 := F0 m 0 ((lg_sl ([.ref (ow_ad Z 56), .int a1, .int a2, .int a3]) ++ List.replicate (5 - (lg_sl ([.ref (ow_ad Z 56), .int a1, .int a2, .int a3])).length) Slot.unset).toArray) []) (by rw [hav]; exact lg_entry_eq _ _ _) ?_
  generalize (lg_sl ([.ref (ow_ad Z 56), .int a1, .int a2, .int a3]) ++ List.replicate (5 - (lg_sl ([.ref (ow_ad Z 56), .int a1, .int a2, .int a3])).length) Slot.unset).toArray = ls at hl ⊢
  have hl : lv_has ls 5 [(0, .ref (ow_ad Z 56)), (1, .int a1), (2, .int a2), (3, .int a3)] := hl
  unfold f_X9_set at hf
  refine lv_aload_n hx hb dX9_set_0 rfl (lv_at hl 0 rfl) ?_
  refine lv_iload_n hx hb dX9_set_1 rfl (lv_at hl 1 rfl) ?_
  obtain ⟨r_2, σ_2, hc2, hf⟩ := ow_cl_i hf
  refine ow_callz (va_runV (As := [.int a1]) (rest := []) ⟨hx, hb, hml, hown, hts⟩ (c_X9_isHead l Z fu a1 σ r_2 σ_2 hc2) (cwV 1 hts gX9_set_X9_isHead rfl rfl rfl (by decide +kernel) ⟨Nat.le_of_ble_eq_true rfl, Nat.le_of_ble_eq_true rfl⟩) (ow_preV hG hW ow_i56 (by decide) rfl) rfl rfl hl.1 rfl (lv_room (Nat.le_of_ble_eq_true rfl)) dX9_set_2 ⟨Nat.zero_le _, Nat.zero_le _⟩) hW (fun b2 H locs hW => ?_)
  refine lv_if_ne (tgt := 11) hx hb dX9_set_5 (by decide) (fun c5 => ?_) (fun c5 => ?_)
  · replace hf := ow_if_f c5 hf
    refine lv_iload_n hx hb dX9_set_11 rfl (lv_at hl 2 rfl) ?_
    refine lv_iconst (v := 0) hx hb dX9_set_12 (by decide) ?_
    refine lv_iconst (v := 2) hx hb dX9_set_13 (by decide) ?_
    obtain ⟨r_14, σ_14, hc14, hf⟩ := ow_cl_i hf
    refine ow_callz (va_runS (As := [.int a2, .int (0 : Int32), .int (2 : Int32)]) (rest := []) ⟨hx, hb, hml, hown, hts⟩ (c_X9_in l Z fu a2 (0 : Int32) (2 : Int32) σ_2 r_14 σ_14 hc14) (va_cwS 3 hts gX9_set_X9_in rfl rfl rfl (by decide +kernel) ⟨Nat.le_of_ble_eq_true rfl, Nat.le_of_ble_eq_true rfl⟩) (ow_preS hG hW) rfl rfl hl.1 rfl (lv_room (Nat.le_of_ble_eq_true rfl)) dX9_set_14 ⟨Nat.zero_le _, Nat.zero_le _⟩) hW (fun b14 H locs hW => ?_)
    refine lv_if_eq (tgt := 47) hx hb dX9_set_17 (by decide) (fun c17 => ?_) (fun c17 => ?_)
    · replace hf := ow_if_t c17 hf
      refine lv_bipush (v := -7) hx hb dX9_set_47 (by decide) ?_
      exact ow_iret hx hb hr hW hf dX9_set_49 hlocks
    · replace hf := ow_if_f c17 hf
      refine lv_iload_n hx hb dX9_set_20 rfl (lv_at hl 3 rfl) ?_
      refine lv_iload_n hx hb dX9_set_21 rfl (lv_at hl 2 rfl) ?_
      refine lv_if_ne (tgt := 29) hx hb dX9_set_22 (by decide) (fun c22 => ?_) (fun c22 => ?_)
      · replace hf := ow_if_f c22 hf
        refine lv_iconst (v := 0) hx hb dX9_set_29 (by decide) ?_
        exact hJ30 a1 a2 a3 a3 (0 : Int32) σ_14 _ _ _ hf hW (lv_sub hl [0, 1, 2, 3] rfl)
      · replace hf := ow_if_t c22 hf
        refine lv_iconst (v := 1) hx hb dX9_set_25 (by decide) ?_
        refine lv_goto (tgt := 30) hx hb dX9_set_26 (by decide) ?_
        exact hJ30 a1 a2 a3 a3 (1 : Int32) σ_14 _ _ _ hf hW (lv_sub hl [0, 1, 2, 3] rfl)
  · replace hf := ow_if_t c5 hf
    refine lv_bipush (v := -5) hx hb dX9_set_8 (by decide) ?_
    exact ow_iret hx hb hr hW hf dX9_set_10 hlocks
set_option maxHeartbeats 40000000 in
set_option maxRecDepth 100000 in
theorem c_X9_told (l : Launch) (Z : ow_Z) (fu : Nat) (a1 : Int32) (a2 : Int32) (σ : ow_S) (rr : Int32) (σr : ow_S) (hf : f_X9_told fu a1 a2 σ = some (rr, σr)) : Met l yX9_told wsX9_told { frames := 3, cells := 0, slots := 0, locals := 103 } (ow_Pc Z 56 20 [.ref (ow_ad Z 56), .int a1, .int a2] σ) (ow_Qi Z 56 20 rr σr) 0 0 (ow_A Z 56 20) := by
  refine Met.ofW (cc := cX9_told) (maxL := 3) (ret := (some .int)) (by decide) rfl ?_
  intro p e s m args below meth c s₁ B hml hv
  obtain ⟨hav, hB⟩ := hv
  obtain ⟨hG, hW⟩ := ow_begin hB
  have hx := B.exec
  have hb := B.bytes
  have hr := B.returns
  have hts := atoms_spec (ws := wsX9_told) B.pre
  have hown : s.vm.findClass RX9 = some m.cls := findClass_of_methodNamed B.named
  have hlocks := B.notSynchronized
  have hinX9 : ∀ w ∈ wsX90, w ∈ wsX9_told := by decide +kernel
  have hl := lv_entry ([.ref (ow_ad Z 56), .int a1, .int a2]) (n := 3) (Nat.le_of_ble_eq_true rfl)
  refine W.eq (g2 := F0 m 0 ((lg_sl ([.ref (ow_ad Z 56), .int a1, .int a2]) ++ List.replicate (3 - (lg_sl ([.ref (ow_ad Z 56), .int a1, .int a2])).length) Slot.unset).toArray) []) (by rw [hav]; exact lg_entry_eq _ _ _) ?_
  generalize (lg_sl ([.ref (ow_ad Z 56), .int a1, .int a2]) ++ List.replicate (3 - (lg_sl ([.ref (ow_ad Z 56), .int a1, .int a2])).length) Slot.unset).toArray = ls at hl ⊢
  have hl : lv_has ls 3 [(0, .ref (ow_ad Z 56)), (1, .int a1), (2, .int a2)] := hl
  unfold f_X9_told at hf
  refine lv_aload_n hx hb dX9_told_0 rfl (lv_at hl 0 rfl) ?_
  refine lv_iload_n hx hb dX9_told_1 rfl (lv_at hl 1 rfl) ?_
  obtain ⟨r_2, σ_2, hc2, hf⟩ := ow_cl_i hf
  refine ow_callz (va_runV (As := [.int a1]) (rest := []) ⟨hx, hb, hml, hown, hts⟩ (c_X9_isHead l Z fu a1 σ r_2 σ_2 hc2) (cwV 1 hts gX9_told_X9_isHead rfl rfl rfl (by decide +kernel) ⟨Nat.le_of_ble_eq_true rfl, Nat.le_of_ble_eq_true rfl⟩) (ow_preV hG hW ow_i56 (by decide) rfl) rfl rfl hl.1 rfl (lv_room (Nat.le_of_ble_eq_true rfl)) dX9_told_2 ⟨Nat.zero_le _, Nat.zero_le _⟩) hW (fun b2 H locs hW => ?_)
  refine lv_if_ne (tgt := 11) hx hb dX9_told_5 (by decide) (fun c5 => ?_) (fun c5 => ?_)
  · replace hf := ow_if_f c5 hf
    refine lv_iload_n hx hb dX9_told_11 rfl (lv_at hl 2 rfl) ?_
    refine lv_if_ne (tgt := 24) hx hb dX9_told_12 (by decide) (fun c12 => ?_) (fun c12 => ?_)
    · replace hf := ow_if_f c12 hf
      refine lv_iload_n hx hb dX9_told_24 rfl (lv_at hl 2 rfl) ?_
      refine lv_iconst (v := 1) hx hb dX9_told_25 (by decide) ?_
      refine lv_icmp_ne (tgt := 38) hx hb dX9_told_26 (by decide) (fun c26 => ?_) (fun c26 => ?_)
      · replace hf := ow_if_f c26 hf
        refine lv_iload_n hx hb dX9_told_38 rfl (lv_at hl 2 rfl) ?_
        refine lv_iconst (v := 2) hx hb dX9_told_39 (by decide) ?_
        refine lv_iconst (v := 4) hx hb dX9_told_40 (by decide) ?_
        obtain ⟨r_41, σ_41, hc41, hf⟩ := ow_cl_i hf
        refine ow_callz (va_runS (As := [.int a2, .int (2 : Int32), .int (4 : Int32)]) (rest := []) ⟨hx, hb, hml, hown, hts⟩ (c_X9_in l Z fu a2 (2 : Int32) (4 : Int32) σ_2 r_41 σ_41 hc41) (va_cwS 3 hts gX9_told_X9_in rfl rfl rfl (by decide +kernel) ⟨Nat.le_of_ble_eq_true rfl, Nat.le_of_ble_eq_true rfl⟩) (ow_preS hG hW) rfl rfl hl.1 rfl (lv_room (Nat.le_of_ble_eq_true rfl)) dX9_told_41 ⟨Nat.zero_le _, Nat.zero_le _⟩) hW (fun b41 H locs hW => ?_)
        refine lv_if_eq (tgt := 62) hx hb dX9_told_44 (by decide) (fun c44 => ?_) (fun c44 => ?_)
        · replace hf := ow_if_t c44 hf
          refine lv_bipush (v := -7) hx hb dX9_told_62 (by decide) ?_
          exact ow_iret hx hb hr hW hf dX9_told_64 hlocks
        · replace hf := ow_if_f c44 hf
          refine lv_aload_n hx hb dX9_told_47 rfl (lv_at hl 0 rfl) ?_
          refine ow_getV (ci := 9) (C := RX9) (T := TX9) (N := 41) hx hb hts hown hG hW ow_i56 (by decide) rfl hinX9 6 (by decide) (fk := 2) rfl (hts (.fieldLink RX9 23 "FiftyOneCardsModel" "kept" "[I") (by decide +kernel)) (v := .ref (ow_ad Z 60)) (ow_vR hW ow_i56.1 ow_i56.2.1 rfl) dX9_told_48 ?_
          refine lv_iconst (v := 3) hx hb dX9_told_51 (by decide) ?_
          refine lv_iload_n hx hb dX9_told_52 rfl (lv_at hl 1 rfl) ?_
          refine lv_imul hx hb dX9_told_53 ?_
          refine lv_iload_n hx hb dX9_told_54 rfl (lv_at hl 2 rfl) ?_
          refine lv_iadd hx hb dX9_told_55 ?_
          refine lv_iconst (v := 2) hx hb dX9_told_56 (by decide) ?_
          refine lv_isub hx hb dX9_told_57 ?_
          obtain ⟨q58, hf⟩ := ow_ck_i hf
          refine ow_ild (q := ((((3 : Int32) * a1) + a2) - (2 : Int32)).toNatClampNeg) hx hb hG hW ow_i60 rfl q58 rfl dX9_told_58 ?_
          refine lv_goto (tgt := 64) hx hb dX9_told_59 (by decide) ?_
          exact ow_iret hx hb hr hW hf dX9_told_64 hlocks
      · replace hf := ow_if_t c26 hf
        refine lv_aload_n hx hb dX9_told_29 rfl (lv_at hl 0 rfl) ?_
        refine ow_getV (ci := 9) (C := RX9) (T := TX9) (N := 41) hx hb hts hown hG hW ow_i56 (by decide) rfl hinX9 5 (by decide) (fk := 2) rfl (hts (.fieldLink RX9 20 "FiftyOneCardsModel" "moreOf" "[I") (by decide +kernel)) (v := .ref (ow_ad Z 59)) (ow_vR hW ow_i56.1 ow_i56.2.1 rfl) dX9_told_30 ?_
        refine lv_iload_n hx hb dX9_told_33 rfl (lv_at hl 1 rfl) ?_
        obtain ⟨q34, hf⟩ := ow_ck_i hf
        refine ow_ild (q := a1.toNatClampNeg) hx hb hG hW ow_i59 rfl q34 rfl dX9_told_34 ?_
        refine lv_goto (tgt := 64) hx hb dX9_told_35 (by decide) ?_
        exact ow_iret hx hb hr hW hf dX9_told_64 hlocks
    · replace hf := ow_if_t c12 hf
      refine lv_aload_n hx hb dX9_told_15 rfl (lv_at hl 0 rfl) ?_
      refine ow_getV (ci := 9) (C := RX9) (T := TX9) (N := 41) hx hb hts hown hG hW ow_i56 (by decide) rfl hinX9 4 (by decide) (fk := 2) rfl (hts (.fieldLink RX9 17 "FiftyOneCardsModel" "kind" "[I") (by decide +kernel)) (v := .ref (ow_ad Z 58)) (ow_vR hW ow_i56.1 ow_i56.2.1 rfl) dX9_told_16 ?_
      refine lv_iload_n hx hb dX9_told_19 rfl (lv_at hl 1 rfl) ?_
      obtain ⟨q20, hf⟩ := ow_ck_i hf
      refine ow_ild (q := a1.toNatClampNeg) hx hb hG hW ow_i58 rfl q20 rfl dX9_told_20 ?_
      refine lv_goto (tgt := 64) hx hb dX9_told_21 (by decide) ?_
      exact ow_iret hx hb hr hW hf dX9_told_64 hlocks
  · replace hf := ow_if_t c5 hf
    refine lv_bipush (v := -5) hx hb dX9_told_8 (by decide) ?_
    exact ow_iret hx hb hr hW hf dX9_told_10 hlocks
