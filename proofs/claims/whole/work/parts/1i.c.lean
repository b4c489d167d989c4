set_option maxHeartbeats 40000000 in
set_option maxRecDepth 100000 in
theorem c_X9_truth (l : Launch) (Z : ow_Z) (fu : Nat) (a1 : Int32) (σ : ow_S) (rr : Int32) (σr : ow_S) (hf : f_X9_truth fu a1 σ = some (rr, σr)) : Met l yX9_truth wsX9_truth { frames := 3, cells := 0, slots := 0, locals := 107 } (ow_Pc Z 56 20 [.ref (ow_ad Z 56), .int a1] σ) (ow_Qi Z 56 20 rr σr) 0 0 (ow_A Z 56 20) := by
  refine Met.ofW (cc := cX9_truth) (maxL := 4) (ret := (some .int)) (by decide) rfl ?_
  intro p e s m args below meth c s₁ B hml hv
  obtain ⟨hav, hB⟩ := hv
  obtain ⟨hG, hW⟩ := ow_begin hB
  have hx := B.exec
  have hb := B.bytes
  have hr := B.returns
  have hts := atoms_spec (ws := wsX9_truth) B.pre
  have hown : s.vm.findClass RX9 = some m.cls := findClass_of_methodNamed B.named
  have hlocks := B.notSynchronized
  have hinX9 : ∀ w ∈ wsX90, w ∈ wsX9_truth := by decide +kernel
  have hJ19 : ∀ (x1 : Int32) (x2 : Int32) (s0 : Int32) (σ : ow_S) (H : Heap) (locs : List Loc) (ls : Array Slot), L_X9_truth_19 fu x1 x2 s0 σ = some (rr, σr) → ow_Wd Z 56 20 σ s H locs → lv_has ls 4 [(0, .ref (ow_ad Z 56)), (1, .int x1), (2, .int x2)] → W p l e (headSpec wsX9_truth { frames := 3, cells := 0, slots := 0, locals := 107 }).room s m args below meth c H locs 0 0 (MQ below (ow_Qi Z 56 20 rr σr) args s 0 0 (ow_A Z 56 20)) (F0 m 19 ls [.int s0]) := by
    intro x1 x2 s0 σ H locs ls hf hW hl
    unfold L_X9_truth_19 at hf
    refine lv_istore_n (lv' := [(3, .int s0), (0, .ref (ow_ad Z 56)), (1, .int x1), (2, .int x2)]) hx hb dX9_truth_19 rfl hl (by decide) rfl (fun ls hl => ?_)
    refine lv_iload_n hx hb dX9_truth_20 rfl (lv_at hl 2 rfl) ?_
    by_cases c21_0 : x1 = (0 : Int32)
    · replace hf := ow_if_t c21_0 hf
      refine lv_tableIn (off := 47) (tgt := 68) hx hb dX9_truth_21 (by rw [c21_0]; decide) (by rw [c21_0]; decide) (by rw [c21_0]; rfl) (by decide) ?_
      refine lv_aload_n hx hb dX9_truth_68 rfl (lv_at hl 1 rfl) ?_
      refine ow_getV (ci := 9) (C := RX9) (T := TX9) (N := 41) hx hb hts hown hG hW ow_i56 (by decide) rfl hinX9 0 (by decide) (fk := 0) rfl (hts (.fieldLink RX9 7 "FiftyOneCardsModel" "pack" "I") (by decide +kernel)) (v := .int (σ.1 56 0)) rfl dX9_truth_69 ?_
      refine lv_aload_n hx hb dX9_truth_72 rfl (lv_at hl 1 rfl) ?_
      obtain ⟨r_73, σ_73, hc73, hf⟩ := ow_cl_i hf
      refine ow_calli (va_runV (As := []) (rest := [.int (σ.1 56 0)]) ⟨hx, hb, hml, hown, hts⟩ (c_X9_unlikeMany l Z fu σ r_73 σ_73 hc73) (cwV 0 hts gX9_truth_X9_unlikeMany rfl rfl rfl (by decide +kernel) ⟨Nat.le_of_ble_eq_true rfl, Nat.le_of_ble_eq_true rfl⟩) (ow_preV hG hW ow_i56 (by decide) rfl) rfl rfl hl.1 rfl (lv_room (Nat.le_of_ble_eq_true rfl)) dX9_truth_73 ⟨Nat.zero_le _, Nat.zero_le _⟩) hW (fun H locs hW => ?_)
      refine lv_isub hx hb dX9_truth_76 ?_
      exact ow_iret hx hb hr hW hf dX9_truth_77 hlocks
    · replace hf := ow_if_f c21_0 hf
      by_cases c21_1 : x1 = (1 : Int32)
      · replace hf := ow_if_t c21_1 hf
        refine lv_tableIn (off := 57) (tgt := 78) hx hb dX9_truth_21 (by rw [c21_1]; decide) (by rw [c21_1]; decide) (by rw [c21_1]; rfl) (by decide) ?_
        refine lv_aload_n hx hb dX9_truth_78 rfl (lv_at hl 1 rfl) ?_
        obtain ⟨r_79, σ_79, hc79, hf⟩ := ow_cl_i hf
        refine ow_calli (va_runV (As := []) (rest := []) ⟨hx, hb, hml, hown, hts⟩ (c_X9_unlikeMany l Z fu σ r_79 σ_79 hc79) (cwV 0 hts gX9_truth_X9_unlikeMany rfl rfl rfl (by decide +kernel) ⟨Nat.le_of_ble_eq_true rfl, Nat.le_of_ble_eq_true rfl⟩) (ow_preV hG hW ow_i56 (by decide) rfl) rfl rfl hl.1 rfl (lv_room (Nat.le_of_ble_eq_true rfl)) dX9_truth_79 ⟨Nat.zero_le _, Nat.zero_le _⟩) hW (fun H locs hW => ?_)
        exact ow_iret hx hb hr hW hf dX9_truth_82 hlocks
      · replace hf := ow_if_f c21_1 hf
        by_cases c21_2 : x1 = (2 : Int32)
        · replace hf := ow_if_t c21_2 hf
          refine lv_tableIn (off := 62) (tgt := 83) hx hb dX9_truth_21 (by rw [c21_2]; decide) (by rw [c21_2]; decide) (by rw [c21_2]; rfl) (by decide) ?_
          refine lv_iload_n hx hb dX9_truth_83 rfl (lv_at hl 3 rfl) ?_
          exact ow_iret hx hb hr hW hf dX9_truth_84 hlocks
        · replace hf := ow_if_f c21_2 hf
          by_cases c21_3 : x1 = (3 : Int32)
          · replace hf := ow_if_t c21_3 hf
            refine lv_tableIn (off := 64) (tgt := 85) hx hb dX9_truth_21 (by rw [c21_3]; decide) (by rw [c21_3]; decide) (by rw [c21_3]; rfl) (by decide) ?_
            refine lv_iload_n hx hb dX9_truth_85 rfl (lv_at hl 0 rfl) ?_
            exact ow_iret hx hb hr hW hf dX9_truth_86 hlocks
          · replace hf := ow_if_f c21_3 hf
            by_cases c21_4 : x1 = (4 : Int32)
            · replace hf := ow_if_t c21_4 hf
              refine lv_tableIn (off := 66) (tgt := 87) hx hb dX9_truth_21 (by rw [c21_4]; decide) (by rw [c21_4]; decide) (by rw [c21_4]; rfl) (by decide) ?_
              refine lv_iconst (v := 2) hx hb dX9_truth_87 (by decide) ?_
              refine lv_iload_n hx hb dX9_truth_88 rfl (lv_at hl 0 rfl) ?_
              refine lv_imul hx hb dX9_truth_89 ?_
              refine lv_aload_n hx hb dX9_truth_90 rfl (lv_at hl 1 rfl) ?_
              refine ow_getV (ci := 9) (C := RX9) (T := TX9) (N := 41) hx hb hts hown hG hW ow_i56 (by decide) rfl hinX9 2 (by decide) (fk := 0) rfl (hts (.fieldLink RX9 85 "FiftyOneCardsModel" "rowMany" "I") (by decide +kernel)) (v := .int (σ.1 56 2)) rfl dX9_truth_91 ?_
              refine lv_icmp_le (tgt := 101) hx hb dX9_truth_94 (by decide) (fun c94 => ?_) (fun c94 => ?_)
              · replace hf := ow_if_t c94 hf
                refine lv_iconst (v := 0) hx hb dX9_truth_101 (by decide) ?_
                exact ow_iret hx hb hr hW hf dX9_truth_102 hlocks
              · replace hf := ow_if_f c94 hf
                refine lv_iconst (v := 1) hx hb dX9_truth_97 (by decide) ?_
                refine lv_goto (tgt := 102) hx hb dX9_truth_98 (by decide) ?_
                exact ow_iret hx hb hr hW hf dX9_truth_102 hlocks
            · replace hf := ow_if_f c21_4 hf
              by_cases c21_5 : x1 = (5 : Int32)
              · replace hf := ow_if_t c21_5 hf
                refine lv_tableIn (off := 82) (tgt := 103) hx hb dX9_truth_21 (by rw [c21_5]; decide) (by rw [c21_5]; decide) (by rw [c21_5]; rfl) (by decide) ?_
                refine lv_aload_n hx hb dX9_truth_103 rfl (lv_at hl 1 rfl) ?_
                obtain ⟨r_104, σ_104, hc104, hf⟩ := ow_cl_i hf
                refine ow_calli (va_runV (As := []) (rest := []) ⟨hx, hb, hml, hown, hts⟩ (c_X9_firstAgain l Z fu σ r_104 σ_104 hc104) (cwV 0 hts gX9_truth_X9_firstAgain rfl rfl rfl (by decide +kernel) ⟨Nat.le_of_ble_eq_true rfl, Nat.le_of_ble_eq_true rfl⟩) (ow_preV hG hW ow_i56 (by decide) rfl) rfl rfl hl.1 rfl (lv_room (Nat.le_of_ble_eq_true rfl)) dX9_truth_104 ⟨Nat.zero_le _, Nat.zero_le _⟩) hW (fun H locs hW => ?_)
                exact ow_iret hx hb hr hW hf dX9_truth_107 hlocks
              · replace hf := ow_if_f c21_5 hf
                by_cases c21_6 : x1 = (6 : Int32)
                · replace hf := ow_if_t c21_6 hf
                  refine lv_tableIn (off := 87) (tgt := 108) hx hb dX9_truth_21 (by rw [c21_6]; decide) (by rw [c21_6]; decide) (by rw [c21_6]; rfl) (by decide) ?_
                  refine lv_aload_n hx hb dX9_truth_108 rfl (lv_at hl 1 rfl) ?_
                  refine lv_iconst (v := 0) hx hb dX9_truth_109 (by decide) ?_
                  obtain ⟨r_110, σ_110, hc110, hf⟩ := ow_cl_i hf
                  refine ow_calli (va_runV (As := [.int (0 : Int32)]) (rest := []) ⟨hx, hb, hml, hown, hts⟩ (c_X9_sumOf l Z fu (0 : Int32) σ r_110 σ_110 hc110) (cwV 1 hts gX9_truth_X9_sumOf rfl rfl rfl (by decide +kernel) ⟨Nat.le_of_ble_eq_true rfl, Nat.le_of_ble_eq_true rfl⟩) (ow_preV hG hW ow_i56 (by decide) rfl) rfl rfl hl.1 rfl (lv_room (Nat.le_of_ble_eq_true rfl)) dX9_truth_110 ⟨Nat.zero_le _, Nat.zero_le _⟩) hW (fun H locs hW => ?_)
                  exact ow_iret hx hb hr hW hf dX9_truth_113 hlocks
                · replace hf := ow_if_f c21_6 hf
                  by_cases c21_7 : x1 = (7 : Int32)
                  · replace hf := ow_if_t c21_7 hf
                    refine lv_tableIn (off := 93) (tgt := 114) hx hb dX9_truth_21 (by rw [c21_7]; decide) (by rw [c21_7]; decide) (by rw [c21_7]; rfl) (by decide) ?_
                    refine lv_aload_n hx hb dX9_truth_114 rfl (lv_at hl 1 rfl) ?_
                    refine lv_iconst (v := 1) hx hb dX9_truth_115 (by decide) ?_
                    obtain ⟨r_116, σ_116, hc116, hf⟩ := ow_cl_i hf
                    refine ow_calli (va_runV (As := [.int (1 : Int32)]) (rest := []) ⟨hx, hb, hml, hown, hts⟩ (c_X9_sumOf l Z fu (1 : Int32) σ r_116 σ_116 hc116) (cwV 1 hts gX9_truth_X9_sumOf rfl rfl rfl (by decide +kernel) ⟨Nat.le_of_ble_eq_true rfl, Nat.le_of_ble_eq_true rfl⟩) (ow_preV hG hW ow_i56 (by decide) rfl) rfl rfl hl.1 rfl (lv_room (Nat.le_of_ble_eq_true rfl)) dX9_truth_116 ⟨Nat.zero_le _, Nat.zero_le _⟩) hW (fun H locs hW => ?_)
                    exact ow_iret hx hb hr hW hf dX9_truth_119 hlocks
                  · replace hf := ow_if_f c21_7 hf
                    have e21_0 := lv_neT c21_0 (a := 0) (by decide)
                    have e21_1 := lv_neT c21_1 (a := 1) (by decide)
                    have e21_2 := lv_neT c21_2 (a := 2) (by decide)
                    have e21_3 := lv_neT c21_3 (a := 3) (by decide)
                    have e21_4 := lv_neT c21_4 (a := 4) (by decide)
                    have e21_5 := lv_neT c21_5 (a := 5) (by decide)
                    have e21_6 := lv_neT c21_6 (a := 6) (by decide)
                    have e21_7 := lv_neT c21_7 (a := 7) (by decide)
                    refine lv_tableOut (tgt := 120) hx hb dX9_truth_21 (by omega) (by decide) ?_
                    refine lv_bipush (v := -2) hx hb dX9_truth_120 (by decide) ?_
                    exact ow_iret hx hb hr hW hf dX9_truth_122 hlocks
  have hl := lv_entry ([.ref (ow_ad Z 56), .int a1]) (n := 4) (Nat.le_of_ble_eq_true rfl)
  refine W.eq (g2 := F0 m 0 ((lg_sl ([.ref (ow_ad Z 56), .int a1]) ++ List.replicate (4 - (lg_sl ([.ref (ow_ad Z 56), .int a1])).length) Slot.unset).toArray) []) (by rw [hav]; exact lg_entry_eq _ _ _) ?_
  generalize (lg_sl ([.ref (ow_ad Z 56), .int a1]) ++ List.replicate (4 - (lg_sl ([.ref (ow_ad Z 56), .int a1])).length) Slot.unset).toArray = ls at hl ⊢
  have hl : lv_has ls 4 [(0, .ref (ow_ad Z 56)), (1, .int a1)] := hl
  unfold f_X9_truth at hf
  refine lv_aload_n hx hb dX9_truth_0 rfl (lv_at hl 0 rfl) ?_
  obtain ⟨r_1, σ_1, hc1, hf⟩ := ow_cl_i hf
  refine ow_calli (va_runV (As := []) (rest := []) ⟨hx, hb, hml, hown, hts⟩ (c_X9_mostComing l Z fu σ r_1 σ_1 hc1) (cwV 0 hts gX9_truth_X9_mostComing rfl rfl rfl (by decide +kernel) ⟨Nat.le_of_ble_eq_true rfl, Nat.le_of_ble_eq_true rfl⟩) (ow_preV hG hW ow_i56 (by decide) rfl) rfl rfl hl.1 rfl (lv_room (Nat.le_of_ble_eq_true rfl)) dX9_truth_1 ⟨Nat.zero_le _, Nat.zero_le _⟩) hW (fun H locs hW => ?_)
  refine lv_istore_n (lv' := [(2, .int r_1), (0, .ref (ow_ad Z 56)), (1, .int a1)]) hx hb dX9_truth_4 rfl hl (by decide) rfl (fun ls hl => ?_)
  refine lv_iload_n hx hb dX9_truth_5 rfl (lv_at hl 0 rfl) ?_
  refine lv_iconst (v := -1) hx hb dX9_truth_6 (by decide) ?_
  refine lv_icmp_ne (tgt := 14) hx hb dX9_truth_7 (by decide) (fun c7 => ?_) (fun c7 => ?_)
  · replace hf := ow_if_f c7 hf
    refine lv_aload_n hx hb dX9_truth_14 rfl (lv_at hl 1 rfl) ?_
    refine lv_iload_n hx hb dX9_truth_15 rfl (lv_at hl 0 rfl) ?_
    obtain ⟨r_16, σ_16, hc16, hf⟩ := ow_cl_i hf
    refine ow_calli (va_runV (As := [.int r_1]) (rest := []) ⟨hx, hb, hml, hown, hts⟩ (c_X9_comings l Z fu r_1 σ_1 r_16 σ_16 hc16) (cwV 1 hts gX9_truth_X9_comings rfl rfl rfl (by decide +kernel) ⟨Nat.le_of_ble_eq_true rfl, Nat.le_of_ble_eq_true rfl⟩) (ow_preV hG hW ow_i56 (by decide) rfl) rfl rfl hl.1 rfl (lv_room (Nat.le_of_ble_eq_true rfl)) dX9_truth_16 ⟨Nat.zero_le _, Nat.zero_le _⟩) hW (fun H locs hW => ?_)
    exact hJ19 a1 r_1 r_16 σ_16 _ _ _ hf hW (lv_sub hl [1, 2, 0] rfl)
  · replace hf := ow_if_t c7 hf
    refine lv_iconst (v := 0) hx hb dX9_truth_10 (by decide) ?_
    refine lv_goto (tgt := 19) hx hb dX9_truth_11 (by decide) ?_
    exact hJ19 a1 r_1 (0 : Int32) σ_1 _ _ _ hf hW (lv_sub hl [1, 2, 0] rfl)
set_option maxHeartbeats 40000000 in
set_option maxRecDepth 100000 in
theorem c_X9_packSum (l : Launch) (Z : ow_Z) (fu : Nat) (σ : ow_S) (rr : Int32) (σr : ow_S) (hf : f_X9_packSum fu σ = some (rr, σr)) : Met l yX9_packSum wsX9_packSum { frames := 1, cells := 0, slots := 0, locals := 60 } (ow_Pc Z 56 20 [.ref (ow_ad Z 56)] σ) (ow_Qi Z 56 20 rr σr) 0 0 (ow_A Z 56 20) := by
  refine Met.ofW (cc := cX9_packSum) (maxL := 1) (ret := (some .int)) (by decide) rfl ?_
  intro p e s m args below meth c s₁ B hml hv
  obtain ⟨hav, hB⟩ := hv
  obtain ⟨hG, hW⟩ := ow_begin hB
  have hx := B.exec
  have hb := B.bytes
  have hr := B.returns
  have hts := atoms_spec (ws := wsX9_packSum) B.pre
  have hown : s.vm.findClass RX9 = some m.cls := findClass_of_methodNamed B.named
  have hlocks := B.notSynchronized
  have hinX9 : ∀ w ∈ wsX90, w ∈ wsX9_packSum := by decide +kernel
  have hl := lv_entry ([.ref (ow_ad Z 56)]) (n := 1) (Nat.le_of_ble_eq_true rfl)
  refine W.eq (g2 := F0 m 0 ((lg_sl ([.ref (ow_ad Z 56)]) ++ List.replicate (1 - (lg_sl ([.ref (ow_ad Z 56)])).length) Slot.unset).toArray) []) (by rw [hav]; exact lg_entry_eq _ _ _) ?_
  generalize (lg_sl ([.ref (ow_ad Z 56)]) ++ List.replicate (1 - (lg_sl ([.ref (ow_ad Z 56)])).length) Slot.unset).toArray = ls at hl ⊢
  have hl : lv_has ls 1 [(0, .ref (ow_ad Z 56))] := hl
  unfold f_X9_packSum at hf
  refine lv_aload_n hx hb dX9_packSum_0 rfl (lv_at hl 0 rfl) ?_
  refine ow_getV (ci := 9) (C := RX9) (T := TX9) (N := 41) hx hb hts hown hG hW ow_i56 (by decide) rfl hinX9 0 (by decide) (fk := 0) rfl (hts (.fieldLink RX9 7 "FiftyOneCardsModel" "pack" "I") (by decide +kernel)) (v := .int (σ.1 56 0)) rfl dX9_packSum_1 ?_
  refine lv_aload_n hx hb dX9_packSum_4 rfl (lv_at hl 0 rfl) ?_
  refine ow_getV (ci := 9) (C := RX9) (T := TX9) (N := 41) hx hb hts hown hG hW ow_i56 (by decide) rfl hinX9 0 (by decide) (fk := 0) rfl (hts (.fieldLink RX9 7 "FiftyOneCardsModel" "pack" "I") (by decide +kernel)) (v := .int (σ.1 56 0)) rfl dX9_packSum_5 ?_
  refine lv_iconst (v := 1) hx hb dX9_packSum_8 (by decide) ?_
  refine lv_iadd hx hb dX9_packSum_9 ?_
  refine lv_imul hx hb dX9_packSum_10 ?_
  refine lv_iconst (v := 2) hx hb dX9_packSum_11 (by decide) ?_
  refine lv_idiv hx hb dX9_packSum_12 (by decide) ?_
  exact ow_iret hx hb hr hW hf dX9_packSum_13 hlocks
set_option maxHeartbeats 40000000 in
set_option maxRecDepth 100000 in
theorem c_X9_two (l : Launch) (Z : ow_Z) (fu : Nat) (a1 : Int32) (σ : ow_S) (rr : Int32) (σr : ow_S) (hf : f_X9_two fu a1 σ = some (rr, σr)) : Met l yX9_two wsX9_two { frames := 2, cells := 0, slots := 0, locals := 83 } (ow_Pc Z 56 20 [.ref (ow_ad Z 56), .int a1] σ) (ow_Qi Z 56 20 rr σr) 0 0 (ow_A Z 56 20) := by
  refine Met.ofW (cc := cX9_two) (maxL := 6) (ret := (some .int)) (by decide) rfl ?_
  intro p e s m args below meth c s₁ B hml hv
  obtain ⟨hav, hB⟩ := hv
  obtain ⟨hG, hW⟩ := ow_begin hB
  have hx := B.exec
  have hb := B.bytes
  have hr := B.returns
  have hts := atoms_spec (ws := wsX9_two) B.pre
  have hown : s.vm.findClass RX9 = some m.cls := findClass_of_methodNamed B.named
  have hlocks := B.notSynchronized
  have hinX9 : ∀ w ∈ wsX90, w ∈ wsX9_two := by decide +kernel
  have hJ122 : ∀ (k58 : Int32 → Int32 → Int32 → Int32 → ow_S → Option (Int32 × ow_S)) (hk58 : ∀ (x1 : Int32) (x2 : Int32) (x3 : Int32) (x4 : Int32) (σ : ow_S) (H : Heap) (locs : List Loc) (ls : Array Slot), k58 x1 x2 x3 x4 σ = some (rr, σr) → ow_Wd Z 56 20 σ s H locs → lv_has ls 6 [(0, .ref (ow_ad Z 56)), (1, .int x1), (2, .int x2), (3, .int x3), (4, .int x4)] → W p l e (headSpec wsX9_two { frames := 2, cells := 0, slots := 0, locals := 83 }).room s m args below meth c H locs 0 0 (MQ below (ow_Qi Z 56 20 rr σr) args s 0 0 (ow_A Z 56 20)) (F0 m 58 ls [])), ∀ (x1 : Int32) (x2 : Int32) (x3 : Int32) (x4 : Int32) (σ : ow_S) (H : Heap) (locs : List Loc) (ls : Array Slot), L_X9_two_122 fu k58 x1 x2 x3 x4 σ = some (rr, σr) → ow_Wd Z 56 20 σ s H locs → lv_has ls 6 [(0, .ref (ow_ad Z 56)), (1, .int x1), (2, .int x2), (3, .int x3), (4, .int x4)] → W p l e (headSpec wsX9_two { frames := 2, cells := 0, slots := 0, locals := 83 }).room s m args below meth c H locs 0 0 (MQ below (ow_Qi Z 56 20 rr σr) args s 0 0 (ow_A Z 56 20)) (F0 m 122 ls []) := by
    intro k58 hk58 x1 x2 x3 x4 σ H locs ls hf hW hl
    unfold L_X9_two_122 at hf
    refine ow_iinc (d := 1) (lv' := fun z => [(4, .int z), (0, .ref (ow_ad Z 56)), (1, .int x1), (2, .int x2), (3, .int x3)]) hx hb hf dX9_two_122 hl (k := 4) rfl (by decide) (by decide) (fun z => rfl) (fun x4_122 hf ls hl => ?_)
    refine lv_goto (tgt := 58) hx hb dX9_two_125 (by decide) ?_
    exact hk58 x1 x2 x3 x4_122 σ _ _ _ hf hW (lv_sub hl [1, 2, 3, 4, 0] rfl)
  have hJ58 : ∀ (fn : Nat), ∀ (x1 : Int32) (x2 : Int32) (x3 : Int32) (x4 : Int32) (σ : ow_S) (H : Heap) (locs : List Loc) (ls : Array Slot), L_X9_two_58 fu fn x1 x2 x3 x4 σ = some (rr, σr) → ow_Wd Z 56 20 σ s H locs → lv_has ls 6 [(0, .ref (ow_ad Z 56)), (1, .int x1), (2, .int x2), (3, .int x3), (4, .int x4)] → W p l e (headSpec wsX9_two { frames := 2, cells := 0, slots := 0, locals := 83 }).room s m args below meth c H locs 0 0 (MQ below (ow_Qi Z 56 20 rr σr) args s 0 0 (ow_A Z 56 20)) (F0 m 58 ls []) := by
    intro fn
    induction fn with
    | zero => intro x1 x2 x3 x4 σ H locs ls hf hW hl; simp [L_X9_two_58] at hf
    | succ fn ih =>
      intro x1 x2 x3 x4 σ H locs ls hf hW hl
      rw [L_X9_two_58] at hf
      refine lv_iload hx hb dX9_two_58 (lv_at hl 4 rfl) ?_
      refine lv_aload_n hx hb dX9_two_60 rfl (lv_at hl 0 rfl) ?_
      refine ow_getV (ci := 9) (C := RX9) (T := TX9) (N := 41) hx hb hts hown hG hW ow_i56 (by decide) rfl hinX9 0 (by decide) (fk := 0) rfl (hts (.fieldLink RX9 7 "FiftyOneCardsModel" "pack" "I") (by decide +kernel)) (v := .int (σ.1 56 0)) rfl dX9_two_61 ?_
      refine lv_icmp_gt (tgt := 128) hx hb dX9_two_64 (by decide) (fun c64 => ?_) (fun c64 => ?_)
      · replace hf := ow_if_t c64 hf
        refine lv_iload_n hx hb dX9_two_128 rfl (lv_at hl 1 rfl) ?_
        refine lv_if_ne (tgt := 136) hx hb dX9_two_129 (by decide) (fun c129 => ?_) (fun c129 => ?_)
        · replace hf := ow_if_f c129 hf
          refine lv_aload_n hx hb dX9_two_136 rfl (lv_at hl 0 rfl) ?_
          refine ow_getV (ci := 9) (C := RX9) (T := TX9) (N := 41) hx hb hts hown hG hW ow_i56 (by decide) rfl hinX9 0 (by decide) (fk := 0) rfl (hts (.fieldLink RX9 7 "FiftyOneCardsModel" "pack" "I") (by decide +kernel)) (v := .int (σ.1 56 0)) rfl dX9_two_137 ?_
          exact ow_iret hx hb hr hW hf dX9_two_140 hlocks
        · replace hf := ow_if_t c129 hf
          refine lv_iconst (v := -1) hx hb dX9_two_132 (by decide) ?_
          refine lv_goto (tgt := 140) hx hb dX9_two_133 (by decide) ?_
          exact ow_iret hx hb hr hW hf dX9_two_140 hlocks
      · replace hf := ow_if_f c64 hf
        refine lv_iload_n hx hb dX9_two_67 rfl (lv_at hl 3 rfl) ?_
        refine lv_iload hx hb dX9_two_68 (lv_at hl 4 rfl) ?_
        refine lv_isub hx hb dX9_two_70 ?_
        refine ow_topi hf (fun x5_71 hf => ?_)
        refine lv_istore (lv' := [(5, .int x5_71), (0, .ref (ow_ad Z 56)), (1, .int x1), (2, .int x2), (3, .int x3), (4, .int x4)]) hx hb dX9_two_71 hl (by decide) rfl (fun ls hl => ?_)
        refine lv_iload hx hb dX9_two_73 (lv_at hl 0 rfl) ?_
        refine lv_iload hx hb dX9_two_75 (lv_at hl 5 rfl) ?_
        refine lv_icmp_le (tgt := 122) hx hb dX9_two_77 (by decide) (fun c77 => ?_) (fun c77 => ?_)
        · replace hf := ow_if_t c77 hf
          exact hJ122 (L_X9_two_58 fu fn) ih x1 x2 x3 x4 σ _ _ _ hf hW (lv_sub hl [1, 2, 3, 4, 5] rfl)
        · replace hf := ow_if_f c77 hf
          refine lv_iload hx hb dX9_two_80 (lv_at hl 0 rfl) ?_
          refine lv_aload_n hx hb dX9_two_82 rfl (lv_at hl 1 rfl) ?_
          refine ow_getV (ci := 9) (C := RX9) (T := TX9) (N := 41) hx hb hts hown hG hW ow_i56 (by decide) rfl hinX9 0 (by decide) (fk := 0) rfl (hts (.fieldLink RX9 7 "FiftyOneCardsModel" "pack" "I") (by decide +kernel)) (v := .int (σ.1 56 0)) rfl dX9_two_83 ?_
          refine lv_icmp_gt (tgt := 122) hx hb dX9_two_86 (by decide) (fun c86 => ?_) (fun c86 => ?_)
          · replace hf := ow_if_t c86 hf
            exact hJ122 (L_X9_two_58 fu fn) ih x1 x2 x3 x4 σ _ _ _ hf hW (lv_sub hl [1, 2, 3, 4, 5] rfl)
          · replace hf := ow_if_f c86 hf
            refine lv_iload hx hb dX9_two_89 (lv_at hl 5 rfl) ?_
            refine lv_iload hx hb dX9_two_91 (lv_at hl 5 rfl) ?_
            refine lv_imul hx hb dX9_two_93 ?_
            refine lv_iload hx hb dX9_two_94 (lv_at hl 0 rfl) ?_
            refine lv_iload hx hb dX9_two_96 (lv_at hl 0 rfl) ?_
            refine lv_imul hx hb dX9_two_98 ?_
            refine lv_iadd hx hb dX9_two_99 ?_
            refine lv_iload_n hx hb dX9_two_100 rfl (lv_at hl 3 rfl) ?_
            refine lv_icmp_ne (tgt := 122) hx hb dX9_two_101 (by decide) (fun c101 => ?_) (fun c101 => ?_)
            · replace hf := ow_if_f c101 hf
              exact hJ122 (L_X9_two_58 fu fn) ih x1 x2 x3 x4 σ _ _ _ hf hW (lv_sub hl [1, 2, 3, 4, 5] rfl)
            · replace hf := ow_if_t c101 hf
              refine lv_iload_n hx hb dX9_two_104 rfl (lv_at hl 2 rfl) ?_
              refine lv_if_ne (tgt := 119) hx hb dX9_two_105 (by decide) (fun c105 => ?_) (fun c105 => ?_)
              · replace hf := ow_if_f c105 hf
                refine lv_iload hx hb dX9_two_119 (lv_at hl 5 rfl) ?_
                exact ow_iret hx hb hr hW hf dX9_two_121 hlocks
              · replace hf := ow_if_t c105 hf
                refine lv_bipush (v := 100) hx hb dX9_two_108 (by decide) ?_
                refine lv_iload hx hb dX9_two_110 (lv_at hl 5 rfl) ?_
                refine lv_imul hx hb dX9_two_112 ?_
                refine lv_iload hx hb dX9_two_113 (lv_at hl 0 rfl) ?_
                refine lv_iadd hx hb dX9_two_115 ?_
                refine lv_goto (tgt := 121) hx hb dX9_two_116 (by decide) ?_
                exact ow_iret hx hb hr hW hf dX9_two_121 hlocks
  have hJ16 : ∀ (fn : Nat), ∀ (x1 : Int32) (x2 : Int32) (x3 : Int32) (σ : ow_S) (H : Heap) (locs : List Loc) (ls : Array Slot), L_X9_two_16 fu fn x1 x2 x3 σ = some (rr, σr) → ow_Wd Z 56 20 σ s H locs → lv_has ls 6 [(0, .ref (ow_ad Z 56)), (1, .int x1), (2, .int x2), (3, .int x3)] → W p l e (headSpec wsX9_two { frames := 2, cells := 0, slots := 0, locals := 83 }).room s m args below meth c H locs 0 0 (MQ below (ow_Qi Z 56 20 rr σr) args s 0 0 (ow_A Z 56 20)) (F0 m 16 ls []) := by
    intro fn
    induction fn with
    | zero => intro x1 x2 x3 σ H locs ls hf hW hl; simp [L_X9_two_16] at hf
    | succ fn ih =>
      intro x1 x2 x3 σ H locs ls hf hW hl
      rw [L_X9_two_16] at hf
      refine lv_iload_n hx hb dX9_two_16 rfl (lv_at hl 3 rfl) ?_
      refine lv_aload_n hx hb dX9_two_17 rfl (lv_at hl 0 rfl) ?_
      refine ow_getV (ci := 9) (C := RX9) (T := TX9) (N := 41) hx hb hts hown hG hW ow_i56 (by decide) rfl hinX9 0 (by decide) (fk := 0) rfl (hts (.fieldLink RX9 7 "FiftyOneCardsModel" "pack" "I") (by decide +kernel)) (v := .int (σ.1 56 0)) rfl dX9_two_18 ?_
      refine lv_icmp_gt (tgt := 36) hx hb dX9_two_21 (by decide) (fun c21 => ?_) (fun c21 => ?_)
      · replace hf := ow_if_t c21 hf
        refine lv_aload_n hx hb dX9_two_36 rfl (lv_at hl 0 rfl) ?_
        obtain ⟨r_37, σ_37, hc37, hf⟩ := ow_cl_i hf
        refine ow_calli (va_runV (As := []) (rest := []) ⟨hx, hb, hml, hown, hts⟩ (c_X9_packSum l Z fu σ r_37 σ_37 hc37) (cwV 0 hts gX9_two_X9_packSum rfl rfl rfl (by decide +kernel) ⟨Nat.le_of_ble_eq_true rfl, Nat.le_of_ble_eq_true rfl⟩) (ow_preV hG hW ow_i56 (by decide) rfl) rfl rfl hl.1 rfl (lv_room (Nat.le_of_ble_eq_true rfl)) dX9_two_37 ⟨Nat.zero_le _, Nat.zero_le _⟩) hW (fun H locs hW => ?_)
        refine lv_aload_n hx hb dX9_two_40 rfl (lv_at hl 0 rfl) ?_
        refine lv_iconst (v := 0) hx hb dX9_two_41 (by decide) ?_
        obtain ⟨r_42, σ_42, hc42, hf⟩ := ow_cl_i hf
        refine ow_calli (va_runV (As := [.int (0 : Int32)]) (rest := [.int r_37]) ⟨hx, hb, hml, hown, hts⟩ (c_X9_sumOf l Z fu (0 : Int32) σ_37 r_42 σ_42 hc42) (cwV 1 hts gX9_two_X9_sumOf rfl rfl rfl (by decide +kernel) ⟨Nat.le_of_ble_eq_true rfl, Nat.le_of_ble_eq_true rfl⟩) (ow_preV hG hW ow_i56 (by decide) rfl) rfl rfl hl.1 rfl (lv_room (Nat.le_of_ble_eq_true rfl)) dX9_two_42 ⟨Nat.zero_le _, Nat.zero_le _⟩) hW (fun H locs hW => ?_)
        refine lv_isub hx hb dX9_two_45 ?_
        refine ow_topi hf (fun x3_46 hf => ?_)
        refine lv_istore_n (lv' := [(3, .int x3_46), (0, .ref (ow_ad Z 56)), (1, .int x1), (2, .int x2)]) hx hb dX9_two_46 rfl hl (by decide) rfl (fun ls hl => ?_)
        refine lv_iload_n hx hb dX9_two_47 rfl (lv_at hl 3 rfl) ?_
        refine lv_aload_n hx hb dX9_two_48 rfl (lv_at hl 1 rfl) ?_
        refine lv_iconst (v := 1) hx hb dX9_two_49 (by decide) ?_
        obtain ⟨r_50, σ_50, hc50, hf⟩ := ow_cl_i hf
        refine ow_calli (va_runV (As := [.int (1 : Int32)]) (rest := [.int x2]) ⟨hx, hb, hml, hown, hts⟩ (c_X9_sumOf l Z fu (1 : Int32) σ_42 r_50 σ_50 hc50) (cwV 1 hts gX9_two_X9_sumOf rfl rfl rfl (by decide +kernel) ⟨Nat.le_of_ble_eq_true rfl, Nat.le_of_ble_eq_true rfl⟩) (ow_preV hG hW ow_i56 (by decide) rfl) rfl rfl hl.1 rfl (lv_room (Nat.le_of_ble_eq_true rfl)) dX9_two_50 ⟨Nat.zero_le _, Nat.zero_le _⟩) hW (fun H locs hW => ?_)
        refine lv_isub hx hb dX9_two_53 ?_
        refine ow_topi hf (fun x2_54 hf => ?_)
        refine lv_istore_n (lv' := [(2, .int x2_54), (3, .int x3_46), (0, .ref (ow_ad Z 56)), (1, .int x1)]) hx hb dX9_two_54 rfl hl (by decide) rfl (fun ls hl => ?_)
        refine lv_iconst (v := 1) hx hb dX9_two_55 (by decide) ?_
        refine lv_istore (lv' := [(4, .int (1 : Int32)), (2, .int x2_54), (3, .int x3_46), (0, .ref (ow_ad Z 56)), (1, .int x1)]) hx hb dX9_two_56 hl (by decide) rfl (fun ls hl => ?_)
        exact hJ58 fu x1 x2_54 x3_46 (1 : Int32) σ_50 _ _ _ hf hW (lv_sub hl [3, 4, 1, 2, 0] rfl)
      · replace hf := ow_if_f c21 hf
        refine lv_iload_n hx hb dX9_two_24 rfl (lv_at hl 2 rfl) ?_
        refine lv_iload_n hx hb dX9_two_25 rfl (lv_at hl 3 rfl) ?_
        refine lv_iload_n hx hb dX9_two_26 rfl (lv_at hl 3 rfl) ?_
        refine lv_imul hx hb dX9_two_27 ?_
        refine lv_iadd hx hb dX9_two_28 ?_
        refine ow_topi hf (fun x2_29 hf => ?_)
        refine lv_istore_n (lv' := [(2, .int x2_29), (0, .ref (ow_ad Z 56)), (1, .int x1), (3, .int x3)]) hx hb dX9_two_29 rfl hl (by decide) rfl (fun ls hl => ?_)
        refine ow_iinc (d := 1) (lv' := fun z => [(3, .int z), (2, .int x2_29), (0, .ref (ow_ad Z 56)), (1, .int x1)]) hx hb hf dX9_two_30 hl (k := 3) rfl (by decide) (by decide) (fun z => rfl) (fun x3_30 hf ls hl => ?_)
        refine lv_goto (tgt := 16) hx hb dX9_two_33 (by decide) ?_
        exact ih x1 x2_29 x3_30 σ _ _ _ hf hW (lv_sub hl [2, 3, 1, 0] rfl)
  have hl := lv_entry ([.ref (ow_ad Z 56), .int a1]) (n := 6) (Nat.le_of_ble_eq_true rfl)
  refine W.eq (g2 := F0 m 0 ((lg_sl ([.ref (ow_ad Z 56), .int a1]) ++ List.replicate (6 - (lg_sl ([.ref (ow_ad Z 56), .int a1])).length) Slot.unset).toArray) []) (by rw [hav]; exact lg_entry_eq _ _ _) ?_
  generalize (lg_sl ([.ref (ow_ad Z 56), .int a1]) ++ List.replicate (6 - (lg_sl ([.ref (ow_ad Z 56), .int a1])).length) Slot.unset).toArray = ls at hl ⊢
  have hl : lv_has ls 6 [(0, .ref (ow_ad Z 56)), (1, .int a1)] := hl
  unfold f_X9_two at hf
  refine lv_iload_n hx hb dX9_two_0 rfl (lv_at hl 1 rfl) ?_
  refine lv_iconst (v := 0) hx hb dX9_two_1 (by decide) ?_
  refine lv_iconst (v := 1) hx hb dX9_two_2 (by decide) ?_
  obtain ⟨r_3, σ_3, hc3, hf⟩ := ow_cl_i hf
  refine ow_callz (va_runS (As := [.int a1, .int (0 : Int32), .int (1 : Int32)]) (rest := []) ⟨hx, hb, hml, hown, hts⟩ (c_X9_in l Z fu a1 (0 : Int32) (1 : Int32) σ r_3 σ_3 hc3) (va_cwS 3 hts gX9_two_X9_in rfl rfl rfl (by decide +kernel) ⟨Nat.le_of_ble_eq_true rfl, Nat.le_of_ble_eq_true rfl⟩) (ow_preS hG hW) rfl rfl hl.1 rfl (lv_room (Nat.le_of_ble_eq_true rfl)) dX9_two_3 ⟨Nat.zero_le _, Nat.zero_le _⟩) hW (fun b3 H locs hW => ?_)
  refine lv_if_ne (tgt := 12) hx hb dX9_two_6 (by decide) (fun c6 => ?_) (fun c6 => ?_)
  · replace hf := ow_if_f c6 hf
    refine lv_iconst (v := 0) hx hb dX9_two_12 (by decide) ?_
    refine lv_istore_n (lv' := [(2, .int (0 : Int32)), (0, .ref (ow_ad Z 56)), (1, .int a1)]) hx hb dX9_two_13 rfl hl (by decide) rfl (fun ls hl => ?_)
    refine lv_iconst (v := 1) hx hb dX9_two_14 (by decide) ?_
    refine lv_istore_n (lv' := [(3, .int (1 : Int32)), (2, .int (0 : Int32)), (0, .ref (ow_ad Z 56)), (1, .int a1)]) hx hb dX9_two_15 rfl hl (by decide) rfl (fun ls hl => ?_)
    exact hJ16 fu a1 (0 : Int32) (1 : Int32) σ_3 _ _ _ hf hW (lv_sub hl [2, 3, 1, 0] rfl)
  · replace hf := ow_if_t c6 hf
    refine lv_bipush (v := -2) hx hb dX9_two_9 (by decide) ?_
    exact ow_iret hx hb hr hW hf dX9_two_11 hlocks
set_option maxHeartbeats 40000000 in
set_option maxRecDepth 100000 in
theorem c_X9_isByte (l : Launch) (Z : ow_Z) (fu : Nat) (a1 : Int32) (σ : ow_S) (rr : Int32) (σr : ow_S) (hf : f_X9_isByte fu a1 σ = some (rr, σr)) : Met l yX9_isByte wsX9_isByte { frames := 2, cells := 0, slots := 0, locals := 82 } (ow_Pc Z 56 20 [.int a1] σ) (ow_Qz Z 56 20 rr σr) 0 0 (ow_A Z 56 20) := by
  refine Met.ofW (cc := cX9_isByte) (maxL := 1) (ret := (some .boolean)) (by decide) rfl ?_
  intro p e s m args below meth c s₁ B hml hv
  obtain ⟨hav, hB⟩ := hv
  obtain ⟨hG, hW⟩ := ow_begin hB
  have hx := B.exec
  have hb := B.bytes
  have hr := B.returns
  have hts := atoms_spec (ws := wsX9_isByte) B.pre
  have hown : s.vm.findClass RX9 = some m.cls := findClass_of_methodNamed B.named
  have hlocks := B.notSynchronized
  have hl := lv_entry ([.int a1]) (n := 1) (Nat.le_of_ble_eq_true rfl)
  refine W.eq (g2 := F0 m 0 ((lg_sl ([.int a1]) ++ List.replicate (1 - (lg_sl ([.int a1])).length) Slot.unset).toArray) []) (by rw [hav]; exact lg_entry_eq _ _ _) ?_
  generalize (lg_sl ([.int a1]) ++ List.replicate (1 - (lg_sl ([.int a1])).length) Slot.unset).toArray = ls at hl ⊢
  have hl : lv_has ls 1 [(0, .int a1)] := hl
  unfold f_X9_isByte at hf
  refine lv_iload_n hx hb dX9_isByte_0 rfl (lv_at hl 0 rfl) ?_
  refine lv_iconst (v := 0) hx hb dX9_isByte_1 (by decide) ?_
  refine lv_sipush (v := 255) hx hb dX9_isByte_2 (by decide) ?_
  obtain ⟨r_5, σ_5, hc5, hf⟩ := ow_cl_i hf
  refine ow_callz (va_runS (As := [.int a1, .int (0 : Int32), .int (255 : Int32)]) (rest := []) ⟨hx, hb, hml, hown, hts⟩ (c_X9_in l Z fu a1 (0 : Int32) (255 : Int32) σ r_5 σ_5 hc5) (va_cwS 3 hts gX9_isByte_X9_in rfl rfl rfl (by decide +kernel) ⟨Nat.le_of_ble_eq_true rfl, Nat.le_of_ble_eq_true rfl⟩) (ow_preS hG hW) rfl rfl hl.1 rfl (lv_room (Nat.le_of_ble_eq_true rfl)) dX9_isByte_5 ⟨Nat.zero_le _, Nat.zero_le _⟩) hW (fun b5 H locs hW => ?_)
  exact ow_zret hx hb hr b5 hW hf dX9_isByte_8 hlocks
set_option maxHeartbeats 40000000 in
set_option maxRecDepth 100000 in
theorem c_X9_feed (l : Launch) (Z : ow_Z) (fu : Nat) (a1 : Int32) (a2 : Int32) (a3 : Int32) (a4 : Int32) (a5 : Int32) (a6 : Int32) (σ : ow_S) (rr : Int32) (σr : ow_S) (hf : f_X9_feed fu a1 a2 a3 a4 a5 a6 σ = some (rr, σr)) : Met l yX9_feed wsX9_feed { frames := 3, cells := 0, slots := 0, locals := 102 } (ow_Pc Z 56 20 [.ref (ow_ad Z 56), .int a1, .int a2, .int a3, .int a4, .int a5, .int a6] σ) (ow_Qi Z 56 20 rr σr) 0 0 (ow_A Z 56 20) := by
  refine Met.ofW (cc := cX9_feed) (maxL := 8) (ret := (some .int)) (by decide) rfl ?_
  intro p e s m args below meth c s₁ B hml hv
  obtain ⟨hav, hB⟩ := hv
  obtain ⟨hG, hW⟩ := ow_begin hB
  have hx := B.exec
  have hb := B.bytes
  have hr := B.returns
  have hts := atoms_spec (ws := wsX9_feed) B.pre
  have hown : s.vm.findClass RX9 = some m.cls := findClass_of_methodNamed B.named
  have hlocks := B.notSynchronized
  have hinX9 : ∀ w ∈ wsX90, w ∈ wsX9_feed := by decide +kernel
  have hJ125 : ∀ (k68 : Int32 → Int32 → Int32 → Int32 → Int32 → Int32 → Int32 → ow_S → Option (Int32 × ow_S)) (hk68 : ∀ (x1 : Int32) (x2 : Int32) (x3 : Int32) (x4 : Int32) (x5 : Int32) (x6 : Int32) (x7 : Int32) (σ : ow_S) (H : Heap) (locs : List Loc) (ls : Array Slot), k68 x1 x2 x3 x4 x5 x6 x7 σ = some (rr, σr) → ow_Wd Z 56 20 σ s H locs → lv_has ls 8 [(0, .ref (ow_ad Z 56)), (1, .int x1), (2, .int x2), (3, .int x3), (4, .int x4), (5, .int x5), (6, .int x6), (7, .int x7)] → W p l e (headSpec wsX9_feed { frames := 3, cells := 0, slots := 0, locals := 102 }).room s m args below meth c H locs 0 0 (MQ below (ow_Qi Z 56 20 rr σr) args s 0 0 (ow_A Z 56 20)) (F0 m 68 ls [])), ∀ (x1 : Int32) (x2 : Int32) (x3 : Int32) (x4 : Int32) (x5 : Int32) (x6 : Int32) (x7 : Int32) (s1 : Int32) (s2 : Int32) (σ : ow_S) (H : Heap) (locs : List Loc) (ls : Array Slot), L_X9_feed_125 fu k68 x1 x2 x3 x4 x5 x6 x7 s1 s2 σ = some (rr, σr) → ow_Wd Z 56 20 σ s H locs → lv_has ls 8 [(0, .ref (ow_ad Z 56)), (1, .int x1), (2, .int x2), (3, .int x3), (4, .int x4), (5, .int x5), (6, .int x6), (7, .int x7)] → W p l e (headSpec wsX9_feed { frames := 3, cells := 0, slots := 0, locals := 102 }).room s m args below meth c H locs 0 0 (MQ below (ow_Qi Z 56 20 rr σr) args s 0 0 (ow_A Z 56 20)) (F0 m 125 ls [.int s2, .int s1, .ref (ow_ad Z 61)]) := by
    intro k68 hk68 x1 x2 x3 x4 x5 x6 x7 s1 s2 σ H locs ls hf hW hl
    unfold L_X9_feed_125 at hf
    obtain ⟨q125, hf⟩ := ow_ck_i hf
    refine ow_ist (q := s1.toNatClampNeg) hx hb hG hW ow_i61 rfl q125 rfl hf dX9_feed_125 (fun σ_125 H locs hf hW => ?_)
    refine lv_aload_n hx hb dX9_feed_126 rfl (lv_at hl 0 rfl) ?_
    refine lv_dup hx hb dX9_feed_127 rfl ?_
    refine ow_getV (ci := 9) (C := RX9) (T := TX9) (N := 41) hx hb hts hown hG hW ow_i56 (by decide) rfl hinX9 8 (by decide) (fk := 0) rfl (hts (.fieldLink RX9 71 "FiftyOneCardsModel" "taped" "I") (by decide +kernel)) (v := .int (σ_125.1 56 8)) rfl dX9_feed_128 ?_
    refine lv_iconst (v := 1) hx hb dX9_feed_131 (by decide) ?_
    refine lv_iadd hx hb dX9_feed_132 ?_
    refine ow_putI (ci := 9) (C := RX9) (T := TX9) (N := 41) hx hb hts hown hG hW ow_i56 (by decide) rfl hinX9 tyX9 tyX9_ok nmX9 8 (by decide) rfl (hts (.fieldLink RX9 71 "FiftyOneCardsModel" "taped" "I") (by decide +kernel)) rfl rfl rfl hf dX9_feed_133 (fun σ_133 H locs hf hW => ?_)
    refine ow_iinc (d := 1) (lv' := fun z => [(7, .int z), (0, .ref (ow_ad Z 56)), (1, .int x1), (2, .int x2), (3, .int x3), (4, .int x4), (5, .int x5), (6, .int x6)]) hx hb hf dX9_feed_136 hl (k := 7) rfl (by decide) (by decide) (fun z => rfl) (fun x7_136 hf ls hl => ?_)
    refine lv_goto (tgt := 68) hx hb dX9_feed_139 (by decide) ?_
    exact hk68 x1 x2 x3 x4 x5 x6 x7_136 σ_133 _ _ _ hf hW (lv_sub hl [1, 2, 3, 4, 5, 6, 7, 0] rfl)
  have hJ68 : ∀ (fn : Nat), ∀ (x1 : Int32) (x2 : Int32) (x3 : Int32) (x4 : Int32) (x5 : Int32) (x6 : Int32) (x7 : Int32) (σ : ow_S) (H : Heap) (locs : List Loc) (ls : Array Slot), L_X9_feed_68 fu fn x1 x2 x3 x4 x5 x6 x7 σ = some (rr, σr) → ow_Wd Z 56 20 σ s H locs → lv_has ls 8 [(0, .ref (ow_ad Z 56)), (1, .int x1), (2, .int x2), (3, .int x3), (4, .int x4), (5, .int x5), (6, .int x6), (7, .int x7)] → W p l e (headSpec wsX9_feed { frames := 3, cells := 0, slots := 0, locals := 102 }).room s m args below meth c H locs 0 0 (MQ below (ow_Qi Z 56 20 rr σr) args s 0 0 (ow_A Z 56 20)) (F0 m 68 ls []) := by
    intro fn
    induction fn with
    | zero => intro x1 x2 x3 x4 x5 x6 x7 σ H locs ls hf hW hl; simp [L_X9_feed_68] at hf
    | succ fn ih =>
      intro x1 x2 x3 x4 x5 x6 x7 σ H locs ls hf hW hl
      rw [L_X9_feed_68] at hf
      refine lv_iload hx hb dX9_feed_68 (lv_at hl 7 rfl) ?_
      refine lv_iload_n hx hb dX9_feed_70 rfl (lv_at hl 1 rfl) ?_
      refine lv_icmp_ge (tgt := 142) hx hb dX9_feed_71 (by decide) (fun c71 => ?_) (fun c71 => ?_)
      · replace hf := ow_if_t c71 hf
        refine lv_aload_n hx hb dX9_feed_142 rfl (lv_at hl 0 rfl) ?_
        refine ow_getV (ci := 9) (C := RX9) (T := TX9) (N := 41) hx hb hts hown hG hW ow_i56 (by decide) rfl hinX9 8 (by decide) (fk := 0) rfl (hts (.fieldLink RX9 71 "FiftyOneCardsModel" "taped" "I") (by decide +kernel)) (v := .int (σ.1 56 8)) rfl dX9_feed_143 ?_
        exact ow_iret hx hb hr hW hf dX9_feed_146 hlocks
      · replace hf := ow_if_f c71 hf
        refine lv_aload_n hx hb dX9_feed_74 rfl (lv_at hl 0 rfl) ?_
        refine ow_getV (ci := 9) (C := RX9) (T := TX9) (N := 41) hx hb hts hown hG hW ow_i56 (by decide) rfl hinX9 7 (by decide) (fk := 2) rfl (hts (.fieldLink RX9 26 "FiftyOneCardsModel" "tape" "[I") (by decide +kernel)) (v := .ref (ow_ad Z 61)) (ow_vR hW ow_i56.1 ow_i56.2.1 rfl) dX9_feed_75 ?_
        refine lv_aload_n hx hb dX9_feed_78 rfl (lv_at hl 0 rfl) ?_
        refine ow_getV (ci := 9) (C := RX9) (T := TX9) (N := 41) hx hb hts hown hG hW ow_i56 (by decide) rfl hinX9 8 (by decide) (fk := 0) rfl (hts (.fieldLink RX9 71 "FiftyOneCardsModel" "taped" "I") (by decide +kernel)) (v := .int (σ.1 56 8)) rfl dX9_feed_79 ?_
        refine lv_iload hx hb dX9_feed_82 (lv_at hl 7 rfl) ?_
        refine lv_if_ne (tgt := 91) hx hb dX9_feed_84 (by decide) (fun c84 => ?_) (fun c84 => ?_)
        · replace hf := ow_if_f c84 hf
          refine lv_iload hx hb dX9_feed_91 (lv_at hl 7 rfl) ?_
          refine lv_iconst (v := 1) hx hb dX9_feed_93 (by decide) ?_
          refine lv_icmp_ne (tgt := 101) hx hb dX9_feed_94 (by decide) (fun c94 => ?_) (fun c94 => ?_)
          · replace hf := ow_if_f c94 hf
            refine lv_iload hx hb dX9_feed_101 (lv_at hl 7 rfl) ?_
            refine lv_iconst (v := 2) hx hb dX9_feed_103 (by decide) ?_
            refine lv_icmp_ne (tgt := 112) hx hb dX9_feed_104 (by decide) (fun c104 => ?_) (fun c104 => ?_)
            · replace hf := ow_if_f c104 hf
              refine lv_iload hx hb dX9_feed_112 (lv_at hl 7 rfl) ?_
              refine lv_iconst (v := 3) hx hb dX9_feed_114 (by decide) ?_
              refine lv_icmp_ne (tgt := 123) hx hb dX9_feed_115 (by decide) (fun c115 => ?_) (fun c115 => ?_)
              · replace hf := ow_if_f c115 hf
                refine lv_iload hx hb dX9_feed_123 (lv_at hl 6 rfl) ?_
                exact hJ125 (L_X9_feed_68 fu fn) ih x1 x2 x3 x4 x5 x6 x7 (σ.1 56 8) x6 σ _ _ _ hf hW (lv_sub hl [0, 1, 2, 3, 4, 5, 6, 7] rfl)
              · replace hf := ow_if_t c115 hf
                refine lv_iload hx hb dX9_feed_118 (lv_at hl 5 rfl) ?_
                refine lv_goto (tgt := 125) hx hb dX9_feed_120 (by decide) ?_
                exact hJ125 (L_X9_feed_68 fu fn) ih x1 x2 x3 x4 x5 x6 x7 (σ.1 56 8) x5 σ _ _ _ hf hW (lv_sub hl [0, 1, 2, 3, 4, 5, 6, 7] rfl)
            · replace hf := ow_if_t c104 hf
              refine lv_iload hx hb dX9_feed_107 (lv_at hl 4 rfl) ?_
              refine lv_goto (tgt := 125) hx hb dX9_feed_109 (by decide) ?_
              exact hJ125 (L_X9_feed_68 fu fn) ih x1 x2 x3 x4 x5 x6 x7 (σ.1 56 8) x4 σ _ _ _ hf hW (lv_sub hl [0, 1, 2, 3, 4, 5, 6, 7] rfl)
          · replace hf := ow_if_t c94 hf
            refine lv_iload_n hx hb dX9_feed_97 rfl (lv_at hl 3 rfl) ?_
            refine lv_goto (tgt := 125) hx hb dX9_feed_98 (by decide) ?_
            exact hJ125 (L_X9_feed_68 fu fn) ih x1 x2 x3 x4 x5 x6 x7 (σ.1 56 8) x3 σ _ _ _ hf hW (lv_sub hl [0, 1, 2, 3, 4, 5, 6, 7] rfl)
        · replace hf := ow_if_t c84 hf
          refine lv_iload_n hx hb dX9_feed_87 rfl (lv_at hl 2 rfl) ?_
          refine lv_goto (tgt := 125) hx hb dX9_feed_88 (by decide) ?_
          exact hJ125 (L_X9_feed_68 fu fn) ih x1 x2 x3 x4 x5 x6 x7 (σ.1 56 8) x2 σ _ _ _ hf hW (lv_sub hl [0, 1, 2, 3, 4, 5, 6, 7] rfl)
  have hl := lv_entry ([.ref (ow_ad Z 56), .int a1, .int a2, .int a3, .int a4, .int a5, .int a6]) (n := 8) (Nat.le_of_ble_eq_true rfl)
  refine W.eq (g2 := F0 m 0 ((lg_sl ([.ref (ow_ad Z 56), .int a1, .int a2, .int a3, .int a4, .int a5, .int a6]) ++ List.replicate (8 - (lg_sl ([.ref (ow_ad Z 56), .int a1, .int a2, .int a3, .int a4, .int a5, .int a6])).length) Slot.unset).toArray) []) (by rw [hav]; exact lg_entry_eq _ _ _) ?_
  generalize (lg_sl ([.ref (ow_ad Z 56), .int a1, .int a2, .int a3, .int a4, .int a5, .int a6]) ++ List.replicate (8 - (lg_sl ([.ref (ow_ad Z 56), .int a1, .int a2, .int a3, .int a4, .int a5, .int a6])).length) Slot.unset).toArray = ls at hl ⊢
  have hl : lv_has ls 8 [(0, .ref (ow_ad Z 56)), (1, .int a1), (2, .int a2), (3, .int a3), (4, .int a4), (5, .int a5), (6, .int a6)] := hl
  unfold f_X9_feed at hf
  refine lv_iload_n hx hb dX9_feed_0 rfl (lv_at hl 1 rfl) ?_
  refine lv_iconst (v := 1) hx hb dX9_feed_1 (by decide) ?_
  refine lv_iconst (v := 5) hx hb dX9_feed_2 (by decide) ?_
  obtain ⟨r_3, σ_3, hc3, hf⟩ := ow_cl_i hf
  refine ow_callz (va_runS (As := [.int a1, .int (1 : Int32), .int (5 : Int32)]) (rest := []) ⟨hx, hb, hml, hown, hts⟩ (c_X9_in l Z fu a1 (1 : Int32) (5 : Int32) σ r_3 σ_3 hc3) (va_cwS 3 hts gX9_feed_X9_in rfl rfl rfl (by decide +kernel) ⟨Nat.le_of_ble_eq_true rfl, Nat.le_of_ble_eq_true rfl⟩) (ow_preS hG hW) rfl rfl hl.1 rfl (lv_room (Nat.le_of_ble_eq_true rfl)) dX9_feed_3 ⟨Nat.zero_le _, Nat.zero_le _⟩) hW (fun b3 H locs hW => ?_)
  refine lv_if_eq (tgt := 47) hx hb dX9_feed_6 (by decide) (fun c6 => ?_) (fun c6 => ?_)
  · replace hf := ow_if_t c6 hf
    refine lv_bipush (v := -2) hx hb dX9_feed_47 (by decide) ?_
    exact ow_iret hx hb hr hW hf dX9_feed_49 hlocks
  · replace hf := ow_if_f c6 hf
    refine lv_iload_n hx hb dX9_feed_9 rfl (lv_at hl 2 rfl) ?_
    obtain ⟨r_10, σ_10, hc10, hf⟩ := ow_cl_i hf
    refine ow_callz (va_runS (As := [.int a2]) (rest := []) ⟨hx, hb, hml, hown, hts⟩ (c_X9_isByte l Z fu a2 σ_3 r_10 σ_10 hc10) (va_cwS 1 hts gX9_feed_X9_isByte rfl rfl rfl (by decide +kernel) ⟨Nat.le_of_ble_eq_true rfl, Nat.le_of_ble_eq_true rfl⟩) (ow_preS hG hW) rfl rfl hl.1 rfl (lv_room (Nat.le_of_ble_eq_true rfl)) dX9_feed_10 ⟨Nat.zero_le _, Nat.zero_le _⟩) hW (fun b10 H locs hW => ?_)
    refine lv_if_eq (tgt := 47) hx hb dX9_feed_13 (by decide) (fun c13 => ?_) (fun c13 => ?_)
    · replace hf := ow_if_t c13 hf
      refine lv_bipush (v := -2) hx hb dX9_feed_47 (by decide) ?_
      exact ow_iret hx hb hr hW hf dX9_feed_49 hlocks
    · replace hf := ow_if_f c13 hf
      refine lv_iload_n hx hb dX9_feed_16 rfl (lv_at hl 3 rfl) ?_
      obtain ⟨r_17, σ_17, hc17, hf⟩ := ow_cl_i hf
      refine ow_callz (va_runS (As := [.int a3]) (rest := []) ⟨hx, hb, hml, hown, hts⟩ (c_X9_isByte l Z fu a3 σ_10 r_17 σ_17 hc17) (va_cwS 1 hts gX9_feed_X9_isByte rfl rfl rfl (by decide +kernel) ⟨Nat.le_of_ble_eq_true rfl, Nat.le_of_ble_eq_true rfl⟩) (ow_preS hG hW) rfl rfl hl.1 rfl (lv_room (Nat.le_of_ble_eq_true rfl)) dX9_feed_17 ⟨Nat.zero_le _, Nat.zero_le _⟩) hW (fun b17 H locs hW => ?_)
      refine lv_if_eq (tgt := 47) hx hb dX9_feed_20 (by decide) (fun c20 => ?_) (fun c20 => ?_)
      · replace hf := ow_if_t c20 hf
        refine lv_bipush (v := -2) hx hb dX9_feed_47 (by decide) ?_
        exact ow_iret hx hb hr hW hf dX9_feed_49 hlocks
      · replace hf := ow_if_f c20 hf
        refine lv_iload hx hb dX9_feed_23 (lv_at hl 4 rfl) ?_
        obtain ⟨r_25, σ_25, hc25, hf⟩ := ow_cl_i hf
        refine ow_callz (va_runS (As := [.int a4]) (rest := []) ⟨hx, hb, hml, hown, hts⟩ (c_X9_isByte l Z fu a4 σ_17 r_25 σ_25 hc25) (va_cwS 1 hts gX9_feed_X9_isByte rfl rfl rfl (by decide +kernel) ⟨Nat.le_of_ble_eq_true rfl, Nat.le_of_ble_eq_true rfl⟩) (ow_preS hG hW) rfl rfl hl.1 rfl (lv_room (Nat.le_of_ble_eq_true rfl)) dX9_feed_25 ⟨Nat.zero_le _, Nat.zero_le _⟩) hW (fun b25 H locs hW => ?_)
        refine lv_if_eq (tgt := 47) hx hb dX9_feed_28 (by decide) (fun c28 => ?_) (fun c28 => ?_)
        · replace hf := ow_if_t c28 hf
          refine lv_bipush (v := -2) hx hb dX9_feed_47 (by decide) ?_
          exact ow_iret hx hb hr hW hf dX9_feed_49 hlocks
        · replace hf := ow_if_f c28 hf
          refine lv_iload hx hb dX9_feed_31 (lv_at hl 5 rfl) ?_
          obtain ⟨r_33, σ_33, hc33, hf⟩ := ow_cl_i hf
          refine ow_callz (va_runS (As := [.int a5]) (rest := []) ⟨hx, hb, hml, hown, hts⟩ (c_X9_isByte l Z fu a5 σ_25 r_33 σ_33 hc33) (va_cwS 1 hts gX9_feed_X9_isByte rfl rfl rfl (by decide +kernel) ⟨Nat.le_of_ble_eq_true rfl, Nat.le_of_ble_eq_true rfl⟩) (ow_preS hG hW) rfl rfl hl.1 rfl (lv_room (Nat.le_of_ble_eq_true rfl)) dX9_feed_33 ⟨Nat.zero_le _, Nat.zero_le _⟩) hW (fun b33 H locs hW => ?_)
          refine lv_if_eq (tgt := 47) hx hb dX9_feed_36 (by decide) (fun c36 => ?_) (fun c36 => ?_)
          · replace hf := ow_if_t c36 hf
            refine lv_bipush (v := -2) hx hb dX9_feed_47 (by decide) ?_
            exact ow_iret hx hb hr hW hf dX9_feed_49 hlocks
          · replace hf := ow_if_f c36 hf
            refine lv_iload hx hb dX9_feed_39 (lv_at hl 6 rfl) ?_
            obtain ⟨r_41, σ_41, hc41, hf⟩ := ow_cl_i hf
            refine ow_callz (va_runS (As := [.int a6]) (rest := []) ⟨hx, hb, hml, hown, hts⟩ (c_X9_isByte l Z fu a6 σ_33 r_41 σ_41 hc41) (va_cwS 1 hts gX9_feed_X9_isByte rfl rfl rfl (by decide +kernel) ⟨Nat.le_of_ble_eq_true rfl, Nat.le_of_ble_eq_true rfl⟩) (ow_preS hG hW) rfl rfl hl.1 rfl (lv_room (Nat.le_of_ble_eq_true rfl)) dX9_feed_41 ⟨Nat.zero_le _, Nat.zero_le _⟩) hW (fun b41 H locs hW => ?_)
            refine lv_if_ne (tgt := 50) hx hb dX9_feed_44 (by decide) (fun c44 => ?_) (fun c44 => ?_)
            · replace hf := ow_if_f c44 hf
              refine lv_aload_n hx hb dX9_feed_50 rfl (lv_at hl 0 rfl) ?_
              refine ow_getV (ci := 9) (C := RX9) (T := TX9) (N := 41) hx hb hts hown hG hW ow_i56 (by decide) rfl hinX9 8 (by decide) (fk := 0) rfl (hts (.fieldLink RX9 71 "FiftyOneCardsModel" "taped" "I") (by decide +kernel)) (v := .int (σ_41.1 56 8)) rfl dX9_feed_51 ?_
              refine lv_iload_n hx hb dX9_feed_54 rfl (lv_at hl 1 rfl) ?_
              refine lv_iadd hx hb dX9_feed_55 ?_
              refine lv_sipush (v := 160) hx hb dX9_feed_56 (by decide) ?_
              refine lv_icmp_le (tgt := 65) hx hb dX9_feed_59 (by decide) (fun c59 => ?_) (fun c59 => ?_)
              · replace hf := ow_if_t c59 hf
                refine lv_iconst (v := 0) hx hb dX9_feed_65 (by decide) ?_
                refine lv_istore (lv' := [(7, .int (0 : Int32)), (0, .ref (ow_ad Z 56)), (1, .int a1), (2, .int a2), (3, .int a3), (4, .int a4), (5, .int a5), (6, .int a6)]) hx hb dX9_feed_66 hl (by decide) rfl (fun ls hl => ?_)
                exact hJ68 fu a1 a2 a3 a4 a5 a6 (0 : Int32) σ_41 _ _ _ hf hW (lv_sub hl [1, 2, 3, 4, 5, 6, 7, 0] rfl)
              · replace hf := ow_if_f c59 hf
                refine lv_bipush (v := -4) hx hb dX9_feed_62 (by decide) ?_
                exact ow_iret hx hb hr hW hf dX9_feed_64 hlocks
            · replace hf := ow_if_t c44 hf
              refine lv_bipush (v := -2) hx hb dX9_feed_47 (by decide) ?_
              exact ow_iret hx hb hr hW hf dX9_feed_49 hlocks
set_option maxHeartbeats 40000000 in
set_option maxRecDepth 100000 in
theorem c_X9_wordFrom (l : Launch) (Z : ow_Z) (fu : Nat) (a1 : Int32) (a2 : Int32) (σ : ow_S) (rr : Int32) (σr : ow_S) (hf : f_X9_wordFrom fu a1 a2 σ = some (rr, σr)) : Met l yX9_wordFrom wsX9_wordFrom { frames := 1, cells := 0, slots := 0, locals := 60 } (ow_Pc Z 56 20 [.ref (ow_ad Z 56), .int a1, .int a2] σ) (ow_Qi Z 56 20 rr σr) 0 0 (ow_A Z 56 20) := by
  refine Met.ofW (cc := cX9_wordFrom) (maxL := 6) (ret := (some .int)) (by decide) rfl ?_
  intro p e s m args below meth c s₁ B hml hv
  obtain ⟨hav, hB⟩ := hv
  obtain ⟨hG, hW⟩ := ow_begin hB
  have hx := B.exec
  have hb := B.bytes
  have hr := B.returns
  have hts := atoms_spec (ws := wsX9_wordFrom) B.pre
  have hown : s.vm.findClass RX9 = some m.cls := findClass_of_methodNamed B.named
  have hlocks := B.notSynchronized
  have hinX9 : ∀ w ∈ wsX90, w ∈ wsX9_wordFrom := by decide +kernel
  have hJ88 : ∀ (k2 : Int32 → Int32 → Int32 → ow_S → Option (Int32 × ow_S)) (hk2 : ∀ (x1 : Int32) (x2 : Int32) (x3 : Int32) (σ : ow_S) (H : Heap) (locs : List Loc) (ls : Array Slot), k2 x1 x2 x3 σ = some (rr, σr) → ow_Wd Z 56 20 σ s H locs → lv_has ls 6 [(0, .ref (ow_ad Z 56)), (1, .int x1), (2, .int x2), (3, .int x3)] → W p l e (headSpec wsX9_wordFrom { frames := 1, cells := 0, slots := 0, locals := 60 }).room s m args below meth c H locs 0 0 (MQ below (ow_Qi Z 56 20 rr σr) args s 0 0 (ow_A Z 56 20)) (F0 m 2 ls [])), ∀ (x1 : Int32) (x2 : Int32) (x3 : Int32) (x4 : Int32) (σ : ow_S) (H : Heap) (locs : List Loc) (ls : Array Slot), L_X9_wordFrom_88 fu k2 x1 x2 x3 x4 σ = some (rr, σr) → ow_Wd Z 56 20 σ s H locs → lv_has ls 6 [(0, .ref (ow_ad Z 56)), (1, .int x1), (2, .int x2), (3, .int x3), (4, .int x4)] → W p l e (headSpec wsX9_wordFrom { frames := 1, cells := 0, slots := 0, locals := 60 }).room s m args below meth c H locs 0 0 (MQ below (ow_Qi Z 56 20 rr σr) args s 0 0 (ow_A Z 56 20)) (F0 m 88 ls []) := by
    intro k2 hk2 x1 x2 x3 x4 σ H locs ls hf hW hl
    unfold L_X9_wordFrom_88 at hf
    refine lv_iload hx hb dX9_wordFrom_88 (lv_at hl 4 rfl) ?_
    refine lv_if_eq (tgt := 95) hx hb dX9_wordFrom_90 (by decide) (fun c90 => ?_) (fun c90 => ?_)
    · replace hf := ow_if_t c90 hf
      refine ow_iinc (d := 1) (lv' := fun z => [(3, .int z), (0, .ref (ow_ad Z 56)), (1, .int x1), (2, .int x2), (4, .int x4)]) hx hb hf dX9_wordFrom_95 hl (k := 3) rfl (by decide) (by decide) (fun z => rfl) (fun x3_95 hf ls hl => ?_)
      refine lv_goto (tgt := 2) hx hb dX9_wordFrom_98 (by decide) ?_
      exact hk2 x1 x2 x3_95 σ _ _ _ hf hW (lv_sub hl [1, 2, 3, 0] rfl)
    · replace hf := ow_if_f c90 hf
      refine lv_iload_n hx hb dX9_wordFrom_93 rfl (lv_at hl 3 rfl) ?_
      exact ow_iret hx hb hr hW hf dX9_wordFrom_94 hlocks
  have hJ80 : ∀ (k2 : Int32 → Int32 → Int32 → ow_S → Option (Int32 × ow_S)) (hk2 : ∀ (x1 : Int32) (x2 : Int32) (x3 : Int32) (σ : ow_S) (H : Heap) (locs : List Loc) (ls : Array Slot), k2 x1 x2 x3 σ = some (rr, σr) → ow_Wd Z 56 20 σ s H locs → lv_has ls 6 [(0, .ref (ow_ad Z 56)), (1, .int x1), (2, .int x2), (3, .int x3)] → W p l e (headSpec wsX9_wordFrom { frames := 1, cells := 0, slots := 0, locals := 60 }).room s m args below meth c H locs 0 0 (MQ below (ow_Qi Z 56 20 rr σr) args s 0 0 (ow_A Z 56 20)) (F0 m 2 ls [])) (k26 : Int32 → Int32 → Int32 → Int32 → Int32 → ow_S → Option (Int32 × ow_S)) (hk26 : ∀ (x1 : Int32) (x2 : Int32) (x3 : Int32) (x4 : Int32) (x5 : Int32) (σ : ow_S) (H : Heap) (locs : List Loc) (ls : Array Slot), k26 x1 x2 x3 x4 x5 σ = some (rr, σr) → ow_Wd Z 56 20 σ s H locs → lv_has ls 6 [(0, .ref (ow_ad Z 56)), (1, .int x1), (2, .int x2), (3, .int x3), (4, .int x4), (5, .int x5)] → W p l e (headSpec wsX9_wordFrom { frames := 1, cells := 0, slots := 0, locals := 60 }).room s m args below meth c H locs 0 0 (MQ below (ow_Qi Z 56 20 rr σr) args s 0 0 (ow_A Z 56 20)) (F0 m 26 ls [])), ∀ (x1 : Int32) (x2 : Int32) (x3 : Int32) (x5 : Int32) (s0 : Int32) (σ : ow_S) (H : Heap) (locs : List Loc) (ls : Array Slot), L_X9_wordFrom_80 fu k2 k26 x1 x2 x3 x5 s0 σ = some (rr, σr) → ow_Wd Z 56 20 σ s H locs → lv_has ls 6 [(0, .ref (ow_ad Z 56)), (1, .int x1), (2, .int x2), (3, .int x3), (5, .int x5)] → W p l e (headSpec wsX9_wordFrom { frames := 1, cells := 0, slots := 0, locals := 60 }).room s m args below meth c H locs 0 0 (MQ below (ow_Qi Z 56 20 rr σr) args s 0 0 (ow_A Z 56 20)) (F0 m 80 ls [.int s0]) := by
    intro k2 hk2 k26 hk26 x1 x2 x3 x5 s0 σ H locs ls hf hW hl
    unfold L_X9_wordFrom_80 at hf
    refine lv_istore (lv' := [(4, .int s0), (0, .ref (ow_ad Z 56)), (1, .int x1), (2, .int x2), (3, .int x3), (5, .int x5)]) hx hb dX9_wordFrom_80 hl (by decide) rfl (fun ls hl => ?_)
    refine ow_iinc (d := 1) (lv' := fun z => [(5, .int z), (4, .int s0), (0, .ref (ow_ad Z 56)), (1, .int x1), (2, .int x2), (3, .int x3)]) hx hb hf dX9_wordFrom_82 hl (k := 5) rfl (by decide) (by decide) (fun z => rfl) (fun x5_82 hf ls hl => ?_)
    refine lv_goto (tgt := 26) hx hb dX9_wordFrom_85 (by decide) ?_
    exact hk26 x1 x2 x3 s0 x5_82 σ _ _ _ hf hW (lv_sub hl [2, 3, 4, 5, 1, 0] rfl)
  have hJ72 : ∀ (k2 : Int32 → Int32 → Int32 → ow_S → Option (Int32 × ow_S)) (hk2 : ∀ (x1 : Int32) (x2 : Int32) (x3 : Int32) (σ : ow_S) (H : Heap) (locs : List Loc) (ls : Array Slot), k2 x1 x2 x3 σ = some (rr, σr) → ow_Wd Z 56 20 σ s H locs → lv_has ls 6 [(0, .ref (ow_ad Z 56)), (1, .int x1), (2, .int x2), (3, .int x3)] → W p l e (headSpec wsX9_wordFrom { frames := 1, cells := 0, slots := 0, locals := 60 }).room s m args below meth c H locs 0 0 (MQ below (ow_Qi Z 56 20 rr σr) args s 0 0 (ow_A Z 56 20)) (F0 m 2 ls [])) (k26 : Int32 → Int32 → Int32 → Int32 → Int32 → ow_S → Option (Int32 × ow_S)) (hk26 : ∀ (x1 : Int32) (x2 : Int32) (x3 : Int32) (x4 : Int32) (x5 : Int32) (σ : ow_S) (H : Heap) (locs : List Loc) (ls : Array Slot), k26 x1 x2 x3 x4 x5 σ = some (rr, σr) → ow_Wd Z 56 20 σ s H locs → lv_has ls 6 [(0, .ref (ow_ad Z 56)), (1, .int x1), (2, .int x2), (3, .int x3), (4, .int x4), (5, .int x5)] → W p l e (headSpec wsX9_wordFrom { frames := 1, cells := 0, slots := 0, locals := 60 }).room s m args below meth c H locs 0 0 (MQ below (ow_Qi Z 56 20 rr σr) args s 0 0 (ow_A Z 56 20)) (F0 m 26 ls [])), ∀ (x1 : Int32) (x2 : Int32) (x3 : Int32) (x5 : Int32) (s0 : Int32) (s1 : Int32) (σ : ow_S) (H : Heap) (locs : List Loc) (ls : Array Slot), L_X9_wordFrom_72 fu k2 k26 x1 x2 x3 x5 s0 s1 σ = some (rr, σr) → ow_Wd Z 56 20 σ s H locs → lv_has ls 6 [(0, .ref (ow_ad Z 56)), (1, .int x1), (2, .int x2), (3, .int x3), (5, .int x5)] → W p l e (headSpec wsX9_wordFrom { frames := 1, cells := 0, slots := 0, locals := 60 }).room s m args below meth c H locs 0 0 (MQ below (ow_Qi Z 56 20 rr σr) args s 0 0 (ow_A Z 56 20)) (F0 m 72 ls [.int s1, .int s0]) := by
    intro k2 hk2 k26 hk26 x1 x2 x3 x5 s0 s1 σ H locs ls hf hW hl
    unfold L_X9_wordFrom_72 at hf
    refine lv_icmp_ne (tgt := 79) hx hb dX9_wordFrom_72 (by decide) (fun c72 => ?_) (fun c72 => ?_)
    · replace hf := ow_if_f c72 hf
      refine lv_iconst (v := 0) hx hb dX9_wordFrom_79 (by decide) ?_
      exact hJ80 k2 hk2 k26 hk26 x1 x2 x3 x5 (0 : Int32) σ _ _ _ hf hW (lv_sub hl [0, 1, 2, 3, 4] rfl)
    · replace hf := ow_if_t c72 hf
      refine lv_iconst (v := 1) hx hb dX9_wordFrom_75 (by decide) ?_
      refine lv_goto (tgt := 80) hx hb dX9_wordFrom_76 (by decide) ?_
      exact hJ80 k2 hk2 k26 hk26 x1 x2 x3 x5 (1 : Int32) σ _ _ _ hf hW (lv_sub hl [0, 1, 2, 3, 4] rfl)
  have hJ26 : ∀ (k2 : Int32 → Int32 → Int32 → ow_S → Option (Int32 × ow_S)) (hk2 : ∀ (x1 : Int32) (x2 : Int32) (x3 : Int32) (σ : ow_S) (H : Heap) (locs : List Loc) (ls : Array Slot), k2 x1 x2 x3 σ = some (rr, σr) → ow_Wd Z 56 20 σ s H locs → lv_has ls 6 [(0, .ref (ow_ad Z 56)), (1, .int x1), (2, .int x2), (3, .int x3)] → W p l e (headSpec wsX9_wordFrom { frames := 1, cells := 0, slots := 0, locals := 60 }).room s m args below meth c H locs 0 0 (MQ below (ow_Qi Z 56 20 rr σr) args s 0 0 (ow_A Z 56 20)) (F0 m 2 ls [])), ∀ (fn : Nat), ∀ (x1 : Int32) (x2 : Int32) (x3 : Int32) (x4 : Int32) (x5 : Int32) (σ : ow_S) (H : Heap) (locs : List Loc) (ls : Array Slot), L_X9_wordFrom_26 fu k2 fn x1 x2 x3 x4 x5 σ = some (rr, σr) → ow_Wd Z 56 20 σ s H locs → lv_has ls 6 [(0, .ref (ow_ad Z 56)), (1, .int x1), (2, .int x2), (3, .int x3), (4, .int x4), (5, .int x5)] → W p l e (headSpec wsX9_wordFrom { frames := 1, cells := 0, slots := 0, locals := 60 }).room s m args below meth c H locs 0 0 (MQ below (ow_Qi Z 56 20 rr σr) args s 0 0 (ow_A Z 56 20)) (F0 m 26 ls []) := by
    intro k2 hk2 fn
    induction fn with
    | zero => intro x1 x2 x3 x4 x5 σ H locs ls hf hW hl; simp [L_X9_wordFrom_26] at hf
    | succ fn ih =>
      intro x1 x2 x3 x4 x5 σ H locs ls hf hW hl
      rw [L_X9_wordFrom_26] at hf
      refine lv_iload hx hb dX9_wordFrom_26 (lv_at hl 5 rfl) ?_
      refine lv_bipush (v := 8) hx hb dX9_wordFrom_28 (by decide) ?_
      refine lv_icmp_ge (tgt := 88) hx hb dX9_wordFrom_30 (by decide) (fun c30 => ?_) (fun c30 => ?_)
      · replace hf := ow_if_t c30 hf
        exact hJ88 k2 hk2 x1 x2 x3 x4 σ _ _ _ hf hW (lv_sub hl [0, 1, 2, 3, 4] rfl)
      · replace hf := ow_if_f c30 hf
        refine lv_iload hx hb dX9_wordFrom_33 (lv_at hl 4 rfl) ?_
        refine lv_if_eq (tgt := 88) hx hb dX9_wordFrom_35 (by decide) (fun c35 => ?_) (fun c35 => ?_)
        · replace hf := ow_if_t c35 hf
          exact hJ88 k2 hk2 x1 x2 x3 x4 σ _ _ _ hf hW (lv_sub hl [0, 1, 2, 3, 4] rfl)
        · replace hf := ow_if_f c35 hf
          refine lv_aload_n hx hb dX9_wordFrom_38 rfl (lv_at hl 0 rfl) ?_
          refine ow_getV (ci := 9) (C := RX9) (T := TX9) (N := 41) hx hb hts hown hG hW ow_i56 (by decide) rfl hinX9 28 (by decide) (fk := 2) rfl (hts (.fieldLink RX9 53 "FiftyOneCardsModel" "words" "[I") (by decide +kernel)) (v := .ref (ow_ad Z 70)) (ow_vR hW ow_i56.1 ow_i56.2.1 rfl) dX9_wordFrom_39 ?_
          refine lv_bipush (v := 8) hx hb dX9_wordFrom_42 (by decide) ?_
          refine lv_iload_n hx hb dX9_wordFrom_44 rfl (lv_at hl 3 rfl) ?_
          refine lv_imul hx hb dX9_wordFrom_45 ?_
          refine lv_iload hx hb dX9_wordFrom_46 (lv_at hl 5 rfl) ?_
          refine lv_iadd hx hb dX9_wordFrom_48 ?_
          obtain ⟨q49, hf⟩ := ow_ck_i hf
          refine ow_ild (q := (((8 : Int32) * x3) + x5).toNatClampNeg) hx hb hG hW ow_i70 rfl q49 rfl dX9_wordFrom_49 ?_
          refine lv_iload_n hx hb dX9_wordFrom_50 rfl (lv_at hl 1 rfl) ?_
          refine lv_iload hx hb dX9_wordFrom_51 (lv_at hl 5 rfl) ?_
          refine lv_iadd hx hb dX9_wordFrom_53 ?_
          refine lv_iload_n hx hb dX9_wordFrom_54 rfl (lv_at hl 2 rfl) ?_
          refine lv_icmp_ge (tgt := 70) hx hb dX9_wordFrom_55 (by decide) (fun c55 => ?_) (fun c55 => ?_)
          · replace hf := ow_if_t c55 hf
            refine lv_bipush (v := 32) hx hb dX9_wordFrom_70 (by decide) ?_
            exact hJ72 k2 hk2 (L_X9_wordFrom_26 fu k2 fn) ih x1 x2 x3 x5 (σ.1 70 (((8 : Int32) * x3) + x5).toNatClampNeg) (32 : Int32) σ _ _ _ hf hW (lv_sub hl [0, 1, 2, 3, 5] rfl)
          · replace hf := ow_if_f c55 hf
            refine lv_aload_n hx hb dX9_wordFrom_58 rfl (lv_at hl 0 rfl) ?_
            refine ow_getV (ci := 9) (C := RX9) (T := TX9) (N := 41) hx hb hts hown hG hW ow_i56 (by decide) rfl hinX9 7 (by decide) (fk := 2) rfl (hts (.fieldLink RX9 26 "FiftyOneCardsModel" "tape" "[I") (by decide +kernel)) (v := .ref (ow_ad Z 61)) (ow_vR hW ow_i56.1 ow_i56.2.1 rfl) dX9_wordFrom_59 ?_
            refine lv_iload_n hx hb dX9_wordFrom_62 rfl (lv_at hl 1 rfl) ?_
            refine lv_iload hx hb dX9_wordFrom_63 (lv_at hl 5 rfl) ?_
            refine lv_iadd hx hb dX9_wordFrom_65 ?_
            obtain ⟨q66, hf⟩ := ow_ck_i hf
            refine ow_ild (q := (x1 + x5).toNatClampNeg) hx hb hG hW ow_i61 rfl q66 rfl dX9_wordFrom_66 ?_
            refine lv_goto (tgt := 72) hx hb dX9_wordFrom_67 (by decide) ?_
            exact hJ72 k2 hk2 (L_X9_wordFrom_26 fu k2 fn) ih x1 x2 x3 x5 (σ.1 70 (((8 : Int32) * x3) + x5).toNatClampNeg) (σ.1 61 (x1 + x5).toNatClampNeg) σ _ _ _ hf hW (lv_sub hl [0, 1, 2, 3, 5] rfl)
  have hJ21 : ∀ (k2 : Int32 → Int32 → Int32 → ow_S → Option (Int32 × ow_S)) (hk2 : ∀ (x1 : Int32) (x2 : Int32) (x3 : Int32) (σ : ow_S) (H : Heap) (locs : List Loc) (ls : Array Slot), k2 x1 x2 x3 σ = some (rr, σr) → ow_Wd Z 56 20 σ s H locs → lv_has ls 6 [(0, .ref (ow_ad Z 56)), (1, .int x1), (2, .int x2), (3, .int x3)] → W p l e (headSpec wsX9_wordFrom { frames := 1, cells := 0, slots := 0, locals := 60 }).room s m args below meth c H locs 0 0 (MQ below (ow_Qi Z 56 20 rr σr) args s 0 0 (ow_A Z 56 20)) (F0 m 2 ls [])), ∀ (x1 : Int32) (x2 : Int32) (x3 : Int32) (s0 : Int32) (σ : ow_S) (H : Heap) (locs : List Loc) (ls : Array Slot), L_X9_wordFrom_21 fu k2 x1 x2 x3 s0 σ = some (rr, σr) → ow_Wd Z 56 20 σ s H locs → lv_has ls 6 [(0, .ref (ow_ad Z 56)), (1, .int x1), (2, .int x2), (3, .int x3)] → W p l e (headSpec wsX9_wordFrom { frames := 1, cells := 0, slots := 0, locals := 60 }).room s m args below meth c H locs 0 0 (MQ below (ow_Qi Z 56 20 rr σr) args s 0 0 (ow_A Z 56 20)) (F0 m 21 ls [.int s0]) := by
    intro k2 hk2 x1 x2 x3 s0 σ H locs ls hf hW hl
    unfold L_X9_wordFrom_21 at hf
    refine lv_istore (lv' := [(4, .int s0), (0, .ref (ow_ad Z 56)), (1, .int x1), (2, .int x2), (3, .int x3)]) hx hb dX9_wordFrom_21 hl (by decide) rfl (fun ls hl => ?_)
    refine lv_iconst (v := 0) hx hb dX9_wordFrom_23 (by decide) ?_
    refine lv_istore (lv' := [(5, .int (0 : Int32)), (4, .int s0), (0, .ref (ow_ad Z 56)), (1, .int x1), (2, .int x2), (3, .int x3)]) hx hb dX9_wordFrom_24 hl (by decide) rfl (fun ls hl => ?_)
    exact hJ26 k2 hk2 fu x1 x2 x3 s0 (0 : Int32) σ _ _ _ hf hW (lv_sub hl [2, 3, 4, 5, 1, 0] rfl)
  have hJ2 : ∀ (fn : Nat), ∀ (x1 : Int32) (x2 : Int32) (x3 : Int32) (σ : ow_S) (H : Heap) (locs : List Loc) (ls : Array Slot), L_X9_wordFrom_2 fu fn x1 x2 x3 σ = some (rr, σr) → ow_Wd Z 56 20 σ s H locs → lv_has ls 6 [(0, .ref (ow_ad Z 56)), (1, .int x1), (2, .int x2), (3, .int x3)] → W p l e (headSpec wsX9_wordFrom { frames := 1, cells := 0, slots := 0, locals := 60 }).room s m args below meth c H locs 0 0 (MQ below (ow_Qi Z 56 20 rr σr) args s 0 0 (ow_A Z 56 20)) (F0 m 2 ls []) := by
    intro fn
    induction fn with
    | zero => intro x1 x2 x3 σ H locs ls hf hW hl; simp [L_X9_wordFrom_2] at hf
    | succ fn ih =>
      intro x1 x2 x3 σ H locs ls hf hW hl
      rw [L_X9_wordFrom_2] at hf
      refine lv_iload_n hx hb dX9_wordFrom_2 rfl (lv_at hl 3 rfl) ?_
      refine lv_bipush (v := 12) hx hb dX9_wordFrom_3 (by decide) ?_
      refine lv_icmp_ge (tgt := 101) hx hb dX9_wordFrom_5 (by decide) (fun c5 => ?_) (fun c5 => ?_)
      · replace hf := ow_if_t c5 hf
        refine lv_bipush (v := 12) hx hb dX9_wordFrom_101 (by decide) ?_
        exact ow_iret hx hb hr hW hf dX9_wordFrom_103 hlocks
      · replace hf := ow_if_f c5 hf
        refine lv_iload_n hx hb dX9_wordFrom_8 rfl (lv_at hl 2 rfl) ?_
        refine lv_iload_n hx hb dX9_wordFrom_9 rfl (lv_at hl 1 rfl) ?_
        refine lv_isub hx hb dX9_wordFrom_10 ?_
        refine lv_bipush (v := 8) hx hb dX9_wordFrom_11 (by decide) ?_
        refine lv_icmp_gt (tgt := 20) hx hb dX9_wordFrom_13 (by decide) (fun c13 => ?_) (fun c13 => ?_)
        · replace hf := ow_if_t c13 hf
          refine lv_iconst (v := 0) hx hb dX9_wordFrom_20 (by decide) ?_
          exact hJ21 (L_X9_wordFrom_2 fu fn) ih x1 x2 x3 (0 : Int32) σ _ _ _ hf hW (lv_sub hl [0, 1, 2, 3] rfl)
        · replace hf := ow_if_f c13 hf
          refine lv_iconst (v := 1) hx hb dX9_wordFrom_16 (by decide) ?_
          refine lv_goto (tgt := 21) hx hb dX9_wordFrom_17 (by decide) ?_
          exact hJ21 (L_X9_wordFrom_2 fu fn) ih x1 x2 x3 (1 : Int32) σ _ _ _ hf hW (lv_sub hl [0, 1, 2, 3] rfl)
  have hl := lv_entry ([.ref (ow_ad Z 56), .int a1, .int a2]) (n := 6) (Nat.le_of_ble_eq_true rfl)
  refine W.eq (g2 := F0 m 0 ((lg_sl ([.ref (ow_ad Z 56), .int a1, .int a2]) ++ List.replicate (6 - (lg_sl ([.ref (ow_ad Z 56), .int a1, .int a2])).length) Slot.unset).toArray) []) (by rw [hav]; exact lg_entry_eq _ _ _) ?_
  generalize (lg_sl ([.ref (ow_ad Z 56), .int a1, .int a2]) ++ List.replicate (6 - (lg_sl ([.ref (ow_ad Z 56), .int a1, .int a2])).length) Slot.unset).toArray = ls at hl ⊢
  have hl : lv_has ls 6 [(0, .ref (ow_ad Z 56)), (1, .int a1), (2, .int a2)] := hl
  unfold f_X9_wordFrom at hf
  refine lv_iconst (v := 0) hx hb dX9_wordFrom_0 (by decide) ?_
  refine lv_istore_n (lv' := [(3, .int (0 : Int32)), (0, .ref (ow_ad Z 56)), (1, .int a1), (2, .int a2)]) hx hb dX9_wordFrom_1 rfl hl (by decide) rfl (fun ls hl => ?_)
  exact hJ2 fu a1 a2 (0 : Int32) σ _ _ _ hf hW (lv_sub hl [1, 2, 3, 0] rfl)
set_option maxHeartbeats 40000000 in
set_option maxRecDepth 100000 in
theorem c_X9_next (l : Launch) (Z : ow_Z) (fu : Nat) (σ : ow_S) (σr : ow_S) (hf : f_X9_next fu σ = some σr) : Met l yX9_next wsX9_next { frames := 2, cells := 0, slots := 0, locals := 85 } (ow_Pc Z 56 20 [.ref (ow_ad Z 56)] σ) (ow_Qv Z 56 20 σr) 0 0 (ow_A Z 56 20) := by
  refine Met.ofW (cc := cX9_next) (maxL := 3) (ret := none) (by decide) rfl ?_
  intro p e s m args below meth c s₁ B hml hv
  obtain ⟨hav, hB⟩ := hv
  obtain ⟨hG, hW⟩ := ow_begin hB
  have hx := B.exec
  have hb := B.bytes
  have hr := B.returns
  have hts := atoms_spec (ws := wsX9_next) B.pre
  have hown : s.vm.findClass RX9 = some m.cls := findClass_of_methodNamed B.named
  have hlocks := B.notSynchronized
  have hinX9 : ∀ w ∈ wsX90, w ∈ wsX9_next := by decide +kernel
  have hJ390 : ∀ (s1 : Int32) (σ : ow_S) (H : Heap) (locs : List Loc) (ls : Array Slot), L_X9_next_390 fu s1 σ = some σr → ow_Wd Z 56 20 σ s H locs → lv_has ls 3 [(0, .ref (ow_ad Z 56))] → W p l e (headSpec wsX9_next { frames := 2, cells := 0, slots := 0, locals := 85 }).room s m args below meth c H locs 0 0 (MQ below (ow_Qv Z 56 20 σr) args s 0 0 (ow_A Z 56 20)) (F0 m 390 ls [.int s1, .ref (ow_ad Z 56)]) := by
    intro s1 σ H locs ls hf hW hl
    unfold L_X9_next_390 at hf
    refine ow_putI (ci := 9) (C := RX9) (T := TX9) (N := 41) hx hb hts hown hG hW ow_i56 (by decide) rfl hinX9 tyX9 tyX9_ok nmX9 26 (by decide) rfl (hts (.fieldLink RX9 141 "FiftyOneCardsModel" "token" "I") (by decide +kernel)) rfl rfl rfl hf dX9_next_390 (fun σ_390 H locs hf hW => ?_)
    refine lv_aload_n hx hb dX9_next_393 rfl (lv_at hl 0 rfl) ?_
    refine lv_dup hx hb dX9_next_394 rfl ?_
    refine ow_getV (ci := 9) (C := RX9) (T := TX9) (N := 41) hx hb hts hown hG hW ow_i56 (by decide) rfl hinX9 24 (by decide) (fk := 0) rfl (hts (.fieldLink RX9 135 "FiftyOneCardsModel" "at" "I") (by decide +kernel)) (v := .int (σ_390.1 56 24)) rfl dX9_next_395 ?_
    refine lv_iconst (v := 1) hx hb dX9_next_398 (by decide) ?_
    refine lv_iadd hx hb dX9_next_399 ?_
    refine ow_putI (ci := 9) (C := RX9) (T := TX9) (N := 41) hx hb hts hown hG hW ow_i56 (by decide) rfl hinX9 tyX9 tyX9_ok nmX9 24 (by decide) rfl (hts (.fieldLink RX9 135 "FiftyOneCardsModel" "at" "I") (by decide +kernel)) rfl rfl rfl hf dX9_next_400 (fun σ_400 H locs hf hW => ?_)
    exact ow_vret hx hb hr hW hf dX9_next_403 hlocks
  have hJ379 : ∀ (x1 : Int32) (s0 : Int32) (σ : ow_S) (H : Heap) (locs : List Loc) (ls : Array Slot), L_X9_next_379 fu x1 s0 σ = some σr → ow_Wd Z 56 20 σ s H locs → lv_has ls 3 [(0, .ref (ow_ad Z 56)), (1, .int x1)] → W p l e (headSpec wsX9_next { frames := 2, cells := 0, slots := 0, locals := 85 }).room s m args below meth c H locs 0 0 (MQ below (ow_Qv Z 56 20 σr) args s 0 0 (ow_A Z 56 20)) (F0 m 379 ls [.int s0]) := by
    intro x1 s0 σ H locs ls hf hW hl
    unfold L_X9_next_379 at hf
    refine lv_istore_n (lv' := [(2, .int s0), (0, .ref (ow_ad Z 56)), (1, .int x1)]) hx hb dX9_next_379 rfl hl (by decide) rfl (fun ls hl => ?_)
    refine lv_aload_n hx hb dX9_next_380 rfl (lv_at hl 1 rfl) ?_
    refine lv_iload_n hx hb dX9_next_381 rfl (lv_at hl 0 rfl) ?_
    refine lv_if_eq (tgt := 389) hx hb dX9_next_382 (by decide) (fun c382 => ?_) (fun c382 => ?_)
    · replace hf := ow_if_t c382 hf
      refine lv_iconst (v := -1) hx hb dX9_next_389 (by decide) ?_
      exact hJ390 (-1 : Int32) σ _ _ _ hf hW (lv_sub hl [1] rfl)
    · replace hf := ow_if_f c382 hf
      refine lv_iload_n hx hb dX9_next_385 rfl (lv_at hl 2 rfl) ?_
      refine lv_goto (tgt := 390) hx hb dX9_next_386 (by decide) ?_
      exact hJ390 x1 σ _ _ _ hf hW (lv_sub hl [1] rfl)
  have hJ374 : ∀ (x1 : Int32) (σ : ow_S) (H : Heap) (locs : List Loc) (ls : Array Slot), L_X9_next_374 fu x1 σ = some σr → ow_Wd Z 56 20 σ s H locs → lv_has ls 3 [(0, .ref (ow_ad Z 56)), (1, .int x1)] → W p l e (headSpec wsX9_next { frames := 2, cells := 0, slots := 0, locals := 85 }).room s m args below meth c H locs 0 0 (MQ below (ow_Qv Z 56 20 σr) args s 0 0 (ow_A Z 56 20)) (F0 m 374 ls []) := by
    intro x1 σ H locs ls hf hW hl
    unfold L_X9_next_374 at hf
    refine lv_iconst (v := 1) hx hb dX9_next_374 (by decide) ?_
    refine lv_goto (tgt := 379) hx hb dX9_next_375 (by decide) ?_
    exact hJ379 x1 (1 : Int32) σ _ _ _ hf hW (lv_sub hl [0, 1] rfl)
  have hJ320 : ∀ (s1 : Int32) (σ : ow_S) (H : Heap) (locs : List Loc) (ls : Array Slot), L_X9_next_320 fu s1 σ = some σr → ow_Wd Z 56 20 σ s H locs → lv_has ls 3 [] → W p l e (headSpec wsX9_next { frames := 2, cells := 0, slots := 0, locals := 85 }).room s m args below meth c H locs 0 0 (MQ below (ow_Qv Z 56 20 σr) args s 0 0 (ow_A Z 56 20)) (F0 m 320 ls [.int s1, .ref (ow_ad Z 56)]) := by
    intro s1 σ H locs ls hf hW hl
    unfold L_X9_next_320 at hf
    refine ow_putI (ci := 9) (C := RX9) (T := TX9) (N := 41) hx hb hts hown hG hW ow_i56 (by decide) rfl hinX9 tyX9 tyX9_ok nmX9 26 (by decide) rfl (hts (.fieldLink RX9 141 "FiftyOneCardsModel" "token" "I") (by decide +kernel)) rfl rfl rfl hf dX9_next_320 (fun σ_320 H locs hf hW => ?_)
    refine lv_goto (tgt := 403) hx hb dX9_next_323 (by decide) ?_
    exact ow_vret hx hb hr hW hf dX9_next_403 hlocks
  have hJ309 : ∀ (x2 : Int32) (σ : ow_S) (H : Heap) (locs : List Loc) (ls : Array Slot), L_X9_next_309 fu x2 σ = some σr → ow_Wd Z 56 20 σ s H locs → lv_has ls 3 [(0, .ref (ow_ad Z 56)), (2, .int x2)] → W p l e (headSpec wsX9_next { frames := 2, cells := 0, slots := 0, locals := 85 }).room s m args below meth c H locs 0 0 (MQ below (ow_Qv Z 56 20 σr) args s 0 0 (ow_A Z 56 20)) (F0 m 309 ls []) := by
    intro x2 σ H locs ls hf hW hl
    unfold L_X9_next_309 at hf
    refine lv_aload_n hx hb dX9_next_309 rfl (lv_at hl 0 rfl) ?_
    refine lv_iload_n hx hb dX9_next_310 rfl (lv_at hl 1 rfl) ?_
    refine lv_iconst (v := 4) hx hb dX9_next_311 (by decide) ?_
    refine lv_icmp_le (tgt := 319) hx hb dX9_next_312 (by decide) (fun c312 => ?_) (fun c312 => ?_)
    · replace hf := ow_if_t c312 hf
      refine lv_iconst (v := 1) hx hb dX9_next_319 (by decide) ?_
      exact hJ320 (1 : Int32) σ _ _ _ hf hW (lv_sub hl [] rfl)
    · replace hf := ow_if_f c312 hf
      refine lv_iconst (v := -1) hx hb dX9_next_315 (by decide) ?_
      refine lv_goto (tgt := 320) hx hb dX9_next_316 (by decide) ?_
      exact hJ320 (-1 : Int32) σ _ _ _ hf hW (lv_sub hl [] rfl)
  have hJ290 : ∀ (k230 : Int32 → ow_S → Option (ow_S)) (hk230 : ∀ (x2 : Int32) (σ : ow_S) (H : Heap) (locs : List Loc) (ls : Array Slot), k230 x2 σ = some σr → ow_Wd Z 56 20 σ s H locs → lv_has ls 3 [(0, .ref (ow_ad Z 56)), (2, .int x2)] → W p l e (headSpec wsX9_next { frames := 2, cells := 0, slots := 0, locals := 85 }).room s m args below meth c H locs 0 0 (MQ below (ow_Qv Z 56 20 σr) args s 0 0 (ow_A Z 56 20)) (F0 m 230 ls [])), ∀ (x2 : Int32) (s1 : Int32) (σ : ow_S) (H : Heap) (locs : List Loc) (ls : Array Slot), L_X9_next_290 fu k230 x2 s1 σ = some σr → ow_Wd Z 56 20 σ s H locs → lv_has ls 3 [(0, .ref (ow_ad Z 56)), (2, .int x2)] → W p l e (headSpec wsX9_next { frames := 2, cells := 0, slots := 0, locals := 85 }).room s m args below meth c H locs 0 0 (MQ below (ow_Qv Z 56 20 σr) args s 0 0 (ow_A Z 56 20)) (F0 m 290 ls [.int s1, .ref (ow_ad Z 56)]) := by
    intro k230 hk230 x2 s1 σ H locs ls hf hW hl
    unfold L_X9_next_290 at hf
    refine ow_putI (ci := 9) (C := RX9) (T := TX9) (N := 41) hx hb hts hown hG hW ow_i56 (by decide) rfl hinX9 tyX9 tyX9_ok nmX9 27 (by decide) rfl (hts (.fieldLink RX9 144 "FiftyOneCardsModel" "value" "I") (by decide +kernel)) rfl rfl rfl hf dX9_next_290 (fun σ_290 H locs hf hW => ?_)
    refine ow_iinc (d := 1) (lv' := fun z => [(2, .int z), (0, .ref (ow_ad Z 56))]) hx hb hf dX9_next_293 hl (k := 1) rfl (by decide) (by decide) (fun z => rfl) (fun x2_293 hf ls hl => ?_)
    refine lv_aload_n hx hb dX9_next_296 rfl (lv_at hl 1 rfl) ?_
    refine lv_dup hx hb dX9_next_297 rfl ?_
    refine ow_getV (ci := 9) (C := RX9) (T := TX9) (N := 41) hx hb hts hown hG hW ow_i56 (by decide) rfl hinX9 24 (by decide) (fk := 0) rfl (hts (.fieldLink RX9 135 "FiftyOneCardsModel" "at" "I") (by decide +kernel)) (v := .int (σ_290.1 56 24)) rfl dX9_next_298 ?_
    refine lv_iconst (v := 1) hx hb dX9_next_301 (by decide) ?_
    refine lv_iadd hx hb dX9_next_302 ?_
    refine ow_putI (ci := 9) (C := RX9) (T := TX9) (N := 41) hx hb hts hown hG hW ow_i56 (by decide) rfl hinX9 tyX9 tyX9_ok nmX9 24 (by decide) rfl (hts (.fieldLink RX9 135 "FiftyOneCardsModel" "at" "I") (by decide +kernel)) rfl rfl rfl hf dX9_next_303 (fun σ_303 H locs hf hW => ?_)
    refine lv_goto (tgt := 230) hx hb dX9_next_306 (by decide) ?_
    exact hk230 x2_293 σ_303 _ _ _ hf hW (lv_sub hl [1, 0] rfl)
  have hJ230 : ∀ (fn : Nat), ∀ (x2 : Int32) (σ : ow_S) (H : Heap) (locs : List Loc) (ls : Array Slot), L_X9_next_230 fu fn x2 σ = some σr → ow_Wd Z 56 20 σ s H locs → lv_has ls 3 [(0, .ref (ow_ad Z 56)), (2, .int x2)] → W p l e (headSpec wsX9_next { frames := 2, cells := 0, slots := 0, locals := 85 }).room s m args below meth c H locs 0 0 (MQ below (ow_Qv Z 56 20 σr) args s 0 0 (ow_A Z 56 20)) (F0 m 230 ls []) := by
    intro fn
    induction fn with
    | zero => intro x2 σ H locs ls hf hW hl; simp [L_X9_next_230] at hf
    | succ fn ih =>
      intro x2 σ H locs ls hf hW hl
      rw [L_X9_next_230] at hf
      refine lv_aload_n hx hb dX9_next_230 rfl (lv_at hl 0 rfl) ?_
      refine ow_getV (ci := 9) (C := RX9) (T := TX9) (N := 41) hx hb hts hown hG hW ow_i56 (by decide) rfl hinX9 24 (by decide) (fk := 0) rfl (hts (.fieldLink RX9 135 "FiftyOneCardsModel" "at" "I") (by decide +kernel)) (v := .int (σ.1 56 24)) rfl dX9_next_231 ?_
      refine lv_aload_n hx hb dX9_next_234 rfl (lv_at hl 0 rfl) ?_
      refine ow_getV (ci := 9) (C := RX9) (T := TX9) (N := 41) hx hb hts hown hG hW ow_i56 (by decide) rfl hinX9 8 (by decide) (fk := 0) rfl (hts (.fieldLink RX9 71 "FiftyOneCardsModel" "taped" "I") (by decide +kernel)) (v := .int (σ.1 56 8)) rfl dX9_next_235 ?_
      refine lv_icmp_ge (tgt := 309) hx hb dX9_next_238 (by decide) (fun c238 => ?_) (fun c238 => ?_)
      · replace hf := ow_if_t c238 hf
        exact hJ309 x2 σ _ _ _ hf hW (lv_sub hl [0, 1] rfl)
      · replace hf := ow_if_f c238 hf
        refine lv_aload_n hx hb dX9_next_241 rfl (lv_at hl 0 rfl) ?_
        refine ow_getV (ci := 9) (C := RX9) (T := TX9) (N := 41) hx hb hts hown hG hW ow_i56 (by decide) rfl hinX9 7 (by decide) (fk := 2) rfl (hts (.fieldLink RX9 26 "FiftyOneCardsModel" "tape" "[I") (by decide +kernel)) (v := .ref (ow_ad Z 61)) (ow_vR hW ow_i56.1 ow_i56.2.1 rfl) dX9_next_242 ?_
        refine lv_aload_n hx hb dX9_next_245 rfl (lv_at hl 0 rfl) ?_
        refine ow_getV (ci := 9) (C := RX9) (T := TX9) (N := 41) hx hb hts hown hG hW ow_i56 (by decide) rfl hinX9 24 (by decide) (fk := 0) rfl (hts (.fieldLink RX9 135 "FiftyOneCardsModel" "at" "I") (by decide +kernel)) (v := .int (σ.1 56 24)) rfl dX9_next_246 ?_
        obtain ⟨q249, hf⟩ := ow_ck_i hf
        refine ow_ild (q := (σ.1 56 24).toNatClampNeg) hx hb hG hW ow_i61 rfl q249 rfl dX9_next_249 ?_
        refine lv_bipush (v := 48) hx hb dX9_next_250 (by decide) ?_
        refine lv_bipush (v := 57) hx hb dX9_next_252 (by decide) ?_
        obtain ⟨r_254, σ_254, hc254, hf⟩ := ow_cl_i hf
        refine ow_callz (va_runS (As := [.int (σ.1 61 (σ.1 56 24).toNatClampNeg), .int (48 : Int32), .int (57 : Int32)]) (rest := []) ⟨hx, hb, hml, hown, hts⟩ (c_X9_in l Z fu (σ.1 61 (σ.1 56 24).toNatClampNeg) (48 : Int32) (57 : Int32) σ r_254 σ_254 hc254) (va_cwS 3 hts gX9_next_X9_in rfl rfl rfl (by decide +kernel) ⟨Nat.le_of_ble_eq_true rfl, Nat.le_of_ble_eq_true rfl⟩) (ow_preS hG hW) rfl rfl hl.1 rfl (lv_room (Nat.le_of_ble_eq_true rfl)) dX9_next_254 ⟨Nat.zero_le _, Nat.zero_le _⟩) hW (fun b254 H locs hW => ?_)
        refine lv_if_eq (tgt := 309) hx hb dX9_next_257 (by decide) (fun c257 => ?_) (fun c257 => ?_)
        · replace hf := ow_if_t c257 hf
          exact hJ309 x2 σ_254 _ _ _ hf hW (lv_sub hl [0, 1] rfl)
        · replace hf := ow_if_f c257 hf
          refine lv_aload_n hx hb dX9_next_260 rfl (lv_at hl 0 rfl) ?_
          refine lv_iload_n hx hb dX9_next_261 rfl (lv_at hl 1 rfl) ?_
          refine lv_iconst (v := 4) hx hb dX9_next_262 (by decide) ?_
          refine lv_icmp_ge (tgt := 289) hx hb dX9_next_263 (by decide) (fun c263 => ?_) (fun c263 => ?_)
          · replace hf := ow_if_t c263 hf
            refine lv_iconst (v := 0) hx hb dX9_next_289 (by decide) ?_
            exact hJ290 (L_X9_next_230 fu fn) ih x2 (0 : Int32) σ_254 _ _ _ hf hW (lv_sub hl [0, 1] rfl)
          · replace hf := ow_if_f c263 hf
            refine lv_bipush (v := 10) hx hb dX9_next_266 (by decide) ?_
            refine lv_aload_n hx hb dX9_next_268 rfl (lv_at hl 0 rfl) ?_
            refine ow_getV (ci := 9) (C := RX9) (T := TX9) (N := 41) hx hb hts hown hG hW ow_i56 (by decide) rfl hinX9 27 (by decide) (fk := 0) rfl (hts (.fieldLink RX9 144 "FiftyOneCardsModel" "value" "I") (by decide +kernel)) (v := .int (σ_254.1 56 27)) rfl dX9_next_269 ?_
            refine lv_imul hx hb dX9_next_272 ?_
            refine lv_aload_n hx hb dX9_next_273 rfl (lv_at hl 0 rfl) ?_
            refine ow_getV (ci := 9) (C := RX9) (T := TX9) (N := 41) hx hb hts hown hG hW ow_i56 (by decide) rfl hinX9 7 (by decide) (fk := 2) rfl (hts (.fieldLink RX9 26 "FiftyOneCardsModel" "tape" "[I") (by decide +kernel)) (v := .ref (ow_ad Z 61)) (ow_vR hW ow_i56.1 ow_i56.2.1 rfl) dX9_next_274 ?_
            refine lv_aload_n hx hb dX9_next_277 rfl (lv_at hl 0 rfl) ?_
            refine ow_getV (ci := 9) (C := RX9) (T := TX9) (N := 41) hx hb hts hown hG hW ow_i56 (by decide) rfl hinX9 24 (by decide) (fk := 0) rfl (hts (.fieldLink RX9 135 "FiftyOneCardsModel" "at" "I") (by decide +kernel)) (v := .int (σ_254.1 56 24)) rfl dX9_next_278 ?_
            obtain ⟨q281, hf⟩ := ow_ck_i hf
            refine ow_ild (q := (σ_254.1 56 24).toNatClampNeg) hx hb hG hW ow_i61 rfl q281 rfl dX9_next_281 ?_
            refine lv_iadd hx hb dX9_next_282 ?_
            refine lv_bipush (v := 48) hx hb dX9_next_283 (by decide) ?_
            refine lv_isub hx hb dX9_next_285 ?_
            refine lv_goto (tgt := 290) hx hb dX9_next_286 (by decide) ?_
            exact hJ290 (L_X9_next_230 fu fn) ih x2 ((((10 : Int32) * (σ_254.1 56 27)) + (σ_254.1 61 (σ_254.1 56 24).toNatClampNeg)) - (48 : Int32)) σ_254 _ _ _ hf hW (lv_sub hl [0, 1] rfl)
  have hJ211 : ∀ (s1 : Int32) (σ : ow_S) (H : Heap) (locs : List Loc) (ls : Array Slot), L_X9_next_211 fu s1 σ = some σr → ow_Wd Z 56 20 σ s H locs → lv_has ls 3 [] → W p l e (headSpec wsX9_next { frames := 2, cells := 0, slots := 0, locals := 85 }).room s m args below meth c H locs 0 0 (MQ below (ow_Qv Z 56 20 σr) args s 0 0 (ow_A Z 56 20)) (F0 m 211 ls [.int s1, .ref (ow_ad Z 56)]) := by
    intro s1 σ H locs ls hf hW hl
    unfold L_X9_next_211 at hf
    refine ow_putI (ci := 9) (C := RX9) (T := TX9) (N := 41) hx hb hts hown hG hW ow_i56 (by decide) rfl hinX9 tyX9 tyX9_ok nmX9 27 (by decide) rfl (hts (.fieldLink RX9 144 "FiftyOneCardsModel" "value" "I") (by decide +kernel)) rfl rfl rfl hf dX9_next_211 (fun σ_211 H locs hf hW => ?_)
    refine lv_goto (tgt := 403) hx hb dX9_next_214 (by decide) ?_
    exact ow_vret hx hb hr hW hf dX9_next_403 hlocks
  have hJ195 : ∀ (x2 : Int32) (s1 : Int32) (σ : ow_S) (H : Heap) (locs : List Loc) (ls : Array Slot), L_X9_next_195 fu x2 s1 σ = some σr → ow_Wd Z 56 20 σ s H locs → lv_has ls 3 [(0, .ref (ow_ad Z 56)), (2, .int x2)] → W p l e (headSpec wsX9_next { frames := 2, cells := 0, slots := 0, locals := 85 }).room s m args below meth c H locs 0 0 (MQ below (ow_Qv Z 56 20 σr) args s 0 0 (ow_A Z 56 20)) (F0 m 195 ls [.int s1, .ref (ow_ad Z 56)]) := by
    intro x2 s1 σ H locs ls hf hW hl
    unfold L_X9_next_195 at hf
    refine ow_putI (ci := 9) (C := RX9) (T := TX9) (N := 41) hx hb hts hown hG hW ow_i56 (by decide) rfl hinX9 tyX9 tyX9_ok nmX9 26 (by decide) rfl (hts (.fieldLink RX9 141 "FiftyOneCardsModel" "token" "I") (by decide +kernel)) rfl rfl rfl hf dX9_next_195 (fun σ_195 H locs hf hW => ?_)
    refine lv_aload_n hx hb dX9_next_198 rfl (lv_at hl 0 rfl) ?_
    refine lv_iload_n hx hb dX9_next_199 rfl (lv_at hl 1 rfl) ?_
    refine lv_iconst (v := 3) hx hb dX9_next_200 (by decide) ?_
    refine lv_icmp_ge (tgt := 208) hx hb dX9_next_201 (by decide) (fun c201 => ?_) (fun c201 => ?_)
    · replace hf := ow_if_t c201 hf
      refine lv_iload_n hx hb dX9_next_208 rfl (lv_at hl 1 rfl) ?_
      refine lv_iconst (v := 3) hx hb dX9_next_209 (by decide) ?_
      refine lv_isub hx hb dX9_next_210 ?_
      exact hJ211 (x2 - (3 : Int32)) σ_195 _ _ _ hf hW (lv_sub hl [] rfl)
    · replace hf := ow_if_f c201 hf
      refine lv_iload_n hx hb dX9_next_204 rfl (lv_at hl 1 rfl) ?_
      refine lv_goto (tgt := 211) hx hb dX9_next_205 (by decide) ?_
      exact hJ211 x2 σ_195 _ _ _ hf hW (lv_sub hl [] rfl)
  have hJ146 : ∀ (σ : ow_S) (H : Heap) (locs : List Loc) (ls : Array Slot), L_X9_next_146 fu σ = some σr → ow_Wd Z 56 20 σ s H locs → lv_has ls 3 [(0, .ref (ow_ad Z 56))] → W p l e (headSpec wsX9_next { frames := 2, cells := 0, slots := 0, locals := 85 }).room s m args below meth c H locs 0 0 (MQ below (ow_Qv Z 56 20 σr) args s 0 0 (ow_A Z 56 20)) (F0 m 146 ls []) := by
    intro σ H locs ls hf hW hl
    unfold L_X9_next_146 at hf
    refine lv_aload_n hx hb dX9_next_146 rfl (lv_at hl 0 rfl) ?_
    refine lv_aload_n hx hb dX9_next_147 rfl (lv_at hl 0 rfl) ?_
    refine ow_getV (ci := 9) (C := RX9) (T := TX9) (N := 41) hx hb hts hown hG hW ow_i56 (by decide) rfl hinX9 25 (by decide) (fk := 0) rfl (hts (.fieldLink RX9 138 "FiftyOneCardsModel" "begun" "I") (by decide +kernel)) (v := .int (σ.1 56 25)) rfl dX9_next_148 ?_
    refine lv_aload_n hx hb dX9_next_151 rfl (lv_at hl 0 rfl) ?_
    refine ow_getV (ci := 9) (C := RX9) (T := TX9) (N := 41) hx hb hts hown hG hW ow_i56 (by decide) rfl hinX9 24 (by decide) (fk := 0) rfl (hts (.fieldLink RX9 135 "FiftyOneCardsModel" "at" "I") (by decide +kernel)) (v := .int (σ.1 56 24)) rfl dX9_next_152 ?_
    obtain ⟨r_155, σ_155, hc155, hf⟩ := ow_cl_i hf
    refine ow_calli (va_runV (As := [.int (σ.1 56 25), .int (σ.1 56 24)]) (rest := []) ⟨hx, hb, hml, hown, hts⟩ (c_X9_wordFrom l Z fu (σ.1 56 25) (σ.1 56 24) σ r_155 σ_155 hc155) (cwV 2 hts gX9_next_X9_wordFrom rfl rfl rfl (by decide +kernel) ⟨Nat.le_of_ble_eq_true rfl, Nat.le_of_ble_eq_true rfl⟩) (ow_preV hG hW ow_i56 (by decide) rfl) rfl rfl hl.1 rfl (lv_room (Nat.le_of_ble_eq_true rfl)) dX9_next_155 ⟨Nat.zero_le _, Nat.zero_le _⟩) hW (fun H locs hW => ?_)
    refine lv_istore_n (lv' := [(2, .int r_155), (0, .ref (ow_ad Z 56))]) hx hb dX9_next_158 rfl hl (by decide) rfl (fun ls hl => ?_)
    refine lv_aload_n hx hb dX9_next_159 rfl (lv_at hl 1 rfl) ?_
    refine lv_iload_n hx hb dX9_next_160 rfl (lv_at hl 0 rfl) ?_
    refine lv_iconst (v := 3) hx hb dX9_next_161 (by decide) ?_
    refine lv_icmp_ge (tgt := 169) hx hb dX9_next_162 (by decide) (fun c162 => ?_) (fun c162 => ?_)
    · replace hf := ow_if_t c162 hf
      refine lv_iload_n hx hb dX9_next_169 rfl (lv_at hl 0 rfl) ?_
      refine lv_bipush (v := 9) hx hb dX9_next_170 (by decide) ?_
      refine lv_icmp_ge (tgt := 179) hx hb dX9_next_172 (by decide) (fun c172 => ?_) (fun c172 => ?_)
      · replace hf := ow_if_t c172 hf
        refine lv_iload_n hx hb dX9_next_179 rfl (lv_at hl 0 rfl) ?_
        refine lv_bipush (v := 12) hx hb dX9_next_180 (by decide) ?_
        refine lv_icmp_ne (tgt := 189) hx hb dX9_next_182 (by decide) (fun c182 => ?_) (fun c182 => ?_)
        · replace hf := ow_if_f c182 hf
          refine lv_iconst (v := 4) hx hb dX9_next_189 (by decide) ?_
          refine lv_iload_n hx hb dX9_next_190 rfl (lv_at hl 0 rfl) ?_
          refine lv_iadd hx hb dX9_next_191 ?_
          refine lv_bipush (v := 9) hx hb dX9_next_192 (by decide) ?_
          refine lv_isub hx hb dX9_next_194 ?_
          exact hJ195 r_155 (((4 : Int32) + r_155) - (9 : Int32)) σ_155 _ _ _ hf hW (lv_sub hl [1, 0] rfl)
        · replace hf := ow_if_t c182 hf
          refine lv_iconst (v := -1) hx hb dX9_next_185 (by decide) ?_
          refine lv_goto (tgt := 195) hx hb dX9_next_186 (by decide) ?_
          exact hJ195 r_155 (-1 : Int32) σ_155 _ _ _ hf hW (lv_sub hl [1, 0] rfl)
      · replace hf := ow_if_f c172 hf
        refine lv_iconst (v := 2) hx hb dX9_next_175 (by decide) ?_
        refine lv_goto (tgt := 195) hx hb dX9_next_176 (by decide) ?_
        exact hJ195 r_155 (2 : Int32) σ_155 _ _ _ hf hW (lv_sub hl [1, 0] rfl)
    · replace hf := ow_if_f c162 hf
      refine lv_iconst (v := 3) hx hb dX9_next_165 (by decide) ?_
      refine lv_goto (tgt := 195) hx hb dX9_next_166 (by decide) ?_
      exact hJ195 r_155 (3 : Int32) σ_155 _ _ _ hf hW (lv_sub hl [1, 0] rfl)
  have hJ103 : ∀ (fn : Nat), ∀ (σ : ow_S) (H : Heap) (locs : List Loc) (ls : Array Slot), L_X9_next_103 fu fn σ = some σr → ow_Wd Z 56 20 σ s H locs → lv_has ls 3 [(0, .ref (ow_ad Z 56))] → W p l e (headSpec wsX9_next { frames := 2, cells := 0, slots := 0, locals := 85 }).room s m args below meth c H locs 0 0 (MQ below (ow_Qv Z 56 20 σr) args s 0 0 (ow_A Z 56 20)) (F0 m 103 ls []) := by
    intro fn
    induction fn with
    | zero => intro σ H locs ls hf hW hl; simp [L_X9_next_103] at hf
    | succ fn ih =>
      intro σ H locs ls hf hW hl
      rw [L_X9_next_103] at hf
      refine lv_aload_n hx hb dX9_next_103 rfl (lv_at hl 0 rfl) ?_
      refine ow_getV (ci := 9) (C := RX9) (T := TX9) (N := 41) hx hb hts hown hG hW ow_i56 (by decide) rfl hinX9 24 (by decide) (fk := 0) rfl (hts (.fieldLink RX9 135 "FiftyOneCardsModel" "at" "I") (by decide +kernel)) (v := .int (σ.1 56 24)) rfl dX9_next_104 ?_
      refine lv_aload_n hx hb dX9_next_107 rfl (lv_at hl 0 rfl) ?_
      refine ow_getV (ci := 9) (C := RX9) (T := TX9) (N := 41) hx hb hts hown hG hW ow_i56 (by decide) rfl hinX9 8 (by decide) (fk := 0) rfl (hts (.fieldLink RX9 71 "FiftyOneCardsModel" "taped" "I") (by decide +kernel)) (v := .int (σ.1 56 8)) rfl dX9_next_108 ?_
      refine lv_icmp_ge (tgt := 146) hx hb dX9_next_111 (by decide) (fun c111 => ?_) (fun c111 => ?_)
      · replace hf := ow_if_t c111 hf
        exact hJ146 σ _ _ _ hf hW (lv_sub hl [0] rfl)
      · replace hf := ow_if_f c111 hf
        refine lv_aload_n hx hb dX9_next_114 rfl (lv_at hl 0 rfl) ?_
        refine ow_getV (ci := 9) (C := RX9) (T := TX9) (N := 41) hx hb hts hown hG hW ow_i56 (by decide) rfl hinX9 7 (by decide) (fk := 2) rfl (hts (.fieldLink RX9 26 "FiftyOneCardsModel" "tape" "[I") (by decide +kernel)) (v := .ref (ow_ad Z 61)) (ow_vR hW ow_i56.1 ow_i56.2.1 rfl) dX9_next_115 ?_
        refine lv_aload_n hx hb dX9_next_118 rfl (lv_at hl 0 rfl) ?_
        refine ow_getV (ci := 9) (C := RX9) (T := TX9) (N := 41) hx hb hts hown hG hW ow_i56 (by decide) rfl hinX9 24 (by decide) (fk := 0) rfl (hts (.fieldLink RX9 135 "FiftyOneCardsModel" "at" "I") (by decide +kernel)) (v := .int (σ.1 56 24)) rfl dX9_next_119 ?_
        obtain ⟨q122, hf⟩ := ow_ck_i hf
        refine ow_ild (q := (σ.1 56 24).toNatClampNeg) hx hb hG hW ow_i61 rfl q122 rfl dX9_next_122 ?_
        refine lv_bipush (v := 97) hx hb dX9_next_123 (by decide) ?_
        refine lv_bipush (v := 122) hx hb dX9_next_125 (by decide) ?_
        obtain ⟨r_127, σ_127, hc127, hf⟩ := ow_cl_i hf
        refine ow_callz (va_runS (As := [.int (σ.1 61 (σ.1 56 24).toNatClampNeg), .int (97 : Int32), .int (122 : Int32)]) (rest := []) ⟨hx, hb, hml, hown, hts⟩ (c_X9_in l Z fu (σ.1 61 (σ.1 56 24).toNatClampNeg) (97 : Int32) (122 : Int32) σ r_127 σ_127 hc127) (va_cwS 3 hts gX9_next_X9_in rfl rfl rfl (by decide +kernel) ⟨Nat.le_of_ble_eq_true rfl, Nat.le_of_ble_eq_true rfl⟩) (ow_preS hG hW) rfl rfl hl.1 rfl (lv_room (Nat.le_of_ble_eq_true rfl)) dX9_next_127 ⟨Nat.zero_le _, Nat.zero_le _⟩) hW (fun b127 H locs hW => ?_)
        refine lv_if_eq (tgt := 146) hx hb dX9_next_130 (by decide) (fun c130 => ?_) (fun c130 => ?_)
        · replace hf := ow_if_t c130 hf
          exact hJ146 σ_127 _ _ _ hf hW (lv_sub hl [0] rfl)
        · replace hf := ow_if_f c130 hf
          refine lv_aload_n hx hb dX9_next_133 rfl (lv_at hl 0 rfl) ?_
          refine lv_dup hx hb dX9_next_134 rfl ?_
          refine ow_getV (ci := 9) (C := RX9) (T := TX9) (N := 41) hx hb hts hown hG hW ow_i56 (by decide) rfl hinX9 24 (by decide) (fk := 0) rfl (hts (.fieldLink RX9 135 "FiftyOneCardsModel" "at" "I") (by decide +kernel)) (v := .int (σ_127.1 56 24)) rfl dX9_next_135 ?_
          refine lv_iconst (v := 1) hx hb dX9_next_138 (by decide) ?_
          refine lv_iadd hx hb dX9_next_139 ?_
          refine ow_putI (ci := 9) (C := RX9) (T := TX9) (N := 41) hx hb hts hown hG hW ow_i56 (by decide) rfl hinX9 tyX9 tyX9_ok nmX9 24 (by decide) rfl (hts (.fieldLink RX9 135 "FiftyOneCardsModel" "at" "I") (by decide +kernel)) rfl rfl rfl hf dX9_next_140 (fun σ_140 H locs hf hW => ?_)
          refine lv_goto (tgt := 103) hx hb dX9_next_143 (by decide) ?_
          exact ih σ_140 _ _ _ hf hW (lv_sub hl [0] rfl)
  have hJ52 : ∀ (σ : ow_S) (H : Heap) (locs : List Loc) (ls : Array Slot), L_X9_next_52 fu σ = some σr → ow_Wd Z 56 20 σ s H locs → lv_has ls 3 [(0, .ref (ow_ad Z 56))] → W p l e (headSpec wsX9_next { frames := 2, cells := 0, slots := 0, locals := 85 }).room s m args below meth c H locs 0 0 (MQ below (ow_Qv Z 56 20 σr) args s 0 0 (ow_A Z 56 20)) (F0 m 52 ls []) := by
    intro σ H locs ls hf hW hl
    unfold L_X9_next_52 at hf
    refine lv_aload_n hx hb dX9_next_52 rfl (lv_at hl 0 rfl) ?_
    refine lv_aload_n hx hb dX9_next_53 rfl (lv_at hl 0 rfl) ?_
    refine ow_getV (ci := 9) (C := RX9) (T := TX9) (N := 41) hx hb hts hown hG hW ow_i56 (by decide) rfl hinX9 24 (by decide) (fk := 0) rfl (hts (.fieldLink RX9 135 "FiftyOneCardsModel" "at" "I") (by decide +kernel)) (v := .int (σ.1 56 24)) rfl dX9_next_54 ?_
    refine ow_putI (ci := 9) (C := RX9) (T := TX9) (N := 41) hx hb hts hown hG hW ow_i56 (by decide) rfl hinX9 tyX9 tyX9_ok nmX9 25 (by decide) rfl (hts (.fieldLink RX9 138 "FiftyOneCardsModel" "begun" "I") (by decide +kernel)) rfl rfl rfl hf dX9_next_57 (fun σ_57 H locs hf hW => ?_)
    refine lv_aload_n hx hb dX9_next_60 rfl (lv_at hl 0 rfl) ?_
    refine lv_iconst (v := 0) hx hb dX9_next_61 (by decide) ?_
    refine ow_putI (ci := 9) (C := RX9) (T := TX9) (N := 41) hx hb hts hown hG hW ow_i56 (by decide) rfl hinX9 tyX9 tyX9_ok nmX9 26 (by decide) rfl (hts (.fieldLink RX9 141 "FiftyOneCardsModel" "token" "I") (by decide +kernel)) rfl rfl rfl hf dX9_next_62 (fun σ_62 H locs hf hW => ?_)
    refine lv_aload_n hx hb dX9_next_65 rfl (lv_at hl 0 rfl) ?_
    refine lv_iconst (v := 0) hx hb dX9_next_66 (by decide) ?_
    refine ow_putI (ci := 9) (C := RX9) (T := TX9) (N := 41) hx hb hts hown hG hW ow_i56 (by decide) rfl hinX9 tyX9 tyX9_ok nmX9 27 (by decide) rfl (hts (.fieldLink RX9 144 "FiftyOneCardsModel" "value" "I") (by decide +kernel)) rfl rfl rfl hf dX9_next_67 (fun σ_67 H locs hf hW => ?_)
    refine lv_aload_n hx hb dX9_next_70 rfl (lv_at hl 0 rfl) ?_
    refine ow_getV (ci := 9) (C := RX9) (T := TX9) (N := 41) hx hb hts hown hG hW ow_i56 (by decide) rfl hinX9 24 (by decide) (fk := 0) rfl (hts (.fieldLink RX9 135 "FiftyOneCardsModel" "at" "I") (by decide +kernel)) (v := .int (σ_67.1 56 24)) rfl dX9_next_71 ?_
    refine lv_aload_n hx hb dX9_next_74 rfl (lv_at hl 0 rfl) ?_
    refine ow_getV (ci := 9) (C := RX9) (T := TX9) (N := 41) hx hb hts hown hG hW ow_i56 (by decide) rfl hinX9 8 (by decide) (fk := 0) rfl (hts (.fieldLink RX9 71 "FiftyOneCardsModel" "taped" "I") (by decide +kernel)) (v := .int (σ_67.1 56 8)) rfl dX9_next_75 ?_
    refine lv_icmp_ne (tgt := 82) hx hb dX9_next_78 (by decide) (fun c78 => ?_) (fun c78 => ?_)
    · replace hf := ow_if_f c78 hf
      refine lv_aload_n hx hb dX9_next_82 rfl (lv_at hl 0 rfl) ?_
      refine ow_getV (ci := 9) (C := RX9) (T := TX9) (N := 41) hx hb hts hown hG hW ow_i56 (by decide) rfl hinX9 7 (by decide) (fk := 2) rfl (hts (.fieldLink RX9 26 "FiftyOneCardsModel" "tape" "[I") (by decide +kernel)) (v := .ref (ow_ad Z 61)) (ow_vR hW ow_i56.1 ow_i56.2.1 rfl) dX9_next_83 ?_
      refine lv_aload_n hx hb dX9_next_86 rfl (lv_at hl 0 rfl) ?_
      refine ow_getV (ci := 9) (C := RX9) (T := TX9) (N := 41) hx hb hts hown hG hW ow_i56 (by decide) rfl hinX9 24 (by decide) (fk := 0) rfl (hts (.fieldLink RX9 135 "FiftyOneCardsModel" "at" "I") (by decide +kernel)) (v := .int (σ_67.1 56 24)) rfl dX9_next_87 ?_
      obtain ⟨q90, hf⟩ := ow_ck_i hf
      refine ow_ild (q := (σ_67.1 56 24).toNatClampNeg) hx hb hG hW ow_i61 rfl q90 rfl dX9_next_90 ?_
      refine ow_topi hf (fun x1_91 hf => ?_)
      refine lv_istore_n (lv' := [(1, .int x1_91), (0, .ref (ow_ad Z 56))]) hx hb dX9_next_91 rfl hl (by decide) rfl (fun ls hl => ?_)
      refine lv_iload_n hx hb dX9_next_92 rfl (lv_at hl 0 rfl) ?_
      refine lv_bipush (v := 97) hx hb dX9_next_93 (by decide) ?_
      refine lv_bipush (v := 122) hx hb dX9_next_95 (by decide) ?_
      obtain ⟨r_97, σ_97, hc97, hf⟩ := ow_cl_i hf
      refine ow_callz (va_runS (As := [.int x1_91, .int (97 : Int32), .int (122 : Int32)]) (rest := []) ⟨hx, hb, hml, hown, hts⟩ (c_X9_in l Z fu x1_91 (97 : Int32) (122 : Int32) σ_67 r_97 σ_97 hc97) (va_cwS 3 hts gX9_next_X9_in rfl rfl rfl (by decide +kernel) ⟨Nat.le_of_ble_eq_true rfl, Nat.le_of_ble_eq_true rfl⟩) (ow_preS hG hW) rfl rfl hl.1 rfl (lv_room (Nat.le_of_ble_eq_true rfl)) dX9_next_97 ⟨Nat.zero_le _, Nat.zero_le _⟩) hW (fun b97 H locs hW => ?_)
      refine lv_if_eq (tgt := 217) hx hb dX9_next_100 (by decide) (fun c100 => ?_) (fun c100 => ?_)
      · replace hf := ow_if_t c100 hf
        refine lv_iload_n hx hb dX9_next_217 rfl (lv_at hl 0 rfl) ?_
        refine lv_bipush (v := 48) hx hb dX9_next_218 (by decide) ?_
        refine lv_bipush (v := 57) hx hb dX9_next_220 (by decide) ?_
        obtain ⟨r_222, σ_222, hc222, hf⟩ := ow_cl_i hf
        refine ow_callz (va_runS (As := [.int x1_91, .int (48 : Int32), .int (57 : Int32)]) (rest := []) ⟨hx, hb, hml, hown, hts⟩ (c_X9_in l Z fu x1_91 (48 : Int32) (57 : Int32) σ_97 r_222 σ_222 hc222) (va_cwS 3 hts gX9_next_X9_in rfl rfl rfl (by decide +kernel) ⟨Nat.le_of_ble_eq_true rfl, Nat.le_of_ble_eq_true rfl⟩) (ow_preS hG hW) rfl rfl hl.1 rfl (lv_room (Nat.le_of_ble_eq_true rfl)) dX9_next_222 ⟨Nat.zero_le _, Nat.zero_le _⟩) hW (fun b222 H locs hW => ?_)
        refine lv_if_eq (tgt := 326) hx hb dX9_next_225 (by decide) (fun c225 => ?_) (fun c225 => ?_)
        · replace hf := ow_if_t c225 hf
          refine lv_iload_n hx hb dX9_next_326 rfl (lv_at hl 0 rfl) ?_
          refine lv_bipush (v := 40) hx hb dX9_next_327 (by decide) ?_
          refine lv_icmp_eq (tgt := 374) hx hb dX9_next_329 (by decide) (fun c329 => ?_) (fun c329 => ?_)
          · replace hf := ow_if_t c329 hf
            exact hJ374 x1_91 σ_222 _ _ _ hf hW (lv_sub hl [1, 0] rfl)
          · replace hf := ow_if_f c329 hf
            refine lv_iload_n hx hb dX9_next_332 rfl (lv_at hl 0 rfl) ?_
            refine lv_bipush (v := 41) hx hb dX9_next_333 (by decide) ?_
            refine lv_icmp_eq (tgt := 374) hx hb dX9_next_335 (by decide) (fun c335 => ?_) (fun c335 => ?_)
            · replace hf := ow_if_t c335 hf
              exact hJ374 x1_91 σ_222 _ _ _ hf hW (lv_sub hl [1, 0] rfl)
            · replace hf := ow_if_f c335 hf
              refine lv_iload_n hx hb dX9_next_338 rfl (lv_at hl 0 rfl) ?_
              refine lv_bipush (v := 59) hx hb dX9_next_339 (by decide) ?_
              refine lv_icmp_eq (tgt := 374) hx hb dX9_next_341 (by decide) (fun c341 => ?_) (fun c341 => ?_)
              · replace hf := ow_if_t c341 hf
                exact hJ374 x1_91 σ_222 _ _ _ hf hW (lv_sub hl [1, 0] rfl)
              · replace hf := ow_if_f c341 hf
                refine lv_iload_n hx hb dX9_next_344 rfl (lv_at hl 0 rfl) ?_
                refine lv_bipush (v := 43) hx hb dX9_next_345 (by decide) ?_
                refine lv_icmp_eq (tgt := 374) hx hb dX9_next_347 (by decide) (fun c347 => ?_) (fun c347 => ?_)
                · replace hf := ow_if_t c347 hf
                  exact hJ374 x1_91 σ_222 _ _ _ hf hW (lv_sub hl [1, 0] rfl)
                · replace hf := ow_if_f c347 hf
                  refine lv_iload_n hx hb dX9_next_350 rfl (lv_at hl 0 rfl) ?_
                  refine lv_bipush (v := 45) hx hb dX9_next_351 (by decide) ?_
                  refine lv_icmp_eq (tgt := 374) hx hb dX9_next_353 (by decide) (fun c353 => ?_) (fun c353 => ?_)
                  · replace hf := ow_if_t c353 hf
                    exact hJ374 x1_91 σ_222 _ _ _ hf hW (lv_sub hl [1, 0] rfl)
                  · replace hf := ow_if_f c353 hf
                    refine lv_iload_n hx hb dX9_next_356 rfl (lv_at hl 0 rfl) ?_
                    refine lv_bipush (v := 42) hx hb dX9_next_357 (by decide) ?_
                    refine lv_icmp_eq (tgt := 374) hx hb dX9_next_359 (by decide) (fun c359 => ?_) (fun c359 => ?_)
                    · replace hf := ow_if_t c359 hf
                      exact hJ374 x1_91 σ_222 _ _ _ hf hW (lv_sub hl [1, 0] rfl)
                    · replace hf := ow_if_f c359 hf
                      refine lv_iload_n hx hb dX9_next_362 rfl (lv_at hl 0 rfl) ?_
                      refine lv_bipush (v := 60) hx hb dX9_next_363 (by decide) ?_
                      refine lv_icmp_eq (tgt := 374) hx hb dX9_next_365 (by decide) (fun c365 => ?_) (fun c365 => ?_)
                      · replace hf := ow_if_t c365 hf
                        exact hJ374 x1_91 σ_222 _ _ _ hf hW (lv_sub hl [1, 0] rfl)
                      · replace hf := ow_if_f c365 hf
                        refine lv_iload_n hx hb dX9_next_368 rfl (lv_at hl 0 rfl) ?_
                        refine lv_bipush (v := 61) hx hb dX9_next_369 (by decide) ?_
                        refine lv_icmp_ne (tgt := 378) hx hb dX9_next_371 (by decide) (fun c371 => ?_) (fun c371 => ?_)
                        · replace hf := ow_if_f c371 hf
                          refine lv_iconst (v := 0) hx hb dX9_next_378 (by decide) ?_
                          exact hJ379 x1_91 (0 : Int32) σ_222 _ _ _ hf hW (lv_sub hl [1, 0] rfl)
                        · replace hf := ow_if_t c371 hf
                          exact hJ374 x1_91 σ_222 _ _ _ hf hW (lv_sub hl [1, 0] rfl)
        · replace hf := ow_if_f c225 hf
          refine lv_iconst (v := 0) hx hb dX9_next_228 (by decide) ?_
          refine lv_istore_n (lv' := [(2, .int (0 : Int32)), (1, .int x1_91), (0, .ref (ow_ad Z 56))]) hx hb dX9_next_229 rfl hl (by decide) rfl (fun ls hl => ?_)
          exact hJ230 fu (0 : Int32) σ_222 _ _ _ hf hW (lv_sub hl [2, 0] rfl)
      · replace hf := ow_if_f c100 hf
        exact hJ103 fu σ_97 _ _ _ hf hW (lv_sub hl [1] rfl)
    · replace hf := ow_if_t c78 hf
      exact ow_vret hx hb hr hW hf dX9_next_81 hlocks
  have hJ39 : ∀ (k0 : ow_S → Option (ow_S)) (hk0 : ∀ (σ : ow_S) (H : Heap) (locs : List Loc) (ls : Array Slot), k0 σ = some σr → ow_Wd Z 56 20 σ s H locs → lv_has ls 3 [(0, .ref (ow_ad Z 56))] → W p l e (headSpec wsX9_next { frames := 2, cells := 0, slots := 0, locals := 85 }).room s m args below meth c H locs 0 0 (MQ below (ow_Qv Z 56 20 σr) args s 0 0 (ow_A Z 56 20)) (F0 m 0 ls [])), ∀ (σ : ow_S) (H : Heap) (locs : List Loc) (ls : Array Slot), L_X9_next_39 fu k0 σ = some σr → ow_Wd Z 56 20 σ s H locs → lv_has ls 3 [(0, .ref (ow_ad Z 56))] → W p l e (headSpec wsX9_next { frames := 2, cells := 0, slots := 0, locals := 85 }).room s m args below meth c H locs 0 0 (MQ below (ow_Qv Z 56 20 σr) args s 0 0 (ow_A Z 56 20)) (F0 m 39 ls []) := by
    intro k0 hk0 σ H locs ls hf hW hl
    unfold L_X9_next_39 at hf
    refine lv_aload_n hx hb dX9_next_39 rfl (lv_at hl 0 rfl) ?_
    refine lv_dup hx hb dX9_next_40 rfl ?_
    refine ow_getV (ci := 9) (C := RX9) (T := TX9) (N := 41) hx hb hts hown hG hW ow_i56 (by decide) rfl hinX9 24 (by decide) (fk := 0) rfl (hts (.fieldLink RX9 135 "FiftyOneCardsModel" "at" "I") (by decide +kernel)) (v := .int (σ.1 56 24)) rfl dX9_next_41 ?_
    refine lv_iconst (v := 1) hx hb dX9_next_44 (by decide) ?_
    refine lv_iadd hx hb dX9_next_45 ?_
    refine ow_putI (ci := 9) (C := RX9) (T := TX9) (N := 41) hx hb hts hown hG hW ow_i56 (by decide) rfl hinX9 tyX9 tyX9_ok nmX9 24 (by decide) rfl (hts (.fieldLink RX9 135 "FiftyOneCardsModel" "at" "I") (by decide +kernel)) rfl rfl rfl hf dX9_next_46 (fun σ_46 H locs hf hW => ?_)
    refine lv_goto (tgt := 0) hx hb dX9_next_49 (by decide) ?_
    exact hk0 σ_46 _ _ _ hf hW (lv_sub hl [0] rfl)
  have hJ0 : ∀ (fn : Nat), ∀ (σ : ow_S) (H : Heap) (locs : List Loc) (ls : Array Slot), L_X9_next_0 fu fn σ = some σr → ow_Wd Z 56 20 σ s H locs → lv_has ls 3 [(0, .ref (ow_ad Z 56))] → W p l e (headSpec wsX9_next { frames := 2, cells := 0, slots := 0, locals := 85 }).room s m args below meth c H locs 0 0 (MQ below (ow_Qv Z 56 20 σr) args s 0 0 (ow_A Z 56 20)) (F0 m 0 ls []) := by
    intro fn
    induction fn with
    | zero => intro σ H locs ls hf hW hl; simp [L_X9_next_0] at hf
    | succ fn ih =>
      intro σ H locs ls hf hW hl
      rw [L_X9_next_0] at hf
      refine lv_aload_n hx hb dX9_next_0 rfl (lv_at hl 0 rfl) ?_
      refine ow_getV (ci := 9) (C := RX9) (T := TX9) (N := 41) hx hb hts hown hG hW ow_i56 (by decide) rfl hinX9 24 (by decide) (fk := 0) rfl (hts (.fieldLink RX9 135 "FiftyOneCardsModel" "at" "I") (by decide +kernel)) (v := .int (σ.1 56 24)) rfl dX9_next_1 ?_
      refine lv_aload_n hx hb dX9_next_4 rfl (lv_at hl 0 rfl) ?_
      refine ow_getV (ci := 9) (C := RX9) (T := TX9) (N := 41) hx hb hts hown hG hW ow_i56 (by decide) rfl hinX9 8 (by decide) (fk := 0) rfl (hts (.fieldLink RX9 71 "FiftyOneCardsModel" "taped" "I") (by decide +kernel)) (v := .int (σ.1 56 8)) rfl dX9_next_5 ?_
      refine lv_icmp_ge (tgt := 52) hx hb dX9_next_8 (by decide) (fun c8 => ?_) (fun c8 => ?_)
      · replace hf := ow_if_t c8 hf
        exact hJ52 σ _ _ _ hf hW (lv_sub hl [0] rfl)
      · replace hf := ow_if_f c8 hf
        refine lv_aload_n hx hb dX9_next_11 rfl (lv_at hl 0 rfl) ?_
        refine ow_getV (ci := 9) (C := RX9) (T := TX9) (N := 41) hx hb hts hown hG hW ow_i56 (by decide) rfl hinX9 7 (by decide) (fk := 2) rfl (hts (.fieldLink RX9 26 "FiftyOneCardsModel" "tape" "[I") (by decide +kernel)) (v := .ref (ow_ad Z 61)) (ow_vR hW ow_i56.1 ow_i56.2.1 rfl) dX9_next_12 ?_
        refine lv_aload_n hx hb dX9_next_15 rfl (lv_at hl 0 rfl) ?_
        refine ow_getV (ci := 9) (C := RX9) (T := TX9) (N := 41) hx hb hts hown hG hW ow_i56 (by decide) rfl hinX9 24 (by decide) (fk := 0) rfl (hts (.fieldLink RX9 135 "FiftyOneCardsModel" "at" "I") (by decide +kernel)) (v := .int (σ.1 56 24)) rfl dX9_next_16 ?_
        obtain ⟨q19, hf⟩ := ow_ck_i hf
        refine ow_ild (q := (σ.1 56 24).toNatClampNeg) hx hb hG hW ow_i61 rfl q19 rfl dX9_next_19 ?_
        refine lv_bipush (v := 32) hx hb dX9_next_20 (by decide) ?_
        refine lv_icmp_eq (tgt := 39) hx hb dX9_next_22 (by decide) (fun c22 => ?_) (fun c22 => ?_)
        · replace hf := ow_if_t c22 hf
          exact hJ39 (L_X9_next_0 fu fn) ih σ _ _ _ hf hW (lv_sub hl [0] rfl)
        · replace hf := ow_if_f c22 hf
          refine lv_aload_n hx hb dX9_next_25 rfl (lv_at hl 0 rfl) ?_
          refine ow_getV (ci := 9) (C := RX9) (T := TX9) (N := 41) hx hb hts hown hG hW ow_i56 (by decide) rfl hinX9 7 (by decide) (fk := 2) rfl (hts (.fieldLink RX9 26 "FiftyOneCardsModel" "tape" "[I") (by decide +kernel)) (v := .ref (ow_ad Z 61)) (ow_vR hW ow_i56.1 ow_i56.2.1 rfl) dX9_next_26 ?_
          refine lv_aload_n hx hb dX9_next_29 rfl (lv_at hl 0 rfl) ?_
          refine ow_getV (ci := 9) (C := RX9) (T := TX9) (N := 41) hx hb hts hown hG hW ow_i56 (by decide) rfl hinX9 24 (by decide) (fk := 0) rfl (hts (.fieldLink RX9 135 "FiftyOneCardsModel" "at" "I") (by decide +kernel)) (v := .int (σ.1 56 24)) rfl dX9_next_30 ?_
          obtain ⟨q33, hf⟩ := ow_ck_i hf
          refine ow_ild (q := (σ.1 56 24).toNatClampNeg) hx hb hG hW ow_i61 rfl q33 rfl dX9_next_33 ?_
          refine lv_bipush (v := 10) hx hb dX9_next_34 (by decide) ?_
          refine lv_icmp_ne (tgt := 52) hx hb dX9_next_36 (by decide) (fun c36 => ?_) (fun c36 => ?_)
          · replace hf := ow_if_f c36 hf
            exact hJ52 σ _ _ _ hf hW (lv_sub hl [0] rfl)
          · replace hf := ow_if_t c36 hf
            exact hJ39 (L_X9_next_0 fu fn) ih σ _ _ _ hf hW (lv_sub hl [0] rfl)
  have hl := lv_entry ([.ref (ow_ad Z 56)]) (n := 3) (Nat.le_of_ble_eq_true rfl)
  refine W.eq (g2 := F0 m 0 ((lg_sl ([.ref (ow_ad Z 56)]) ++ List.replicate (3 - (lg_sl ([.ref (ow_ad Z 56)])).length) Slot.unset).toArray) []) (by rw [hav]; exact lg_entry_eq _ _ _) ?_
  generalize (lg_sl ([.ref (ow_ad Z 56)]) ++ List.replicate (3 - (lg_sl ([.ref (ow_ad Z 56)])).length) Slot.unset).toArray = ls at hl ⊢
  have hl : lv_has ls 3 [(0, .ref (ow_ad Z 56))] := hl
  unfold f_X9_next at hf
  exact hJ0 fu σ _ _ _ hf hW (lv_sub hl [0] rfl)
set_option maxHeartbeats 40000000 in
set_option maxRecDepth 100000 in
theorem c_X9_rank (l : Launch) (Z : ow_Z) (fu : Nat) (a1 : Int32) (σ : ow_S) (rr : Int32) (σr : ow_S) (hf : f_X9_rank fu a1 σ = some (rr, σr)) : Met l yX9_rank wsX9_rank { frames := 1, cells := 0, slots := 0, locals := 60 } (ow_Pc Z 56 20 [.int a1] σ) (ow_Qi Z 56 20 rr σr) 0 0 (ow_A Z 56 20) := by
  refine Met.ofW (cc := cX9_rank) (maxL := 1) (ret := (some .int)) (by decide) rfl ?_
  intro p e s m args below meth c s₁ B hml hv
  obtain ⟨hav, hB⟩ := hv
  obtain ⟨hG, hW⟩ := ow_begin hB
  have hx := B.exec
  have hb := B.bytes
  have hr := B.returns
  have hts := atoms_spec (ws := wsX9_rank) B.pre
  have hown : s.vm.findClass RX9 = some m.cls := findClass_of_methodNamed B.named
  have hlocks := B.notSynchronized
  have hl := lv_entry ([.int a1]) (n := 1) (Nat.le_of_ble_eq_true rfl)
  refine W.eq (g2 := F0 m 0 ((lg_sl ([.int a1]) ++ List.replicate (1 - (lg_sl ([.int a1])).length) Slot.unset).toArray) []) (by rw [hav]; exact lg_entry_eq _ _ _) ?_
  generalize (lg_sl ([.int a1]) ++ List.replicate (1 - (lg_sl ([.int a1])).length) Slot.unset).toArray = ls at hl ⊢
  have hl : lv_has ls 1 [(0, .int a1)] := hl
  unfold f_X9_rank at hf
  refine lv_iload_n hx hb dX9_rank_0 rfl (lv_at hl 0 rfl) ?_
  refine lv_if_ne (tgt := 8) hx hb dX9_rank_1 (by decide) (fun c1 => ?_) (fun c1 => ?_)
  · replace hf := ow_if_f c1 hf
    refine lv_iload_n hx hb dX9_rank_8 rfl (lv_at hl 0 rfl) ?_
    refine lv_bipush (v := 11) hx hb dX9_rank_9 (by decide) ?_
    refine lv_icmp_ne (tgt := 18) hx hb dX9_rank_11 (by decide) (fun c11 => ?_) (fun c11 => ?_)
    · replace hf := ow_if_f c11 hf
      refine lv_iload_n hx hb dX9_rank_18 rfl (lv_at hl 0 rfl) ?_
      refine lv_bipush (v := 12) hx hb dX9_rank_19 (by decide) ?_
      refine lv_icmp_ne (tgt := 28) hx hb dX9_rank_21 (by decide) (fun c21 => ?_) (fun c21 => ?_)
      · replace hf := ow_if_f c21 hf
        refine lv_iload_n hx hb dX9_rank_28 rfl (lv_at hl 0 rfl) ?_
        refine lv_bipush (v := 13) hx hb dX9_rank_29 (by decide) ?_
        refine lv_icmp_ne (tgt := 38) hx hb dX9_rank_31 (by decide) (fun c31 => ?_) (fun c31 => ?_)
        · replace hf := ow_if_f c31 hf
          refine lv_iload_n hx hb dX9_rank_38 rfl (lv_at hl 0 rfl) ?_
          refine lv_bipush (v := 15) hx hb dX9_rank_39 (by decide) ?_
          refine lv_icmp_gt (tgt := 48) hx hb dX9_rank_41 (by decide) (fun c41 => ?_) (fun c41 => ?_)
          · replace hf := ow_if_t c41 hf
            refine lv_iload_n hx hb dX9_rank_48 rfl (lv_at hl 0 rfl) ?_
            refine lv_bipush (v := 17) hx hb dX9_rank_49 (by decide) ?_
            refine lv_icmp_gt (tgt := 58) hx hb dX9_rank_51 (by decide) (fun c51 => ?_) (fun c51 => ?_)
            · replace hf := ow_if_t c51 hf
              refine lv_iload_n hx hb dX9_rank_58 rfl (lv_at hl 0 rfl) ?_
              refine lv_bipush (v := 18) hx hb dX9_rank_59 (by decide) ?_
              refine lv_icmp_ne (tgt := 69) hx hb dX9_rank_61 (by decide) (fun c61 => ?_) (fun c61 => ?_)
              · replace hf := ow_if_f c61 hf
                refine lv_bipush (v := 7) hx hb dX9_rank_69 (by decide) ?_
                exact ow_iret hx hb hr hW hf dX9_rank_71 hlocks
              · replace hf := ow_if_t c61 hf
                refine lv_bipush (v := 6) hx hb dX9_rank_64 (by decide) ?_
                refine lv_goto (tgt := 71) hx hb dX9_rank_66 (by decide) ?_
                exact ow_iret hx hb hr hW hf dX9_rank_71 hlocks
            · replace hf := ow_if_f c51 hf
              refine lv_iconst (v := 5) hx hb dX9_rank_54 (by decide) ?_
              refine lv_goto (tgt := 71) hx hb dX9_rank_55 (by decide) ?_
              exact ow_iret hx hb hr hW hf dX9_rank_71 hlocks
          · replace hf := ow_if_f c41 hf
            refine lv_iconst (v := 4) hx hb dX9_rank_44 (by decide) ?_
            refine lv_goto (tgt := 71) hx hb dX9_rank_45 (by decide) ?_
            exact ow_iret hx hb hr hW hf dX9_rank_71 hlocks
        · replace hf := ow_if_t c31 hf
          refine lv_iconst (v := 3) hx hb dX9_rank_34 (by decide) ?_
          refine lv_goto (tgt := 71) hx hb dX9_rank_35 (by decide) ?_
          exact ow_iret hx hb hr hW hf dX9_rank_71 hlocks
      · replace hf := ow_if_t c21 hf
        refine lv_iconst (v := 2) hx hb dX9_rank_24 (by decide) ?_
        refine lv_goto (tgt := 71) hx hb dX9_rank_25 (by decide) ?_
        exact ow_iret hx hb hr hW hf dX9_rank_71 hlocks
    · replace hf := ow_if_t c11 hf
      refine lv_iconst (v := 1) hx hb dX9_rank_14 (by decide) ?_
      refine lv_goto (tgt := 71) hx hb dX9_rank_15 (by decide) ?_
      exact ow_iret hx hb hr hW hf dX9_rank_71 hlocks
  · replace hf := ow_if_t c1 hf
    refine lv_iconst (v := 0) hx hb dX9_rank_4 (by decide) ?_
    refine lv_goto (tgt := 71) hx hb dX9_rank_5 (by decide) ?_
    exact ow_iret hx hb hr hW hf dX9_rank_71 hlocks
set_option maxHeartbeats 40000000 in
set_option maxRecDepth 100000 in
theorem c_X9_puts (l : Launch) (Z : ow_Z) (fu : Nat) (a1 : Int32) (σ : ow_S) (σr : ow_S) (hf : f_X9_puts fu a1 σ = some σr) : Met l yX9_puts wsX9_puts { frames := 1, cells := 0, slots := 0, locals := 60 } (ow_Pc Z 56 20 [.ref (ow_ad Z 56), .int a1] σ) (ow_Qv Z 56 20 σr) 0 0 (ow_A Z 56 20) := by
  refine Met.ofW (cc := cX9_puts) (maxL := 2) (ret := none) (by decide) rfl ?_
  intro p e s m args below meth c s₁ B hml hv
  obtain ⟨hav, hB⟩ := hv
  obtain ⟨hG, hW⟩ := ow_begin hB
  have hx := B.exec
  have hb := B.bytes
  have hr := B.returns
  have hts := atoms_spec (ws := wsX9_puts) B.pre
  have hown : s.vm.findClass RX9 = some m.cls := findClass_of_methodNamed B.named
  have hlocks := B.notSynchronized
  have hinX9 : ∀ w ∈ wsX90, w ∈ wsX9_puts := by decide +kernel
  have hl := lv_entry ([.ref (ow_ad Z 56), .int a1]) (n := 2) (Nat.le_of_ble_eq_true rfl)
  refine W.eq (g2 := F0 m 0 ((lg_sl ([.ref (ow_ad Z 56), .int a1]) ++ List.replicate (2 - (lg_sl ([.ref (ow_ad Z 56), .int a1])).length) Slot.unset).toArray) []) (by rw [hav]; exact lg_entry_eq _ _ _) ?_
  generalize (lg_sl ([.ref (ow_ad Z 56), .int a1]) ++ List.replicate (2 - (lg_sl ([.ref (ow_ad Z 56), .int a1])).length) Slot.unset).toArray = ls at hl ⊢
  have hl : lv_has ls 2 [(0, .ref (ow_ad Z 56)), (1, .int a1)] := hl
  unfold f_X9_puts at hf
  refine lv_aload_n hx hb dX9_puts_0 rfl (lv_at hl 0 rfl) ?_
  refine ow_getV (ci := 9) (C := RX9) (T := TX9) (N := 41) hx hb hts hown hG hW ow_i56 (by decide) rfl hinX9 9 (by decide) (fk := 2) rfl (hts (.fieldLink RX9 29 "FiftyOneCardsModel" "codes" "[I") (by decide +kernel)) (v := .ref (ow_ad Z 62)) (ow_vR hW ow_i56.1 ow_i56.2.1 rfl) dX9_puts_1 ?_
  refine lv_sipush (v := 200) hx hb dX9_puts_4 (by decide) ?_
  refine lv_aload_n hx hb dX9_puts_7 rfl (lv_at hl 0 rfl) ?_
  refine ow_getV (ci := 9) (C := RX9) (T := TX9) (N := 41) hx hb hts hown hG hW ow_i56 (by decide) rfl hinX9 11 (by decide) (fk := 0) rfl (hts (.fieldLink RX9 88 "FiftyOneCardsModel" "texts" "I") (by decide +kernel)) (v := .int (σ.1 56 11)) rfl dX9_puts_8 ?_
  refine lv_imul hx hb dX9_puts_11 ?_
  refine lv_aload_n hx hb dX9_puts_12 rfl (lv_at hl 0 rfl) ?_
  refine ow_getV (ci := 9) (C := RX9) (T := TX9) (N := 41) hx hb hts hown hG hW ow_i56 (by decide) rfl hinX9 32 (by decide) (fk := 0) rfl (hts (.fieldLink RX9 151 "FiftyOneCardsModel" "out" "I") (by decide +kernel)) (v := .int (σ.1 56 32)) rfl dX9_puts_13 ?_
  refine lv_iadd hx hb dX9_puts_16 ?_
  refine lv_iload_n hx hb dX9_puts_17 rfl (lv_at hl 1 rfl) ?_
  obtain ⟨q18, hf⟩ := ow_ck_i hf
  refine ow_ist (q := (((200 : Int32) * (σ.1 56 11)) + (σ.1 56 32)).toNatClampNeg) hx hb hG hW ow_i62 rfl q18 rfl hf dX9_puts_18 (fun σ_18 H locs hf hW => ?_)
  refine lv_aload_n hx hb dX9_puts_19 rfl (lv_at hl 0 rfl) ?_
  refine lv_dup hx hb dX9_puts_20 rfl ?_
  refine ow_getV (ci := 9) (C := RX9) (T := TX9) (N := 41) hx hb hts hown hG hW ow_i56 (by decide) rfl hinX9 32 (by decide) (fk := 0) rfl (hts (.fieldLink RX9 151 "FiftyOneCardsModel" "out" "I") (by decide +kernel)) (v := .int (σ_18.1 56 32)) rfl dX9_puts_21 ?_
  refine lv_iconst (v := 1) hx hb dX9_puts_24 (by decide) ?_
  refine lv_iadd hx hb dX9_puts_25 ?_
  refine ow_putI (ci := 9) (C := RX9) (T := TX9) (N := 41) hx hb hts hown hG hW ow_i56 (by decide) rfl hinX9 tyX9 tyX9_ok nmX9 32 (by decide) rfl (hts (.fieldLink RX9 151 "FiftyOneCardsModel" "out" "I") (by decide +kernel)) rfl rfl rfl hf dX9_puts_26 (fun σ_26 H locs hf hW => ?_)
  exact ow_vret hx hb hr hW hf dX9_puts_29 hlocks
set_option maxHeartbeats 40000000 in
set_option maxRecDepth 100000 in
theorem c_X9_unwinds (l : Launch) (Z : ow_Z) (fu : Nat) (a1 : Int32) (σ : ow_S) (σr : ow_S) (hf : f_X9_unwinds fu a1 σ = some σr) : Met l yX9_unwinds wsX9_unwinds { frames := 2, cells := 0, slots := 0, locals := 81 } (ow_Pc Z 56 20 [.ref (ow_ad Z 56), .int a1] σ) (ow_Qv Z 56 20 σr) 0 0 (ow_A Z 56 20) := by
  refine Met.ofW (cc := cX9_unwinds) (maxL := 3) (ret := none) (by decide) rfl ?_
  intro p e s m args below meth c s₁ B hml hv
  obtain ⟨hav, hB⟩ := hv
  obtain ⟨hG, hW⟩ := ow_begin hB
  have hx := B.exec
  have hb := B.bytes
  have hr := B.returns
  have hts := atoms_spec (ws := wsX9_unwinds) B.pre
  have hown : s.vm.findClass RX9 = some m.cls := findClass_of_methodNamed B.named
  have hlocks := B.notSynchronized
  have hinX9 : ∀ w ∈ wsX90, w ∈ wsX9_unwinds := by decide +kernel
  have hJ67 : ∀ (k0 : Int32 → ow_S → Option (ow_S)) (hk0 : ∀ (x1 : Int32) (σ : ow_S) (H : Heap) (locs : List Loc) (ls : Array Slot), k0 x1 σ = some σr → ow_Wd Z 56 20 σ s H locs → lv_has ls 3 [(0, .ref (ow_ad Z 56)), (1, .int x1)] → W p l e (headSpec wsX9_unwinds { frames := 2, cells := 0, slots := 0, locals := 81 }).room s m args below meth c H locs 0 0 (MQ below (ow_Qv Z 56 20 σr) args s 0 0 (ow_A Z 56 20)) (F0 m 0 ls [])), ∀ (x1 : Int32) (x2 : Int32) (s1 : Int32) (s2 : Int32) (σ : ow_S) (H : Heap) (locs : List Loc) (ls : Array Slot), L_X9_unwinds_67 fu k0 x1 x2 s1 s2 σ = some σr → ow_Wd Z 56 20 σ s H locs → lv_has ls 3 [(0, .ref (ow_ad Z 56)), (1, .int x1), (2, .int x2)] → W p l e (headSpec wsX9_unwinds { frames := 2, cells := 0, slots := 0, locals := 81 }).room s m args below meth c H locs 0 0 (MQ below (ow_Qv Z 56 20 σr) args s 0 0 (ow_A Z 56 20)) (F0 m 67 ls [.int s2, .int s1, .ref (ow_ad Z 56)]) := by
    intro k0 hk0 x1 x2 s1 s2 σ H locs ls hf hW hl
    unfold L_X9_unwinds_67 at hf
    refine lv_isub hx hb dX9_unwinds_67 ?_
    refine ow_putI (ci := 9) (C := RX9) (T := TX9) (N := 41) hx hb hts hown hG hW ow_i56 (by decide) rfl hinX9 tyX9 tyX9_ok nmX9 31 (by decide) rfl (hts (.fieldLink RX9 160 "FiftyOneCardsModel" "opens" "I") (by decide +kernel)) rfl rfl rfl hf dX9_unwinds_68 (fun σ_68 H locs hf hW => ?_)
    refine lv_aload_n hx hb dX9_unwinds_71 rfl (lv_at hl 0 rfl) ?_
    refine lv_iload_n hx hb dX9_unwinds_72 rfl (lv_at hl 2 rfl) ?_
    obtain ⟨σ_73, hc73, hf⟩ := ow_cv_i hf
    refine ow_callv (va_runV (As := [.int x2]) (rest := []) ⟨hx, hb, hml, hown, hts⟩ (c_X9_puts l Z fu x2 σ_68 σ_73  hc73) (cwV 1 hts gX9_unwinds_X9_puts rfl rfl rfl (by decide +kernel) ⟨Nat.le_of_ble_eq_true rfl, Nat.le_of_ble_eq_true rfl⟩) (ow_preV hG hW ow_i56 (by decide) rfl) rfl rfl hl.1 rfl (lv_room (Nat.le_of_ble_eq_true rfl)) dX9_unwinds_73 ⟨Nat.zero_le _, Nat.zero_le _⟩) hW (fun H locs hW => ?_)
    refine lv_goto (tgt := 0) hx hb dX9_unwinds_76 (by decide) ?_
    exact hk0 x1 σ_73 _ _ _ hf hW (lv_sub hl [0, 1] rfl)
  have hJ62 : ∀ (k0 : Int32 → ow_S → Option (ow_S)) (hk0 : ∀ (x1 : Int32) (σ : ow_S) (H : Heap) (locs : List Loc) (ls : Array Slot), k0 x1 σ = some σr → ow_Wd Z 56 20 σ s H locs → lv_has ls 3 [(0, .ref (ow_ad Z 56)), (1, .int x1)] → W p l e (headSpec wsX9_unwinds { frames := 2, cells := 0, slots := 0, locals := 81 }).room s m args below meth c H locs 0 0 (MQ below (ow_Qv Z 56 20 σr) args s 0 0 (ow_A Z 56 20)) (F0 m 0 ls [])), ∀ (x1 : Int32) (x2 : Int32) (s1 : Int32) (σ : ow_S) (H : Heap) (locs : List Loc) (ls : Array Slot), L_X9_unwinds_62 fu k0 x1 x2 s1 σ = some σr → ow_Wd Z 56 20 σ s H locs → lv_has ls 3 [(0, .ref (ow_ad Z 56)), (1, .int x1), (2, .int x2)] → W p l e (headSpec wsX9_unwinds { frames := 2, cells := 0, slots := 0, locals := 81 }).room s m args below meth c H locs 0 0 (MQ below (ow_Qv Z 56 20 σr) args s 0 0 (ow_A Z 56 20)) (F0 m 62 ls [.int s1, .ref (ow_ad Z 56)]) := by
    intro k0 hk0 x1 x2 s1 σ H locs ls hf hW hl
    unfold L_X9_unwinds_62 at hf
    refine lv_iconst (v := 1) hx hb dX9_unwinds_62 (by decide) ?_
    refine lv_goto (tgt := 67) hx hb dX9_unwinds_63 (by decide) ?_
    exact hJ67 k0 hk0 x1 x2 s1 (1 : Int32) σ _ _ _ hf hW (lv_sub hl [0, 1, 2] rfl)
  have hJ0 : ∀ (fn : Nat), ∀ (x1 : Int32) (σ : ow_S) (H : Heap) (locs : List Loc) (ls : Array Slot), L_X9_unwinds_0 fu fn x1 σ = some σr → ow_Wd Z 56 20 σ s H locs → lv_has ls 3 [(0, .ref (ow_ad Z 56)), (1, .int x1)] → W p l e (headSpec wsX9_unwinds { frames := 2, cells := 0, slots := 0, locals := 81 }).room s m args below meth c H locs 0 0 (MQ below (ow_Qv Z 56 20 σr) args s 0 0 (ow_A Z 56 20)) (F0 m 0 ls []) := by
    intro fn
    induction fn with
    | zero => intro x1 σ H locs ls hf hW hl; simp [L_X9_unwinds_0] at hf
    | succ fn ih =>
      intro x1 σ H locs ls hf hW hl
      rw [L_X9_unwinds_0] at hf
      refine lv_aload_n hx hb dX9_unwinds_0 rfl (lv_at hl 0 rfl) ?_
      refine ow_getV (ci := 9) (C := RX9) (T := TX9) (N := 41) hx hb hts hown hG hW ow_i56 (by decide) rfl hinX9 30 (by decide) (fk := 0) rfl (hts (.fieldLink RX9 154 "FiftyOneCardsModel" "heldMany" "I") (by decide +kernel)) (v := .int (σ.1 56 30)) rfl dX9_unwinds_1 ?_
      refine lv_if_le (tgt := 79) hx hb dX9_unwinds_4 (by decide) (fun c4 => ?_) (fun c4 => ?_)
      · replace hf := ow_if_t c4 hf
        exact ow_vret hx hb hr hW hf dX9_unwinds_79 hlocks
      · replace hf := ow_if_f c4 hf
        refine lv_aload_n hx hb dX9_unwinds_7 rfl (lv_at hl 0 rfl) ?_
        refine ow_getV (ci := 9) (C := RX9) (T := TX9) (N := 41) hx hb hts hown hG hW ow_i56 (by decide) rfl hinX9 29 (by decide) (fk := 2) rfl (hts (.fieldLink RX9 56 "FiftyOneCardsModel" "held" "[I") (by decide +kernel)) (v := .ref (ow_ad Z 71)) (ow_vR hW ow_i56.1 ow_i56.2.1 rfl) dX9_unwinds_8 ?_
        refine lv_aload_n hx hb dX9_unwinds_11 rfl (lv_at hl 0 rfl) ?_
        refine ow_getV (ci := 9) (C := RX9) (T := TX9) (N := 41) hx hb hts hown hG hW ow_i56 (by decide) rfl hinX9 30 (by decide) (fk := 0) rfl (hts (.fieldLink RX9 154 "FiftyOneCardsModel" "heldMany" "I") (by decide +kernel)) (v := .int (σ.1 56 30)) rfl dX9_unwinds_12 ?_
        refine lv_iconst (v := 1) hx hb dX9_unwinds_15 (by decide) ?_
        refine lv_isub hx hb dX9_unwinds_16 ?_
        obtain ⟨q17, hf⟩ := ow_ck_i hf
        refine ow_ild (q := ((σ.1 56 30) - (1 : Int32)).toNatClampNeg) hx hb hG hW ow_i71 rfl q17 rfl dX9_unwinds_17 ?_
        obtain ⟨r_18, σ_18, hc18, hf⟩ := ow_cl_i hf
        refine ow_calli (va_runS (As := [.int (σ.1 71 ((σ.1 56 30) - (1 : Int32)).toNatClampNeg)]) (rest := []) ⟨hx, hb, hml, hown, hts⟩ (c_X9_rank l Z fu (σ.1 71 ((σ.1 56 30) - (1 : Int32)).toNatClampNeg) σ r_18 σ_18 hc18) (va_cwS 1 hts gX9_unwinds_X9_rank rfl rfl rfl (by decide +kernel) ⟨Nat.le_of_ble_eq_true rfl, Nat.le_of_ble_eq_true rfl⟩) (ow_preS hG hW) rfl rfl hl.1 rfl (lv_room (Nat.le_of_ble_eq_true rfl)) dX9_unwinds_18 ⟨Nat.zero_le _, Nat.zero_le _⟩) hW (fun H locs hW => ?_)
        refine lv_iload_n hx hb dX9_unwinds_21 rfl (lv_at hl 1 rfl) ?_
        refine lv_icmp_lt (tgt := 79) hx hb dX9_unwinds_22 (by decide) (fun c22 => ?_) (fun c22 => ?_)
        · replace hf := ow_if_t c22 hf
          exact ow_vret hx hb hr hW hf dX9_unwinds_79 hlocks
        · replace hf := ow_if_f c22 hf
          refine lv_aload_n hx hb dX9_unwinds_25 rfl (lv_at hl 0 rfl) ?_
          refine lv_dup hx hb dX9_unwinds_26 rfl ?_
          refine ow_getV (ci := 9) (C := RX9) (T := TX9) (N := 41) hx hb hts hown hG hW ow_i56 (by decide) rfl hinX9 30 (by decide) (fk := 0) rfl (hts (.fieldLink RX9 154 "FiftyOneCardsModel" "heldMany" "I") (by decide +kernel)) (v := .int (σ_18.1 56 30)) rfl dX9_unwinds_27 ?_
          refine lv_iconst (v := 1) hx hb dX9_unwinds_30 (by decide) ?_
          refine lv_isub hx hb dX9_unwinds_31 ?_
          refine ow_putI (ci := 9) (C := RX9) (T := TX9) (N := 41) hx hb hts hown hG hW ow_i56 (by decide) rfl hinX9 tyX9 tyX9_ok nmX9 30 (by decide) rfl (hts (.fieldLink RX9 154 "FiftyOneCardsModel" "heldMany" "I") (by decide +kernel)) rfl rfl rfl hf dX9_unwinds_32 (fun σ_32 H locs hf hW => ?_)
          refine lv_aload_n hx hb dX9_unwinds_35 rfl (lv_at hl 0 rfl) ?_
          refine ow_getV (ci := 9) (C := RX9) (T := TX9) (N := 41) hx hb hts hown hG hW ow_i56 (by decide) rfl hinX9 29 (by decide) (fk := 2) rfl (hts (.fieldLink RX9 56 "FiftyOneCardsModel" "held" "[I") (by decide +kernel)) (v := .ref (ow_ad Z 71)) (ow_vR hW ow_i56.1 ow_i56.2.1 rfl) dX9_unwinds_36 ?_
          refine lv_aload_n hx hb dX9_unwinds_39 rfl (lv_at hl 0 rfl) ?_
          refine ow_getV (ci := 9) (C := RX9) (T := TX9) (N := 41) hx hb hts hown hG hW ow_i56 (by decide) rfl hinX9 30 (by decide) (fk := 0) rfl (hts (.fieldLink RX9 154 "FiftyOneCardsModel" "heldMany" "I") (by decide +kernel)) (v := .int (σ_32.1 56 30)) rfl dX9_unwinds_40 ?_
          obtain ⟨q43, hf⟩ := ow_ck_i hf
          refine ow_ild (q := (σ_32.1 56 30).toNatClampNeg) hx hb hG hW ow_i71 rfl q43 rfl dX9_unwinds_43 ?_
          refine ow_topi hf (fun x2_44 hf => ?_)
          refine lv_istore_n (lv' := [(2, .int x2_44), (0, .ref (ow_ad Z 56)), (1, .int x1)]) hx hb dX9_unwinds_44 rfl hl (by decide) rfl (fun ls hl => ?_)
          refine lv_aload_n hx hb dX9_unwinds_45 rfl (lv_at hl 1 rfl) ?_
          refine lv_dup hx hb dX9_unwinds_46 rfl ?_
          refine ow_getV (ci := 9) (C := RX9) (T := TX9) (N := 41) hx hb hts hown hG hW ow_i56 (by decide) rfl hinX9 31 (by decide) (fk := 0) rfl (hts (.fieldLink RX9 160 "FiftyOneCardsModel" "opens" "I") (by decide +kernel)) (v := .int (σ_32.1 56 31)) rfl dX9_unwinds_47 ?_
          refine lv_iload_n hx hb dX9_unwinds_50 rfl (lv_at hl 0 rfl) ?_
          refine lv_bipush (v := 13) hx hb dX9_unwinds_51 (by decide) ?_
          refine lv_icmp_eq (tgt := 62) hx hb dX9_unwinds_53 (by decide) (fun c53 => ?_) (fun c53 => ?_)
          · replace hf := ow_if_t c53 hf
            exact hJ62 (L_X9_unwinds_0 fu fn) ih x1 x2_44 (σ_32.1 56 31) σ_32 _ _ _ hf hW (lv_sub hl [1, 2, 0] rfl)
          · replace hf := ow_if_f c53 hf
            refine lv_iload_n hx hb dX9_unwinds_56 rfl (lv_at hl 0 rfl) ?_
            refine lv_bipush (v := 19) hx hb dX9_unwinds_57 (by decide) ?_
            refine lv_icmp_ne (tgt := 66) hx hb dX9_unwinds_59 (by decide) (fun c59 => ?_) (fun c59 => ?_)
            · replace hf := ow_if_f c59 hf
              refine lv_iconst (v := 0) hx hb dX9_unwinds_66 (by decide) ?_
              exact hJ67 (L_X9_unwinds_0 fu fn) ih x1 x2_44 (σ_32.1 56 31) (0 : Int32) σ_32 _ _ _ hf hW (lv_sub hl [1, 2, 0] rfl)
            · replace hf := ow_if_t c59 hf
              exact hJ62 (L_X9_unwinds_0 fu fn) ih x1 x2_44 (σ_32.1 56 31) σ_32 _ _ _ hf hW (lv_sub hl [1, 2, 0] rfl)
  have hl := lv_entry ([.ref (ow_ad Z 56), .int a1]) (n := 3) (Nat.le_of_ble_eq_true rfl)
  refine W.eq (g2 := F0 m 0 ((lg_sl ([.ref (ow_ad Z 56), .int a1]) ++ List.replicate (3 - (lg_sl ([.ref (ow_ad Z 56), .int a1])).length) Slot.unset).toArray) []) (by rw [hav]; exact lg_entry_eq _ _ _) ?_
  generalize (lg_sl ([.ref (ow_ad Z 56), .int a1]) ++ List.replicate (3 - (lg_sl ([.ref (ow_ad Z 56), .int a1])).length) Slot.unset).toArray = ls at hl ⊢
  have hl : lv_has ls 3 [(0, .ref (ow_ad Z 56)), (1, .int a1)] := hl
  unfold f_X9_unwinds at hf
  exact hJ0 fu a1 σ _ _ _ hf hW (lv_sub hl [0, 1] rfl)
set_option maxHeartbeats 40000000 in
set_option maxRecDepth 100000 in
theorem c_X9_holds (l : Launch) (Z : ow_Z) (fu : Nat) (a1 : Int32) (σ : ow_S) (σr : ow_S) (hf : f_X9_holds fu a1 σ = some σr) : Met l yX9_holds wsX9_holds { frames := 1, cells := 0, slots := 0, locals := 60 } (ow_Pc Z 56 20 [.ref (ow_ad Z 56), .int a1] σ) (ow_Qv Z 56 20 σr) 0 0 (ow_A Z 56 20) := by
  refine Met.ofW (cc := cX9_holds) (maxL := 2) (ret := none) (by decide) rfl ?_
  intro p e s m args below meth c s₁ B hml hv
  obtain ⟨hav, hB⟩ := hv
  obtain ⟨hG, hW⟩ := ow_begin hB
  have hx := B.exec
  have hb := B.bytes
  have hr := B.returns
  have hts := atoms_spec (ws := wsX9_holds) B.pre
  have hown : s.vm.findClass RX9 = some m.cls := findClass_of_methodNamed B.named
  have hlocks := B.notSynchronized
  have hinX9 : ∀ w ∈ wsX90, w ∈ wsX9_holds := by decide +kernel
  have hl := lv_entry ([.ref (ow_ad Z 56), .int a1]) (n := 2) (Nat.le_of_ble_eq_true rfl)
  refine W.eq (g2 := F0 m 0 ((lg_sl ([.ref (ow_ad Z 56), .int a1]) ++ List.replicate (2 - (lg_sl ([.ref (ow_ad Z 56), .int a1])).length) Slot.unset).toArray) []) (by rw [hav]; exact lg_entry_eq _ _ _) ?_
  generalize (lg_sl ([.ref (ow_ad Z 56), .int a1]) ++ List.replicate (2 - (lg_sl ([.ref (ow_ad Z 56), .int a1])).length) Slot.unset).toArray = ls at hl ⊢
  have hl : lv_has ls 2 [(0, .ref (ow_ad Z 56)), (1, .int a1)] := hl
  unfold f_X9_holds at hf
  refine lv_aload_n hx hb dX9_holds_0 rfl (lv_at hl 0 rfl) ?_
  refine ow_getV (ci := 9) (C := RX9) (T := TX9) (N := 41) hx hb hts hown hG hW ow_i56 (by decide) rfl hinX9 29 (by decide) (fk := 2) rfl (hts (.fieldLink RX9 56 "FiftyOneCardsModel" "held" "[I") (by decide +kernel)) (v := .ref (ow_ad Z 71)) (ow_vR hW ow_i56.1 ow_i56.2.1 rfl) dX9_holds_1 ?_
  refine lv_aload_n hx hb dX9_holds_4 rfl (lv_at hl 0 rfl) ?_
  refine ow_getV (ci := 9) (C := RX9) (T := TX9) (N := 41) hx hb hts hown hG hW ow_i56 (by decide) rfl hinX9 30 (by decide) (fk := 0) rfl (hts (.fieldLink RX9 154 "FiftyOneCardsModel" "heldMany" "I") (by decide +kernel)) (v := .int (σ.1 56 30)) rfl dX9_holds_5 ?_
  refine lv_iload_n hx hb dX9_holds_8 rfl (lv_at hl 1 rfl) ?_
  obtain ⟨q9, hf⟩ := ow_ck_i hf
  refine ow_ist (q := (σ.1 56 30).toNatClampNeg) hx hb hG hW ow_i71 rfl q9 rfl hf dX9_holds_9 (fun σ_9 H locs hf hW => ?_)
  refine lv_aload_n hx hb dX9_holds_10 rfl (lv_at hl 0 rfl) ?_
  refine lv_dup hx hb dX9_holds_11 rfl ?_
  refine ow_getV (ci := 9) (C := RX9) (T := TX9) (N := 41) hx hb hts hown hG hW ow_i56 (by decide) rfl hinX9 30 (by decide) (fk := 0) rfl (hts (.fieldLink RX9 154 "FiftyOneCardsModel" "heldMany" "I") (by decide +kernel)) (v := .int (σ_9.1 56 30)) rfl dX9_holds_12 ?_
  refine lv_iconst (v := 1) hx hb dX9_holds_15 (by decide) ?_
  refine lv_iadd hx hb dX9_holds_16 ?_
  refine ow_putI (ci := 9) (C := RX9) (T := TX9) (N := 41) hx hb hts hown hG hW ow_i56 (by decide) rfl hinX9 tyX9 tyX9_ok nmX9 30 (by decide) rfl (hts (.fieldLink RX9 154 "FiftyOneCardsModel" "heldMany" "I") (by decide +kernel)) rfl rfl rfl hf dX9_holds_17 (fun σ_17 H locs hf hW => ?_)
  exact ow_vret hx hb hr hW hf dX9_holds_20 hlocks
set_option maxHeartbeats 40000000 in
set_option maxRecDepth 100000 in
theorem c_X9_opensOne (l : Launch) (Z : ow_Z) (fu : Nat) (a1 : Int32) (σ : ow_S) (rr : Int32) (σr : ow_S) (hf : f_X9_opensOne fu a1 σ = some (rr, σr)) : Met l yX9_opensOne wsX9_opensOne { frames := 2, cells := 0, slots := 0, locals := 81 } (ow_Pc Z 56 20 [.ref (ow_ad Z 56), .int a1] σ) (ow_Qz Z 56 20 rr σr) 0 0 (ow_A Z 56 20) := by
  refine Met.ofW (cc := cX9_opensOne) (maxL := 2) (ret := (some .boolean)) (by decide) rfl ?_
  intro p e s m args below meth c s₁ B hml hv
  obtain ⟨hav, hB⟩ := hv
  obtain ⟨hG, hW⟩ := ow_begin hB
  have hx := B.exec
  have hb := B.bytes
  have hr := B.returns
  have hts := atoms_spec (ws := wsX9_opensOne) B.pre
  have hown : s.vm.findClass RX9 = some m.cls := findClass_of_methodNamed B.named
  have hlocks := B.notSynchronized
  have hinX9 : ∀ w ∈ wsX90, w ∈ wsX9_opensOne := by decide +kernel
  have hl := lv_entry ([.ref (ow_ad Z 56), .int a1]) (n := 2) (Nat.le_of_ble_eq_true rfl)
  refine W.eq (g2 := F0 m 0 ((lg_sl ([.ref (ow_ad Z 56), .int a1]) ++ List.replicate (2 - (lg_sl ([.ref (ow_ad Z 56), .int a1])).length) Slot.unset).toArray) []) (by rw [hav]; exact lg_entry_eq _ _ _) ?_
  generalize (lg_sl ([.ref (ow_ad Z 56), .int a1]) ++ List.replicate (2 - (lg_sl ([.ref (ow_ad Z 56), .int a1])).length) Slot.unset).toArray = ls at hl ⊢
  have hl : lv_has ls 2 [(0, .ref (ow_ad Z 56)), (1, .int a1)] := hl
  unfold f_X9_opensOne at hf
  refine lv_aload_n hx hb dX9_opensOne_0 rfl (lv_at hl 0 rfl) ?_
  refine ow_getV (ci := 9) (C := RX9) (T := TX9) (N := 41) hx hb hts hown hG hW ow_i56 (by decide) rfl hinX9 31 (by decide) (fk := 0) rfl (hts (.fieldLink RX9 160 "FiftyOneCardsModel" "opens" "I") (by decide +kernel)) (v := .int (σ.1 56 31)) rfl dX9_opensOne_1 ?_
  refine lv_iconst (v := 5) hx hb dX9_opensOne_4 (by decide) ?_
  refine lv_icmp_ne (tgt := 10) hx hb dX9_opensOne_5 (by decide) (fun c5 => ?_) (fun c5 => ?_)
  · replace hf := ow_if_f c5 hf
    refine lv_aload_n hx hb dX9_opensOne_10 rfl (lv_at hl 0 rfl) ?_
    refine lv_dup hx hb dX9_opensOne_11 rfl ?_
    refine ow_getV (ci := 9) (C := RX9) (T := TX9) (N := 41) hx hb hts hown hG hW ow_i56 (by decide) rfl hinX9 31 (by decide) (fk := 0) rfl (hts (.fieldLink RX9 160 "FiftyOneCardsModel" "opens" "I") (by decide +kernel)) (v := .int (σ.1 56 31)) rfl dX9_opensOne_12 ?_
    refine lv_iconst (v := 1) hx hb dX9_opensOne_15 (by decide) ?_
    refine lv_iadd hx hb dX9_opensOne_16 ?_
    refine ow_putI (ci := 9) (C := RX9) (T := TX9) (N := 41) hx hb hts hown hG hW ow_i56 (by decide) rfl hinX9 tyX9 tyX9_ok nmX9 31 (by decide) rfl (hts (.fieldLink RX9 160 "FiftyOneCardsModel" "opens" "I") (by decide +kernel)) rfl rfl rfl hf dX9_opensOne_17 (fun σ_17 H locs hf hW => ?_)
    refine lv_aload_n hx hb dX9_opensOne_20 rfl (lv_at hl 0 rfl) ?_
    refine lv_iload_n hx hb dX9_opensOne_21 rfl (lv_at hl 1 rfl) ?_
    obtain ⟨σ_22, hc22, hf⟩ := ow_cv_i hf
    refine ow_callv (va_runV (As := [.int a1]) (rest := []) ⟨hx, hb, hml, hown, hts⟩ (c_X9_holds l Z fu a1 σ_17 σ_22  hc22) (cwV 1 hts gX9_opensOne_X9_holds rfl rfl rfl (by decide +kernel) ⟨Nat.le_of_ble_eq_true rfl, Nat.le_of_ble_eq_true rfl⟩) (ow_preV hG hW ow_i56 (by decide) rfl) rfl rfl hl.1 rfl (lv_room (Nat.le_of_ble_eq_true rfl)) dX9_opensOne_22 ⟨Nat.zero_le _, Nat.zero_le _⟩) hW (fun H locs hW => ?_)
    refine lv_iconst (v := 1) hx hb dX9_opensOne_25 (by decide) ?_
    exact ow_zret hx hb hr (Or.inr rfl) hW hf dX9_opensOne_26 hlocks
  · replace hf := ow_if_t c5 hf
    refine lv_iconst (v := 0) hx hb dX9_opensOne_8 (by decide) ?_
    exact ow_zret hx hb hr (Or.inl rfl) hW hf dX9_opensOne_9 hlocks
set_option maxHeartbeats 40000000 in
set_option maxRecDepth 100000 in
theorem c_X9_between (l : Launch) (Z : ow_Z) (fu : Nat) (a1 : Int32) (σ : ow_S) (rr : Int32) (σr : ow_S) (hf : f_X9_between fu a1 σ = some (rr, σr)) : Met l yX9_between wsX9_between { frames := 3, cells := 0, slots := 0, locals := 103 } (ow_Pc Z 56 20 [.ref (ow_ad Z 56), .int a1] σ) (ow_Qz Z 56 20 rr σr) 0 0 (ow_A Z 56 20) := by
  refine Met.ofW (cc := cX9_between) (maxL := 2) (ret := (some .boolean)) (by decide) rfl ?_
  intro p e s m args below meth c s₁ B hml hv
  obtain ⟨hav, hB⟩ := hv
  obtain ⟨hG, hW⟩ := ow_begin hB
  have hx := B.exec
  have hb := B.bytes
  have hr := B.returns
  have hts := atoms_spec (ws := wsX9_between) B.pre
  have hown : s.vm.findClass RX9 = some m.cls := findClass_of_methodNamed B.named
  have hlocks := B.notSynchronized
  have hinX9 : ∀ w ∈ wsX90, w ∈ wsX9_between := by decide +kernel
  have hJ55 : ∀ (x1 : Int32) (σ : ow_S) (H : Heap) (locs : List Loc) (ls : Array Slot), L_X9_between_55 fu x1 σ = some (rr, σr) → ow_Wd Z 56 20 σ s H locs → lv_has ls 2 [(0, .ref (ow_ad Z 56)), (1, .int x1)] → W p l e (headSpec wsX9_between { frames := 3, cells := 0, slots := 0, locals := 103 }).room s m args below meth c H locs 0 0 (MQ below (ow_Qz Z 56 20 rr σr) args s 0 0 (ow_A Z 56 20)) (F0 m 55 ls []) := by
    intro x1 σ H locs ls hf hW hl
    unfold L_X9_between_55 at hf
    refine lv_aload_n hx hb dX9_between_55 rfl (lv_at hl 0 rfl) ?_
    refine lv_iload_n hx hb dX9_between_56 rfl (lv_at hl 1 rfl) ?_
    obtain ⟨σ_57, hc57, hf⟩ := ow_cv_i hf
    refine ow_callv (va_runV (As := [.int x1]) (rest := []) ⟨hx, hb, hml, hown, hts⟩ (c_X9_holds l Z fu x1 σ σ_57  hc57) (cwV 1 hts gX9_between_X9_holds rfl rfl rfl (by decide +kernel) ⟨Nat.le_of_ble_eq_true rfl, Nat.le_of_ble_eq_true rfl⟩) (ow_preV hG hW ow_i56 (by decide) rfl) rfl rfl hl.1 rfl (lv_room (Nat.le_of_ble_eq_true rfl)) dX9_between_57 ⟨Nat.zero_le _, Nat.zero_le _⟩) hW (fun H locs hW => ?_)
    refine lv_iconst (v := 1) hx hb dX9_between_60 (by decide) ?_
    exact ow_zret hx hb hr (Or.inr rfl) hW hf dX9_between_61 hlocks
  have hJ17 : ∀ (x1 : Int32) (s1 : Int32) (σ : ow_S) (H : Heap) (locs : List Loc) (ls : Array Slot), L_X9_between_17 fu x1 s1 σ = some (rr, σr) → ow_Wd Z 56 20 σ s H locs → lv_has ls 2 [(0, .ref (ow_ad Z 56)), (1, .int x1)] → W p l e (headSpec wsX9_between { frames := 3, cells := 0, slots := 0, locals := 103 }).room s m args below meth c H locs 0 0 (MQ below (ow_Qz Z 56 20 rr σr) args s 0 0 (ow_A Z 56 20)) (F0 m 17 ls [.int s1, .ref (ow_ad Z 56)]) := by
    intro x1 s1 σ H locs ls hf hW hl
    unfold L_X9_between_17 at hf
    obtain ⟨σ_17, hc17, hf⟩ := ow_cv_i hf
    refine ow_callv (va_runV (As := [.int s1]) (rest := []) ⟨hx, hb, hml, hown, hts⟩ (c_X9_unwinds l Z fu s1 σ σ_17  hc17) (cwV 1 hts gX9_between_X9_unwinds rfl rfl rfl (by decide +kernel) ⟨Nat.le_of_ble_eq_true rfl, Nat.le_of_ble_eq_true rfl⟩) (ow_preV hG hW ow_i56 (by decide) rfl) rfl rfl hl.1 rfl (lv_room (Nat.le_of_ble_eq_true rfl)) dX9_between_17 ⟨Nat.zero_le _, Nat.zero_le _⟩) hW (fun H locs hW => ?_)
    refine lv_iload_n hx hb dX9_between_20 rfl (lv_at hl 1 rfl) ?_
    obtain ⟨r_21, σ_21, hc21, hf⟩ := ow_cl_i hf
    refine ow_calli (va_runS (As := [.int x1]) (rest := []) ⟨hx, hb, hml, hown, hts⟩ (c_X9_rank l Z fu x1 σ_17 r_21 σ_21 hc21) (va_cwS 1 hts gX9_between_X9_rank rfl rfl rfl (by decide +kernel) ⟨Nat.le_of_ble_eq_true rfl, Nat.le_of_ble_eq_true rfl⟩) (ow_preS hG hW) rfl rfl hl.1 rfl (lv_room (Nat.le_of_ble_eq_true rfl)) dX9_between_21 ⟨Nat.zero_le _, Nat.zero_le _⟩) hW (fun H locs hW => ?_)
    refine lv_iconst (v := 4) hx hb dX9_between_24 (by decide) ?_
    refine lv_icmp_ne (tgt := 55) hx hb dX9_between_25 (by decide) (fun c25 => ?_) (fun c25 => ?_)
    · replace hf := ow_if_f c25 hf
      exact hJ55 x1 σ_21 _ _ _ hf hW (lv_sub hl [0, 1] rfl)
    · replace hf := ow_if_t c25 hf
      refine lv_aload_n hx hb dX9_between_28 rfl (lv_at hl 0 rfl) ?_
      refine ow_getV (ci := 9) (C := RX9) (T := TX9) (N := 41) hx hb hts hown hG hW ow_i56 (by decide) rfl hinX9 30 (by decide) (fk := 0) rfl (hts (.fieldLink RX9 154 "FiftyOneCardsModel" "heldMany" "I") (by decide +kernel)) (v := .int (σ_21.1 56 30)) rfl dX9_between_29 ?_
      refine lv_if_le (tgt := 55) hx hb dX9_between_32 (by decide) (fun c32 => ?_) (fun c32 => ?_)
      · replace hf := ow_if_t c32 hf
        exact hJ55 x1 σ_21 _ _ _ hf hW (lv_sub hl [0, 1] rfl)
      · replace hf := ow_if_f c32 hf
        refine lv_aload_n hx hb dX9_between_35 rfl (lv_at hl 0 rfl) ?_
        refine ow_getV (ci := 9) (C := RX9) (T := TX9) (N := 41) hx hb hts hown hG hW ow_i56 (by decide) rfl hinX9 29 (by decide) (fk := 2) rfl (hts (.fieldLink RX9 56 "FiftyOneCardsModel" "held" "[I") (by decide +kernel)) (v := .ref (ow_ad Z 71)) (ow_vR hW ow_i56.1 ow_i56.2.1 rfl) dX9_between_36 ?_
        refine lv_aload_n hx hb dX9_between_39 rfl (lv_at hl 0 rfl) ?_
        refine ow_getV (ci := 9) (C := RX9) (T := TX9) (N := 41) hx hb hts hown hG hW ow_i56 (by decide) rfl hinX9 30 (by decide) (fk := 0) rfl (hts (.fieldLink RX9 154 "FiftyOneCardsModel" "heldMany" "I") (by decide +kernel)) (v := .int (σ_21.1 56 30)) rfl dX9_between_40 ?_
        refine lv_iconst (v := 1) hx hb dX9_between_43 (by decide) ?_
        refine lv_isub hx hb dX9_between_44 ?_
        obtain ⟨q45, hf⟩ := ow_ck_i hf
        refine ow_ild (q := ((σ_21.1 56 30) - (1 : Int32)).toNatClampNeg) hx hb hG hW ow_i71 rfl q45 rfl dX9_between_45 ?_
        obtain ⟨r_46, σ_46, hc46, hf⟩ := ow_cl_i hf
        refine ow_calli (va_runS (As := [.int (σ_21.1 71 ((σ_21.1 56 30) - (1 : Int32)).toNatClampNeg)]) (rest := []) ⟨hx, hb, hml, hown, hts⟩ (c_X9_rank l Z fu (σ_21.1 71 ((σ_21.1 56 30) - (1 : Int32)).toNatClampNeg) σ_21 r_46 σ_46 hc46) (va_cwS 1 hts gX9_between_X9_rank rfl rfl rfl (by decide +kernel) ⟨Nat.le_of_ble_eq_true rfl, Nat.le_of_ble_eq_true rfl⟩) (ow_preS hG hW) rfl rfl hl.1 rfl (lv_room (Nat.le_of_ble_eq_true rfl)) dX9_between_46 ⟨Nat.zero_le _, Nat.zero_le _⟩) hW (fun H locs hW => ?_)
        refine lv_iconst (v := 4) hx hb dX9_between_49 (by decide) ?_
        refine lv_icmp_ne (tgt := 55) hx hb dX9_between_50 (by decide) (fun c50 => ?_) (fun c50 => ?_)
        · replace hf := ow_if_f c50 hf
          exact hJ55 x1 σ_46 _ _ _ hf hW (lv_sub hl [0, 1] rfl)
        · replace hf := ow_if_t c50 hf
          refine lv_iconst (v := 0) hx hb dX9_between_53 (by decide) ?_
          exact ow_zret hx hb hr (Or.inl rfl) hW hf dX9_between_54 hlocks
  have hl := lv_entry ([.ref (ow_ad Z 56), .int a1]) (n := 2) (Nat.le_of_ble_eq_true rfl)
  refine W.eq (g2 := F0 m 0 ((lg_sl ([.ref (ow_ad Z 56), .int a1]) ++ List.replicate (2 - (lg_sl ([.ref (ow_ad Z 56), .int a1])).length) Slot.unset).toArray) []) (by rw [hav]; exact lg_entry_eq _ _ _) ?_
  generalize (lg_sl ([.ref (ow_ad Z 56), .int a1]) ++ List.replicate (2 - (lg_sl ([.ref (ow_ad Z 56), .int a1])).length) Slot.unset).toArray = ls at hl ⊢
  have hl : lv_has ls 2 [(0, .ref (ow_ad Z 56)), (1, .int a1)] := hl
  unfold f_X9_between at hf
  refine lv_aload_n hx hb dX9_between_0 rfl (lv_at hl 0 rfl) ?_
  refine lv_iload_n hx hb dX9_between_1 rfl (lv_at hl 1 rfl) ?_
  obtain ⟨r_2, σ_2, hc2, hf⟩ := ow_cl_i hf
  refine ow_calli (va_runS (As := [.int a1]) (rest := [.ref (ow_ad Z 56)]) ⟨hx, hb, hml, hown, hts⟩ (c_X9_rank l Z fu a1 σ r_2 σ_2 hc2) (va_cwS 1 hts gX9_between_X9_rank rfl rfl rfl (by decide +kernel) ⟨Nat.le_of_ble_eq_true rfl, Nat.le_of_ble_eq_true rfl⟩) (ow_preS hG hW) rfl rfl hl.1 rfl (lv_room (Nat.le_of_ble_eq_true rfl)) dX9_between_2 ⟨Nat.zero_le _, Nat.zero_le _⟩) hW (fun H locs hW => ?_)
  refine lv_iconst (v := 4) hx hb dX9_between_5 (by decide) ?_
  refine lv_icmp_ne (tgt := 13) hx hb dX9_between_6 (by decide) (fun c6 => ?_) (fun c6 => ?_)
  · replace hf := ow_if_f c6 hf
    refine lv_iload_n hx hb dX9_between_13 rfl (lv_at hl 1 rfl) ?_
    obtain ⟨r_14, σ_14, hc14, hf⟩ := ow_cl_i hf
    refine ow_calli (va_runS (As := [.int a1]) (rest := [.ref (ow_ad Z 56)]) ⟨hx, hb, hml, hown, hts⟩ (c_X9_rank l Z fu a1 σ_2 r_14 σ_14 hc14) (va_cwS 1 hts gX9_between_X9_rank rfl rfl rfl (by decide +kernel) ⟨Nat.le_of_ble_eq_true rfl, Nat.le_of_ble_eq_true rfl⟩) (ow_preS hG hW) rfl rfl hl.1 rfl (lv_room (Nat.le_of_ble_eq_true rfl)) dX9_between_14 ⟨Nat.zero_le _, Nat.zero_le _⟩) hW (fun H locs hW => ?_)
    exact hJ17 a1 r_14 σ_14 _ _ _ hf hW (lv_sub hl [0, 1] rfl)
  · replace hf := ow_if_t c6 hf
    refine lv_iconst (v := 5) hx hb dX9_between_9 (by decide) ?_
    refine lv_goto (tgt := 17) hx hb dX9_between_10 (by decide) ?_
    exact hJ17 a1 (5 : Int32) σ_2 _ _ _ hf hW (lv_sub hl [0, 1] rfl)
