set_option maxHeartbeats 40000000 in
set_option maxRecDepth 100000 in
theorem c_X8_film (l : Launch) (Z : ow_Z) (fu : Nat) (a1 : Int32) (a2 : Int32) (a3 : Int32) (σ : ow_S) (rr : Int32) (σr : ow_S) (hf : f_X8_film fu a1 a2 a3 σ = some (rr, σr)) : Met l yX8_film wsX8_film { frames := 7, cells := 0, slots := 0, locals := 205 } (ow_Pc Z 0 56 [.ref (ow_ad Z 0), .int a1, .int a2, .int a3] σ) (ow_Qi Z 0 56 rr σr) 0 0 (ow_A Z 0 56) := by
  refine Met.ofW (cc := cX8_film) (maxL := 5) (ret := (some .int)) (by decide) rfl ?_
  intro p e s m args below meth c s₁ B hml hv
  obtain ⟨hav, hB⟩ := hv
  obtain ⟨hG, hW⟩ := ow_begin hB
  have hx := B.exec
  have hb := B.bytes
  have hr := B.returns
  have hts := atoms_spec (ws := wsX8_film) B.pre
  have hown : s.vm.findClass RX8 = some m.cls := findClass_of_methodNamed B.named
  have hlocks := B.notSynchronized
  have hinX8 : ∀ w ∈ wsX80, w ∈ wsX8_film := by decide +kernel
  have hJ56 : ∀ (fn : Nat), ∀ (x1 : Int32) (x2 : Int32) (x3 : Int32) (x4 : Int32) (σ : ow_S) (H : Heap) (locs : List Loc) (ls : Array Slot), L_X8_film_56 fu fn x1 x2 x3 x4 σ = some (rr, σr) → ow_Wd Z 0 56 σ s H locs → lv_has ls 5 [(0, .ref (ow_ad Z 0)), (1, .int x1), (2, .int x2), (3, .int x3), (4, .int x4)] → W p l e (headSpec wsX8_film { frames := 7, cells := 0, slots := 0, locals := 205 }).room s m args below meth c H locs 0 0 (MQ below (ow_Qi Z 0 56 rr σr) args s 0 0 (ow_A Z 0 56)) (F0 m 56 ls []) := by
    intro fn
    induction fn with
    | zero => intro x1 x2 x3 x4 σ H locs ls hf hW hl; simp [L_X8_film_56] at hf
    | succ fn ih =>
      intro x1 x2 x3 x4 σ H locs ls hf hW hl
      rw [L_X8_film_56] at hf
      refine lv_iload hx hb dX8_film_56 (lv_at hl 4 rfl) ?_
      refine lv_iload_n hx hb dX8_film_58 rfl (lv_at hl 3 rfl) ?_
      refine lv_icmp_ge (tgt := 98) hx hb dX8_film_59 (by decide) (fun c59 => ?_) (fun c59 => ?_)
      · replace hf := ow_if_t c59 hf
        refine lv_iload_n hx hb dX8_film_98 rfl (lv_at hl 3 rfl) ?_
        exact ow_iret hx hb hr hW hf dX8_film_99 hlocks
      · replace hf := ow_if_f c59 hf
        refine lv_aload_n hx hb dX8_film_62 rfl (lv_at hl 0 rfl) ?_
        refine ow_getV (ci := 8) (C := RX8) (T := TX8) (N := 15) hx hb hts hown hG hW ow_i0 (by decide) rfl hinX8 9 (by decide) (fk := 2) rfl (hts (.fieldLink RX8 63 "FiftyOneCards" "sheets" "[LFiftyOneCards$Sheet;") (by decide +kernel)) (v := .ref (ow_ad Z 15)) (ow_vR hW ow_i0.1 ow_i0.2.1 rfl) dX8_film_63 ?_
        refine lv_iload_n hx hb dX8_film_66 rfl (lv_at hl 1 rfl) ?_
        refine ow_rld (f := fun j => 48 + 2 * j) (ct := 5) hx hb hG hW ow_i15 ⟨by decide, by decide⟩ rfl ow_ra15 hf dX8_film_67 (fun h_67 hf hi67 => ?_)
        refine lv_iload hx hb dX8_film_68 (lv_at hl 4 rfl) ?_
        refine lv_aload_n hx hb dX8_film_70 rfl (lv_at hl 0 rfl) ?_
        refine lv_iload hx hb dX8_film_71 (lv_at hl 4 rfl) ?_
        refine lv_iconst (v := 1) hx hb dX8_film_73 (by decide) ?_
        refine lv_iadd hx hb dX8_film_74 ?_
        refine lv_iconst (v := 0) hx hb dX8_film_75 (by decide) ?_
        refine lv_aload_n hx hb dX8_film_76 rfl (lv_at hl 0 rfl) ?_
        refine ow_getV (ci := 8) (C := RX8) (T := TX8) (N := 15) hx hb hts hown hG hW ow_i0 (by decide) rfl hinX8 2 (by decide) (fk := 2) rfl (hts (.fieldLink RX8 21 "FiftyOneCards" "heads" "[LFiftyOneCards$Head;") (by decide +kernel)) (v := .ref (ow_ad Z 5)) (ow_vR hW ow_i0.1 ow_i0.2.1 rfl) dX8_film_77 ?_
        refine lv_iload_n hx hb dX8_film_80 rfl (lv_at hl 2 rfl) ?_
        refine ow_rld (f := fun j => 25 + j) (ct := 0) hx hb hG hW ow_i5 ⟨by decide, by decide⟩ rfl ow_ra5 hf dX8_film_81 (fun h_81 hf hi81 => ?_)
        refine lv_aload_n hx hb dX8_film_82 rfl (lv_at hl 0 rfl) ?_
        obtain ⟨r_83, σ_83, hc83, hf⟩ := ow_cl_i hf
        refine ow_callr (va_runV (As := []) (rest := [.ref (ow_ad Z h_81), .int (0 : Int32), .int (x4 + (1 : Int32)), .ref (ow_ad Z 0), .int x4, .ref (ow_ad Z h_67)]) ⟨hx, hb, hml, hown, hts⟩ (c_X8_lawText l Z fu σ r_83 σ_83 hc83) (cwV 0 hts gX8_film_X8_lawText rfl rfl rfl (by decide +kernel) ⟨Nat.le_of_ble_eq_true rfl, Nat.le_of_ble_eq_true rfl⟩) (ow_preV hG hW ow_i0 (by decide) rfl) rfl rfl hl.1 rfl (lv_room (Nat.le_of_ble_eq_true rfl)) dX8_film_83 ⟨Nat.zero_le _, Nat.zero_le _⟩) hW (fun b83 H locs hW => ?_)
        obtain ⟨r_86, σ_86, hc86, hf⟩ := ow_cl_i hf
        refine ow_calli (va_runV (As := [.int (x4 + (1 : Int32)), .int (0 : Int32), .ref (ow_ad Z h_81), .ref (ow_ad Z r_83)]) (rest := [.int x4, .ref (ow_ad Z h_67)]) ⟨hx, hb, hml, hown, hts⟩ (c_X8_saysBut l Z fu (x4 + (1 : Int32)) (0 : Int32) h_81 hi81 r_83 b83 σ_83 r_86 σ_86 hc86) (cwV 4 hts gX8_film_X8_saysBut rfl rfl rfl (by decide +kernel) ⟨Nat.le_of_ble_eq_true rfl, Nat.le_of_ble_eq_true rfl⟩) (ow_preV hG hW ow_i0 (by decide) rfl) rfl rfl hl.1 rfl (lv_room (Nat.le_of_ble_eq_true rfl)) dX8_film_86 ⟨Nat.zero_le _, Nat.zero_le _⟩) hW (fun H locs hW => ?_)
        obtain ⟨σ_89, hc89, hf⟩ := ow_cv_i hf
        refine ow_callv (va_runVN (As := [.int x4, .int r_86]) (rest := []) ⟨hx, hb, hml, hown, hts⟩ (c_X5_put l Z fu h_67 hi67 x4 r_86 σ_86 σ_89  hc89) ⟨va_cnB (host := "FiftyOneCards") 2 hts ggX8_film_X5_put rfl rfl rfl (ow_nwp hG (.methodLinkNest RX8 288 yX5_put "FiftyOneCards") (by decide +kernel)) (hts (.initialized RX5) (by decide +kernel)) (by decide +kernel) ⟨Nat.le_of_ble_eq_true rfl, Nat.le_of_ble_eq_true rfl⟩, hts (.instanceMethod yX5_put) (by decide +kernel), hts (.selects RX5 yX5_put yX5_put) (by decide +kernel)⟩ (ow_preV hG hW hi67 (by decide) rfl) rfl rfl hl.1 rfl (lv_room (Nat.le_of_ble_eq_true rfl)) dX8_film_89 ⟨Nat.zero_le _, Nat.zero_le _⟩) hW (fun H locs hW => ?_)
        refine ow_iinc (d := 1) (lv' := fun z => [(4, .int z), (0, .ref (ow_ad Z 0)), (1, .int x1), (2, .int x2), (3, .int x3)]) hx hb hf dX8_film_92 hl (k := 4) rfl (by decide) (by decide) (fun z => rfl) (fun x4_92 hf ls hl => ?_)
        refine lv_goto (tgt := 56) hx hb dX8_film_95 (by decide) ?_
        exact ih x1 x2 x3 x4_92 σ_89 _ _ _ hf hW (lv_sub hl [1, 2, 3, 4, 0] rfl)
  have hl := lv_entry ([.ref (ow_ad Z 0), .int a1, .int a2, .int a3]) (n := 5) (Nat.le_of_ble_eq_true rfl)
  refine W.eq (g2 := F0 m 0 ((lg_sl ([.ref (ow_ad Z 0), .int a1, .int a2, .int a3]) ++ List.replicate (5 - (lg_sl ([.ref (ow_ad Z 0), .int a1, .int a2, .int a3])).length) Slot.unset).toArray) []) (by rw [hav]; exact lg_entry_eq _ _ _) ?_
  generalize (lg_sl ([.ref (ow_ad Z 0), .int a1, .int a2, .int a3]) ++ List.replicate (5 - (lg_sl ([.ref (ow_ad Z 0), .int a1, .int a2, .int a3])).length) Slot.unset).toArray = ls at hl ⊢
  have hl : lv_has ls 5 [(0, .ref (ow_ad Z 0)), (1, .int a1), (2, .int a2), (3, .int a3)] := hl
  unfold f_X8_film at hf
  refine lv_iload_n hx hb dX8_film_0 rfl (lv_at hl 1 rfl) ?_
  obtain ⟨r_1, σ_1, hc1, hf⟩ := ow_cl_i hf
  refine ow_callz (va_runS (As := [.int a1]) (rest := []) ⟨hx, hb, hml, hown, hts⟩ (c_X8_isSheet l Z fu a1 σ r_1 σ_1 hc1) (va_cwS 1 hts gX8_film_X8_isSheet rfl rfl rfl (by decide +kernel) ⟨Nat.le_of_ble_eq_true rfl, Nat.le_of_ble_eq_true rfl⟩) (ow_preS hG hW) rfl rfl hl.1 rfl (lv_room (Nat.le_of_ble_eq_true rfl)) dX8_film_1 ⟨Nat.zero_le _, Nat.zero_le _⟩) hW (fun b1 H locs hW => ?_)
  refine lv_if_ne (tgt := 10) hx hb dX8_film_4 (by decide) (fun c4 => ?_) (fun c4 => ?_)
  · replace hf := ow_if_f c4 hf
    refine lv_aload_n hx hb dX8_film_10 rfl (lv_at hl 0 rfl) ?_
    refine lv_iload_n hx hb dX8_film_11 rfl (lv_at hl 2 rfl) ?_
    obtain ⟨r_12, σ_12, hc12, hf⟩ := ow_cl_i hf
    refine ow_callz (va_runV (As := [.int a2]) (rest := []) ⟨hx, hb, hml, hown, hts⟩ (c_X8_isHead l Z fu a2 σ_1 r_12 σ_12 hc12) (cwV 1 hts gX8_film_X8_isHead rfl rfl rfl (by decide +kernel) ⟨Nat.le_of_ble_eq_true rfl, Nat.le_of_ble_eq_true rfl⟩) (ow_preV hG hW ow_i0 (by decide) rfl) rfl rfl hl.1 rfl (lv_room (Nat.le_of_ble_eq_true rfl)) dX8_film_12 ⟨Nat.zero_le _, Nat.zero_le _⟩) hW (fun b12 H locs hW => ?_)
    refine lv_if_ne (tgt := 21) hx hb dX8_film_15 (by decide) (fun c15 => ?_) (fun c15 => ?_)
    · replace hf := ow_if_f c15 hf
      refine lv_iload_n hx hb dX8_film_21 rfl (lv_at hl 3 rfl) ?_
      refine lv_if_lt (tgt := 39) hx hb dX8_film_22 (by decide) (fun c22 => ?_) (fun c22 => ?_)
      · replace hf := ow_if_t c22 hf
        refine lv_bipush (v := -7) hx hb dX8_film_39 (by decide) ?_
        exact ow_iret hx hb hr hW hf dX8_film_41 hlocks
      · replace hf := ow_if_f c22 hf
        refine lv_iload_n hx hb dX8_film_25 rfl (lv_at hl 3 rfl) ?_
        refine lv_aload_n hx hb dX8_film_26 rfl (lv_at hl 0 rfl) ?_
        refine ow_getV (ci := 8) (C := RX8) (T := TX8) (N := 15) hx hb hts hown hG hW ow_i0 (by decide) rfl hinX8 11 (by decide) (fk := 0) rfl (hts (.fieldLink RX8 74 "FiftyOneCards" "pack" "I") (by decide +kernel)) (v := .int (σ_12.1 0 11)) rfl dX8_film_27 ?_
        refine lv_icmp_gt (tgt := 39) hx hb dX8_film_30 (by decide) (fun c30 => ?_) (fun c30 => ?_)
        · replace hf := ow_if_t c30 hf
          refine lv_bipush (v := -7) hx hb dX8_film_39 (by decide) ?_
          exact ow_iret hx hb hr hW hf dX8_film_41 hlocks
        · replace hf := ow_if_f c30 hf
          refine lv_iload_n hx hb dX8_film_33 rfl (lv_at hl 3 rfl) ?_
          refine lv_bipush (v := 40) hx hb dX8_film_34 (by decide) ?_
          refine lv_icmp_le (tgt := 42) hx hb dX8_film_36 (by decide) (fun c36 => ?_) (fun c36 => ?_)
          · replace hf := ow_if_t c36 hf
            refine lv_aload_n hx hb dX8_film_42 rfl (lv_at hl 0 rfl) ?_
            refine ow_getV (ci := 8) (C := RX8) (T := TX8) (N := 15) hx hb hts hown hG hW ow_i0 (by decide) rfl hinX8 9 (by decide) (fk := 2) rfl (hts (.fieldLink RX8 63 "FiftyOneCards" "sheets" "[LFiftyOneCards$Sheet;") (by decide +kernel)) (v := .ref (ow_ad Z 15)) (ow_vR hW ow_i0.1 ow_i0.2.1 rfl) dX8_film_43 ?_
            refine lv_iload_n hx hb dX8_film_46 rfl (lv_at hl 1 rfl) ?_
            refine ow_rld (f := fun j => 48 + 2 * j) (ct := 5) hx hb hG hW ow_i15 ⟨by decide, by decide⟩ rfl ow_ra15 hf dX8_film_47 (fun h_47 hf hi47 => ?_)
            refine lv_iconst (v := 2) hx hb dX8_film_48 (by decide) ?_
            refine lv_iload_n hx hb dX8_film_49 rfl (lv_at hl 3 rfl) ?_
            obtain ⟨σ_50, hc50, hf⟩ := ow_cv_i hf
            refine ow_callv (va_runVN (As := [.int (2 : Int32), .int a3]) (rest := []) ⟨hx, hb, hml, hown, hts⟩ (c_X5_become l Z fu h_47 hi47 (2 : Int32) a3 σ_12 σ_50  hc50) ⟨va_cnB (host := "FiftyOneCards") 2 hts ggX8_film_X5_become rfl rfl rfl (ow_nwp hG (.methodLinkNest RX8 286 yX5_become "FiftyOneCards") (by decide +kernel)) (hts (.initialized RX5) (by decide +kernel)) (by decide +kernel) ⟨Nat.le_of_ble_eq_true rfl, Nat.le_of_ble_eq_true rfl⟩, hts (.instanceMethod yX5_become) (by decide +kernel), hts (.selects RX5 yX5_become yX5_become) (by decide +kernel)⟩ (ow_preV hG hW hi47 (by decide) rfl) rfl rfl hl.1 rfl (lv_room (Nat.le_of_ble_eq_true rfl)) dX8_film_50 ⟨Nat.zero_le _, Nat.zero_le _⟩) hW (fun H locs hW => ?_)
            refine lv_iconst (v := 0) hx hb dX8_film_53 (by decide) ?_
            refine lv_istore (lv' := [(4, .int (0 : Int32)), (0, .ref (ow_ad Z 0)), (1, .int a1), (2, .int a2), (3, .int a3)]) hx hb dX8_film_54 hl (by decide) rfl (fun ls hl => ?_)
            exact hJ56 fu a1 a2 a3 (0 : Int32) σ_50 _ _ _ hf hW (lv_sub hl [1, 2, 3, 4, 0] rfl)
          · replace hf := ow_if_f c36 hf
            refine lv_bipush (v := -7) hx hb dX8_film_39 (by decide) ?_
            exact ow_iret hx hb hr hW hf dX8_film_41 hlocks
    · replace hf := ow_if_t c15 hf
      refine lv_bipush (v := -5) hx hb dX8_film_18 (by decide) ?_
      exact ow_iret hx hb hr hW hf dX8_film_20 hlocks
  · replace hf := ow_if_t c4 hf
    refine lv_bipush (v := -2) hx hb dX8_film_7 (by decide) ?_
    exact ow_iret hx hb hr hW hf dX8_film_9 hlocks
set_option maxHeartbeats 40000000 in
set_option maxRecDepth 100000 in
theorem c_X8_isSeed (l : Launch) (Z : ow_Z) (fu : Nat) (a1 : Int32) (σ : ow_S) (rr : Int32) (σr : ow_S) (hf : f_X8_isSeed fu a1 σ = some (rr, σr)) : Met l yX8_isSeed wsX8_isSeed { frames := 1, cells := 0, slots := 0, locals := 60 } (ow_Pc Z 0 56 [.int a1] σ) (ow_Qz Z 0 56 rr σr) 0 0 (ow_A Z 0 56) := by
  refine Met.ofW (cc := cX8_isSeed) (maxL := 1) (ret := (some .boolean)) (by decide) rfl ?_
  intro p e s m args below meth c s₁ B hml hv
  obtain ⟨hav, hB⟩ := hv
  obtain ⟨hG, hW⟩ := ow_begin hB
  have hx := B.exec
  have hb := B.bytes
  have hr := B.returns
  have hts := atoms_spec (ws := wsX8_isSeed) B.pre
  have hown : s.vm.findClass RX8 = some m.cls := findClass_of_methodNamed B.named
  have hlocks := B.notSynchronized
  have hl := lv_entry ([.int a1]) (n := 1) (Nat.le_of_ble_eq_true rfl)
  refine W.eq (g2 := F0 m 0 ((lg_sl ([.int a1]) ++ List.replicate (1 - (lg_sl ([.int a1])).length) Slot.unset).toArray) []) (by rw [hav]; exact lg_entry_eq _ _ _) ?_
  generalize (lg_sl ([.int a1]) ++ List.replicate (1 - (lg_sl ([.int a1])).length) Slot.unset).toArray = ls at hl ⊢
  have hl : lv_has ls 1 [(0, .int a1)] := hl
  unfold f_X8_isSeed at hf
  refine lv_iload_n hx hb dX8_isSeed_0 rfl (lv_at hl 0 rfl) ?_
  refine lv_if_lt (tgt := 15) hx hb dX8_isSeed_1 (by decide) (fun c1 => ?_) (fun c1 => ?_)
  · replace hf := ow_if_t c1 hf
    refine lv_iconst (v := 0) hx hb dX8_isSeed_15 (by decide) ?_
    exact ow_zret hx hb hr (Or.inl rfl) hW hf dX8_isSeed_16 hlocks
  · replace hf := ow_if_f c1 hf
    refine lv_iload_n hx hb dX8_isSeed_4 rfl (lv_at hl 0 rfl) ?_
    refine lv_ldcw (v := 99999) hx hb hown (hts (.constant RX8 337 (99999)) (by decide +kernel)) dX8_isSeed_5 ?_
    refine lv_icmp_gt (tgt := 15) hx hb dX8_isSeed_8 (by decide) (fun c8 => ?_) (fun c8 => ?_)
    · replace hf := ow_if_t c8 hf
      refine lv_iconst (v := 0) hx hb dX8_isSeed_15 (by decide) ?_
      exact ow_zret hx hb hr (Or.inl rfl) hW hf dX8_isSeed_16 hlocks
    · replace hf := ow_if_f c8 hf
      refine lv_iconst (v := 1) hx hb dX8_isSeed_11 (by decide) ?_
      refine lv_goto (tgt := 16) hx hb dX8_isSeed_12 (by decide) ?_
      exact ow_zret hx hb hr (Or.inr rfl) hW hf dX8_isSeed_16 hlocks
set_option maxHeartbeats 40000000 in
set_option maxRecDepth 100000 in
theorem c_X8_drawTrialRow (l : Launch) (Z : ow_Z) (fu : Nat) (a1 : Int32) (σ : ow_S) (rr : Int32) (σr : ow_S) (hf : f_X8_drawTrialRow fu a1 σ = some (rr, σr)) : Met l yX8_drawTrialRow wsX8_drawTrialRow { frames := 3, cells := 0, slots := 0, locals := 106 } (ow_Pc Z 0 56 [.ref (ow_ad Z 0), .int a1] σ) (ow_Qi Z 0 56 rr σr) 0 0 (ow_A Z 0 56) := by
  refine Met.ofW (cc := cX8_drawTrialRow) (maxL := 4) (ret := (some .int)) (by decide) rfl ?_
  intro p e s m args below meth c s₁ B hml hv
  obtain ⟨hav, hB⟩ := hv
  obtain ⟨hG, hW⟩ := ow_begin hB
  have hx := B.exec
  have hb := B.bytes
  have hr := B.returns
  have hts := atoms_spec (ws := wsX8_drawTrialRow) B.pre
  have hown : s.vm.findClass RX8 = some m.cls := findClass_of_methodNamed B.named
  have hlocks := B.notSynchronized
  have hinX4 : ∀ w ∈ wsX40, w ∈ wsX8_drawTrialRow := by decide +kernel
  have hinX8 : ∀ w ∈ wsX80, w ∈ wsX8_drawTrialRow := by decide +kernel
  have hJ45 : ∀ (fn : Nat), ∀ (x2 : Int32) (x3 : Int32) (σ : ow_S) (H : Heap) (locs : List Loc) (ls : Array Slot), L_X8_drawTrialRow_45 fu fn x2 x3 σ = some (rr, σr) → ow_Wd Z 0 56 σ s H locs → lv_has ls 4 [(0, .ref (ow_ad Z 0)), (2, .int x2), (3, .int x3)] → W p l e (headSpec wsX8_drawTrialRow { frames := 3, cells := 0, slots := 0, locals := 106 }).room s m args below meth c H locs 0 0 (MQ below (ow_Qi Z 0 56 rr σr) args s 0 0 (ow_A Z 0 56)) (F0 m 45 ls []) := by
    intro fn
    induction fn with
    | zero => intro x2 x3 σ H locs ls hf hW hl; simp [L_X8_drawTrialRow_45] at hf
    | succ fn ih =>
      intro x2 x3 σ H locs ls hf hW hl
      rw [L_X8_drawTrialRow_45] at hf
      refine lv_iload_n hx hb dX8_drawTrialRow_45 rfl (lv_at hl 2 rfl) ?_
      refine lv_iconst (v := 1) hx hb dX8_drawTrialRow_46 (by decide) ?_
      refine lv_icmp_lt (tgt := 74) hx hb dX8_drawTrialRow_47 (by decide) (fun c47 => ?_) (fun c47 => ?_)
      · replace hf := ow_if_t c47 hf
        refine lv_iload_n hx hb dX8_drawTrialRow_74 rfl (lv_at hl 1 rfl) ?_
        exact ow_iret hx hb hr hW hf dX8_drawTrialRow_75 hlocks
      · replace hf := ow_if_f c47 hf
        refine lv_aload_n hx hb dX8_drawTrialRow_50 rfl (lv_at hl 0 rfl) ?_
        refine ow_getV (ci := 8) (C := RX8) (T := TX8) (N := 15) hx hb hts hown hG hW ow_i0 (by decide) rfl hinX8 1 (by decide) (fk := 2) rfl (hts (.fieldLink RX8 16 "FiftyOneCards" "trialRow" "LFiftyOneCards$Row;") (by decide +kernel)) (v := .ref (ow_ad Z 3)) (ow_vR hW ow_i0.1 ow_i0.2.1 rfl) dX8_drawTrialRow_51 ?_
        refine lv_iload_n hx hb dX8_drawTrialRow_54 rfl (lv_at hl 2 rfl) ?_
        refine lv_aload_n hx hb dX8_drawTrialRow_55 rfl (lv_at hl 0 rfl) ?_
        refine ow_getV (ci := 8) (C := RX8) (T := TX8) (N := 15) hx hb hts hown hG hW ow_i0 (by decide) rfl hinX8 7 (by decide) (fk := 2) rfl (hts (.fieldLink RX8 53 "FiftyOneCards" "lots" "LFiftyOneCards$Lots;") (by decide +kernel)) (v := .ref (ow_ad Z 13)) (ow_vR hW ow_i0.1 ow_i0.2.1 rfl) dX8_drawTrialRow_56 ?_
        refine lv_iload_n hx hb dX8_drawTrialRow_59 rfl (lv_at hl 2 rfl) ?_
        refine lv_iconst (v := 1) hx hb dX8_drawTrialRow_60 (by decide) ?_
        refine lv_iadd hx hb dX8_drawTrialRow_61 ?_
        obtain ⟨r_62, σ_62, hc62, hf⟩ := ow_cl_i hf
        refine ow_calli (va_runVN (As := [.int (x3 + (1 : Int32))]) (rest := [.int x3, .ref (ow_ad Z 3)]) ⟨hx, hb, hml, hown, hts⟩ (c_X2_below l Z fu (x3 + (1 : Int32)) σ r_62 σ_62 hc62) ⟨va_cnB (host := "FiftyOneCards") 1 hts ggX8_drawTrialRow_X2_below rfl rfl rfl (ow_nwp hG (.methodLinkNest RX8 356 yX2_below "FiftyOneCards") (by decide +kernel)) (hts (.initialized RX2) (by decide +kernel)) (by decide +kernel) ⟨Nat.le_of_ble_eq_true rfl, Nat.le_of_ble_eq_true rfl⟩, hts (.instanceMethod yX2_below) (by decide +kernel), hts (.selects RX2 yX2_below yX2_below) (by decide +kernel)⟩ (ow_preV hG hW ow_i13 (by decide) rfl) rfl rfl hl.1 rfl (lv_room (Nat.le_of_ble_eq_true rfl)) dX8_drawTrialRow_62 ⟨Nat.zero_le _, Nat.zero_le _⟩) hW (fun H locs hW => ?_)
        obtain ⟨σ_65, hc65, hf⟩ := ow_cv_i hf
        refine ow_callv (va_runVN (As := [.int x3, .int r_62]) (rest := []) ⟨hx, hb, hml, hown, hts⟩ (c_X4_change l Z fu 3 ow_i3 x3 r_62 σ_62 σ_65  hc65) ⟨va_cnB (host := "FiftyOneCards") 2 hts ggX8_drawTrialRow_X4_change rfl rfl rfl (ow_nwp hG (.methodLinkNest RX8 359 yX4_change "FiftyOneCards") (by decide +kernel)) (hts (.initialized RX4) (by decide +kernel)) (by decide +kernel) ⟨Nat.le_of_ble_eq_true rfl, Nat.le_of_ble_eq_true rfl⟩, hts (.instanceMethod yX4_change) (by decide +kernel), hts (.selects RX4 yX4_change yX4_change) (by decide +kernel)⟩ (ow_preV hG hW ow_i3 (by decide) rfl) rfl rfl hl.1 rfl (lv_room (Nat.le_of_ble_eq_true rfl)) dX8_drawTrialRow_65 ⟨Nat.zero_le _, Nat.zero_le _⟩) hW (fun H locs hW => ?_)
        refine ow_iinc (d := -1) (lv' := fun z => [(3, .int z), (0, .ref (ow_ad Z 0)), (2, .int x2)]) hx hb hf dX8_drawTrialRow_68 hl (k := 2) rfl (by decide) (by decide) (fun z => rfl) (fun x3_68 hf ls hl => ?_)
        refine lv_goto (tgt := 45) hx hb dX8_drawTrialRow_71 (by decide) ?_
        exact ih x2 x3_68 σ_65 _ _ _ hf hW (lv_sub hl [1, 2, 0] rfl)
  have hl := lv_entry ([.ref (ow_ad Z 0), .int a1]) (n := 4) (Nat.le_of_ble_eq_true rfl)
  refine W.eq (g2 := F0 m 0 ((lg_sl ([.ref (ow_ad Z 0), .int a1]) ++ List.replicate (4 - (lg_sl ([.ref (ow_ad Z 0), .int a1])).length) Slot.unset).toArray) []) (by rw [hav]; exact lg_entry_eq _ _ _) ?_
  generalize (lg_sl ([.ref (ow_ad Z 0), .int a1]) ++ List.replicate (4 - (lg_sl ([.ref (ow_ad Z 0), .int a1])).length) Slot.unset).toArray = ls at hl ⊢
  have hl : lv_has ls 4 [(0, .ref (ow_ad Z 0)), (1, .int a1)] := hl
  unfold f_X8_drawTrialRow at hf
  refine lv_aload_n hx hb dX8_drawTrialRow_0 rfl (lv_at hl 0 rfl) ?_
  refine ow_getV (ci := 8) (C := RX8) (T := TX8) (N := 15) hx hb hts hown hG hW ow_i0 (by decide) rfl hinX8 7 (by decide) (fk := 2) rfl (hts (.fieldLink RX8 53 "FiftyOneCards" "lots" "LFiftyOneCards$Lots;") (by decide +kernel)) (v := .ref (ow_ad Z 13)) (ow_vR hW ow_i0.1 ow_i0.2.1 rfl) dX8_drawTrialRow_1 ?_
  refine lv_iload_n hx hb dX8_drawTrialRow_4 rfl (lv_at hl 1 rfl) ?_
  obtain ⟨σ_5, hc5, hf⟩ := ow_cv_i hf
  refine ow_callv (va_runVN (As := [.int a1]) (rest := []) ⟨hx, hb, hml, hown, hts⟩ (c_X2_start l Z fu a1 σ σ_5  hc5) ⟨va_cnB (host := "FiftyOneCards") 1 hts ggX8_drawTrialRow_X2_start rfl rfl rfl (ow_nwp hG (.methodLinkNest RX8 353 yX2_start "FiftyOneCards") (by decide +kernel)) (hts (.initialized RX2) (by decide +kernel)) (by decide +kernel) ⟨Nat.le_of_ble_eq_true rfl, Nat.le_of_ble_eq_true rfl⟩, hts (.instanceMethod yX2_start) (by decide +kernel), hts (.selects RX2 yX2_start yX2_start) (by decide +kernel)⟩ (ow_preV hG hW ow_i13 (by decide) rfl) rfl rfl hl.1 rfl (lv_room (Nat.le_of_ble_eq_true rfl)) dX8_drawTrialRow_5 ⟨Nat.zero_le _, Nat.zero_le _⟩) hW (fun H locs hW => ?_)
  refine lv_aload_n hx hb dX8_drawTrialRow_8 rfl (lv_at hl 0 rfl) ?_
  refine ow_getV (ci := 8) (C := RX8) (T := TX8) (N := 15) hx hb hts hown hG hW ow_i0 (by decide) rfl hinX8 7 (by decide) (fk := 2) rfl (hts (.fieldLink RX8 53 "FiftyOneCards" "lots" "LFiftyOneCards$Lots;") (by decide +kernel)) (v := .ref (ow_ad Z 13)) (ow_vR hW ow_i0.1 ow_i0.2.1 rfl) dX8_drawTrialRow_9 ?_
  refine lv_aload_n hx hb dX8_drawTrialRow_12 rfl (lv_at hl 0 rfl) ?_
  refine ow_getV (ci := 8) (C := RX8) (T := TX8) (N := 15) hx hb hts hown hG hW ow_i0 (by decide) rfl hinX8 11 (by decide) (fk := 0) rfl (hts (.fieldLink RX8 74 "FiftyOneCards" "pack" "I") (by decide +kernel)) (v := .int (σ_5.1 0 11)) rfl dX8_drawTrialRow_13 ?_
  obtain ⟨r_16, σ_16, hc16, hf⟩ := ow_cl_i hf
  refine ow_calli (va_runVN (As := [.int (σ_5.1 0 11)]) (rest := []) ⟨hx, hb, hml, hown, hts⟩ (c_X2_below l Z fu (σ_5.1 0 11) σ_5 r_16 σ_16 hc16) ⟨va_cnB (host := "FiftyOneCards") 1 hts ggX8_drawTrialRow_X2_below rfl rfl rfl (ow_nwp hG (.methodLinkNest RX8 356 yX2_below "FiftyOneCards") (by decide +kernel)) (hts (.initialized RX2) (by decide +kernel)) (by decide +kernel) ⟨Nat.le_of_ble_eq_true rfl, Nat.le_of_ble_eq_true rfl⟩, hts (.instanceMethod yX2_below) (by decide +kernel), hts (.selects RX2 yX2_below yX2_below) (by decide +kernel)⟩ (ow_preV hG hW ow_i13 (by decide) rfl) rfl rfl hl.1 rfl (lv_room (Nat.le_of_ble_eq_true rfl)) dX8_drawTrialRow_16 ⟨Nat.zero_le _, Nat.zero_le _⟩) hW (fun H locs hW => ?_)
  refine lv_iconst (v := 1) hx hb dX8_drawTrialRow_19 (by decide) ?_
  refine lv_iadd hx hb dX8_drawTrialRow_20 ?_
  refine ow_topi hf (fun x2_21 hf => ?_)
  refine lv_istore_n (lv' := [(2, .int x2_21), (0, .ref (ow_ad Z 0)), (1, .int a1)]) hx hb dX8_drawTrialRow_21 rfl hl (by decide) rfl (fun ls hl => ?_)
  refine lv_aload_n hx hb dX8_drawTrialRow_22 rfl (lv_at hl 1 rfl) ?_
  refine ow_getV (ci := 8) (C := RX8) (T := TX8) (N := 15) hx hb hts hown hG hW ow_i0 (by decide) rfl hinX8 1 (by decide) (fk := 2) rfl (hts (.fieldLink RX8 16 "FiftyOneCards" "trialRow" "LFiftyOneCards$Row;") (by decide +kernel)) (v := .ref (ow_ad Z 3)) (ow_vR hW ow_i0.1 ow_i0.2.1 rfl) dX8_drawTrialRow_23 ?_
  refine lv_iload_n hx hb dX8_drawTrialRow_26 rfl (lv_at hl 0 rfl) ?_
  refine lv_aload_n hx hb dX8_drawTrialRow_27 rfl (lv_at hl 1 rfl) ?_
  refine ow_getV (ci := 8) (C := RX8) (T := TX8) (N := 15) hx hb hts hown hG hW ow_i0 (by decide) rfl hinX8 11 (by decide) (fk := 0) rfl (hts (.fieldLink RX8 74 "FiftyOneCards" "pack" "I") (by decide +kernel)) (v := .int (σ_16.1 0 11)) rfl dX8_drawTrialRow_28 ?_
  refine lv_iconst (v := 0) hx hb dX8_drawTrialRow_31 (by decide) ?_
  obtain ⟨σ_32, hc32, hf⟩ := ow_cv_i hf
  refine ow_callv (va_runVN (As := [.int x2_21, .int (σ_16.1 0 11), .int (0 : Int32)]) (rest := []) ⟨hx, hb, hml, hown, hts⟩ (c_X4_becomeAllBut l Z fu 3 ow_i3 x2_21 (σ_16.1 0 11) (0 : Int32) σ_16 σ_32  hc32) ⟨va_cnB (host := "FiftyOneCards") 3 hts ggX8_drawTrialRow_X4_becomeAllBut rfl rfl rfl (ow_nwp hG (.methodLinkNest RX8 125 yX4_becomeAllBut "FiftyOneCards") (by decide +kernel)) (hts (.initialized RX4) (by decide +kernel)) (by decide +kernel) ⟨Nat.le_of_ble_eq_true rfl, Nat.le_of_ble_eq_true rfl⟩, hts (.instanceMethod yX4_becomeAllBut) (by decide +kernel), hts (.selects RX4 yX4_becomeAllBut yX4_becomeAllBut) (by decide +kernel)⟩ (ow_preV hG hW ow_i3 (by decide) rfl) rfl rfl hl.1 rfl (lv_room (Nat.le_of_ble_eq_true rfl)) dX8_drawTrialRow_32 ⟨Nat.zero_le _, Nat.zero_le _⟩) hW (fun H locs hW => ?_)
  refine lv_aload_n hx hb dX8_drawTrialRow_35 rfl (lv_at hl 1 rfl) ?_
  refine ow_getV (ci := 8) (C := RX8) (T := TX8) (N := 15) hx hb hts hown hG hW ow_i0 (by decide) rfl hinX8 1 (by decide) (fk := 2) rfl (hts (.fieldLink RX8 16 "FiftyOneCards" "trialRow" "LFiftyOneCards$Row;") (by decide +kernel)) (v := .ref (ow_ad Z 3)) (ow_vR hW ow_i0.1 ow_i0.2.1 rfl) dX8_drawTrialRow_36 ?_
  refine ow_getVN (ci := 4) (C := RX4) (T := TX4) (N := 2) hx hb hts hown hG hW ow_i3 (by decide) rfl hinX4 1 (by decide) (fk := 0) rfl (ow_nwp hG (.fieldLinkNest RX8 108 "FiftyOneCards$Row" "size" "I" "FiftyOneCards") (by decide +kernel)) (v := .int (σ_32.1 3 1)) rfl dX8_drawTrialRow_39 ?_
  refine lv_iconst (v := 1) hx hb dX8_drawTrialRow_42 (by decide) ?_
  refine lv_isub hx hb dX8_drawTrialRow_43 ?_
  refine ow_topi hf (fun x3_44 hf => ?_)
  refine lv_istore_n (lv' := [(3, .int x3_44), (2, .int x2_21), (0, .ref (ow_ad Z 0)), (1, .int a1)]) hx hb dX8_drawTrialRow_44 rfl hl (by decide) rfl (fun ls hl => ?_)
  exact hJ45 fu x2_21 x3_44 σ_32 _ _ _ hf hW (lv_sub hl [2, 1, 0] rfl)
set_option maxHeartbeats 40000000 in
set_option maxRecDepth 100000 in
theorem c_X8_drawn (l : Launch) (Z : ow_Z) (fu : Nat) (a1 : Int32) (a2 : Int32) (a3 : Int32) (σ : ow_S) (rr : Int32) (σr : ow_S) (hf : f_X8_drawn fu a1 a2 a3 σ = some (rr, σr)) : Met l yX8_drawn wsX8_drawn { frames := 7, cells := 0, slots := 0, locals := 203 } (ow_Pc Z 0 56 [.ref (ow_ad Z 0), .int a1, .int a2, .int a3] σ) (ow_Qi Z 0 56 rr σr) 0 0 (ow_A Z 0 56) := by
  refine Met.ofW (cc := cX8_drawn) (maxL := 5) (ret := (some .int)) (by decide) rfl ?_
  intro p e s m args below meth c s₁ B hml hv
  obtain ⟨hav, hB⟩ := hv
  obtain ⟨hG, hW⟩ := ow_begin hB
  have hx := B.exec
  have hb := B.bytes
  have hr := B.returns
  have hts := atoms_spec (ws := wsX8_drawn) B.pre
  have hown : s.vm.findClass RX8 = some m.cls := findClass_of_methodNamed B.named
  have hlocks := B.notSynchronized
  have hinX8 : ∀ w ∈ wsX80, w ∈ wsX8_drawn := by decide +kernel
  have hl := lv_entry ([.ref (ow_ad Z 0), .int a1, .int a2, .int a3]) (n := 5) (Nat.le_of_ble_eq_true rfl)
  refine W.eq (g2 := F0 m 0 ((lg_sl ([.ref (ow_ad Z 0), .int a1, .int a2, .int a3]) ++ List.replicate (5 - (lg_sl ([.ref (ow_ad Z 0), .int a1, .int a2, .int a3])).length) Slot.unset).toArray) []) (by rw [hav]; exact lg_entry_eq _ _ _) ?_
  generalize (lg_sl ([.ref (ow_ad Z 0), .int a1, .int a2, .int a3]) ++ List.replicate (5 - (lg_sl ([.ref (ow_ad Z 0), .int a1, .int a2, .int a3])).length) Slot.unset).toArray = ls at hl ⊢
  have hl : lv_has ls 5 [(0, .ref (ow_ad Z 0)), (1, .int a1), (2, .int a2), (3, .int a3)] := hl
  unfold f_X8_drawn at hf
  refine lv_aload_n hx hb dX8_drawn_0 rfl (lv_at hl 0 rfl) ?_
  refine lv_iload_n hx hb dX8_drawn_1 rfl (lv_at hl 2 rfl) ?_
  obtain ⟨r_2, σ_2, hc2, hf⟩ := ow_cl_i hf
  refine ow_callz (va_runV (As := [.int a2]) (rest := []) ⟨hx, hb, hml, hown, hts⟩ (c_X8_isHead l Z fu a2 σ r_2 σ_2 hc2) (cwV 1 hts gX8_drawn_X8_isHead rfl rfl rfl (by decide +kernel) ⟨Nat.le_of_ble_eq_true rfl, Nat.le_of_ble_eq_true rfl⟩) (ow_preV hG hW ow_i0 (by decide) rfl) rfl rfl hl.1 rfl (lv_room (Nat.le_of_ble_eq_true rfl)) dX8_drawn_2 ⟨Nat.zero_le _, Nat.zero_le _⟩) hW (fun b2 H locs hW => ?_)
  refine lv_if_ne (tgt := 11) hx hb dX8_drawn_5 (by decide) (fun c5 => ?_) (fun c5 => ?_)
  · replace hf := ow_if_f c5 hf
    refine lv_iload_n hx hb dX8_drawn_11 rfl (lv_at hl 1 rfl) ?_
    obtain ⟨r_12, σ_12, hc12, hf⟩ := ow_cl_i hf
    refine ow_callz (va_runS (As := [.int a1]) (rest := []) ⟨hx, hb, hml, hown, hts⟩ (c_X8_isSeed l Z fu a1 σ_2 r_12 σ_12 hc12) (va_cwS 1 hts gX8_drawn_X8_isSeed rfl rfl rfl (by decide +kernel) ⟨Nat.le_of_ble_eq_true rfl, Nat.le_of_ble_eq_true rfl⟩) (ow_preS hG hW) rfl rfl hl.1 rfl (lv_room (Nat.le_of_ble_eq_true rfl)) dX8_drawn_12 ⟨Nat.zero_le _, Nat.zero_le _⟩) hW (fun b12 H locs hW => ?_)
    refine lv_if_eq (tgt := 27) hx hb dX8_drawn_15 (by decide) (fun c15 => ?_) (fun c15 => ?_)
    · replace hf := ow_if_t c15 hf
      refine lv_ldcw (v := -1000007) hx hb hown (hts (.constant RX8 267 (-1000007)) (by decide +kernel)) dX8_drawn_27 ?_
      exact ow_iret hx hb hr hW hf dX8_drawn_30 hlocks
    · replace hf := ow_if_f c15 hf
      refine lv_iload_n hx hb dX8_drawn_18 rfl (lv_at hl 3 rfl) ?_
      refine lv_if_lt (tgt := 27) hx hb dX8_drawn_19 (by decide) (fun c19 => ?_) (fun c19 => ?_)
      · replace hf := ow_if_t c19 hf
        refine lv_ldcw (v := -1000007) hx hb hown (hts (.constant RX8 267 (-1000007)) (by decide +kernel)) dX8_drawn_27 ?_
        exact ow_iret hx hb hr hW hf dX8_drawn_30 hlocks
      · replace hf := ow_if_f c19 hf
        refine lv_iload_n hx hb dX8_drawn_22 rfl (lv_at hl 3 rfl) ?_
        refine lv_iconst (v := 1) hx hb dX8_drawn_23 (by decide) ?_
        refine lv_icmp_le (tgt := 31) hx hb dX8_drawn_24 (by decide) (fun c24 => ?_) (fun c24 => ?_)
        · replace hf := ow_if_t c24 hf
          refine lv_aload_n hx hb dX8_drawn_31 rfl (lv_at hl 0 rfl) ?_
          refine lv_iload_n hx hb dX8_drawn_32 rfl (lv_at hl 1 rfl) ?_
          obtain ⟨r_33, σ_33, hc33, hf⟩ := ow_cl_i hf
          refine ow_calli (va_runV (As := [.int a1]) (rest := []) ⟨hx, hb, hml, hown, hts⟩ (c_X8_drawTrialRow l Z fu a1 σ_12 r_33 σ_33 hc33) (cwV 1 hts gX8_drawn_X8_drawTrialRow rfl rfl rfl (by decide +kernel) ⟨Nat.le_of_ble_eq_true rfl, Nat.le_of_ble_eq_true rfl⟩) (ow_preV hG hW ow_i0 (by decide) rfl) rfl rfl hl.1 rfl (lv_room (Nat.le_of_ble_eq_true rfl)) dX8_drawn_33 ⟨Nat.zero_le _, Nat.zero_le _⟩) hW (fun H locs hW => ?_)
          refine lv_istore (lv' := [(4, .int r_33), (0, .ref (ow_ad Z 0)), (1, .int a1), (2, .int a2), (3, .int a3)]) hx hb dX8_drawn_36 hl (by decide) rfl (fun ls hl => ?_)
          refine lv_iload_n hx hb dX8_drawn_38 rfl (lv_at hl 4 rfl) ?_
          refine lv_if_ne (tgt := 47) hx hb dX8_drawn_39 (by decide) (fun c39 => ?_) (fun c39 => ?_)
          · replace hf := ow_if_f c39 hf
            refine lv_aload_n hx hb dX8_drawn_47 rfl (lv_at hl 1 rfl) ?_
            refine lv_aload_n hx hb dX8_drawn_48 rfl (lv_at hl 1 rfl) ?_
            refine ow_getV (ci := 8) (C := RX8) (T := TX8) (N := 15) hx hb hts hown hG hW ow_i0 (by decide) rfl hinX8 2 (by decide) (fk := 2) rfl (hts (.fieldLink RX8 21 "FiftyOneCards" "heads" "[LFiftyOneCards$Head;") (by decide +kernel)) (v := .ref (ow_ad Z 5)) (ow_vR hW ow_i0.1 ow_i0.2.1 rfl) dX8_drawn_49 ?_
            refine lv_iload_n hx hb dX8_drawn_52 rfl (lv_at hl 3 rfl) ?_
            refine ow_rld (f := fun j => 25 + j) (ct := 0) hx hb hG hW ow_i5 ⟨by decide, by decide⟩ rfl ow_ra5 hf dX8_drawn_53 (fun h_53 hf hi53 => ?_)
            refine lv_aload_n hx hb dX8_drawn_54 rfl (lv_at hl 1 rfl) ?_
            refine ow_getV (ci := 8) (C := RX8) (T := TX8) (N := 15) hx hb hts hown hG hW ow_i0 (by decide) rfl hinX8 1 (by decide) (fk := 2) rfl (hts (.fieldLink RX8 16 "FiftyOneCards" "trialRow" "LFiftyOneCards$Row;") (by decide +kernel)) (v := .ref (ow_ad Z 3)) (ow_vR hW ow_i0.1 ow_i0.2.1 rfl) dX8_drawn_55 ?_
            obtain ⟨r_58, σ_58, hc58, hf⟩ := ow_cl_i hf
            refine ow_calli (va_runV (As := [.ref (ow_ad Z h_53), .ref (ow_ad Z 3)]) (rest := []) ⟨hx, hb, hml, hown, hts⟩ (c_X8_saysOf l Z fu h_53 hi53 3 ow_i3 σ_33 r_58 σ_58 hc58) (cwV 2 hts gX8_drawn_X8_saysOf rfl rfl rfl (by decide +kernel) ⟨Nat.le_of_ble_eq_true rfl, Nat.le_of_ble_eq_true rfl⟩) (ow_preV hG hW ow_i0 (by decide) rfl) rfl rfl hl.1 rfl (lv_room (Nat.le_of_ble_eq_true rfl)) dX8_drawn_58 ⟨Nat.zero_le _, Nat.zero_le _⟩) hW (fun H locs hW => ?_)
            exact ow_iret hx hb hr hW hf dX8_drawn_61 hlocks
          · replace hf := ow_if_t c39 hf
            refine lv_iload hx hb dX8_drawn_42 (lv_at hl 0 rfl) ?_
            refine lv_goto (tgt := 61) hx hb dX8_drawn_44 (by decide) ?_
            exact ow_iret hx hb hr hW hf dX8_drawn_61 hlocks
        · replace hf := ow_if_f c24 hf
          refine lv_ldcw (v := -1000007) hx hb hown (hts (.constant RX8 267 (-1000007)) (by decide +kernel)) dX8_drawn_27 ?_
          exact ow_iret hx hb hr hW hf dX8_drawn_30 hlocks
  · replace hf := ow_if_t c5 hf
    refine lv_ldc (v := -1000005) hx hb hown (hts (.constant RX8 217 (-1000005)) (by decide +kernel)) dX8_drawn_8 ?_
    exact ow_iret hx hb hr hW hf dX8_drawn_10 hlocks
set_option maxHeartbeats 40000000 in
set_option maxRecDepth 100000 in
theorem c_X8_commonDivisor (l : Launch) (Z : ow_Z) (fu : Nat) (a1 : Int32) (a2 : Int32) (σ : ow_S) (rr : Int32) (σr : ow_S) (hf : f_X8_commonDivisor fu a1 a2 σ = some (rr, σr)) : Met l yX8_commonDivisor wsX8_commonDivisor { frames := 1, cells := 0, slots := 0, locals := 60 } (ow_Pc Z 0 56 [.int a1, .int a2] σ) (ow_Qi Z 0 56 rr σr) 0 0 (ow_A Z 0 56) := by
  refine Met.ofW (cc := cX8_commonDivisor) (maxL := 3) (ret := (some .int)) (by decide) rfl ?_
  intro p e s m args below meth c s₁ B hml hv
  obtain ⟨hav, hB⟩ := hv
  obtain ⟨hG, hW⟩ := ow_begin hB
  have hx := B.exec
  have hb := B.bytes
  have hr := B.returns
  have hts := atoms_spec (ws := wsX8_commonDivisor) B.pre
  have hown : s.vm.findClass RX8 = some m.cls := findClass_of_methodNamed B.named
  have hlocks := B.notSynchronized
  have hJ21 : ∀ (k2 : Int32 → Int32 → Int32 → ow_S → Option (Int32 × ow_S)) (hk2 : ∀ (x0 : Int32) (x1 : Int32) (x2 : Int32) (σ : ow_S) (H : Heap) (locs : List Loc) (ls : Array Slot), k2 x0 x1 x2 σ = some (rr, σr) → ow_Wd Z 0 56 σ s H locs → lv_has ls 3 [(0, .int x0), (1, .int x1), (2, .int x2)] → W p l e (headSpec wsX8_commonDivisor { frames := 1, cells := 0, slots := 0, locals := 60 }).room s m args below meth c H locs 0 0 (MQ below (ow_Qi Z 0 56 rr σr) args s 0 0 (ow_A Z 0 56)) (F0 m 2 ls [])), ∀ (x0 : Int32) (x1 : Int32) (x2 : Int32) (σ : ow_S) (H : Heap) (locs : List Loc) (ls : Array Slot), L_X8_commonDivisor_21 fu k2 x0 x1 x2 σ = some (rr, σr) → ow_Wd Z 0 56 σ s H locs → lv_has ls 3 [(0, .int x0), (1, .int x1), (2, .int x2)] → W p l e (headSpec wsX8_commonDivisor { frames := 1, cells := 0, slots := 0, locals := 60 }).room s m args below meth c H locs 0 0 (MQ below (ow_Qi Z 0 56 rr σr) args s 0 0 (ow_A Z 0 56)) (F0 m 21 ls []) := by
    intro k2 hk2 x0 x1 x2 σ H locs ls hf hW hl
    unfold L_X8_commonDivisor_21 at hf
    refine ow_iinc (d := -1) (lv' := fun z => [(2, .int z), (0, .int x0), (1, .int x1)]) hx hb hf dX8_commonDivisor_21 hl (k := 2) rfl (by decide) (by decide) (fun z => rfl) (fun x2_21 hf ls hl => ?_)
    refine lv_goto (tgt := 2) hx hb dX8_commonDivisor_24 (by decide) ?_
    exact hk2 x0 x1 x2_21 σ _ _ _ hf hW (lv_sub hl [1, 2, 0] rfl)
  have hJ2 : ∀ (fn : Nat), ∀ (x0 : Int32) (x1 : Int32) (x2 : Int32) (σ : ow_S) (H : Heap) (locs : List Loc) (ls : Array Slot), L_X8_commonDivisor_2 fu fn x0 x1 x2 σ = some (rr, σr) → ow_Wd Z 0 56 σ s H locs → lv_has ls 3 [(0, .int x0), (1, .int x1), (2, .int x2)] → W p l e (headSpec wsX8_commonDivisor { frames := 1, cells := 0, slots := 0, locals := 60 }).room s m args below meth c H locs 0 0 (MQ below (ow_Qi Z 0 56 rr σr) args s 0 0 (ow_A Z 0 56)) (F0 m 2 ls []) := by
    intro fn
    induction fn with
    | zero => intro x0 x1 x2 σ H locs ls hf hW hl; simp [L_X8_commonDivisor_2] at hf
    | succ fn ih =>
      intro x0 x1 x2 σ H locs ls hf hW hl
      rw [L_X8_commonDivisor_2] at hf
      refine lv_iload_n hx hb dX8_commonDivisor_2 rfl (lv_at hl 2 rfl) ?_
      refine lv_iconst (v := 1) hx hb dX8_commonDivisor_3 (by decide) ?_
      refine lv_icmp_le (tgt := 27) hx hb dX8_commonDivisor_4 (by decide) (fun c4 => ?_) (fun c4 => ?_)
      · replace hf := ow_if_t c4 hf
        refine lv_iconst (v := 1) hx hb dX8_commonDivisor_27 (by decide) ?_
        exact ow_iret hx hb hr hW hf dX8_commonDivisor_28 hlocks
      · replace hf := ow_if_f c4 hf
        refine lv_iload_n hx hb dX8_commonDivisor_7 rfl (lv_at hl 0 rfl) ?_
        refine lv_iload_n hx hb dX8_commonDivisor_8 rfl (lv_at hl 2 rfl) ?_
        obtain ⟨q9, hf⟩ := ow_ck_i hf
        refine ow_r_irem hx hb dX8_commonDivisor_9 q9 ?_
        refine lv_if_ne (tgt := 21) hx hb dX8_commonDivisor_10 (by decide) (fun c10 => ?_) (fun c10 => ?_)
        · replace hf := ow_if_f c10 hf
          exact hJ21 (L_X8_commonDivisor_2 fu fn) ih x0 x1 x2 σ _ _ _ hf hW (lv_sub hl [0, 1, 2] rfl)
        · replace hf := ow_if_t c10 hf
          refine lv_iload_n hx hb dX8_commonDivisor_13 rfl (lv_at hl 1 rfl) ?_
          refine lv_iload_n hx hb dX8_commonDivisor_14 rfl (lv_at hl 2 rfl) ?_
          obtain ⟨q15, hf⟩ := ow_ck_i hf
          refine ow_r_irem hx hb dX8_commonDivisor_15 q15 ?_
          refine lv_if_ne (tgt := 21) hx hb dX8_commonDivisor_16 (by decide) (fun c16 => ?_) (fun c16 => ?_)
          · replace hf := ow_if_f c16 hf
            exact hJ21 (L_X8_commonDivisor_2 fu fn) ih x0 x1 x2 σ _ _ _ hf hW (lv_sub hl [0, 1, 2] rfl)
          · replace hf := ow_if_t c16 hf
            refine lv_iload_n hx hb dX8_commonDivisor_19 rfl (lv_at hl 2 rfl) ?_
            exact ow_iret hx hb hr hW hf dX8_commonDivisor_20 hlocks
  have hl := lv_entry ([.int a1, .int a2]) (n := 3) (Nat.le_of_ble_eq_true rfl)
  refine W.eq (g2 := F0 m 0 ((lg_sl ([.int a1, .int a2]) ++ List.replicate (3 - (lg_sl ([.int a1, .int a2])).length) Slot.unset).toArray) []) (by rw [hav]; exact lg_entry_eq _ _ _) ?_
  generalize (lg_sl ([.int a1, .int a2]) ++ List.replicate (3 - (lg_sl ([.int a1, .int a2])).length) Slot.unset).toArray = ls at hl ⊢
  have hl : lv_has ls 3 [(0, .int a1), (1, .int a2)] := hl
  unfold f_X8_commonDivisor at hf
  refine lv_iload_n hx hb dX8_commonDivisor_0 rfl (lv_at hl 1 rfl) ?_
  refine lv_istore_n (lv' := [(2, .int a2), (0, .int a1), (1, .int a2)]) hx hb dX8_commonDivisor_1 rfl hl (by decide) rfl (fun ls hl => ?_)
  exact hJ2 fu a1 a2 a2 σ _ _ _ hf hW (lv_sub hl [1, 2, 0] rfl)
set_option maxHeartbeats 40000000 in
set_option maxRecDepth 100000 in
theorem c_X8_odds (l : Launch) (Z : ow_Z) (fu : Nat) (a1 : Int32) (a2 : Int32) (a3 : Int32) (a4 : Int32) (σ : ow_S) (rr : Int64) (σr : ow_S) (hf : f_X8_odds fu a1 a2 a3 a4 σ = some (rr, σr)) : Met l yX8_odds wsX8_odds { frames := 7, cells := 0, slots := 0, locals := 203 } (ow_Pc Z 0 56 [.ref (ow_ad Z 0), .int a1, .int a2, .int a3, .int a4] σ) (ow_Ql Z 0 56 rr σr) 0 0 (ow_A Z 0 56) := by
  refine Met.ofW (cc := cX8_odds) (maxL := 8) (ret := (some .long)) (by decide) rfl ?_
  intro p e s m args below meth c s₁ B hml hv
  obtain ⟨hav, hB⟩ := hv
  obtain ⟨hG, hW⟩ := ow_begin hB
  have hx := B.exec
  have hb := B.bytes
  have hr := B.returns
  have hts := atoms_spec (ws := wsX8_odds) B.pre
  have hown : s.vm.findClass RX8 = some m.cls := findClass_of_methodNamed B.named
  have hlocks := B.notSynchronized
  have hinX8 : ∀ w ∈ wsX80, w ∈ wsX8_odds := by decide +kernel
  have hJ85 : ∀ (k47 : Int32 → Int32 → Int32 → Int32 → Int32 → Int32 → ow_S → Option (Int64 × ow_S)) (hk47 : ∀ (x1 : Int32) (x2 : Int32) (x3 : Int32) (x4 : Int32) (x5 : Int32) (x6 : Int32) (σ : ow_S) (H : Heap) (locs : List Loc) (ls : Array Slot), k47 x1 x2 x3 x4 x5 x6 σ = some (rr, σr) → ow_Wd Z 0 56 σ s H locs → lv_has ls 8 [(0, .ref (ow_ad Z 0)), (1, .int x1), (2, .int x2), (3, .int x3), (4, .int x4), (5, .int x5), (6, .int x6)] → W p l e (headSpec wsX8_odds { frames := 7, cells := 0, slots := 0, locals := 203 }).room s m args below meth c H locs 0 0 (MQ below (ow_Ql Z 0 56 rr σr) args s 0 0 (ow_A Z 0 56)) (F0 m 47 ls [])), ∀ (x1 : Int32) (x2 : Int32) (x3 : Int32) (x4 : Int32) (x5 : Int32) (x6 : Int32) (σ : ow_S) (H : Heap) (locs : List Loc) (ls : Array Slot), L_X8_odds_85 fu k47 x1 x2 x3 x4 x5 x6 σ = some (rr, σr) → ow_Wd Z 0 56 σ s H locs → lv_has ls 8 [(0, .ref (ow_ad Z 0)), (1, .int x1), (2, .int x2), (3, .int x3), (4, .int x4), (5, .int x5), (6, .int x6)] → W p l e (headSpec wsX8_odds { frames := 7, cells := 0, slots := 0, locals := 203 }).room s m args below meth c H locs 0 0 (MQ below (ow_Ql Z 0 56 rr σr) args s 0 0 (ow_A Z 0 56)) (F0 m 85 ls []) := by
    intro k47 hk47 x1 x2 x3 x4 x5 x6 σ H locs ls hf hW hl
    unfold L_X8_odds_85 at hf
    refine ow_iinc (d := 1) (lv' := fun z => [(6, .int z), (0, .ref (ow_ad Z 0)), (1, .int x1), (2, .int x2), (3, .int x3), (4, .int x4), (5, .int x5)]) hx hb hf dX8_odds_85 hl (k := 6) rfl (by decide) (by decide) (fun z => rfl) (fun x6_85 hf ls hl => ?_)
    refine lv_goto (tgt := 47) hx hb dX8_odds_88 (by decide) ?_
    exact hk47 x1 x2 x3 x4 x5 x6_85 σ _ _ _ hf hW (lv_sub hl [1, 2, 3, 4, 5, 6, 0] rfl)
  have hJ47 : ∀ (fn : Nat), ∀ (x1 : Int32) (x2 : Int32) (x3 : Int32) (x4 : Int32) (x5 : Int32) (x6 : Int32) (σ : ow_S) (H : Heap) (locs : List Loc) (ls : Array Slot), L_X8_odds_47 fu fn x1 x2 x3 x4 x5 x6 σ = some (rr, σr) → ow_Wd Z 0 56 σ s H locs → lv_has ls 8 [(0, .ref (ow_ad Z 0)), (1, .int x1), (2, .int x2), (3, .int x3), (4, .int x4), (5, .int x5), (6, .int x6)] → W p l e (headSpec wsX8_odds { frames := 7, cells := 0, slots := 0, locals := 203 }).room s m args below meth c H locs 0 0 (MQ below (ow_Ql Z 0 56 rr σr) args s 0 0 (ow_A Z 0 56)) (F0 m 47 ls []) := by
    intro fn
    induction fn with
    | zero => intro x1 x2 x3 x4 x5 x6 σ H locs ls hf hW hl; simp [L_X8_odds_47] at hf
    | succ fn ih =>
      intro x1 x2 x3 x4 x5 x6 σ H locs ls hf hW hl
      rw [L_X8_odds_47] at hf
      refine lv_iload hx hb dX8_odds_47 (lv_at hl 6 rfl) ?_
      refine lv_iload_n hx hb dX8_odds_49 rfl (lv_at hl 2 rfl) ?_
      refine lv_icmp_ge (tgt := 91) hx hb dX8_odds_50 (by decide) (fun c50 => ?_) (fun c50 => ?_)
      · replace hf := ow_if_t c50 hf
        refine lv_iload hx hb dX8_odds_91 (lv_at hl 5 rfl) ?_
        refine lv_iload_n hx hb dX8_odds_93 rfl (lv_at hl 2 rfl) ?_
        obtain ⟨r_94, σ_94, hc94, hf⟩ := ow_cl_i hf
        refine ow_calli (va_runS (As := [.int x5, .int x2]) (rest := []) ⟨hx, hb, hml, hown, hts⟩ (c_X8_commonDivisor l Z fu x5 x2 σ r_94 σ_94 hc94) (va_cwS 2 hts gX8_odds_X8_commonDivisor rfl rfl rfl (by decide +kernel) ⟨Nat.le_of_ble_eq_true rfl, Nat.le_of_ble_eq_true rfl⟩) (ow_preS hG hW) rfl rfl hl.1 rfl (lv_room (Nat.le_of_ble_eq_true rfl)) dX8_odds_94 ⟨Nat.zero_le _, Nat.zero_le _⟩) hW (fun H locs hW => ?_)
        refine lv_istore (lv' := [(6, .int r_94), (0, .ref (ow_ad Z 0)), (1, .int x1), (2, .int x2), (3, .int x3), (4, .int x4), (5, .int x5)]) hx hb dX8_odds_97 hl (by decide) rfl (fun ls hl => ?_)
        refine lv_iload hx hb dX8_odds_99 (lv_at hl 5 rfl) ?_
        refine lv_if_ne (tgt := 113) hx hb dX8_odds_101 (by decide) (fun c101 => ?_) (fun c101 => ?_)
        · replace hf := ow_if_f c101 hf
          refine lv_iload_n hx hb dX8_odds_113 rfl (lv_at hl 3 rfl) ?_
          refine lv_iload hx hb dX8_odds_114 (lv_at hl 0 rfl) ?_
          obtain ⟨q116, hf⟩ := ow_ck_i hf
          refine lv_idiv hx hb dX8_odds_116 q116 ?_
          refine lv_i2l (v := ((x2 / r_94).toInt64)) hx hb dX8_odds_117 rfl ?_
          exact ow_lret hx hb hr hW hf dX8_odds_118 hlocks
        · replace hf := ow_if_t c101 hf
          refine lv_iload hx hb dX8_odds_104 (lv_at hl 6 rfl) ?_
          refine lv_iload hx hb dX8_odds_106 (lv_at hl 0 rfl) ?_
          obtain ⟨q108, hf⟩ := ow_ck_i hf
          refine lv_idiv hx hb dX8_odds_108 q108 ?_
          refine lv_i2l (v := ((x5 / r_94).toInt64)) hx hb dX8_odds_109 rfl ?_
          refine lv_goto (tgt := 118) hx hb dX8_odds_110 (by decide) ?_
          exact ow_lret hx hb hr hW hf dX8_odds_118 hlocks
      · replace hf := ow_if_f c50 hf
        refine lv_aload_n hx hb dX8_odds_53 rfl (lv_at hl 0 rfl) ?_
        refine lv_iload_n hx hb dX8_odds_54 rfl (lv_at hl 1 rfl) ?_
        refine lv_iload hx hb dX8_odds_55 (lv_at hl 6 rfl) ?_
        refine lv_iadd hx hb dX8_odds_57 ?_
        obtain ⟨r_58, σ_58, hc58, hf⟩ := ow_cl_i hf
        refine ow_calli (va_runV (As := [.int (x1 + x6)]) (rest := []) ⟨hx, hb, hml, hown, hts⟩ (c_X8_drawTrialRow l Z fu (x1 + x6) σ r_58 σ_58 hc58) (cwV 1 hts gX8_odds_X8_drawTrialRow rfl rfl rfl (by decide +kernel) ⟨Nat.le_of_ble_eq_true rfl, Nat.le_of_ble_eq_true rfl⟩) (ow_preV hG hW ow_i0 (by decide) rfl) rfl rfl hl.1 rfl (lv_room (Nat.le_of_ble_eq_true rfl)) dX8_odds_58 ⟨Nat.zero_le _, Nat.zero_le _⟩) hW (fun H locs hW => ?_)
        refine lv_istore (lv' := [(7, .int r_58), (0, .ref (ow_ad Z 0)), (1, .int x1), (2, .int x2), (3, .int x3), (4, .int x4), (5, .int x5), (6, .int x6)]) hx hb dX8_odds_61 hl (by decide) rfl (fun ls hl => ?_)
        refine lv_aload_n hx hb dX8_odds_63 rfl (lv_at hl 1 rfl) ?_
        refine lv_aload_n hx hb dX8_odds_64 rfl (lv_at hl 1 rfl) ?_
        refine ow_getV (ci := 8) (C := RX8) (T := TX8) (N := 15) hx hb hts hown hG hW ow_i0 (by decide) rfl hinX8 2 (by decide) (fk := 2) rfl (hts (.fieldLink RX8 21 "FiftyOneCards" "heads" "[LFiftyOneCards$Head;") (by decide +kernel)) (v := .ref (ow_ad Z 5)) (ow_vR hW ow_i0.1 ow_i0.2.1 rfl) dX8_odds_65 ?_
        refine lv_iload_n hx hb dX8_odds_68 rfl (lv_at hl 4 rfl) ?_
        refine ow_rld (f := fun j => 25 + j) (ct := 0) hx hb hG hW ow_i5 ⟨by decide, by decide⟩ rfl ow_ra5 hf dX8_odds_69 (fun h_69 hf hi69 => ?_)
        refine lv_aload_n hx hb dX8_odds_70 rfl (lv_at hl 1 rfl) ?_
        refine ow_getV (ci := 8) (C := RX8) (T := TX8) (N := 15) hx hb hts hown hG hW ow_i0 (by decide) rfl hinX8 1 (by decide) (fk := 2) rfl (hts (.fieldLink RX8 16 "FiftyOneCards" "trialRow" "LFiftyOneCards$Row;") (by decide +kernel)) (v := .ref (ow_ad Z 3)) (ow_vR hW ow_i0.1 ow_i0.2.1 rfl) dX8_odds_71 ?_
        obtain ⟨r_74, σ_74, hc74, hf⟩ := ow_cl_i hf
        refine ow_calli (va_runV (As := [.ref (ow_ad Z h_69), .ref (ow_ad Z 3)]) (rest := []) ⟨hx, hb, hml, hown, hts⟩ (c_X8_saysOf l Z fu h_69 hi69 3 ow_i3 σ_58 r_74 σ_74 hc74) (cwV 2 hts gX8_odds_X8_saysOf rfl rfl rfl (by decide +kernel) ⟨Nat.le_of_ble_eq_true rfl, Nat.le_of_ble_eq_true rfl⟩) (ow_preV hG hW ow_i0 (by decide) rfl) rfl rfl hl.1 rfl (lv_room (Nat.le_of_ble_eq_true rfl)) dX8_odds_74 ⟨Nat.zero_le _, Nat.zero_le _⟩) hW (fun H locs hW => ?_)
        refine lv_iload hx hb dX8_odds_77 (lv_at hl 0 rfl) ?_
        refine lv_icmp_ne (tgt := 85) hx hb dX8_odds_79 (by decide) (fun c79 => ?_) (fun c79 => ?_)
        · replace hf := ow_if_f c79 hf
          exact hJ85 (L_X8_odds_47 fu fn) ih x1 x2 x3 x4 x5 x6 σ_74 _ _ _ hf hW (lv_sub hl [1, 2, 3, 4, 5, 6, 7] rfl)
        · replace hf := ow_if_t c79 hf
          refine ow_iinc (d := 1) (lv' := fun z => [(5, .int z), (7, .int r_58), (0, .ref (ow_ad Z 0)), (1, .int x1), (2, .int x2), (3, .int x3), (4, .int x4), (6, .int x6)]) hx hb hf dX8_odds_82 hl (k := 6) rfl (by decide) (by decide) (fun z => rfl) (fun x5_82 hf ls hl => ?_)
          exact hJ85 (L_X8_odds_47 fu fn) ih x1 x2 x3 x4 x5_82 x6 σ_74 _ _ _ hf hW (lv_sub hl [2, 3, 4, 5, 6, 0, 7] rfl)
  have hl := lv_entry ([.ref (ow_ad Z 0), .int a1, .int a2, .int a3, .int a4]) (n := 8) (Nat.le_of_ble_eq_true rfl)
  refine W.eq (g2 := F0 m 0 ((lg_sl ([.ref (ow_ad Z 0), .int a1, .int a2, .int a3, .int a4]) ++ List.replicate (8 - (lg_sl ([.ref (ow_ad Z 0), .int a1, .int a2, .int a3, .int a4])).length) Slot.unset).toArray) []) (by rw [hav]; exact lg_entry_eq _ _ _) ?_
  generalize (lg_sl ([.ref (ow_ad Z 0), .int a1, .int a2, .int a3, .int a4]) ++ List.replicate (8 - (lg_sl ([.ref (ow_ad Z 0), .int a1, .int a2, .int a3, .int a4])).length) Slot.unset).toArray = ls at hl ⊢
  have hl : lv_has ls 8 [(0, .ref (ow_ad Z 0)), (1, .int a1), (2, .int a2), (3, .int a3), (4, .int a4)] := hl
  unfold f_X8_odds at hf
  refine lv_iload_n hx hb dX8_odds_0 rfl (lv_at hl 1 rfl) ?_
  obtain ⟨r_1, σ_1, hc1, hf⟩ := ow_cl_i hf
  refine ow_callz (va_runS (As := [.int a1]) (rest := []) ⟨hx, hb, hml, hown, hts⟩ (c_X8_isSeed l Z fu a1 σ r_1 σ_1 hc1) (va_cwS 1 hts gX8_odds_X8_isSeed rfl rfl rfl (by decide +kernel) ⟨Nat.le_of_ble_eq_true rfl, Nat.le_of_ble_eq_true rfl⟩) (ow_preS hG hW) rfl rfl hl.1 rfl (lv_room (Nat.le_of_ble_eq_true rfl)) dX8_odds_1 ⟨Nat.zero_le _, Nat.zero_le _⟩) hW (fun b1 H locs hW => ?_)
  refine lv_if_eq (tgt := 37) hx hb dX8_odds_4 (by decide) (fun c4 => ?_) (fun c4 => ?_)
  · replace hf := ow_if_t c4 hf
    refine lv_ldc2 (v := -4611686018427387904) hx hb hown (hts (.constantLong RX8 232 (-4611686018427387904)) (by decide +kernel)) dX8_odds_37 ?_
    exact ow_lret hx hb hr hW hf dX8_odds_40 hlocks
  · replace hf := ow_if_f c4 hf
    refine lv_iload_n hx hb dX8_odds_7 rfl (lv_at hl 2 rfl) ?_
    refine lv_iconst (v := 1) hx hb dX8_odds_8 (by decide) ?_
    refine lv_icmp_lt (tgt := 37) hx hb dX8_odds_9 (by decide) (fun c9 => ?_) (fun c9 => ?_)
    · replace hf := ow_if_t c9 hf
      refine lv_ldc2 (v := -4611686018427387904) hx hb hown (hts (.constantLong RX8 232 (-4611686018427387904)) (by decide +kernel)) dX8_odds_37 ?_
      exact ow_lret hx hb hr hW hf dX8_odds_40 hlocks
    · replace hf := ow_if_f c9 hf
      refine lv_iload_n hx hb dX8_odds_12 rfl (lv_at hl 2 rfl) ?_
      refine lv_bipush (v := 30) hx hb dX8_odds_13 (by decide) ?_
      refine lv_icmp_gt (tgt := 37) hx hb dX8_odds_15 (by decide) (fun c15 => ?_) (fun c15 => ?_)
      · replace hf := ow_if_t c15 hf
        refine lv_ldc2 (v := -4611686018427387904) hx hb hown (hts (.constantLong RX8 232 (-4611686018427387904)) (by decide +kernel)) dX8_odds_37 ?_
        exact ow_lret hx hb hr hW hf dX8_odds_40 hlocks
      · replace hf := ow_if_f c15 hf
        refine lv_aload_n hx hb dX8_odds_18 rfl (lv_at hl 0 rfl) ?_
        refine lv_iload_n hx hb dX8_odds_19 rfl (lv_at hl 3 rfl) ?_
        obtain ⟨r_20, σ_20, hc20, hf⟩ := ow_cl_i hf
        refine ow_callz (va_runV (As := [.int a3]) (rest := []) ⟨hx, hb, hml, hown, hts⟩ (c_X8_isHead l Z fu a3 σ_1 r_20 σ_20 hc20) (cwV 1 hts gX8_odds_X8_isHead rfl rfl rfl (by decide +kernel) ⟨Nat.le_of_ble_eq_true rfl, Nat.le_of_ble_eq_true rfl⟩) (ow_preV hG hW ow_i0 (by decide) rfl) rfl rfl hl.1 rfl (lv_room (Nat.le_of_ble_eq_true rfl)) dX8_odds_20 ⟨Nat.zero_le _, Nat.zero_le _⟩) hW (fun b20 H locs hW => ?_)
        refine lv_if_eq (tgt := 37) hx hb dX8_odds_23 (by decide) (fun c23 => ?_) (fun c23 => ?_)
        · replace hf := ow_if_t c23 hf
          refine lv_ldc2 (v := -4611686018427387904) hx hb hown (hts (.constantLong RX8 232 (-4611686018427387904)) (by decide +kernel)) dX8_odds_37 ?_
          exact ow_lret hx hb hr hW hf dX8_odds_40 hlocks
        · replace hf := ow_if_f c23 hf
          refine lv_iload hx hb dX8_odds_26 (lv_at hl 4 rfl) ?_
          refine lv_if_lt (tgt := 37) hx hb dX8_odds_28 (by decide) (fun c28 => ?_) (fun c28 => ?_)
          · replace hf := ow_if_t c28 hf
            refine lv_ldc2 (v := -4611686018427387904) hx hb hown (hts (.constantLong RX8 232 (-4611686018427387904)) (by decide +kernel)) dX8_odds_37 ?_
            exact ow_lret hx hb hr hW hf dX8_odds_40 hlocks
          · replace hf := ow_if_f c28 hf
            refine lv_iload hx hb dX8_odds_31 (lv_at hl 4 rfl) ?_
            refine lv_iconst (v := 1) hx hb dX8_odds_33 (by decide) ?_
            refine lv_icmp_le (tgt := 41) hx hb dX8_odds_34 (by decide) (fun c34 => ?_) (fun c34 => ?_)
            · replace hf := ow_if_t c34 hf
              refine lv_iconst (v := 0) hx hb dX8_odds_41 (by decide) ?_
              refine lv_istore (lv' := [(5, .int (0 : Int32)), (0, .ref (ow_ad Z 0)), (1, .int a1), (2, .int a2), (3, .int a3), (4, .int a4)]) hx hb dX8_odds_42 hl (by decide) rfl (fun ls hl => ?_)
              refine lv_iconst (v := 0) hx hb dX8_odds_44 (by decide) ?_
              refine lv_istore (lv' := [(6, .int (0 : Int32)), (5, .int (0 : Int32)), (0, .ref (ow_ad Z 0)), (1, .int a1), (2, .int a2), (3, .int a3), (4, .int a4)]) hx hb dX8_odds_45 hl (by decide) rfl (fun ls hl => ?_)
              exact hJ47 fu a1 a2 a3 a4 (0 : Int32) (0 : Int32) σ_20 _ _ _ hf hW (lv_sub hl [2, 3, 4, 5, 6, 1, 0] rfl)
            · replace hf := ow_if_f c34 hf
              refine lv_ldc2 (v := -4611686018427387904) hx hb hown (hts (.constantLong RX8 232 (-4611686018427387904)) (by decide +kernel)) dX8_odds_37 ?_
              exact ow_lret hx hb hr hW hf dX8_odds_40 hlocks
set_option maxHeartbeats 40000000 in
set_option maxRecDepth 100000 in
theorem c_X8_image (l : Launch) (Z : ow_Z) (fu : Nat) (σ : ow_S) (rr : Int32) (σr : ow_S) (hf : f_X8_image fu σ = some (rr, σr)) : Met l yX8_image wsX8_image { frames := 3, cells := 0, slots := 0, locals := 103 } (ow_Pc Z 0 56 [.ref (ow_ad Z 0)] σ) (ow_Qi Z 0 56 rr σr) 0 0 (ow_A Z 0 56) := by
  refine Met.ofW (cc := cX8_image) (maxL := 2) (ret := (some .int)) (by decide) rfl ?_
  intro p e s m args below meth c s₁ B hml hv
  obtain ⟨hav, hB⟩ := hv
  obtain ⟨hG, hW⟩ := ow_begin hB
  have hx := B.exec
  have hb := B.bytes
  have hr := B.returns
  have hts := atoms_spec (ws := wsX8_image) B.pre
  have hown : s.vm.findClass RX8 = some m.cls := findClass_of_methodNamed B.named
  have hlocks := B.notSynchronized
  have hinX1 : ∀ w ∈ wsX10, w ∈ wsX8_image := by decide +kernel
  have hinX8 : ∀ w ∈ wsX80, w ∈ wsX8_image := by decide +kernel
  have hJ57 : ∀ (fn : Nat), ∀ (x1 : Int32) (σ : ow_S) (H : Heap) (locs : List Loc) (ls : Array Slot), L_X8_image_57 fu fn x1 σ = some (rr, σr) → ow_Wd Z 0 56 σ s H locs → lv_has ls 2 [(0, .ref (ow_ad Z 0)), (1, .int x1)] → W p l e (headSpec wsX8_image { frames := 3, cells := 0, slots := 0, locals := 103 }).room s m args below meth c H locs 0 0 (MQ below (ow_Qi Z 0 56 rr σr) args s 0 0 (ow_A Z 0 56)) (F0 m 57 ls []) := by
    intro fn
    induction fn with
    | zero => intro x1 σ H locs ls hf hW hl; simp [L_X8_image_57] at hf
    | succ fn ih =>
      intro x1 σ H locs ls hf hW hl
      rw [L_X8_image_57] at hf
      refine lv_iload_n hx hb dX8_image_57 rfl (lv_at hl 1 rfl) ?_
      refine lv_aload_n hx hb dX8_image_58 rfl (lv_at hl 0 rfl) ?_
      refine ow_getV (ci := 8) (C := RX8) (T := TX8) (N := 15) hx hb hts hown hG hW ow_i0 (by decide) rfl hinX8 12 (by decide) (fk := 0) rfl (hts (.fieldLink RX8 78 "FiftyOneCards" "headCount" "I") (by decide +kernel)) (v := .int (σ.1 0 12)) rfl dX8_image_59 ?_
      refine lv_icmp_ge (tgt := 89) hx hb dX8_image_62 (by decide) (fun c62 => ?_) (fun c62 => ?_)
      · replace hf := ow_if_t c62 hf
        refine lv_aload_n hx hb dX8_image_89 rfl (lv_at hl 0 rfl) ?_
        refine ow_getV (ci := 8) (C := RX8) (T := TX8) (N := 15) hx hb hts hown hG hW ow_i0 (by decide) rfl hinX8 12 (by decide) (fk := 0) rfl (hts (.fieldLink RX8 78 "FiftyOneCards" "headCount" "I") (by decide +kernel)) (v := .int (σ.1 0 12)) rfl dX8_image_90 ?_
        exact ow_iret hx hb hr hW hf dX8_image_93 hlocks
      · replace hf := ow_if_f c62 hf
        refine lv_aload_n hx hb dX8_image_65 rfl (lv_at hl 0 rfl) ?_
        refine ow_getV (ci := 8) (C := RX8) (T := TX8) (N := 15) hx hb hts hown hG hW ow_i0 (by decide) rfl hinX8 10 (by decide) (fk := 2) rfl (hts (.fieldLink RX8 70 "FiftyOneCards" "kept" "LFiftyOneCards$Image;") (by decide +kernel)) (v := .ref (ow_ad Z 16)) (ow_vR hW ow_i0.1 ow_i0.2.1 rfl) dX8_image_66 ?_
        refine ow_getVN (ci := 1) (C := RX1) (T := TX1) (N := 6) hx hb hts hown hG hW ow_i16 (by decide) rfl hinX1 1 (by decide) (fk := 2) rfl (ow_nwp hG (.fieldLinkNest RX8 308 "FiftyOneCards$Image" "heads" "[LFiftyOneCards$Head;" "FiftyOneCards") (by decide +kernel)) (v := .ref (ow_ad Z 19)) (ow_vR hW ow_i16.1 ow_i16.2.1 rfl) dX8_image_69 ?_
        refine lv_iload_n hx hb dX8_image_72 rfl (lv_at hl 1 rfl) ?_
        refine ow_rld (f := fun j => 20 + j) (ct := 0) hx hb hG hW ow_i19 ⟨by decide, by decide⟩ rfl ow_ra19 hf dX8_image_73 (fun h_73 hf hi73 => ?_)
        refine lv_aload_n hx hb dX8_image_74 rfl (lv_at hl 0 rfl) ?_
        refine ow_getV (ci := 8) (C := RX8) (T := TX8) (N := 15) hx hb hts hown hG hW ow_i0 (by decide) rfl hinX8 2 (by decide) (fk := 2) rfl (hts (.fieldLink RX8 21 "FiftyOneCards" "heads" "[LFiftyOneCards$Head;") (by decide +kernel)) (v := .ref (ow_ad Z 5)) (ow_vR hW ow_i0.1 ow_i0.2.1 rfl) dX8_image_75 ?_
        refine lv_iload_n hx hb dX8_image_78 rfl (lv_at hl 1 rfl) ?_
        refine ow_rld (f := fun j => 25 + j) (ct := 0) hx hb hG hW ow_i5 ⟨by decide, by decide⟩ rfl ow_ra5 hf dX8_image_79 (fun h_79 hf hi79 => ?_)
        obtain ⟨σ_80, hc80, hf⟩ := ow_cv_i hf
        refine ow_callv (va_runVN (As := [.ref (ow_ad Z h_79)]) (rest := []) ⟨hx, hb, hml, hown, hts⟩ (c_X0_become l Z fu h_73 hi73 h_79 hi79 σ σ_80  hc80) ⟨va_cnB (host := "FiftyOneCards") 1 hts ggX8_image_X0_become rfl rfl rfl (ow_nwp hG (.methodLinkNest RX8 238 yX0_become "FiftyOneCards") (by decide +kernel)) (hts (.initialized RX0) (by decide +kernel)) (by decide +kernel) ⟨Nat.le_of_ble_eq_true rfl, Nat.le_of_ble_eq_true rfl⟩, hts (.instanceMethod yX0_become) (by decide +kernel), hts (.selects RX0 yX0_become yX0_become) (by decide +kernel)⟩ (ow_preV hG hW hi73 (by decide) rfl) rfl rfl hl.1 rfl (lv_room (Nat.le_of_ble_eq_true rfl)) dX8_image_80 ⟨Nat.zero_le _, Nat.zero_le _⟩) hW (fun H locs hW => ?_)
        refine ow_iinc (d := 1) (lv' := fun z => [(1, .int z), (0, .ref (ow_ad Z 0))]) hx hb hf dX8_image_83 hl (k := 1) rfl (by decide) (by decide) (fun z => rfl) (fun x1_83 hf ls hl => ?_)
        refine lv_goto (tgt := 57) hx hb dX8_image_86 (by decide) ?_
        exact ih x1_83 σ_80 _ _ _ hf hW (lv_sub hl [1, 0] rfl)
  have hl := lv_entry ([.ref (ow_ad Z 0)]) (n := 2) (Nat.le_of_ble_eq_true rfl)
  refine W.eq (g2 := F0 m 0 ((lg_sl ([.ref (ow_ad Z 0)]) ++ List.replicate (2 - (lg_sl ([.ref (ow_ad Z 0)])).length) Slot.unset).toArray) []) (by rw [hav]; exact lg_entry_eq _ _ _) ?_
  generalize (lg_sl ([.ref (ow_ad Z 0)]) ++ List.replicate (2 - (lg_sl ([.ref (ow_ad Z 0)])).length) Slot.unset).toArray = ls at hl ⊢
  have hl : lv_has ls 2 [(0, .ref (ow_ad Z 0))] := hl
  unfold f_X8_image at hf
  refine lv_aload_n hx hb dX8_image_0 rfl (lv_at hl 0 rfl) ?_
  refine ow_getV (ci := 8) (C := RX8) (T := TX8) (N := 15) hx hb hts hown hG hW ow_i0 (by decide) rfl hinX8 10 (by decide) (fk := 2) rfl (hts (.fieldLink RX8 70 "FiftyOneCards" "kept" "LFiftyOneCards$Image;") (by decide +kernel)) (v := .ref (ow_ad Z 16)) (ow_vR hW ow_i0.1 ow_i0.2.1 rfl) dX8_image_1 ?_
  refine lv_iconst (v := 1) hx hb dX8_image_4 (by decide) ?_
  refine ow_putIN (ci := 1) (C := RX1) (T := TX1) (N := 6) hx hb hts hown hG hW ow_i16 (by decide) rfl hinX1 tyX1 tyX1_ok nmX1 2 (by decide) rfl (ow_nwp hG (.fieldLinkNest RX8 300 "FiftyOneCards$Image" "there" "Z" "FiftyOneCards") (by decide +kernel)) rfl rfl rfl hf dX8_image_5 (fun σ_5 H locs hf hW => ?_)
  refine lv_aload_n hx hb dX8_image_8 rfl (lv_at hl 0 rfl) ?_
  refine ow_getV (ci := 8) (C := RX8) (T := TX8) (N := 15) hx hb hts hown hG hW ow_i0 (by decide) rfl hinX8 10 (by decide) (fk := 2) rfl (hts (.fieldLink RX8 70 "FiftyOneCards" "kept" "LFiftyOneCards$Image;") (by decide +kernel)) (v := .ref (ow_ad Z 16)) (ow_vR hW ow_i0.1 ow_i0.2.1 rfl) dX8_image_9 ?_
  refine lv_aload_n hx hb dX8_image_12 rfl (lv_at hl 0 rfl) ?_
  refine ow_getV (ci := 8) (C := RX8) (T := TX8) (N := 15) hx hb hts hown hG hW ow_i0 (by decide) rfl hinX8 11 (by decide) (fk := 0) rfl (hts (.fieldLink RX8 74 "FiftyOneCards" "pack" "I") (by decide +kernel)) (v := .int (σ_5.1 0 11)) rfl dX8_image_13 ?_
  refine ow_putIN (ci := 1) (C := RX1) (T := TX1) (N := 6) hx hb hts hown hG hW ow_i16 (by decide) rfl hinX1 tyX1 tyX1_ok nmX1 3 (by decide) rfl (ow_nwp hG (.fieldLinkNest RX8 304 "FiftyOneCards$Image" "pack" "I" "FiftyOneCards") (by decide +kernel)) rfl rfl rfl hf dX8_image_16 (fun σ_16 H locs hf hW => ?_)
  refine lv_aload_n hx hb dX8_image_19 rfl (lv_at hl 0 rfl) ?_
  refine ow_getV (ci := 8) (C := RX8) (T := TX8) (N := 15) hx hb hts hown hG hW ow_i0 (by decide) rfl hinX8 10 (by decide) (fk := 2) rfl (hts (.fieldLink RX8 70 "FiftyOneCards" "kept" "LFiftyOneCards$Image;") (by decide +kernel)) (v := .ref (ow_ad Z 16)) (ow_vR hW ow_i0.1 ow_i0.2.1 rfl) dX8_image_20 ?_
  refine lv_aload_n hx hb dX8_image_23 rfl (lv_at hl 0 rfl) ?_
  refine ow_getV (ci := 8) (C := RX8) (T := TX8) (N := 15) hx hb hts hown hG hW ow_i0 (by decide) rfl hinX8 12 (by decide) (fk := 0) rfl (hts (.fieldLink RX8 78 "FiftyOneCards" "headCount" "I") (by decide +kernel)) (v := .int (σ_16.1 0 12)) rfl dX8_image_24 ?_
  refine ow_putIN (ci := 1) (C := RX1) (T := TX1) (N := 6) hx hb hts hown hG hW ow_i16 (by decide) rfl hinX1 tyX1 tyX1_ok nmX1 4 (by decide) rfl (ow_nwp hG (.fieldLinkNest RX8 305 "FiftyOneCards$Image" "headCount" "I" "FiftyOneCards") (by decide +kernel)) rfl rfl rfl hf dX8_image_27 (fun σ_27 H locs hf hW => ?_)
  refine lv_aload_n hx hb dX8_image_30 rfl (lv_at hl 0 rfl) ?_
  refine ow_getV (ci := 8) (C := RX8) (T := TX8) (N := 15) hx hb hts hown hG hW ow_i0 (by decide) rfl hinX8 10 (by decide) (fk := 2) rfl (hts (.fieldLink RX8 70 "FiftyOneCards" "kept" "LFiftyOneCards$Image;") (by decide +kernel)) (v := .ref (ow_ad Z 16)) (ow_vR hW ow_i0.1 ow_i0.2.1 rfl) dX8_image_31 ?_
  refine lv_aload_n hx hb dX8_image_34 rfl (lv_at hl 0 rfl) ?_
  refine ow_getV (ci := 8) (C := RX8) (T := TX8) (N := 15) hx hb hts hown hG hW ow_i0 (by decide) rfl hinX8 14 (by decide) (fk := 0) rfl (hts (.fieldLink RX8 84 "FiftyOneCards" "law" "I") (by decide +kernel)) (v := .int (σ_27.1 0 14)) rfl dX8_image_35 ?_
  refine ow_putIN (ci := 1) (C := RX1) (T := TX1) (N := 6) hx hb hts hown hG hW ow_i16 (by decide) rfl hinX1 tyX1 tyX1_ok nmX1 5 (by decide) rfl (ow_nwp hG (.fieldLinkNest RX8 306 "FiftyOneCards$Image" "law" "I" "FiftyOneCards") (by decide +kernel)) rfl rfl rfl hf dX8_image_38 (fun σ_38 H locs hf hW => ?_)
  refine lv_aload_n hx hb dX8_image_41 rfl (lv_at hl 0 rfl) ?_
  refine ow_getV (ci := 8) (C := RX8) (T := TX8) (N := 15) hx hb hts hown hG hW ow_i0 (by decide) rfl hinX8 10 (by decide) (fk := 2) rfl (hts (.fieldLink RX8 70 "FiftyOneCards" "kept" "LFiftyOneCards$Image;") (by decide +kernel)) (v := .ref (ow_ad Z 16)) (ow_vR hW ow_i0.1 ow_i0.2.1 rfl) dX8_image_42 ?_
  refine ow_getVN (ci := 1) (C := RX1) (T := TX1) (N := 6) hx hb hts hown hG hW ow_i16 (by decide) rfl hinX1 0 (by decide) (fk := 2) rfl (ow_nwp hG (.fieldLinkNest RX8 307 "FiftyOneCards$Image" "row" "LFiftyOneCards$Row;" "FiftyOneCards") (by decide +kernel)) (v := .ref (ow_ad Z 17)) (ow_vR hW ow_i16.1 ow_i16.2.1 rfl) dX8_image_45 ?_
  refine lv_aload_n hx hb dX8_image_48 rfl (lv_at hl 0 rfl) ?_
  refine ow_getV (ci := 8) (C := RX8) (T := TX8) (N := 15) hx hb hts hown hG hW ow_i0 (by decide) rfl hinX8 0 (by decide) (fk := 2) rfl (hts (.fieldLink RX8 10 "FiftyOneCards" "row" "LFiftyOneCards$Row;") (by decide +kernel)) (v := .ref (ow_ad Z 1)) (ow_vR hW ow_i0.1 ow_i0.2.1 rfl) dX8_image_49 ?_
  obtain ⟨σ_52, hc52, hf⟩ := ow_cv_i hf
  refine ow_callv (va_runVN (As := [.ref (ow_ad Z 1)]) (rest := []) ⟨hx, hb, hml, hown, hts⟩ (c_X4_become l Z fu 17 ow_i17 1 ow_i1 σ_38 σ_52  hc52) ⟨va_cnB (host := "FiftyOneCards") 1 hts ggX8_image_X4_become rfl rfl rfl (ow_nwp hG (.methodLinkNest RX8 250 yX4_become "FiftyOneCards") (by decide +kernel)) (hts (.initialized RX4) (by decide +kernel)) (by decide +kernel) ⟨Nat.le_of_ble_eq_true rfl, Nat.le_of_ble_eq_true rfl⟩, hts (.instanceMethod yX4_become) (by decide +kernel), hts (.selects RX4 yX4_become yX4_become) (by decide +kernel)⟩ (ow_preV hG hW ow_i17 (by decide) rfl) rfl rfl hl.1 rfl (lv_room (Nat.le_of_ble_eq_true rfl)) dX8_image_52 ⟨Nat.zero_le _, Nat.zero_le _⟩) hW (fun H locs hW => ?_)
  refine lv_iconst (v := 0) hx hb dX8_image_55 (by decide) ?_
  refine lv_istore_n (lv' := [(1, .int (0 : Int32)), (0, .ref (ow_ad Z 0))]) hx hb dX8_image_56 rfl hl (by decide) rfl (fun ls hl => ?_)
  exact hJ57 fu (0 : Int32) σ_52 _ _ _ hf hW (lv_sub hl [1, 0] rfl)
set_option maxHeartbeats 40000000 in
set_option maxRecDepth 100000 in
theorem c_X8_back (l : Launch) (Z : ow_Z) (fu : Nat) (σ : ow_S) (rr : Int32) (σr : ow_S) (hf : f_X8_back fu σ = some (rr, σr)) : Met l yX8_back wsX8_back { frames := 3, cells := 0, slots := 0, locals := 103 } (ow_Pc Z 0 56 [.ref (ow_ad Z 0)] σ) (ow_Qi Z 0 56 rr σr) 0 0 (ow_A Z 0 56) := by
  refine Met.ofW (cc := cX8_back) (maxL := 2) (ret := (some .int)) (by decide) rfl ?_
  intro p e s m args below meth c s₁ B hml hv
  obtain ⟨hav, hB⟩ := hv
  obtain ⟨hG, hW⟩ := ow_begin hB
  have hx := B.exec
  have hb := B.bytes
  have hr := B.returns
  have hts := atoms_spec (ws := wsX8_back) B.pre
  have hown : s.vm.findClass RX8 = some m.cls := findClass_of_methodNamed B.named
  have hlocks := B.notSynchronized
  have hinX1 : ∀ w ∈ wsX10, w ∈ wsX8_back := by decide +kernel
  have hinX8 : ∀ w ∈ wsX80, w ∈ wsX8_back := by decide +kernel
  have hJ62 : ∀ (fn : Nat), ∀ (x1 : Int32) (σ : ow_S) (H : Heap) (locs : List Loc) (ls : Array Slot), L_X8_back_62 fu fn x1 σ = some (rr, σr) → ow_Wd Z 0 56 σ s H locs → lv_has ls 2 [(0, .ref (ow_ad Z 0)), (1, .int x1)] → W p l e (headSpec wsX8_back { frames := 3, cells := 0, slots := 0, locals := 103 }).room s m args below meth c H locs 0 0 (MQ below (ow_Qi Z 0 56 rr σr) args s 0 0 (ow_A Z 0 56)) (F0 m 62 ls []) := by
    intro fn
    induction fn with
    | zero => intro x1 σ H locs ls hf hW hl; simp [L_X8_back_62] at hf
    | succ fn ih =>
      intro x1 σ H locs ls hf hW hl
      rw [L_X8_back_62] at hf
      refine lv_iload_n hx hb dX8_back_62 rfl (lv_at hl 1 rfl) ?_
      refine lv_aload_n hx hb dX8_back_63 rfl (lv_at hl 0 rfl) ?_
      refine ow_getV (ci := 8) (C := RX8) (T := TX8) (N := 15) hx hb hts hown hG hW ow_i0 (by decide) rfl hinX8 12 (by decide) (fk := 0) rfl (hts (.fieldLink RX8 78 "FiftyOneCards" "headCount" "I") (by decide +kernel)) (v := .int (σ.1 0 12)) rfl dX8_back_64 ?_
      refine lv_icmp_ge (tgt := 94) hx hb dX8_back_67 (by decide) (fun c67 => ?_) (fun c67 => ?_)
      · replace hf := ow_if_t c67 hf
        refine lv_aload_n hx hb dX8_back_94 rfl (lv_at hl 0 rfl) ?_
        refine ow_getV (ci := 8) (C := RX8) (T := TX8) (N := 15) hx hb hts hown hG hW ow_i0 (by decide) rfl hinX8 12 (by decide) (fk := 0) rfl (hts (.fieldLink RX8 78 "FiftyOneCards" "headCount" "I") (by decide +kernel)) (v := .int (σ.1 0 12)) rfl dX8_back_95 ?_
        exact ow_iret hx hb hr hW hf dX8_back_98 hlocks
      · replace hf := ow_if_f c67 hf
        refine lv_aload_n hx hb dX8_back_70 rfl (lv_at hl 0 rfl) ?_
        refine ow_getV (ci := 8) (C := RX8) (T := TX8) (N := 15) hx hb hts hown hG hW ow_i0 (by decide) rfl hinX8 2 (by decide) (fk := 2) rfl (hts (.fieldLink RX8 21 "FiftyOneCards" "heads" "[LFiftyOneCards$Head;") (by decide +kernel)) (v := .ref (ow_ad Z 5)) (ow_vR hW ow_i0.1 ow_i0.2.1 rfl) dX8_back_71 ?_
        refine lv_iload_n hx hb dX8_back_74 rfl (lv_at hl 1 rfl) ?_
        refine ow_rld (f := fun j => 25 + j) (ct := 0) hx hb hG hW ow_i5 ⟨by decide, by decide⟩ rfl ow_ra5 hf dX8_back_75 (fun h_75 hf hi75 => ?_)
        refine lv_aload_n hx hb dX8_back_76 rfl (lv_at hl 0 rfl) ?_
        refine ow_getV (ci := 8) (C := RX8) (T := TX8) (N := 15) hx hb hts hown hG hW ow_i0 (by decide) rfl hinX8 10 (by decide) (fk := 2) rfl (hts (.fieldLink RX8 70 "FiftyOneCards" "kept" "LFiftyOneCards$Image;") (by decide +kernel)) (v := .ref (ow_ad Z 16)) (ow_vR hW ow_i0.1 ow_i0.2.1 rfl) dX8_back_77 ?_
        refine ow_getVN (ci := 1) (C := RX1) (T := TX1) (N := 6) hx hb hts hown hG hW ow_i16 (by decide) rfl hinX1 1 (by decide) (fk := 2) rfl (ow_nwp hG (.fieldLinkNest RX8 308 "FiftyOneCards$Image" "heads" "[LFiftyOneCards$Head;" "FiftyOneCards") (by decide +kernel)) (v := .ref (ow_ad Z 19)) (ow_vR hW ow_i16.1 ow_i16.2.1 rfl) dX8_back_80 ?_
        refine lv_iload_n hx hb dX8_back_83 rfl (lv_at hl 1 rfl) ?_
        refine ow_rld (f := fun j => 20 + j) (ct := 0) hx hb hG hW ow_i19 ⟨by decide, by decide⟩ rfl ow_ra19 hf dX8_back_84 (fun h_84 hf hi84 => ?_)
        obtain ⟨σ_85, hc85, hf⟩ := ow_cv_i hf
        refine ow_callv (va_runVN (As := [.ref (ow_ad Z h_84)]) (rest := []) ⟨hx, hb, hml, hown, hts⟩ (c_X0_become l Z fu h_75 hi75 h_84 hi84 σ σ_85  hc85) ⟨va_cnB (host := "FiftyOneCards") 1 hts ggX8_back_X0_become rfl rfl rfl (ow_nwp hG (.methodLinkNest RX8 238 yX0_become "FiftyOneCards") (by decide +kernel)) (hts (.initialized RX0) (by decide +kernel)) (by decide +kernel) ⟨Nat.le_of_ble_eq_true rfl, Nat.le_of_ble_eq_true rfl⟩, hts (.instanceMethod yX0_become) (by decide +kernel), hts (.selects RX0 yX0_become yX0_become) (by decide +kernel)⟩ (ow_preV hG hW hi75 (by decide) rfl) rfl rfl hl.1 rfl (lv_room (Nat.le_of_ble_eq_true rfl)) dX8_back_85 ⟨Nat.zero_le _, Nat.zero_le _⟩) hW (fun H locs hW => ?_)
        refine ow_iinc (d := 1) (lv' := fun z => [(1, .int z), (0, .ref (ow_ad Z 0))]) hx hb hf dX8_back_88 hl (k := 1) rfl (by decide) (by decide) (fun z => rfl) (fun x1_88 hf ls hl => ?_)
        refine lv_goto (tgt := 62) hx hb dX8_back_91 (by decide) ?_
        exact ih x1_88 σ_85 _ _ _ hf hW (lv_sub hl [1, 0] rfl)
  have hl := lv_entry ([.ref (ow_ad Z 0)]) (n := 2) (Nat.le_of_ble_eq_true rfl)
  refine W.eq (g2 := F0 m 0 ((lg_sl ([.ref (ow_ad Z 0)]) ++ List.replicate (2 - (lg_sl ([.ref (ow_ad Z 0)])).length) Slot.unset).toArray) []) (by rw [hav]; exact lg_entry_eq _ _ _) ?_
  generalize (lg_sl ([.ref (ow_ad Z 0)]) ++ List.replicate (2 - (lg_sl ([.ref (ow_ad Z 0)])).length) Slot.unset).toArray = ls at hl ⊢
  have hl : lv_has ls 2 [(0, .ref (ow_ad Z 0))] := hl
  unfold f_X8_back at hf
  refine lv_aload_n hx hb dX8_back_0 rfl (lv_at hl 0 rfl) ?_
  refine ow_getV (ci := 8) (C := RX8) (T := TX8) (N := 15) hx hb hts hown hG hW ow_i0 (by decide) rfl hinX8 10 (by decide) (fk := 2) rfl (hts (.fieldLink RX8 70 "FiftyOneCards" "kept" "LFiftyOneCards$Image;") (by decide +kernel)) (v := .ref (ow_ad Z 16)) (ow_vR hW ow_i0.1 ow_i0.2.1 rfl) dX8_back_1 ?_
  refine ow_getVN (ci := 1) (C := RX1) (T := TX1) (N := 6) hx hb hts hown hG hW ow_i16 (by decide) rfl hinX1 2 (by decide) (fk := 0) rfl (ow_nwp hG (.fieldLinkNest RX8 300 "FiftyOneCards$Image" "there" "Z" "FiftyOneCards") (by decide +kernel)) (v := .int (σ.1 16 2)) rfl dX8_back_4 ?_
  refine lv_if_ne (tgt := 13) hx hb dX8_back_7 (by decide) (fun c7 => ?_) (fun c7 => ?_)
  · replace hf := ow_if_f c7 hf
    refine lv_aload_n hx hb dX8_back_13 rfl (lv_at hl 0 rfl) ?_
    refine lv_aload_n hx hb dX8_back_14 rfl (lv_at hl 0 rfl) ?_
    refine ow_getV (ci := 8) (C := RX8) (T := TX8) (N := 15) hx hb hts hown hG hW ow_i0 (by decide) rfl hinX8 10 (by decide) (fk := 2) rfl (hts (.fieldLink RX8 70 "FiftyOneCards" "kept" "LFiftyOneCards$Image;") (by decide +kernel)) (v := .ref (ow_ad Z 16)) (ow_vR hW ow_i0.1 ow_i0.2.1 rfl) dX8_back_15 ?_
    refine ow_getVN (ci := 1) (C := RX1) (T := TX1) (N := 6) hx hb hts hown hG hW ow_i16 (by decide) rfl hinX1 3 (by decide) (fk := 0) rfl (ow_nwp hG (.fieldLinkNest RX8 304 "FiftyOneCards$Image" "pack" "I" "FiftyOneCards") (by decide +kernel)) (v := .int (σ.1 16 3)) rfl dX8_back_18 ?_
    refine ow_putI (ci := 8) (C := RX8) (T := TX8) (N := 15) hx hb hts hown hG hW ow_i0 (by decide) rfl hinX8 tyX8 tyX8_ok nmX8 11 (by decide) rfl (hts (.fieldLink RX8 74 "FiftyOneCards" "pack" "I") (by decide +kernel)) rfl rfl rfl hf dX8_back_21 (fun σ_21 H locs hf hW => ?_)
    refine lv_aload_n hx hb dX8_back_24 rfl (lv_at hl 0 rfl) ?_
    refine lv_aload_n hx hb dX8_back_25 rfl (lv_at hl 0 rfl) ?_
    refine ow_getV (ci := 8) (C := RX8) (T := TX8) (N := 15) hx hb hts hown hG hW ow_i0 (by decide) rfl hinX8 10 (by decide) (fk := 2) rfl (hts (.fieldLink RX8 70 "FiftyOneCards" "kept" "LFiftyOneCards$Image;") (by decide +kernel)) (v := .ref (ow_ad Z 16)) (ow_vR hW ow_i0.1 ow_i0.2.1 rfl) dX8_back_26 ?_
    refine ow_getVN (ci := 1) (C := RX1) (T := TX1) (N := 6) hx hb hts hown hG hW ow_i16 (by decide) rfl hinX1 4 (by decide) (fk := 0) rfl (ow_nwp hG (.fieldLinkNest RX8 305 "FiftyOneCards$Image" "headCount" "I" "FiftyOneCards") (by decide +kernel)) (v := .int (σ_21.1 16 4)) rfl dX8_back_29 ?_
    refine ow_putI (ci := 8) (C := RX8) (T := TX8) (N := 15) hx hb hts hown hG hW ow_i0 (by decide) rfl hinX8 tyX8 tyX8_ok nmX8 12 (by decide) rfl (hts (.fieldLink RX8 78 "FiftyOneCards" "headCount" "I") (by decide +kernel)) rfl rfl rfl hf dX8_back_32 (fun σ_32 H locs hf hW => ?_)
    refine lv_aload_n hx hb dX8_back_35 rfl (lv_at hl 0 rfl) ?_
    refine lv_aload_n hx hb dX8_back_36 rfl (lv_at hl 0 rfl) ?_
    refine ow_getV (ci := 8) (C := RX8) (T := TX8) (N := 15) hx hb hts hown hG hW ow_i0 (by decide) rfl hinX8 10 (by decide) (fk := 2) rfl (hts (.fieldLink RX8 70 "FiftyOneCards" "kept" "LFiftyOneCards$Image;") (by decide +kernel)) (v := .ref (ow_ad Z 16)) (ow_vR hW ow_i0.1 ow_i0.2.1 rfl) dX8_back_37 ?_
    refine ow_getVN (ci := 1) (C := RX1) (T := TX1) (N := 6) hx hb hts hown hG hW ow_i16 (by decide) rfl hinX1 5 (by decide) (fk := 0) rfl (ow_nwp hG (.fieldLinkNest RX8 306 "FiftyOneCards$Image" "law" "I" "FiftyOneCards") (by decide +kernel)) (v := .int (σ_32.1 16 5)) rfl dX8_back_40 ?_
    refine ow_putI (ci := 8) (C := RX8) (T := TX8) (N := 15) hx hb hts hown hG hW ow_i0 (by decide) rfl hinX8 tyX8 tyX8_ok nmX8 14 (by decide) rfl (hts (.fieldLink RX8 84 "FiftyOneCards" "law" "I") (by decide +kernel)) rfl rfl rfl hf dX8_back_43 (fun σ_43 H locs hf hW => ?_)
    refine lv_aload_n hx hb dX8_back_46 rfl (lv_at hl 0 rfl) ?_
    refine ow_getV (ci := 8) (C := RX8) (T := TX8) (N := 15) hx hb hts hown hG hW ow_i0 (by decide) rfl hinX8 0 (by decide) (fk := 2) rfl (hts (.fieldLink RX8 10 "FiftyOneCards" "row" "LFiftyOneCards$Row;") (by decide +kernel)) (v := .ref (ow_ad Z 1)) (ow_vR hW ow_i0.1 ow_i0.2.1 rfl) dX8_back_47 ?_
    refine lv_aload_n hx hb dX8_back_50 rfl (lv_at hl 0 rfl) ?_
    refine ow_getV (ci := 8) (C := RX8) (T := TX8) (N := 15) hx hb hts hown hG hW ow_i0 (by decide) rfl hinX8 10 (by decide) (fk := 2) rfl (hts (.fieldLink RX8 70 "FiftyOneCards" "kept" "LFiftyOneCards$Image;") (by decide +kernel)) (v := .ref (ow_ad Z 16)) (ow_vR hW ow_i0.1 ow_i0.2.1 rfl) dX8_back_51 ?_
    refine ow_getVN (ci := 1) (C := RX1) (T := TX1) (N := 6) hx hb hts hown hG hW ow_i16 (by decide) rfl hinX1 0 (by decide) (fk := 2) rfl (ow_nwp hG (.fieldLinkNest RX8 307 "FiftyOneCards$Image" "row" "LFiftyOneCards$Row;" "FiftyOneCards") (by decide +kernel)) (v := .ref (ow_ad Z 17)) (ow_vR hW ow_i16.1 ow_i16.2.1 rfl) dX8_back_54 ?_
    obtain ⟨σ_57, hc57, hf⟩ := ow_cv_i hf
    refine ow_callv (va_runVN (As := [.ref (ow_ad Z 17)]) (rest := []) ⟨hx, hb, hml, hown, hts⟩ (c_X4_become l Z fu 1 ow_i1 17 ow_i17 σ_43 σ_57  hc57) ⟨va_cnB (host := "FiftyOneCards") 1 hts ggX8_back_X4_become rfl rfl rfl (ow_nwp hG (.methodLinkNest RX8 250 yX4_become "FiftyOneCards") (by decide +kernel)) (hts (.initialized RX4) (by decide +kernel)) (by decide +kernel) ⟨Nat.le_of_ble_eq_true rfl, Nat.le_of_ble_eq_true rfl⟩, hts (.instanceMethod yX4_become) (by decide +kernel), hts (.selects RX4 yX4_become yX4_become) (by decide +kernel)⟩ (ow_preV hG hW ow_i1 (by decide) rfl) rfl rfl hl.1 rfl (lv_room (Nat.le_of_ble_eq_true rfl)) dX8_back_57 ⟨Nat.zero_le _, Nat.zero_le _⟩) hW (fun H locs hW => ?_)
    refine lv_iconst (v := 0) hx hb dX8_back_60 (by decide) ?_
    refine lv_istore_n (lv' := [(1, .int (0 : Int32)), (0, .ref (ow_ad Z 0))]) hx hb dX8_back_61 rfl hl (by decide) rfl (fun ls hl => ?_)
    exact hJ62 fu (0 : Int32) σ_57 _ _ _ hf hW (lv_sub hl [1, 0] rfl)
  · replace hf := ow_if_t c7 hf
    refine lv_bipush (v := -3) hx hb dX8_back_10 (by decide) ?_
    exact ow_iret hx hb hr hW hf dX8_back_12 hlocks
set_option maxHeartbeats 40000000 in
set_option maxRecDepth 100000 in
theorem c_X8_sheet (l : Launch) (Z : ow_Z) (fu : Nat) (a1 : Int32) (a2 : Int32) (a3 : Int32) (σ : ow_S) (rr : Int32) (σr : ow_S) (hf : f_X8_sheet fu a1 a2 a3 σ = some (rr, σr)) : Met l yX8_sheet wsX8_sheet { frames := 2, cells := 0, slots := 0, locals := 83 } (ow_Pc Z 0 56 [.ref (ow_ad Z 0), .int a1, .int a2, .int a3] σ) (ow_Qi Z 0 56 rr σr) 0 0 (ow_A Z 0 56) := by
  refine Met.ofW (cc := cX8_sheet) (maxL := 4) (ret := (some .int)) (by decide) rfl ?_
  intro p e s m args below meth c s₁ B hml hv
  obtain ⟨hav, hB⟩ := hv
  obtain ⟨hG, hW⟩ := ow_begin hB
  have hx := B.exec
  have hb := B.bytes
  have hr := B.returns
  have hts := atoms_spec (ws := wsX8_sheet) B.pre
  have hown : s.vm.findClass RX8 = some m.cls := findClass_of_methodNamed B.named
  have hlocks := B.notSynchronized
  have hinX8 : ∀ w ∈ wsX80, w ∈ wsX8_sheet := by decide +kernel
  have hJ60 : ∀ (s0 : Nat) (hs0 : ow_in 0 56 s0 5) (s1 : Int32) (s2 : Int32) (σ : ow_S) (H : Heap) (locs : List Loc) (ls : Array Slot), L_X8_sheet_60 fu s0 s1 s2 σ = some (rr, σr) → ow_Wd Z 0 56 σ s H locs → lv_has ls 4 [] → W p l e (headSpec wsX8_sheet { frames := 2, cells := 0, slots := 0, locals := 83 }).room s m args below meth c H locs 0 0 (MQ below (ow_Qi Z 0 56 rr σr) args s 0 0 (ow_A Z 0 56)) (F0 m 60 ls [.int s2, .int s1, .ref (ow_ad Z s0)]) := by
    intro s0 hs0 s1 s2 σ H locs ls hf hW hl
    unfold L_X8_sheet_60 at hf
    obtain ⟨σ_60, hc60, hf⟩ := ow_cv_i hf
    refine ow_callv (va_runVN (As := [.int s1, .int s2]) (rest := []) ⟨hx, hb, hml, hown, hts⟩ (c_X5_become l Z fu s0 hs0 s1 s2 σ σ_60  hc60) ⟨va_cnB (host := "FiftyOneCards") 2 hts ggX8_sheet_X5_become rfl rfl rfl (ow_nwp hG (.methodLinkNest RX8 286 yX5_become "FiftyOneCards") (by decide +kernel)) (hts (.initialized RX5) (by decide +kernel)) (by decide +kernel) ⟨Nat.le_of_ble_eq_true rfl, Nat.le_of_ble_eq_true rfl⟩, hts (.instanceMethod yX5_become) (by decide +kernel), hts (.selects RX5 yX5_become yX5_become) (by decide +kernel)⟩ (ow_preV hG hW hs0 (by decide) rfl) rfl rfl hl.1 rfl (lv_room (Nat.le_of_ble_eq_true rfl)) dX8_sheet_60 ⟨Nat.zero_le _, Nat.zero_le _⟩) hW (fun H locs hW => ?_)
    refine lv_iconst (v := 1) hx hb dX8_sheet_63 (by decide) ?_
    exact ow_iret hx hb hr hW hf dX8_sheet_64 hlocks
  have hJ43 : ∀ (x1 : Int32) (x2 : Int32) (x3 : Int32) (σ : ow_S) (H : Heap) (locs : List Loc) (ls : Array Slot), L_X8_sheet_43 fu x1 x2 x3 σ = some (rr, σr) → ow_Wd Z 0 56 σ s H locs → lv_has ls 4 [(0, .ref (ow_ad Z 0)), (1, .int x1), (2, .int x2), (3, .int x3)] → W p l e (headSpec wsX8_sheet { frames := 2, cells := 0, slots := 0, locals := 83 }).room s m args below meth c H locs 0 0 (MQ below (ow_Qi Z 0 56 rr σr) args s 0 0 (ow_A Z 0 56)) (F0 m 43 ls []) := by
    intro x1 x2 x3 σ H locs ls hf hW hl
    unfold L_X8_sheet_43 at hf
    refine lv_aload_n hx hb dX8_sheet_43 rfl (lv_at hl 0 rfl) ?_
    refine ow_getV (ci := 8) (C := RX8) (T := TX8) (N := 15) hx hb hts hown hG hW ow_i0 (by decide) rfl hinX8 9 (by decide) (fk := 2) rfl (hts (.fieldLink RX8 63 "FiftyOneCards" "sheets" "[LFiftyOneCards$Sheet;") (by decide +kernel)) (v := .ref (ow_ad Z 15)) (ow_vR hW ow_i0.1 ow_i0.2.1 rfl) dX8_sheet_44 ?_
    refine lv_iload_n hx hb dX8_sheet_47 rfl (lv_at hl 1 rfl) ?_
    refine ow_rld (f := fun j => 48 + 2 * j) (ct := 5) hx hb hG hW ow_i15 ⟨by decide, by decide⟩ rfl ow_ra15 hf dX8_sheet_48 (fun h_48 hf hi48 => ?_)
    refine lv_iload_n hx hb dX8_sheet_49 rfl (lv_at hl 2 rfl) ?_
    refine lv_iload_n hx hb dX8_sheet_50 rfl (lv_at hl 2 rfl) ?_
    refine lv_iconst (v := -1) hx hb dX8_sheet_51 (by decide) ?_
    refine lv_icmp_ne (tgt := 59) hx hb dX8_sheet_52 (by decide) (fun c52 => ?_) (fun c52 => ?_)
    · replace hf := ow_if_f c52 hf
      refine lv_iload_n hx hb dX8_sheet_59 rfl (lv_at hl 3 rfl) ?_
      exact hJ60 h_48 hi48 x2 x3 σ _ _ _ hf hW (lv_sub hl [] rfl)
    · replace hf := ow_if_t c52 hf
      refine lv_iconst (v := 0) hx hb dX8_sheet_55 (by decide) ?_
      refine lv_goto (tgt := 60) hx hb dX8_sheet_56 (by decide) ?_
      exact hJ60 h_48 hi48 x2 (0 : Int32) σ _ _ _ hf hW (lv_sub hl [] rfl)
  have hJ31 : ∀ (x1 : Int32) (x2 : Int32) (x3 : Int32) (σ : ow_S) (H : Heap) (locs : List Loc) (ls : Array Slot), L_X8_sheet_31 fu x1 x2 x3 σ = some (rr, σr) → ow_Wd Z 0 56 σ s H locs → lv_has ls 4 [(0, .ref (ow_ad Z 0)), (1, .int x1), (2, .int x2), (3, .int x3)] → W p l e (headSpec wsX8_sheet { frames := 2, cells := 0, slots := 0, locals := 83 }).room s m args below meth c H locs 0 0 (MQ below (ow_Qi Z 0 56 rr σr) args s 0 0 (ow_A Z 0 56)) (F0 m 31 ls []) := by
    intro x1 x2 x3 σ H locs ls hf hW hl
    unfold L_X8_sheet_31 at hf
    refine lv_iload_n hx hb dX8_sheet_31 rfl (lv_at hl 2 rfl) ?_
    refine lv_iconst (v := -1) hx hb dX8_sheet_32 (by decide) ?_
    refine lv_icmp_eq (tgt := 43) hx hb dX8_sheet_33 (by decide) (fun c33 => ?_) (fun c33 => ?_)
    · replace hf := ow_if_t c33 hf
      exact hJ43 x1 x2 x3 σ _ _ _ hf hW (lv_sub hl [0, 1, 2, 3] rfl)
    · replace hf := ow_if_f c33 hf
      refine lv_iload_n hx hb dX8_sheet_36 rfl (lv_at hl 3 rfl) ?_
      refine lv_if_ge (tgt := 43) hx hb dX8_sheet_37 (by decide) (fun c37 => ?_) (fun c37 => ?_)
      · replace hf := ow_if_t c37 hf
        exact hJ43 x1 x2 x3 σ _ _ _ hf hW (lv_sub hl [0, 1, 2, 3] rfl)
      · replace hf := ow_if_f c37 hf
        refine lv_bipush (v := -14) hx hb dX8_sheet_40 (by decide) ?_
        exact ow_iret hx hb hr hW hf dX8_sheet_42 hlocks
  have hl := lv_entry ([.ref (ow_ad Z 0), .int a1, .int a2, .int a3]) (n := 4) (Nat.le_of_ble_eq_true rfl)
  refine W.eq (g2 := F0 m 0 ((lg_sl ([.ref (ow_ad Z 0), .int a1, .int a2, .int a3]) ++ List.replicate (4 - (lg_sl ([.ref (ow_ad Z 0), .int a1, .int a2, .int a3])).length) Slot.unset).toArray) []) (by rw [hav]; exact lg_entry_eq _ _ _) ?_
  generalize (lg_sl ([.ref (ow_ad Z 0), .int a1, .int a2, .int a3]) ++ List.replicate (4 - (lg_sl ([.ref (ow_ad Z 0), .int a1, .int a2, .int a3])).length) Slot.unset).toArray = ls at hl ⊢
  have hl : lv_has ls 4 [(0, .ref (ow_ad Z 0)), (1, .int a1), (2, .int a2), (3, .int a3)] := hl
  unfold f_X8_sheet at hf
  refine lv_iload_n hx hb dX8_sheet_0 rfl (lv_at hl 1 rfl) ?_
  obtain ⟨r_1, σ_1, hc1, hf⟩ := ow_cl_i hf
  refine ow_callz (va_runS (As := [.int a1]) (rest := []) ⟨hx, hb, hml, hown, hts⟩ (c_X8_isSheet l Z fu a1 σ r_1 σ_1 hc1) (va_cwS 1 hts gX8_sheet_X8_isSheet rfl rfl rfl (by decide +kernel) ⟨Nat.le_of_ble_eq_true rfl, Nat.le_of_ble_eq_true rfl⟩) (ow_preS hG hW) rfl rfl hl.1 rfl (lv_room (Nat.le_of_ble_eq_true rfl)) dX8_sheet_1 ⟨Nat.zero_le _, Nat.zero_le _⟩) hW (fun b1 H locs hW => ?_)
  refine lv_if_eq (tgt := 28) hx hb dX8_sheet_4 (by decide) (fun c4 => ?_) (fun c4 => ?_)
  · replace hf := ow_if_t c4 hf
    refine lv_bipush (v := -2) hx hb dX8_sheet_28 (by decide) ?_
    exact ow_iret hx hb hr hW hf dX8_sheet_30 hlocks
  · replace hf := ow_if_f c4 hf
    refine lv_iload_n hx hb dX8_sheet_7 rfl (lv_at hl 2 rfl) ?_
    refine lv_iconst (v := -1) hx hb dX8_sheet_8 (by decide) ?_
    refine lv_icmp_lt (tgt := 28) hx hb dX8_sheet_9 (by decide) (fun c9 => ?_) (fun c9 => ?_)
    · replace hf := ow_if_t c9 hf
      refine lv_bipush (v := -2) hx hb dX8_sheet_28 (by decide) ?_
      exact ow_iret hx hb hr hW hf dX8_sheet_30 hlocks
    · replace hf := ow_if_f c9 hf
      refine lv_iload_n hx hb dX8_sheet_12 rfl (lv_at hl 2 rfl) ?_
      refine lv_iconst (v := 2) hx hb dX8_sheet_13 (by decide) ?_
      refine lv_icmp_gt (tgt := 28) hx hb dX8_sheet_14 (by decide) (fun c14 => ?_) (fun c14 => ?_)
      · replace hf := ow_if_t c14 hf
        refine lv_bipush (v := -2) hx hb dX8_sheet_28 (by decide) ?_
        exact ow_iret hx hb hr hW hf dX8_sheet_30 hlocks
      · replace hf := ow_if_f c14 hf
        refine lv_iload_n hx hb dX8_sheet_17 rfl (lv_at hl 2 rfl) ?_
        refine lv_iconst (v := -1) hx hb dX8_sheet_18 (by decide) ?_
        refine lv_icmp_eq (tgt := 31) hx hb dX8_sheet_19 (by decide) (fun c19 => ?_) (fun c19 => ?_)
        · replace hf := ow_if_t c19 hf
          exact hJ31 a1 a2 a3 σ_1 _ _ _ hf hW (lv_sub hl [0, 1, 2, 3] rfl)
        · replace hf := ow_if_f c19 hf
          refine lv_iload_n hx hb dX8_sheet_22 rfl (lv_at hl 3 rfl) ?_
          refine lv_bipush (v := 40) hx hb dX8_sheet_23 (by decide) ?_
          refine lv_icmp_le (tgt := 31) hx hb dX8_sheet_25 (by decide) (fun c25 => ?_) (fun c25 => ?_)
          · replace hf := ow_if_t c25 hf
            exact hJ31 a1 a2 a3 σ_1 _ _ _ hf hW (lv_sub hl [0, 1, 2, 3] rfl)
          · replace hf := ow_if_f c25 hf
            refine lv_bipush (v := -2) hx hb dX8_sheet_28 (by decide) ?_
            exact ow_iret hx hb hr hW hf dX8_sheet_30 hlocks
set_option maxHeartbeats 40000000 in
set_option maxRecDepth 100000 in
theorem c_X8_cell (l : Launch) (Z : ow_Z) (fu : Nat) (a1 : Int32) (a2 : Int32) (a3 : Int32) (σ : ow_S) (rr : Int32) (σr : ow_S) (hf : f_X8_cell fu a1 a2 a3 σ = some (rr, σr)) : Met l yX8_cell wsX8_cell { frames := 3, cells := 0, slots := 0, locals := 103 } (ow_Pc Z 0 56 [.ref (ow_ad Z 0), .int a1, .int a2, .int a3] σ) (ow_Qi Z 0 56 rr σr) 0 0 (ow_A Z 0 56) := by
  refine Met.ofW (cc := cX8_cell) (maxL := 4) (ret := (some .int)) (by decide) rfl ?_
  intro p e s m args below meth c s₁ B hml hv
  obtain ⟨hav, hB⟩ := hv
  obtain ⟨hG, hW⟩ := ow_begin hB
  have hx := B.exec
  have hb := B.bytes
  have hr := B.returns
  have hts := atoms_spec (ws := wsX8_cell) B.pre
  have hown : s.vm.findClass RX8 = some m.cls := findClass_of_methodNamed B.named
  have hlocks := B.notSynchronized
  have hinX8 : ∀ w ∈ wsX80, w ∈ wsX8_cell := by decide +kernel
  have hl := lv_entry ([.ref (ow_ad Z 0), .int a1, .int a2, .int a3]) (n := 4) (Nat.le_of_ble_eq_true rfl)
  refine W.eq (g2 := F0 m 0 ((lg_sl ([.ref (ow_ad Z 0), .int a1, .int a2, .int a3]) ++ List.replicate (4 - (lg_sl ([.ref (ow_ad Z 0), .int a1, .int a2, .int a3])).length) Slot.unset).toArray) []) (by rw [hav]; exact lg_entry_eq _ _ _) ?_
  generalize (lg_sl ([.ref (ow_ad Z 0), .int a1, .int a2, .int a3]) ++ List.replicate (4 - (lg_sl ([.ref (ow_ad Z 0), .int a1, .int a2, .int a3])).length) Slot.unset).toArray = ls at hl ⊢
  have hl : lv_has ls 4 [(0, .ref (ow_ad Z 0)), (1, .int a1), (2, .int a2), (3, .int a3)] := hl
  unfold f_X8_cell at hf
  refine lv_iload_n hx hb dX8_cell_0 rfl (lv_at hl 1 rfl) ?_
  obtain ⟨r_1, σ_1, hc1, hf⟩ := ow_cl_i hf
  refine ow_callz (va_runS (As := [.int a1]) (rest := []) ⟨hx, hb, hml, hown, hts⟩ (c_X8_isSheet l Z fu a1 σ r_1 σ_1 hc1) (va_cwS 1 hts gX8_cell_X8_isSheet rfl rfl rfl (by decide +kernel) ⟨Nat.le_of_ble_eq_true rfl, Nat.le_of_ble_eq_true rfl⟩) (ow_preS hG hW) rfl rfl hl.1 rfl (lv_room (Nat.le_of_ble_eq_true rfl)) dX8_cell_1 ⟨Nat.zero_le _, Nat.zero_le _⟩) hW (fun b1 H locs hW => ?_)
  refine lv_if_ne (tgt := 10) hx hb dX8_cell_4 (by decide) (fun c4 => ?_) (fun c4 => ?_)
  · replace hf := ow_if_f c4 hf
    refine lv_aload_n hx hb dX8_cell_10 rfl (lv_at hl 0 rfl) ?_
    refine ow_getV (ci := 8) (C := RX8) (T := TX8) (N := 15) hx hb hts hown hG hW ow_i0 (by decide) rfl hinX8 9 (by decide) (fk := 2) rfl (hts (.fieldLink RX8 63 "FiftyOneCards" "sheets" "[LFiftyOneCards$Sheet;") (by decide +kernel)) (v := .ref (ow_ad Z 15)) (ow_vR hW ow_i0.1 ow_i0.2.1 rfl) dX8_cell_11 ?_
    refine lv_iload_n hx hb dX8_cell_14 rfl (lv_at hl 1 rfl) ?_
    refine ow_rld (f := fun j => 48 + 2 * j) (ct := 5) hx hb hG hW ow_i15 ⟨by decide, by decide⟩ rfl ow_ra15 hf dX8_cell_15 (fun h_15 hf hi15 => ?_)
    obtain ⟨r_16, σ_16, hc16, hf⟩ := ow_cl_i hf
    refine ow_callz (va_runVN (As := []) (rest := []) ⟨hx, hb, hml, hown, hts⟩ (c_X5_isMissing l Z fu h_15 hi15 σ_1 r_16 σ_16 hc16) ⟨va_cnB (host := "FiftyOneCards") 0 hts ggX8_cell_X5_isMissing rfl rfl rfl (ow_nwp hG (.methodLinkNest RX8 309 yX5_isMissing "FiftyOneCards") (by decide +kernel)) (hts (.initialized RX5) (by decide +kernel)) (by decide +kernel) ⟨Nat.le_of_ble_eq_true rfl, Nat.le_of_ble_eq_true rfl⟩, hts (.instanceMethod yX5_isMissing) (by decide +kernel), hts (.selects RX5 yX5_isMissing yX5_isMissing) (by decide +kernel)⟩ (ow_preV hG hW hi15 (by decide) rfl) rfl rfl hl.1 rfl (lv_room (Nat.le_of_ble_eq_true rfl)) dX8_cell_16 ⟨Nat.zero_le _, Nat.zero_le _⟩) hW (fun b16 H locs hW => ?_)
    refine lv_if_eq (tgt := 25) hx hb dX8_cell_19 (by decide) (fun c19 => ?_) (fun c19 => ?_)
    · replace hf := ow_if_t c19 hf
      refine lv_aload_n hx hb dX8_cell_25 rfl (lv_at hl 0 rfl) ?_
      refine ow_getV (ci := 8) (C := RX8) (T := TX8) (N := 15) hx hb hts hown hG hW ow_i0 (by decide) rfl hinX8 9 (by decide) (fk := 2) rfl (hts (.fieldLink RX8 63 "FiftyOneCards" "sheets" "[LFiftyOneCards$Sheet;") (by decide +kernel)) (v := .ref (ow_ad Z 15)) (ow_vR hW ow_i0.1 ow_i0.2.1 rfl) dX8_cell_26 ?_
      refine lv_iload_n hx hb dX8_cell_29 rfl (lv_at hl 1 rfl) ?_
      refine ow_rld (f := fun j => 48 + 2 * j) (ct := 5) hx hb hG hW ow_i15 ⟨by decide, by decide⟩ rfl ow_ra15 hf dX8_cell_30 (fun h_30 hf hi30 => ?_)
      refine lv_iload_n hx hb dX8_cell_31 rfl (lv_at hl 2 rfl) ?_
      obtain ⟨r_32, σ_32, hc32, hf⟩ := ow_cl_i hf
      refine ow_callz (va_runVN (As := [.int a2]) (rest := []) ⟨hx, hb, hml, hown, hts⟩ (c_X5_has l Z fu h_30 hi30 a2 σ_16 r_32 σ_32 hc32) ⟨va_cnB (host := "FiftyOneCards") 1 hts ggX8_cell_X5_has rfl rfl rfl (ow_nwp hG (.methodLinkNest RX8 313 yX5_has "FiftyOneCards") (by decide +kernel)) (hts (.initialized RX5) (by decide +kernel)) (by decide +kernel) ⟨Nat.le_of_ble_eq_true rfl, Nat.le_of_ble_eq_true rfl⟩, hts (.instanceMethod yX5_has) (by decide +kernel), hts (.selects RX5 yX5_has yX5_has) (by decide +kernel)⟩ (ow_preV hG hW hi30 (by decide) rfl) rfl rfl hl.1 rfl (lv_room (Nat.le_of_ble_eq_true rfl)) dX8_cell_32 ⟨Nat.zero_le _, Nat.zero_le _⟩) hW (fun b32 H locs hW => ?_)
      refine lv_if_ne (tgt := 41) hx hb dX8_cell_35 (by decide) (fun c35 => ?_) (fun c35 => ?_)
      · replace hf := ow_if_f c35 hf
        refine lv_aload_n hx hb dX8_cell_41 rfl (lv_at hl 0 rfl) ?_
        refine ow_getV (ci := 8) (C := RX8) (T := TX8) (N := 15) hx hb hts hown hG hW ow_i0 (by decide) rfl hinX8 9 (by decide) (fk := 2) rfl (hts (.fieldLink RX8 63 "FiftyOneCards" "sheets" "[LFiftyOneCards$Sheet;") (by decide +kernel)) (v := .ref (ow_ad Z 15)) (ow_vR hW ow_i0.1 ow_i0.2.1 rfl) dX8_cell_42 ?_
        refine lv_iload_n hx hb dX8_cell_45 rfl (lv_at hl 1 rfl) ?_
        refine ow_rld (f := fun j => 48 + 2 * j) (ct := 5) hx hb hG hW ow_i15 ⟨by decide, by decide⟩ rfl ow_ra15 hf dX8_cell_46 (fun h_46 hf hi46 => ?_)
        refine lv_iload_n hx hb dX8_cell_47 rfl (lv_at hl 2 rfl) ?_
        refine lv_iload_n hx hb dX8_cell_48 rfl (lv_at hl 3 rfl) ?_
        obtain ⟨σ_49, hc49, hf⟩ := ow_cv_i hf
        refine ow_callv (va_runVN (As := [.int a2, .int a3]) (rest := []) ⟨hx, hb, hml, hown, hts⟩ (c_X5_put l Z fu h_46 hi46 a2 a3 σ_32 σ_49  hc49) ⟨va_cnB (host := "FiftyOneCards") 2 hts ggX8_cell_X5_put rfl rfl rfl (ow_nwp hG (.methodLinkNest RX8 288 yX5_put "FiftyOneCards") (by decide +kernel)) (hts (.initialized RX5) (by decide +kernel)) (by decide +kernel) ⟨Nat.le_of_ble_eq_true rfl, Nat.le_of_ble_eq_true rfl⟩, hts (.instanceMethod yX5_put) (by decide +kernel), hts (.selects RX5 yX5_put yX5_put) (by decide +kernel)⟩ (ow_preV hG hW hi46 (by decide) rfl) rfl rfl hl.1 rfl (lv_room (Nat.le_of_ble_eq_true rfl)) dX8_cell_49 ⟨Nat.zero_le _, Nat.zero_le _⟩) hW (fun H locs hW => ?_)
        refine lv_iconst (v := 1) hx hb dX8_cell_52 (by decide) ?_
        exact ow_iret hx hb hr hW hf dX8_cell_53 hlocks
      · replace hf := ow_if_t c35 hf
        refine lv_bipush (v := -12) hx hb dX8_cell_38 (by decide) ?_
        exact ow_iret hx hb hr hW hf dX8_cell_40 hlocks
    · replace hf := ow_if_f c19 hf
      refine lv_bipush (v := -11) hx hb dX8_cell_22 (by decide) ?_
      exact ow_iret hx hb hr hW hf dX8_cell_24 hlocks
  · replace hf := ow_if_t c4 hf
    refine lv_bipush (v := -2) hx hb dX8_cell_7 (by decide) ?_
    exact ow_iret hx hb hr hW hf dX8_cell_9 hlocks
set_option maxHeartbeats 40000000 in
set_option maxRecDepth 100000 in
theorem c_X8_copy (l : Launch) (Z : ow_Z) (fu : Nat) (a1 : Int32) (a2 : Int32) (a3 : Int32) (a4 : Int32) (a5 : Int32) (σ : ow_S) (rr : Int32) (σr : ow_S) (hf : f_X8_copy fu a1 a2 a3 a4 a5 σ = some (rr, σr)) : Met l yX8_copy wsX8_copy { frames := 2, cells := 0, slots := 0, locals := 200 } (ow_Pc Z 0 56 [.ref (ow_ad Z 0), .int a1, .int a2, .int a3, .int a4, .int a5] σ) (ow_Qi Z 0 56 rr σr) 0 0 (ow_A Z 0 56) := by
  refine Met.ofW (cc := cX8_copy) (maxL := 8) (ret := (some .int)) (by decide) rfl ?_
  intro p e s m args below meth c s₁ B hml hv
  obtain ⟨hav, hB⟩ := hv
  obtain ⟨hG, hW⟩ := ow_begin hB
  have hx := B.exec
  have hb := B.bytes
  have hr := B.returns
  have hts := atoms_spec (ws := wsX8_copy) B.pre
  have hown : s.vm.findClass RX8 = some m.cls := findClass_of_methodNamed B.named
  have hlocks := B.notSynchronized
  have hinX5 : ∀ w ∈ wsX50, w ∈ wsX8_copy := by decide +kernel
  have hinX8 : ∀ w ∈ wsX80, w ∈ wsX8_copy := by decide +kernel
  have hl := lv_entry ([.ref (ow_ad Z 0), .int a1, .int a2, .int a3, .int a4, .int a5]) (n := 8) (Nat.le_of_ble_eq_true rfl)
  refine W.eq (g2 := F0 m 0 ((lg_sl ([.ref (ow_ad Z 0), .int a1, .int a2, .int a3, .int a4, .int a5]) ++ List.replicate (8 - (lg_sl ([.ref (ow_ad Z 0), .int a1, .int a2, .int a3, .int a4, .int a5])).length) Slot.unset).toArray) []) (by rw [hav]; exact lg_entry_eq _ _ _) ?_
  generalize (lg_sl ([.ref (ow_ad Z 0), .int a1, .int a2, .int a3, .int a4, .int a5]) ++ List.replicate (8 - (lg_sl ([.ref (ow_ad Z 0), .int a1, .int a2, .int a3, .int a4, .int a5])).length) Slot.unset).toArray = ls at hl ⊢
  have hl : lv_has ls 8 [(0, .ref (ow_ad Z 0)), (1, .int a1), (2, .int a2), (3, .int a3), (4, .int a4), (5, .int a5)] := hl
  unfold f_X8_copy at hf
  refine lv_iload_n hx hb dX8_copy_0 rfl (lv_at hl 1 rfl) ?_
  obtain ⟨r_1, σ_1, hc1, hf⟩ := ow_cl_i hf
  refine ow_callz (va_runS (As := [.int a1]) (rest := []) ⟨hx, hb, hml, hown, hts⟩ (c_X8_isSheet l Z fu a1 σ r_1 σ_1 hc1) (va_cwS 1 hts gX8_copy_X8_isSheet rfl rfl rfl (by decide +kernel) ⟨Nat.le_of_ble_eq_true rfl, Nat.le_of_ble_eq_true rfl⟩) (ow_preS hG hW) rfl rfl hl.1 rfl (lv_room (Nat.le_of_ble_eq_true rfl)) dX8_copy_1 ⟨Nat.zero_le _, Nat.zero_le _⟩) hW (fun b1 H locs hW => ?_)
  refine lv_if_eq (tgt := 14) hx hb dX8_copy_4 (by decide) (fun c4 => ?_) (fun c4 => ?_)
  · replace hf := ow_if_t c4 hf
    refine lv_bipush (v := -2) hx hb dX8_copy_14 (by decide) ?_
    exact ow_iret hx hb hr hW hf dX8_copy_16 hlocks
  · replace hf := ow_if_f c4 hf
    refine lv_iload_n hx hb dX8_copy_7 rfl (lv_at hl 3 rfl) ?_
    obtain ⟨r_8, σ_8, hc8, hf⟩ := ow_cl_i hf
    refine ow_callz (va_runS (As := [.int a3]) (rest := []) ⟨hx, hb, hml, hown, hts⟩ (c_X8_isSheet l Z fu a3 σ_1 r_8 σ_8 hc8) (va_cwS 1 hts gX8_copy_X8_isSheet rfl rfl rfl (by decide +kernel) ⟨Nat.le_of_ble_eq_true rfl, Nat.le_of_ble_eq_true rfl⟩) (ow_preS hG hW) rfl rfl hl.1 rfl (lv_room (Nat.le_of_ble_eq_true rfl)) dX8_copy_8 ⟨Nat.zero_le _, Nat.zero_le _⟩) hW (fun b8 H locs hW => ?_)
    refine lv_if_ne (tgt := 17) hx hb dX8_copy_11 (by decide) (fun c11 => ?_) (fun c11 => ?_)
    · replace hf := ow_if_f c11 hf
      refine lv_aload_n hx hb dX8_copy_17 rfl (lv_at hl 0 rfl) ?_
      refine ow_getV (ci := 8) (C := RX8) (T := TX8) (N := 15) hx hb hts hown hG hW ow_i0 (by decide) rfl hinX8 9 (by decide) (fk := 2) rfl (hts (.fieldLink RX8 63 "FiftyOneCards" "sheets" "[LFiftyOneCards$Sheet;") (by decide +kernel)) (v := .ref (ow_ad Z 15)) (ow_vR hW ow_i0.1 ow_i0.2.1 rfl) dX8_copy_18 ?_
      refine lv_iload_n hx hb dX8_copy_21 rfl (lv_at hl 1 rfl) ?_
      refine ow_rld (f := fun j => 48 + 2 * j) (ct := 5) hx hb hG hW ow_i15 ⟨by decide, by decide⟩ rfl ow_ra15 hf dX8_copy_22 (fun h_22 hf hi22 => ?_)
      refine lv_astore (lv' := [(6, .ref (ow_ad Z h_22)), (0, .ref (ow_ad Z 0)), (1, .int a1), (2, .int a2), (3, .int a3), (4, .int a4), (5, .int a5)]) hx hb dX8_copy_23 hl (by decide) rfl (fun ls hl => ?_)
      refine lv_aload_n hx hb dX8_copy_25 rfl (lv_at hl 1 rfl) ?_
      refine ow_getV (ci := 8) (C := RX8) (T := TX8) (N := 15) hx hb hts hown hG hW ow_i0 (by decide) rfl hinX8 9 (by decide) (fk := 2) rfl (hts (.fieldLink RX8 63 "FiftyOneCards" "sheets" "[LFiftyOneCards$Sheet;") (by decide +kernel)) (v := .ref (ow_ad Z 15)) (ow_vR hW ow_i0.1 ow_i0.2.1 rfl) dX8_copy_26 ?_
      refine lv_iload_n hx hb dX8_copy_29 rfl (lv_at hl 4 rfl) ?_
      refine ow_rld (f := fun j => 48 + 2 * j) (ct := 5) hx hb hG hW ow_i15 ⟨by decide, by decide⟩ rfl ow_ra15 hf dX8_copy_30 (fun h_30 hf hi30 => ?_)
      refine lv_astore (lv' := [(7, .ref (ow_ad Z h_30)), (6, .ref (ow_ad Z h_22)), (0, .ref (ow_ad Z 0)), (1, .int a1), (2, .int a2), (3, .int a3), (4, .int a4), (5, .int a5)]) hx hb dX8_copy_31 hl (by decide) rfl (fun ls hl => ?_)
      refine lv_aload hx hb dX8_copy_33 (lv_at hl 1 rfl) ?_
      obtain ⟨r_35, σ_35, hc35, hf⟩ := ow_cl_i hf
      refine ow_callz (va_runVN (As := []) (rest := []) ⟨hx, hb, hml, hown, hts⟩ (c_X5_isMissing l Z fu h_22 hi22 σ_8 r_35 σ_35 hc35) ⟨va_cnB (host := "FiftyOneCards") 0 hts ggX8_copy_X5_isMissing rfl rfl rfl (ow_nwp hG (.methodLinkNest RX8 309 yX5_isMissing "FiftyOneCards") (by decide +kernel)) (hts (.initialized RX5) (by decide +kernel)) (by decide +kernel) ⟨Nat.le_of_ble_eq_true rfl, Nat.le_of_ble_eq_true rfl⟩, hts (.instanceMethod yX5_isMissing) (by decide +kernel), hts (.selects RX5 yX5_isMissing yX5_isMissing) (by decide +kernel)⟩ (ow_preV hG hW hi22 (by decide) rfl) rfl rfl hl.1 rfl (lv_room (Nat.le_of_ble_eq_true rfl)) dX8_copy_35 ⟨Nat.zero_le _, Nat.zero_le _⟩) hW (fun b35 H locs hW => ?_)
      refine lv_if_ne (tgt := 49) hx hb dX8_copy_38 (by decide) (fun c38 => ?_) (fun c38 => ?_)
      · replace hf := ow_if_f c38 hf
        refine lv_bipush (v := -11) hx hb dX8_copy_49 (by decide) ?_
        exact ow_iret hx hb hr hW hf dX8_copy_51 hlocks
      · replace hf := ow_if_t c38 hf
        refine lv_aload hx hb dX8_copy_41 (lv_at hl 0 rfl) ?_
        obtain ⟨r_43, σ_43, hc43, hf⟩ := ow_cl_i hf
        refine ow_callz (va_runVN (As := []) (rest := []) ⟨hx, hb, hml, hown, hts⟩ (c_X5_isMissing l Z fu h_30 hi30 σ_35 r_43 σ_43 hc43) ⟨va_cnB (host := "FiftyOneCards") 0 hts ggX8_copy_X5_isMissing rfl rfl rfl (ow_nwp hG (.methodLinkNest RX8 309 yX5_isMissing "FiftyOneCards") (by decide +kernel)) (hts (.initialized RX5) (by decide +kernel)) (by decide +kernel) ⟨Nat.le_of_ble_eq_true rfl, Nat.le_of_ble_eq_true rfl⟩, hts (.instanceMethod yX5_isMissing) (by decide +kernel), hts (.selects RX5 yX5_isMissing yX5_isMissing) (by decide +kernel)⟩ (ow_preV hG hW hi30 (by decide) rfl) rfl rfl hl.1 rfl (lv_room (Nat.le_of_ble_eq_true rfl)) dX8_copy_43 ⟨Nat.zero_le _, Nat.zero_le _⟩) hW (fun b43 H locs hW => ?_)
        refine lv_if_eq (tgt := 52) hx hb dX8_copy_46 (by decide) (fun c46 => ?_) (fun c46 => ?_)
        · replace hf := ow_if_t c46 hf
          refine lv_aload hx hb dX8_copy_52 (lv_at hl 1 rfl) ?_
          refine ow_getVN (ci := 5) (C := RX5) (T := TX5) (N := 3) hx hb hts hown hG hW hi22 (by decide) rfl hinX5 1 (by decide) (fk := 0) rfl (ow_nwp hG (.fieldLinkNest RX8 314 "FiftyOneCards$Sheet" "sort" "I" "FiftyOneCards") (by decide +kernel)) (v := .int (σ_43.1 h_22 1)) rfl dX8_copy_54 ?_
          refine lv_aload hx hb dX8_copy_57 (lv_at hl 0 rfl) ?_
          refine ow_getVN (ci := 5) (C := RX5) (T := TX5) (N := 3) hx hb hts hown hG hW hi30 (by decide) rfl hinX5 1 (by decide) (fk := 0) rfl (ow_nwp hG (.fieldLinkNest RX8 314 "FiftyOneCards$Sheet" "sort" "I" "FiftyOneCards") (by decide +kernel)) (v := .int (σ_43.1 h_30 1)) rfl dX8_copy_59 ?_
          refine lv_icmp_eq (tgt := 68) hx hb dX8_copy_62 (by decide) (fun c62 => ?_) (fun c62 => ?_)
          · replace hf := ow_if_t c62 hf
            refine lv_aload hx hb dX8_copy_68 (lv_at hl 1 rfl) ?_
            refine lv_iload_n hx hb dX8_copy_70 rfl (lv_at hl 4 rfl) ?_
            refine lv_iload hx hb dX8_copy_71 (lv_at hl 7 rfl) ?_
            obtain ⟨r_73, σ_73, hc73, hf⟩ := ow_cl_i hf
            refine ow_callz (va_runVN (As := [.int a2, .int a5]) (rest := []) ⟨hx, hb, hml, hown, hts⟩ (c_X5_hasRun l Z fu h_22 hi22 a2 a5 σ_43 r_73 σ_73 hc73) ⟨va_cnB (host := "FiftyOneCards") 2 hts ggX8_copy_X5_hasRun rfl rfl rfl (ow_nwp hG (.methodLinkNest RX8 317 yX5_hasRun "FiftyOneCards") (by decide +kernel)) (hts (.initialized RX5) (by decide +kernel)) (by decide +kernel) ⟨Nat.le_of_ble_eq_true rfl, Nat.le_of_ble_eq_true rfl⟩, hts (.instanceMethod yX5_hasRun) (by decide +kernel), hts (.selects RX5 yX5_hasRun yX5_hasRun) (by decide +kernel)⟩ (ow_preV hG hW hi22 (by decide) rfl) rfl rfl hl.1 rfl (lv_room (Nat.le_of_ble_eq_true rfl)) dX8_copy_73 ⟨Nat.zero_le _, Nat.zero_le _⟩) hW (fun b73 H locs hW => ?_)
            refine lv_if_eq (tgt := 91) hx hb dX8_copy_76 (by decide) (fun c76 => ?_) (fun c76 => ?_)
            · replace hf := ow_if_t c76 hf
              refine lv_bipush (v := -12) hx hb dX8_copy_91 (by decide) ?_
              exact ow_iret hx hb hr hW hf dX8_copy_93 hlocks
            · replace hf := ow_if_f c76 hf
              refine lv_aload hx hb dX8_copy_79 (lv_at hl 0 rfl) ?_
              refine lv_iload hx hb dX8_copy_81 (lv_at hl 6 rfl) ?_
              refine lv_iload hx hb dX8_copy_83 (lv_at hl 7 rfl) ?_
              obtain ⟨r_85, σ_85, hc85, hf⟩ := ow_cl_i hf
              refine ow_callz (va_runVN (As := [.int a4, .int a5]) (rest := []) ⟨hx, hb, hml, hown, hts⟩ (c_X5_hasRun l Z fu h_30 hi30 a4 a5 σ_73 r_85 σ_85 hc85) ⟨va_cnB (host := "FiftyOneCards") 2 hts ggX8_copy_X5_hasRun rfl rfl rfl (ow_nwp hG (.methodLinkNest RX8 317 yX5_hasRun "FiftyOneCards") (by decide +kernel)) (hts (.initialized RX5) (by decide +kernel)) (by decide +kernel) ⟨Nat.le_of_ble_eq_true rfl, Nat.le_of_ble_eq_true rfl⟩, hts (.instanceMethod yX5_hasRun) (by decide +kernel), hts (.selects RX5 yX5_hasRun yX5_hasRun) (by decide +kernel)⟩ (ow_preV hG hW hi30 (by decide) rfl) rfl rfl hl.1 rfl (lv_room (Nat.le_of_ble_eq_true rfl)) dX8_copy_85 ⟨Nat.zero_le _, Nat.zero_le _⟩) hW (fun b85 H locs hW => ?_)
              refine lv_if_ne (tgt := 94) hx hb dX8_copy_88 (by decide) (fun c88 => ?_) (fun c88 => ?_)
              · replace hf := ow_if_f c88 hf
                refine lv_aload hx hb dX8_copy_94 (lv_at hl 1 rfl) ?_
                refine ow_getVN (ci := 5) (C := RX5) (T := TX5) (N := 3) hx hb hts hown hG hW hi22 (by decide) rfl hinX5 0 (by decide) (fk := 2) rfl (ow_nwp hG (.fieldLinkNest RX8 321 "FiftyOneCards$Sheet" "cells" "[I" "FiftyOneCards") (by decide +kernel)) (v := .ref (ow_ad Z (h_22 + 1))) (ow_vR hW hi22.1 hi22.2.1 (ow_she hi22).1) dX8_copy_96 ?_
                refine lv_iload_n hx hb dX8_copy_99 rfl (lv_at hl 4 rfl) ?_
                refine lv_aload hx hb dX8_copy_100 (lv_at hl 0 rfl) ?_
                refine ow_getVN (ci := 5) (C := RX5) (T := TX5) (N := 3) hx hb hts hown hG hW hi30 (by decide) rfl hinX5 0 (by decide) (fk := 2) rfl (ow_nwp hG (.fieldLinkNest RX8 321 "FiftyOneCards$Sheet" "cells" "[I" "FiftyOneCards") (by decide +kernel)) (v := .ref (ow_ad Z (h_30 + 1))) (ow_vR hW hi30.1 hi30.2.1 (ow_she hi30).1) dX8_copy_102 ?_
                refine lv_iload hx hb dX8_copy_105 (lv_at hl 6 rfl) ?_
                refine lv_iload hx hb dX8_copy_107 (lv_at hl 7 rfl) ?_
                refine ow_copy hx hb (hml.trans hl.1.symm) hown (hts (.methodLink RX8 324 arraycopyName) (by decide +kernel)) (hts (.native arraycopyName) (by decide +kernel)) (hts (.static arraycopyName) (by decide +kernel)) (hts (.initialized "java/lang/System") (by decide +kernel)) hG hW (ow_she hi22).2.1 (ow_she hi22).2.2 (ow_she hi30).2.1 (ow_she hi30).2.2 hf (Nat.le_of_ble_eq_true rfl) (Nat.le_of_ble_eq_true rfl) dX8_copy_109 (fun σ_109 H locs hf hW => ?_)
                refine lv_iload hx hb dX8_copy_112 (lv_at hl 7 rfl) ?_
                exact ow_iret hx hb hr hW hf dX8_copy_114 hlocks
              · replace hf := ow_if_t c88 hf
                refine lv_bipush (v := -12) hx hb dX8_copy_91 (by decide) ?_
                exact ow_iret hx hb hr hW hf dX8_copy_93 hlocks
          · replace hf := ow_if_f c62 hf
            refine lv_bipush (v := -13) hx hb dX8_copy_65 (by decide) ?_
            exact ow_iret hx hb hr hW hf dX8_copy_67 hlocks
        · replace hf := ow_if_f c46 hf
          refine lv_bipush (v := -11) hx hb dX8_copy_49 (by decide) ?_
          exact ow_iret hx hb hr hW hf dX8_copy_51 hlocks
    · replace hf := ow_if_t c11 hf
      refine lv_bipush (v := -2) hx hb dX8_copy_14 (by decide) ?_
      exact ow_iret hx hb hr hW hf dX8_copy_16 hlocks
set_option maxHeartbeats 40000000 in
set_option maxRecDepth 100000 in
theorem c_X8_cardsBy (l : Launch) (Z : ow_Z) (fu : Nat) (a1 : Int32) (a2 : Int32) (a3 : Int32) (a4 : Int32) (σ : ow_S) (rr : Int32) (σr : ow_S) (hf : f_X8_cardsBy fu a1 a2 a3 a4 σ = some (rr, σr)) : Met l yX8_cardsBy wsX8_cardsBy { frames := 3, cells := 0, slots := 0, locals := 102 } (ow_Pc Z 0 56 [.ref (ow_ad Z 0), .int a1, .int a2, .int a3, .int a4] σ) (ow_Qi Z 0 56 rr σr) 0 0 (ow_A Z 0 56) := by
  refine Met.ofW (cc := cX8_cardsBy) (maxL := 7) (ret := (some .int)) (by decide) rfl ?_
  intro p e s m args below meth c s₁ B hml hv
  obtain ⟨hav, hB⟩ := hv
  obtain ⟨hG, hW⟩ := ow_begin hB
  have hx := B.exec
  have hb := B.bytes
  have hr := B.returns
  have hts := atoms_spec (ws := wsX8_cardsBy) B.pre
  have hown : s.vm.findClass RX8 = some m.cls := findClass_of_methodNamed B.named
  have hlocks := B.notSynchronized
  have hinX5 : ∀ w ∈ wsX50, w ∈ wsX8_cardsBy := by decide +kernel
  have hinX8 : ∀ w ∈ wsX80, w ∈ wsX8_cardsBy := by decide +kernel
  have hJ118 : ∀ (k68 : Int32 → Int32 → Int32 → Int32 → Int32 → ow_S → Option (Int32 × ow_S)) (hk68 : ∀ (x1 : Int32) (x3 : Int32) (x4 : Int32) (x5 : Int32) (x6 : Int32) (σ : ow_S) (H : Heap) (locs : List Loc) (ls : Array Slot), k68 x1 x3 x4 x5 x6 σ = some (rr, σr) → ow_Wd Z 0 56 σ s H locs → lv_has ls 7 [(0, .ref (ow_ad Z 0)), (1, .int x1), (3, .int x3), (4, .int x4), (5, .int x5), (6, .int x6)] → W p l e (headSpec wsX8_cardsBy { frames := 3, cells := 0, slots := 0, locals := 102 }).room s m args below meth c H locs 0 0 (MQ below (ow_Qi Z 0 56 rr σr) args s 0 0 (ow_A Z 0 56)) (F0 m 68 ls [])), ∀ (x1 : Int32) (x3 : Int32) (x4 : Int32) (x5 : Int32) (x6 : Int32) (σ : ow_S) (H : Heap) (locs : List Loc) (ls : Array Slot), L_X8_cardsBy_118 fu k68 x1 x3 x4 x5 x6 σ = some (rr, σr) → ow_Wd Z 0 56 σ s H locs → lv_has ls 7 [(0, .ref (ow_ad Z 0)), (1, .int x1), (3, .int x3), (4, .int x4), (5, .int x5), (6, .int x6)] → W p l e (headSpec wsX8_cardsBy { frames := 3, cells := 0, slots := 0, locals := 102 }).room s m args below meth c H locs 0 0 (MQ below (ow_Qi Z 0 56 rr σr) args s 0 0 (ow_A Z 0 56)) (F0 m 118 ls []) := by
    intro k68 hk68 x1 x3 x4 x5 x6 σ H locs ls hf hW hl
    unfold L_X8_cardsBy_118 at hf
    refine ow_iinc (d := 1) (lv' := fun z => [(6, .int z), (0, .ref (ow_ad Z 0)), (1, .int x1), (3, .int x3), (4, .int x4), (5, .int x5)]) hx hb hf dX8_cardsBy_118 hl (k := 5) rfl (by decide) (by decide) (fun z => rfl) (fun x6_118 hf ls hl => ?_)
    refine lv_goto (tgt := 68) hx hb dX8_cardsBy_121 (by decide) ?_
    exact hk68 x1 x3 x4 x5 x6_118 σ _ _ _ hf hW (lv_sub hl [1, 2, 3, 4, 5, 0] rfl)
  have hJ68 : ∀ (fn : Nat), ∀ (x1 : Int32) (x3 : Int32) (x4 : Int32) (x5 : Int32) (x6 : Int32) (σ : ow_S) (H : Heap) (locs : List Loc) (ls : Array Slot), L_X8_cardsBy_68 fu fn x1 x3 x4 x5 x6 σ = some (rr, σr) → ow_Wd Z 0 56 σ s H locs → lv_has ls 7 [(0, .ref (ow_ad Z 0)), (1, .int x1), (3, .int x3), (4, .int x4), (5, .int x5), (6, .int x6)] → W p l e (headSpec wsX8_cardsBy { frames := 3, cells := 0, slots := 0, locals := 102 }).room s m args below meth c H locs 0 0 (MQ below (ow_Qi Z 0 56 rr σr) args s 0 0 (ow_A Z 0 56)) (F0 m 68 ls []) := by
    intro fn
    induction fn with
    | zero => intro x1 x3 x4 x5 x6 σ H locs ls hf hW hl; simp [L_X8_cardsBy_68] at hf
    | succ fn ih =>
      intro x1 x3 x4 x5 x6 σ H locs ls hf hW hl
      rw [L_X8_cardsBy_68] at hf
      refine lv_iload hx hb dX8_cardsBy_68 (lv_at hl 5 rfl) ?_
      refine lv_iload hx hb dX8_cardsBy_70 (lv_at hl 3 rfl) ?_
      refine lv_icmp_ge (tgt := 124) hx hb dX8_cardsBy_72 (by decide) (fun c72 => ?_) (fun c72 => ?_)
      · replace hf := ow_if_t c72 hf
        refine lv_iload hx hb dX8_cardsBy_124 (lv_at hl 4 rfl) ?_
        exact ow_iret hx hb hr hW hf dX8_cardsBy_126 hlocks
      · replace hf := ow_if_f c72 hf
        refine lv_aload_n hx hb dX8_cardsBy_75 rfl (lv_at hl 0 rfl) ?_
        refine ow_getV (ci := 8) (C := RX8) (T := TX8) (N := 15) hx hb hts hown hG hW ow_i0 (by decide) rfl hinX8 9 (by decide) (fk := 2) rfl (hts (.fieldLink RX8 63 "FiftyOneCards" "sheets" "[LFiftyOneCards$Sheet;") (by decide +kernel)) (v := .ref (ow_ad Z 15)) (ow_vR hW ow_i0.1 ow_i0.2.1 rfl) dX8_cardsBy_76 ?_
        refine lv_iload_n hx hb dX8_cardsBy_79 rfl (lv_at hl 1 rfl) ?_
        refine ow_rld (f := fun j => 48 + 2 * j) (ct := 5) hx hb hG hW ow_i15 ⟨by decide, by decide⟩ rfl ow_ra15 hf dX8_cardsBy_80 (fun h_80 hf hi80 => ?_)
        refine lv_iload_n hx hb dX8_cardsBy_81 rfl (lv_at hl 2 rfl) ?_
        refine lv_iload hx hb dX8_cardsBy_82 (lv_at hl 5 rfl) ?_
        refine lv_iadd hx hb dX8_cardsBy_84 ?_
        obtain ⟨r_85, σ_85, hc85, hf⟩ := ow_cl_i hf
        refine ow_callz (va_runVN (As := [.int (x3 + x6)]) (rest := []) ⟨hx, hb, hml, hown, hts⟩ (c_X5_has l Z fu h_80 hi80 (x3 + x6) σ r_85 σ_85 hc85) ⟨va_cnB (host := "FiftyOneCards") 1 hts ggX8_cardsBy_X5_has rfl rfl rfl (ow_nwp hG (.methodLinkNest RX8 313 yX5_has "FiftyOneCards") (by decide +kernel)) (hts (.initialized RX5) (by decide +kernel)) (by decide +kernel) ⟨Nat.le_of_ble_eq_true rfl, Nat.le_of_ble_eq_true rfl⟩, hts (.instanceMethod yX5_has) (by decide +kernel), hts (.selects RX5 yX5_has yX5_has) (by decide +kernel)⟩ (ow_preV hG hW hi80 (by decide) rfl) rfl rfl hl.1 rfl (lv_room (Nat.le_of_ble_eq_true rfl)) dX8_cardsBy_85 ⟨Nat.zero_le _, Nat.zero_le _⟩) hW (fun b85 H locs hW => ?_)
        refine lv_if_ne (tgt := 94) hx hb dX8_cardsBy_88 (by decide) (fun c88 => ?_) (fun c88 => ?_)
        · replace hf := ow_if_f c88 hf
          refine lv_aload_n hx hb dX8_cardsBy_94 rfl (lv_at hl 0 rfl) ?_
          refine lv_aload_n hx hb dX8_cardsBy_95 rfl (lv_at hl 0 rfl) ?_
          refine ow_getV (ci := 8) (C := RX8) (T := TX8) (N := 15) hx hb hts hown hG hW ow_i0 (by decide) rfl hinX8 9 (by decide) (fk := 2) rfl (hts (.fieldLink RX8 63 "FiftyOneCards" "sheets" "[LFiftyOneCards$Sheet;") (by decide +kernel)) (v := .ref (ow_ad Z 15)) (ow_vR hW ow_i0.1 ow_i0.2.1 rfl) dX8_cardsBy_96 ?_
          refine lv_iload_n hx hb dX8_cardsBy_99 rfl (lv_at hl 1 rfl) ?_
          refine ow_rld (f := fun j => 48 + 2 * j) (ct := 5) hx hb hG hW ow_i15 ⟨by decide, by decide⟩ rfl ow_ra15 hf dX8_cardsBy_100 (fun h_100 hf hi100 => ?_)
          refine ow_getVN (ci := 5) (C := RX5) (T := TX5) (N := 3) hx hb hts hown hG hW hi100 (by decide) rfl hinX5 0 (by decide) (fk := 2) rfl (ow_nwp hG (.fieldLinkNest RX8 321 "FiftyOneCards$Sheet" "cells" "[I" "FiftyOneCards") (by decide +kernel)) (v := .ref (ow_ad Z (h_100 + 1))) (ow_vR hW hi100.1 hi100.2.1 (ow_she hi100).1) dX8_cardsBy_101 ?_
          refine lv_iload_n hx hb dX8_cardsBy_104 rfl (lv_at hl 2 rfl) ?_
          refine lv_iload hx hb dX8_cardsBy_105 (lv_at hl 5 rfl) ?_
          refine lv_iadd hx hb dX8_cardsBy_107 ?_
          obtain ⟨q108, hf⟩ := ow_ck_i hf
          refine ow_ild (q := (x3 + x6).toNatClampNeg) hx hb hG hW (ow_she hi100).2.1 (ow_she hi100).2.2 q108 rfl dX8_cardsBy_108 ?_
          obtain ⟨r_109, σ_109, hc109, hf⟩ := ow_cl_i hf
          refine ow_calli (va_runV (As := [.int (σ_85.1 (h_100 + 1) (x3 + x6).toNatClampNeg)]) (rest := []) ⟨hx, hb, hml, hown, hts⟩ (c_X8_card l Z fu (σ_85.1 (h_100 + 1) (x3 + x6).toNatClampNeg) σ_85 r_109 σ_109 hc109) (cwV 1 hts gX8_cardsBy_X8_card rfl rfl rfl (by decide +kernel) ⟨Nat.le_of_ble_eq_true rfl, Nat.le_of_ble_eq_true rfl⟩) (ow_preV hG hW ow_i0 (by decide) rfl) rfl rfl hl.1 rfl (lv_room (Nat.le_of_ble_eq_true rfl)) dX8_cardsBy_109 ⟨Nat.zero_le _, Nat.zero_le _⟩) hW (fun H locs hW => ?_)
          refine lv_if_le (tgt := 118) hx hb dX8_cardsBy_112 (by decide) (fun c112 => ?_) (fun c112 => ?_)
          · replace hf := ow_if_t c112 hf
            exact hJ118 (L_X8_cardsBy_68 fu fn) ih x1 x3 x4 x5 x6 σ_109 _ _ _ hf hW (lv_sub hl [0, 1, 2, 3, 4, 5] rfl)
          · replace hf := ow_if_f c112 hf
            refine ow_iinc (d := 1) (lv' := fun z => [(5, .int z), (0, .ref (ow_ad Z 0)), (1, .int x1), (3, .int x3), (4, .int x4), (6, .int x6)]) hx hb hf dX8_cardsBy_115 hl (k := 4) rfl (by decide) (by decide) (fun z => rfl) (fun x5_115 hf ls hl => ?_)
            exact hJ118 (L_X8_cardsBy_68 fu fn) ih x1 x3 x4 x5_115 x6 σ_109 _ _ _ hf hW (lv_sub hl [1, 2, 3, 4, 0, 5] rfl)
        · replace hf := ow_if_t c88 hf
          refine lv_bipush (v := -12) hx hb dX8_cardsBy_91 (by decide) ?_
          exact ow_iret hx hb hr hW hf dX8_cardsBy_93 hlocks
  have hl := lv_entry ([.ref (ow_ad Z 0), .int a1, .int a2, .int a3, .int a4]) (n := 7) (Nat.le_of_ble_eq_true rfl)
  refine W.eq (g2 := F0 m 0 ((lg_sl ([.ref (ow_ad Z 0), .int a1, .int a2, .int a3, .int a4]) ++ List.replicate (7 - (lg_sl ([.ref (ow_ad Z 0), .int a1, .int a2, .int a3, .int a4])).length) Slot.unset).toArray) []) (by rw [hav]; exact lg_entry_eq _ _ _) ?_
  generalize (lg_sl ([.ref (ow_ad Z 0), .int a1, .int a2, .int a3, .int a4]) ++ List.replicate (7 - (lg_sl ([.ref (ow_ad Z 0), .int a1, .int a2, .int a3, .int a4])).length) Slot.unset).toArray = ls at hl ⊢
  have hl : lv_has ls 7 [(0, .ref (ow_ad Z 0)), (1, .int a1), (2, .int a2), (3, .int a3), (4, .int a4)] := hl
  unfold f_X8_cardsBy at hf
  refine lv_iload_n hx hb dX8_cardsBy_0 rfl (lv_at hl 1 rfl) ?_
  obtain ⟨r_1, σ_1, hc1, hf⟩ := ow_cl_i hf
  refine ow_callz (va_runS (As := [.int a1]) (rest := []) ⟨hx, hb, hml, hown, hts⟩ (c_X8_isSheet l Z fu a1 σ r_1 σ_1 hc1) (va_cwS 1 hts gX8_cardsBy_X8_isSheet rfl rfl rfl (by decide +kernel) ⟨Nat.le_of_ble_eq_true rfl, Nat.le_of_ble_eq_true rfl⟩) (ow_preS hG hW) rfl rfl hl.1 rfl (lv_room (Nat.le_of_ble_eq_true rfl)) dX8_cardsBy_1 ⟨Nat.zero_le _, Nat.zero_le _⟩) hW (fun b1 H locs hW => ?_)
  refine lv_if_eq (tgt := 28) hx hb dX8_cardsBy_4 (by decide) (fun c4 => ?_) (fun c4 => ?_)
  · replace hf := ow_if_t c4 hf
    refine lv_bipush (v := -2) hx hb dX8_cardsBy_28 (by decide) ?_
    exact ow_iret hx hb hr hW hf dX8_cardsBy_30 hlocks
  · replace hf := ow_if_f c4 hf
    refine lv_iload_n hx hb dX8_cardsBy_7 rfl (lv_at hl 2 rfl) ?_
    refine lv_if_lt (tgt := 28) hx hb dX8_cardsBy_8 (by decide) (fun c8 => ?_) (fun c8 => ?_)
    · replace hf := ow_if_t c8 hf
      refine lv_bipush (v := -2) hx hb dX8_cardsBy_28 (by decide) ?_
      exact ow_iret hx hb hr hW hf dX8_cardsBy_30 hlocks
    · replace hf := ow_if_f c8 hf
      refine lv_iload_n hx hb dX8_cardsBy_11 rfl (lv_at hl 2 rfl) ?_
      refine lv_iconst (v := 2) hx hb dX8_cardsBy_12 (by decide) ?_
      refine lv_icmp_gt (tgt := 28) hx hb dX8_cardsBy_13 (by decide) (fun c13 => ?_) (fun c13 => ?_)
      · replace hf := ow_if_t c13 hf
        refine lv_bipush (v := -2) hx hb dX8_cardsBy_28 (by decide) ?_
        exact ow_iret hx hb hr hW hf dX8_cardsBy_30 hlocks
      · replace hf := ow_if_f c13 hf
        refine lv_iload hx hb dX8_cardsBy_16 (lv_at hl 4 rfl) ?_
        refine lv_if_lt (tgt := 28) hx hb dX8_cardsBy_18 (by decide) (fun c18 => ?_) (fun c18 => ?_)
        · replace hf := ow_if_t c18 hf
          refine lv_bipush (v := -2) hx hb dX8_cardsBy_28 (by decide) ?_
          exact ow_iret hx hb hr hW hf dX8_cardsBy_30 hlocks
        · replace hf := ow_if_f c18 hf
          refine lv_iload hx hb dX8_cardsBy_21 (lv_at hl 4 rfl) ?_
          refine lv_bipush (v := 40) hx hb dX8_cardsBy_23 (by decide) ?_
          refine lv_icmp_le (tgt := 31) hx hb dX8_cardsBy_25 (by decide) (fun c25 => ?_) (fun c25 => ?_)
          · replace hf := ow_if_t c25 hf
            refine lv_aload_n hx hb dX8_cardsBy_31 rfl (lv_at hl 0 rfl) ?_
            refine ow_getV (ci := 8) (C := RX8) (T := TX8) (N := 15) hx hb hts hown hG hW ow_i0 (by decide) rfl hinX8 9 (by decide) (fk := 2) rfl (hts (.fieldLink RX8 63 "FiftyOneCards" "sheets" "[LFiftyOneCards$Sheet;") (by decide +kernel)) (v := .ref (ow_ad Z 15)) (ow_vR hW ow_i0.1 ow_i0.2.1 rfl) dX8_cardsBy_32 ?_
            refine lv_iload_n hx hb dX8_cardsBy_35 rfl (lv_at hl 1 rfl) ?_
            refine ow_rld (f := fun j => 48 + 2 * j) (ct := 5) hx hb hG hW ow_i15 ⟨by decide, by decide⟩ rfl ow_ra15 hf dX8_cardsBy_36 (fun h_36 hf hi36 => ?_)
            obtain ⟨r_37, σ_37, hc37, hf⟩ := ow_cl_i hf
            refine ow_callz (va_runVN (As := []) (rest := []) ⟨hx, hb, hml, hown, hts⟩ (c_X5_isMissing l Z fu h_36 hi36 σ_1 r_37 σ_37 hc37) ⟨va_cnB (host := "FiftyOneCards") 0 hts ggX8_cardsBy_X5_isMissing rfl rfl rfl (ow_nwp hG (.methodLinkNest RX8 309 yX5_isMissing "FiftyOneCards") (by decide +kernel)) (hts (.initialized RX5) (by decide +kernel)) (by decide +kernel) ⟨Nat.le_of_ble_eq_true rfl, Nat.le_of_ble_eq_true rfl⟩, hts (.instanceMethod yX5_isMissing) (by decide +kernel), hts (.selects RX5 yX5_isMissing yX5_isMissing) (by decide +kernel)⟩ (ow_preV hG hW hi36 (by decide) rfl) rfl rfl hl.1 rfl (lv_room (Nat.le_of_ble_eq_true rfl)) dX8_cardsBy_37 ⟨Nat.zero_le _, Nat.zero_le _⟩) hW (fun b37 H locs hW => ?_)
            refine lv_if_eq (tgt := 46) hx hb dX8_cardsBy_40 (by decide) (fun c40 => ?_) (fun c40 => ?_)
            · replace hf := ow_if_t c40 hf
              refine lv_aload_n hx hb dX8_cardsBy_46 rfl (lv_at hl 0 rfl) ?_
              refine ow_getV (ci := 8) (C := RX8) (T := TX8) (N := 15) hx hb hts hown hG hW ow_i0 (by decide) rfl hinX8 9 (by decide) (fk := 2) rfl (hts (.fieldLink RX8 63 "FiftyOneCards" "sheets" "[LFiftyOneCards$Sheet;") (by decide +kernel)) (v := .ref (ow_ad Z 15)) (ow_vR hW ow_i0.1 ow_i0.2.1 rfl) dX8_cardsBy_47 ?_
              refine lv_iload_n hx hb dX8_cardsBy_50 rfl (lv_at hl 1 rfl) ?_
              refine ow_rld (f := fun j => 48 + 2 * j) (ct := 5) hx hb hG hW ow_i15 ⟨by decide, by decide⟩ rfl ow_ra15 hf dX8_cardsBy_51 (fun h_51 hf hi51 => ?_)
              refine ow_getVN (ci := 5) (C := RX5) (T := TX5) (N := 3) hx hb hts hown hG hW hi51 (by decide) rfl hinX5 1 (by decide) (fk := 0) rfl (ow_nwp hG (.fieldLinkNest RX8 314 "FiftyOneCards$Sheet" "sort" "I" "FiftyOneCards") (by decide +kernel)) (v := .int (σ_37.1 h_51 1)) rfl dX8_cardsBy_52 ?_
              refine lv_iload_n hx hb dX8_cardsBy_55 rfl (lv_at hl 2 rfl) ?_
              refine lv_icmp_eq (tgt := 62) hx hb dX8_cardsBy_56 (by decide) (fun c56 => ?_) (fun c56 => ?_)
              · replace hf := ow_if_t c56 hf
                refine lv_iconst (v := 0) hx hb dX8_cardsBy_62 (by decide) ?_
                refine lv_istore (lv' := [(5, .int (0 : Int32)), (0, .ref (ow_ad Z 0)), (1, .int a1), (2, .int a2), (3, .int a3), (4, .int a4)]) hx hb dX8_cardsBy_63 hl (by decide) rfl (fun ls hl => ?_)
                refine lv_iconst (v := 0) hx hb dX8_cardsBy_65 (by decide) ?_
                refine lv_istore (lv' := [(6, .int (0 : Int32)), (5, .int (0 : Int32)), (0, .ref (ow_ad Z 0)), (1, .int a1), (2, .int a2), (3, .int a3), (4, .int a4)]) hx hb dX8_cardsBy_66 hl (by decide) rfl (fun ls hl => ?_)
                exact hJ68 fu a1 a3 a4 (0 : Int32) (0 : Int32) σ_37 _ _ _ hf hW (lv_sub hl [2, 3, 5, 6, 1, 0] rfl)
              · replace hf := ow_if_f c56 hf
                refine lv_bipush (v := -13) hx hb dX8_cardsBy_59 (by decide) ?_
                exact ow_iret hx hb hr hW hf dX8_cardsBy_61 hlocks
            · replace hf := ow_if_f c40 hf
              refine lv_bipush (v := -11) hx hb dX8_cardsBy_43 (by decide) ?_
              exact ow_iret hx hb hr hW hf dX8_cardsBy_45 hlocks
          · replace hf := ow_if_f c25 hf
            refine lv_bipush (v := -2) hx hb dX8_cardsBy_28 (by decide) ?_
            exact ow_iret hx hb hr hW hf dX8_cardsBy_30 hlocks
set_option maxHeartbeats 40000000 in
set_option maxRecDepth 100000 in
theorem c_X8_isOfKind (l : Launch) (Z : ow_Z) (fu : Nat) (a1 : Int32) (a2 : Int32) (σ : ow_S) (rr : Int32) (σr : ow_S) (hf : f_X8_isOfKind fu a1 a2 σ = some (rr, σr)) : Met l yX8_isOfKind wsX8_isOfKind { frames := 1, cells := 0, slots := 0, locals := 60 } (ow_Pc Z 0 56 [.int a1, .int a2] σ) (ow_Qz Z 0 56 rr σr) 0 0 (ow_A Z 0 56) := by
  refine Met.ofW (cc := cX8_isOfKind) (maxL := 4) (ret := (some .boolean)) (by decide) rfl ?_
  intro p e s m args below meth c s₁ B hml hv
  obtain ⟨hav, hB⟩ := hv
  obtain ⟨hG, hW⟩ := ow_begin hB
  have hx := B.exec
  have hb := B.bytes
  have hr := B.returns
  have hts := atoms_spec (ws := wsX8_isOfKind) B.pre
  have hown : s.vm.findClass RX8 = some m.cls := findClass_of_methodNamed B.named
  have hlocks := B.notSynchronized
  have hJ4 : ∀ (fn : Nat), ∀ (x1 : Int32) (x2 : Int32) (x3 : Int32) (σ : ow_S) (H : Heap) (locs : List Loc) (ls : Array Slot), L_X8_isOfKind_4 fu fn x1 x2 x3 σ = some (rr, σr) → ow_Wd Z 0 56 σ s H locs → lv_has ls 4 [(1, .int x1), (2, .int x2), (3, .int x3)] → W p l e (headSpec wsX8_isOfKind { frames := 1, cells := 0, slots := 0, locals := 60 }).room s m args below meth c H locs 0 0 (MQ below (ow_Qz Z 0 56 rr σr) args s 0 0 (ow_A Z 0 56)) (F0 m 4 ls []) := by
    intro fn
    induction fn with
    | zero => intro x1 x2 x3 σ H locs ls hf hW hl; simp [L_X8_isOfKind_4] at hf
    | succ fn ih =>
      intro x1 x2 x3 σ H locs ls hf hW hl
      rw [L_X8_isOfKind_4] at hf
      refine lv_iload_n hx hb dX8_isOfKind_4 rfl (lv_at hl 2 rfl) ?_
      refine va_gets (C := "FiftyOneCards") (n := "KIND_ABOVE") (d := "[I") hx hb hG.2.2.2.2.1 hW.2.2.1 hown (hts (.fieldLink RX8 338 "FiftyOneCards" "KIND_ABOVE" "[I") (by decide +kernel)) (fun _ h9 => h9) dX8_isOfKind_5 ?_
      refine va_tlen (v := 6) hx hb hG.2.2.2.2.2 hW.2.2.1 rfl dX8_isOfKind_8 ?_
      refine lv_icmp_ge (tgt := 43) hx hb dX8_isOfKind_9 (by decide) (fun c9 => ?_) (fun c9 => ?_)
      · replace hf := ow_if_t c9 hf
        refine lv_iconst (v := 0) hx hb dX8_isOfKind_43 (by decide) ?_
        exact ow_zret hx hb hr (Or.inl rfl) hW hf dX8_isOfKind_44 hlocks
      · replace hf := ow_if_f c9 hf
        refine lv_iload_n hx hb dX8_isOfKind_12 rfl (lv_at hl 1 rfl) ?_
        refine lv_if_lt (tgt := 43) hx hb dX8_isOfKind_13 (by decide) (fun c13 => ?_) (fun c13 => ?_)
        · replace hf := ow_if_t c13 hf
          refine lv_iconst (v := 0) hx hb dX8_isOfKind_43 (by decide) ?_
          exact ow_zret hx hb hr (Or.inl rfl) hW hf dX8_isOfKind_44 hlocks
        · replace hf := ow_if_f c13 hf
          refine lv_iload_n hx hb dX8_isOfKind_16 rfl (lv_at hl 1 rfl) ?_
          refine va_gets (C := "FiftyOneCards") (n := "KIND_ABOVE") (d := "[I") hx hb hG.2.2.2.2.1 hW.2.2.1 hown (hts (.fieldLink RX8 338 "FiftyOneCards" "KIND_ABOVE" "[I") (by decide +kernel)) (fun _ h9 => h9) dX8_isOfKind_17 ?_
          refine va_tlen (v := 6) hx hb hG.2.2.2.2.2 hW.2.2.1 rfl dX8_isOfKind_20 ?_
          refine lv_icmp_ge (tgt := 43) hx hb dX8_isOfKind_21 (by decide) (fun c21 => ?_) (fun c21 => ?_)
          · replace hf := ow_if_t c21 hf
            refine lv_iconst (v := 0) hx hb dX8_isOfKind_43 (by decide) ?_
            exact ow_zret hx hb hr (Or.inl rfl) hW hf dX8_isOfKind_44 hlocks
          · replace hf := ow_if_f c21 hf
            refine lv_iload_n hx hb dX8_isOfKind_24 rfl (lv_at hl 1 rfl) ?_
            refine lv_iload_n hx hb dX8_isOfKind_25 rfl (lv_at hl 0 rfl) ?_
            refine lv_icmp_ne (tgt := 31) hx hb dX8_isOfKind_26 (by decide) (fun c26 => ?_) (fun c26 => ?_)
            · replace hf := ow_if_f c26 hf
              refine va_gets (C := "FiftyOneCards") (n := "KIND_ABOVE") (d := "[I") hx hb hG.2.2.2.2.1 hW.2.2.1 hown (hts (.fieldLink RX8 338 "FiftyOneCards" "KIND_ABOVE" "[I") (by decide +kernel)) (fun _ h9 => h9) dX8_isOfKind_31 ?_
              refine lv_iload_n hx hb dX8_isOfKind_34 rfl (lv_at hl 1 rfl) ?_
              obtain ⟨q35, hf⟩ := ow_ck_i hf
              refine va_ti (v := .int (ow_ka x2.toNatClampNeg)) hx hb hG.2.2.2.2.2 hW.2.2.1 q35 rfl dX8_isOfKind_35 ?_
              refine ow_topi hf (fun x2_36 hf => ?_)
              refine lv_istore_n (lv' := [(2, .int x2_36), (1, .int x1), (3, .int x3)]) hx hb dX8_isOfKind_36 rfl hl (by decide) rfl (fun ls hl => ?_)
              refine ow_iinc (d := 1) (lv' := fun z => [(3, .int z), (2, .int x2_36), (1, .int x1)]) hx hb hf dX8_isOfKind_37 hl (k := 2) rfl (by decide) (by decide) (fun z => rfl) (fun x3_37 hf ls hl => ?_)
              refine lv_goto (tgt := 4) hx hb dX8_isOfKind_40 (by decide) ?_
              exact ih x1 x2_36 x3_37 σ _ _ _ hf hW (lv_sub hl [2, 1, 0] rfl)
            · replace hf := ow_if_t c26 hf
              refine lv_iconst (v := 1) hx hb dX8_isOfKind_29 (by decide) ?_
              exact ow_zret hx hb hr (Or.inr rfl) hW hf dX8_isOfKind_30 hlocks
  have hl := lv_entry ([.int a1, .int a2]) (n := 4) (Nat.le_of_ble_eq_true rfl)
  refine W.eq (g2 := F0 m 0 ((lg_sl ([.int a1, .int a2]) ++ List.replicate (4 - (lg_sl ([.int a1, .int a2])).length) Slot.unset).toArray) []) (by rw [hav]; exact lg_entry_eq _ _ _) ?_
  generalize (lg_sl ([.int a1, .int a2]) ++ List.replicate (4 - (lg_sl ([.int a1, .int a2])).length) Slot.unset).toArray = ls at hl ⊢
  have hl : lv_has ls 4 [(0, .int a1), (1, .int a2)] := hl
  unfold f_X8_isOfKind at hf
  refine lv_iload_n hx hb dX8_isOfKind_0 rfl (lv_at hl 0 rfl) ?_
  refine lv_istore_n (lv' := [(2, .int a1), (0, .int a1), (1, .int a2)]) hx hb dX8_isOfKind_1 rfl hl (by decide) rfl (fun ls hl => ?_)
  refine lv_iconst (v := 0) hx hb dX8_isOfKind_2 (by decide) ?_
  refine lv_istore_n (lv' := [(3, .int (0 : Int32)), (2, .int a1), (0, .int a1), (1, .int a2)]) hx hb dX8_isOfKind_3 rfl hl (by decide) rfl (fun ls hl => ?_)
  exact hJ4 fu a2 a1 (0 : Int32) σ _ _ _ hf hW (lv_sub hl [3, 1, 0] rfl)
set_option maxHeartbeats 40000000 in
set_option maxRecDepth 100000 in
theorem c_X8_taken (l : Launch) (Z : ow_Z) (fu : Nat) (a1 : Int32) (a2 : Int32) (σ : ow_S) (rr : Int32) (σr : ow_S) (hf : f_X8_taken fu a1 a2 σ = some (rr, σr)) : Met l yX8_taken wsX8_taken { frames := 2, cells := 0, slots := 0, locals := 83 } (ow_Pc Z 0 56 [.ref (ow_ad Z 0), .int a1, .int a2] σ) (ow_Qi Z 0 56 rr σr) 0 0 (ow_A Z 0 56) := by
  refine Met.ofW (cc := cX8_taken) (maxL := 4) (ret := (some .int)) (by decide) rfl ?_
  intro p e s m args below meth c s₁ B hml hv
  obtain ⟨hav, hB⟩ := hv
  obtain ⟨hG, hW⟩ := ow_begin hB
  have hx := B.exec
  have hb := B.bytes
  have hr := B.returns
  have hts := atoms_spec (ws := wsX8_taken) B.pre
  have hown : s.vm.findClass RX8 = some m.cls := findClass_of_methodNamed B.named
  have hlocks := B.notSynchronized
  have hinX0 : ∀ w ∈ wsX00, w ∈ wsX8_taken := by decide +kernel
  have hinX4 : ∀ w ∈ wsX40, w ∈ wsX8_taken := by decide +kernel
  have hinX8 : ∀ w ∈ wsX80, w ∈ wsX8_taken := by decide +kernel
  have hl := lv_entry ([.ref (ow_ad Z 0), .int a1, .int a2]) (n := 4) (Nat.le_of_ble_eq_true rfl)
  refine W.eq (g2 := F0 m 0 ((lg_sl ([.ref (ow_ad Z 0), .int a1, .int a2]) ++ List.replicate (4 - (lg_sl ([.ref (ow_ad Z 0), .int a1, .int a2])).length) Slot.unset).toArray) []) (by rw [hav]; exact lg_entry_eq _ _ _) ?_
  generalize (lg_sl ([.ref (ow_ad Z 0), .int a1, .int a2]) ++ List.replicate (4 - (lg_sl ([.ref (ow_ad Z 0), .int a1, .int a2])).length) Slot.unset).toArray = ls at hl ⊢
  have hl : lv_has ls 4 [(0, .ref (ow_ad Z 0)), (1, .int a1), (2, .int a2)] := hl
  unfold f_X8_taken at hf
  refine lv_iload_n hx hb dX8_taken_0 rfl (lv_at hl 2 rfl) ?_
  refine lv_if_lt (tgt := 10) hx hb dX8_taken_1 (by decide) (fun c1 => ?_) (fun c1 => ?_)
  · replace hf := ow_if_t c1 hf
    refine lv_bipush (v := -2) hx hb dX8_taken_10 (by decide) ?_
    exact ow_iret hx hb hr hW hf dX8_taken_12 hlocks
  · replace hf := ow_if_f c1 hf
    refine lv_iload_n hx hb dX8_taken_4 rfl (lv_at hl 2 rfl) ?_
    refine lv_bipush (v := 6) hx hb dX8_taken_5 (by decide) ?_
    refine lv_icmp_le (tgt := 13) hx hb dX8_taken_7 (by decide) (fun c7 => ?_) (fun c7 => ?_)
    · replace hf := ow_if_t c7 hf
      refine lv_iload_n hx hb dX8_taken_13 rfl (lv_at hl 1 rfl) ?_
      refine lv_if_lt (tgt := 23) hx hb dX8_taken_14 (by decide) (fun c14 => ?_) (fun c14 => ?_)
      · replace hf := ow_if_t c14 hf
        refine lv_bipush (v := -12) hx hb dX8_taken_23 (by decide) ?_
        exact ow_iret hx hb hr hW hf dX8_taken_25 hlocks
      · replace hf := ow_if_f c14 hf
        refine lv_iload_n hx hb dX8_taken_17 rfl (lv_at hl 1 rfl) ?_
        refine lv_bipush (v := 65) hx hb dX8_taken_18 (by decide) ?_
        refine lv_icmp_lt (tgt := 26) hx hb dX8_taken_20 (by decide) (fun c20 => ?_) (fun c20 => ?_)
        · replace hf := ow_if_t c20 hf
          refine lv_iload_n hx hb dX8_taken_26 rfl (lv_at hl 1 rfl) ?_
          refine lv_iconst (v := 5) hx hb dX8_taken_27 (by decide) ?_
          refine lv_icmp_ge (tgt := 65) hx hb dX8_taken_28 (by decide) (fun c28 => ?_) (fun c28 => ?_)
          · replace hf := ow_if_t c28 hf
            refine lv_iload_n hx hb dX8_taken_65 rfl (lv_at hl 1 rfl) ?_
            refine lv_iconst (v := 5) hx hb dX8_taken_66 (by decide) ?_
            refine lv_isub hx hb dX8_taken_67 ?_
            refine ow_topi hf (fun x3_68 hf => ?_)
            refine lv_istore_n (lv' := [(3, .int x3_68), (0, .ref (ow_ad Z 0)), (1, .int a1), (2, .int a2)]) hx hb dX8_taken_68 rfl hl (by decide) rfl (fun ls hl => ?_)
            refine lv_aload_n hx hb dX8_taken_69 rfl (lv_at hl 1 rfl) ?_
            refine ow_getV (ci := 8) (C := RX8) (T := TX8) (N := 15) hx hb hts hown hG hW ow_i0 (by decide) rfl hinX8 0 (by decide) (fk := 2) rfl (hts (.fieldLink RX8 10 "FiftyOneCards" "row" "LFiftyOneCards$Row;") (by decide +kernel)) (v := .ref (ow_ad Z 1)) (ow_vR hW ow_i0.1 ow_i0.2.1 rfl) dX8_taken_70 ?_
            refine lv_iload_n hx hb dX8_taken_73 rfl (lv_at hl 0 rfl) ?_
            obtain ⟨r_74, σ_74, hc74, hf⟩ := ow_cl_i hf
            refine ow_callz (va_runVN (As := [.int x3_68]) (rest := []) ⟨hx, hb, hml, hown, hts⟩ (c_X4_has l Z fu 1 ow_i1 x3_68 σ r_74 σ_74 hc74) ⟨va_cnB (host := "FiftyOneCards") 1 hts ggX8_taken_X4_has rfl rfl rfl (ow_nwp hG (.methodLinkNest RX8 129 yX4_has "FiftyOneCards") (by decide +kernel)) (hts (.initialized RX4) (by decide +kernel)) (by decide +kernel) ⟨Nat.le_of_ble_eq_true rfl, Nat.le_of_ble_eq_true rfl⟩, hts (.instanceMethod yX4_has) (by decide +kernel), hts (.selects RX4 yX4_has yX4_has) (by decide +kernel)⟩ (ow_preV hG hW ow_i1 (by decide) rfl) rfl rfl hl.1 rfl (lv_room (Nat.le_of_ble_eq_true rfl)) dX8_taken_74 ⟨Nat.zero_le _, Nat.zero_le _⟩) hW (fun b74 H locs hW => ?_)
            refine lv_if_ne (tgt := 83) hx hb dX8_taken_77 (by decide) (fun c77 => ?_) (fun c77 => ?_)
            · replace hf := ow_if_f c77 hf
              refine lv_iload_n hx hb dX8_taken_83 rfl (lv_at hl 3 rfl) ?_
              refine lv_bipush (v := 6) hx hb dX8_taken_84 (by decide) ?_
              refine lv_icmp_ne (tgt := 101) hx hb dX8_taken_86 (by decide) (fun c86 => ?_) (fun c86 => ?_)
              · replace hf := ow_if_f c86 hf
                refine lv_bipush (v := -13) hx hb dX8_taken_101 (by decide) ?_
                exact ow_iret hx hb hr hW hf dX8_taken_103 hlocks
              · replace hf := ow_if_t c86 hf
                refine lv_aload_n hx hb dX8_taken_89 rfl (lv_at hl 1 rfl) ?_
                refine ow_getV (ci := 8) (C := RX8) (T := TX8) (N := 15) hx hb hts hown hG hW ow_i0 (by decide) rfl hinX8 0 (by decide) (fk := 2) rfl (hts (.fieldLink RX8 10 "FiftyOneCards" "row" "LFiftyOneCards$Row;") (by decide +kernel)) (v := .ref (ow_ad Z 1)) (ow_vR hW ow_i0.1 ow_i0.2.1 rfl) dX8_taken_90 ?_
                refine ow_getVN (ci := 4) (C := RX4) (T := TX4) (N := 2) hx hb hts hown hG hW ow_i1 (by decide) rfl hinX4 0 (by decide) (fk := 2) rfl (ow_nwp hG (.fieldLinkNest RX8 132 "FiftyOneCards$Row" "cards" "[I" "FiftyOneCards") (by decide +kernel)) (v := .ref (ow_ad Z 2)) (ow_vR hW ow_i1.1 ow_i1.2.1 rfl) dX8_taken_93 ?_
                refine lv_iload_n hx hb dX8_taken_96 rfl (lv_at hl 0 rfl) ?_
                obtain ⟨q97, hf⟩ := ow_ck_i hf
                refine ow_ild (q := x3_68.toNatClampNeg) hx hb hG hW ow_i2 rfl q97 rfl dX8_taken_97 ?_
                refine lv_goto (tgt := 103) hx hb dX8_taken_98 (by decide) ?_
                exact ow_iret hx hb hr hW hf dX8_taken_103 hlocks
            · replace hf := ow_if_t c77 hf
              refine lv_bipush (v := -11) hx hb dX8_taken_80 (by decide) ?_
              exact ow_iret hx hb hr hW hf dX8_taken_82 hlocks
          · replace hf := ow_if_f c28 hf
            refine lv_aload_n hx hb dX8_taken_31 rfl (lv_at hl 0 rfl) ?_
            refine lv_iload_n hx hb dX8_taken_32 rfl (lv_at hl 1 rfl) ?_
            obtain ⟨r_33, σ_33, hc33, hf⟩ := ow_cl_i hf
            refine ow_callz (va_runV (As := [.int a1]) (rest := []) ⟨hx, hb, hml, hown, hts⟩ (c_X8_isHead l Z fu a1 σ r_33 σ_33 hc33) (cwV 1 hts gX8_taken_X8_isHead rfl rfl rfl (by decide +kernel) ⟨Nat.le_of_ble_eq_true rfl, Nat.le_of_ble_eq_true rfl⟩) (ow_preV hG hW ow_i0 (by decide) rfl) rfl rfl hl.1 rfl (lv_room (Nat.le_of_ble_eq_true rfl)) dX8_taken_33 ⟨Nat.zero_le _, Nat.zero_le _⟩) hW (fun b33 H locs hW => ?_)
            refine lv_if_ne (tgt := 42) hx hb dX8_taken_36 (by decide) (fun c36 => ?_) (fun c36 => ?_)
            · replace hf := ow_if_f c36 hf
              refine lv_aload_n hx hb dX8_taken_42 rfl (lv_at hl 0 rfl) ?_
              refine ow_getV (ci := 8) (C := RX8) (T := TX8) (N := 15) hx hb hts hown hG hW ow_i0 (by decide) rfl hinX8 2 (by decide) (fk := 2) rfl (hts (.fieldLink RX8 21 "FiftyOneCards" "heads" "[LFiftyOneCards$Head;") (by decide +kernel)) (v := .ref (ow_ad Z 5)) (ow_vR hW ow_i0.1 ow_i0.2.1 rfl) dX8_taken_43 ?_
              refine lv_iload_n hx hb dX8_taken_46 rfl (lv_at hl 1 rfl) ?_
              refine ow_rld (f := fun j => 25 + j) (ct := 0) hx hb hG hW ow_i5 ⟨by decide, by decide⟩ rfl ow_ra5 hf dX8_taken_47 (fun h_47 hf hi47 => ?_)
              refine ow_getVN (ci := 0) (C := RX0) (T := TX0) (N := 5) hx hb hts hown hG hW hi47 (by decide) rfl hinX0 0 (by decide) (fk := 0) rfl (ow_nwp hG (.fieldLinkNest RX8 191 "FiftyOneCards$Head" "kind" "I" "FiftyOneCards") (by decide +kernel)) (v := .int (σ_33.1 h_47 0)) rfl dX8_taken_48 ?_
              refine lv_iload_n hx hb dX8_taken_51 rfl (lv_at hl 2 rfl) ?_
              obtain ⟨r_52, σ_52, hc52, hf⟩ := ow_cl_i hf
              refine ow_callz (va_runS (As := [.int (σ_33.1 h_47 0), .int a2]) (rest := []) ⟨hx, hb, hml, hown, hts⟩ (c_X8_isOfKind l Z fu (σ_33.1 h_47 0) a2 σ_33 r_52 σ_52 hc52) (va_cwS 2 hts gX8_taken_X8_isOfKind rfl rfl rfl (by decide +kernel) ⟨Nat.le_of_ble_eq_true rfl, Nat.le_of_ble_eq_true rfl⟩) (ow_preS hG hW) rfl rfl hl.1 rfl (lv_room (Nat.le_of_ble_eq_true rfl)) dX8_taken_52 ⟨Nat.zero_le _, Nat.zero_le _⟩) hW (fun b52 H locs hW => ?_)
              refine lv_if_eq (tgt := 62) hx hb dX8_taken_55 (by decide) (fun c55 => ?_) (fun c55 => ?_)
              · replace hf := ow_if_t c55 hf
                refine lv_bipush (v := -13) hx hb dX8_taken_62 (by decide) ?_
                exact ow_iret hx hb hr hW hf dX8_taken_64 hlocks
              · replace hf := ow_if_f c55 hf
                refine lv_iload_n hx hb dX8_taken_58 rfl (lv_at hl 1 rfl) ?_
                refine lv_goto (tgt := 64) hx hb dX8_taken_59 (by decide) ?_
                exact ow_iret hx hb hr hW hf dX8_taken_64 hlocks
            · replace hf := ow_if_t c36 hf
              refine lv_bipush (v := -11) hx hb dX8_taken_39 (by decide) ?_
              exact ow_iret hx hb hr hW hf dX8_taken_41 hlocks
        · replace hf := ow_if_f c20 hf
          refine lv_bipush (v := -12) hx hb dX8_taken_23 (by decide) ?_
          exact ow_iret hx hb hr hW hf dX8_taken_25 hlocks
    · replace hf := ow_if_f c7 hf
      refine lv_bipush (v := -2) hx hb dX8_taken_10 (by decide) ?_
      exact ow_iret hx hb hr hW hf dX8_taken_12 hlocks
set_option maxHeartbeats 40000000 in
set_option maxRecDepth 100000 in
theorem c_X9_in (l : Launch) (Z : ow_Z) (fu : Nat) (a1 : Int32) (a2 : Int32) (a3 : Int32) (σ : ow_S) (rr : Int32) (σr : ow_S) (hf : f_X9_in fu a1 a2 a3 σ = some (rr, σr)) : Met l yX9_in wsX9_in { frames := 1, cells := 0, slots := 0, locals := 60 } (ow_Pc Z 56 20 [.int a1, .int a2, .int a3] σ) (ow_Qz Z 56 20 rr σr) 0 0 (ow_A Z 56 20) := by
  refine Met.ofW (cc := cX9_in) (maxL := 3) (ret := (some .boolean)) (by decide) rfl ?_
  intro p e s m args below meth c s₁ B hml hv
  obtain ⟨hav, hB⟩ := hv
  obtain ⟨hG, hW⟩ := ow_begin hB
  have hx := B.exec
  have hb := B.bytes
  have hr := B.returns
  have hts := atoms_spec (ws := wsX9_in) B.pre
  have hown : s.vm.findClass RX9 = some m.cls := findClass_of_methodNamed B.named
  have hlocks := B.notSynchronized
  have hl := lv_entry ([.int a1, .int a2, .int a3]) (n := 3) (Nat.le_of_ble_eq_true rfl)
  refine W.eq (g2 := F0 m 0 ((lg_sl ([.int a1, .int a2, .int a3]) ++ List.replicate (3 - (lg_sl ([.int a1, .int a2, .int a3])).length) Slot.unset).toArray) []) (by rw [hav]; exact lg_entry_eq _ _ _) ?_
  generalize (lg_sl ([.int a1, .int a2, .int a3]) ++ List.replicate (3 - (lg_sl ([.int a1, .int a2, .int a3])).length) Slot.unset).toArray = ls at hl ⊢
  have hl : lv_has ls 3 [(0, .int a1), (1, .int a2), (2, .int a3)] := hl
  unfold f_X9_in at hf
  refine lv_iload_n hx hb dX9_in_0 rfl (lv_at hl 0 rfl) ?_
  refine lv_iload_n hx hb dX9_in_1 rfl (lv_at hl 1 rfl) ?_
  refine lv_icmp_lt (tgt := 14) hx hb dX9_in_2 (by decide) (fun c2 => ?_) (fun c2 => ?_)
  · replace hf := ow_if_t c2 hf
    refine lv_iconst (v := 0) hx hb dX9_in_14 (by decide) ?_
    exact ow_zret hx hb hr (Or.inl rfl) hW hf dX9_in_15 hlocks
  · replace hf := ow_if_f c2 hf
    refine lv_iload_n hx hb dX9_in_5 rfl (lv_at hl 0 rfl) ?_
    refine lv_iload_n hx hb dX9_in_6 rfl (lv_at hl 2 rfl) ?_
    refine lv_icmp_gt (tgt := 14) hx hb dX9_in_7 (by decide) (fun c7 => ?_) (fun c7 => ?_)
    · replace hf := ow_if_t c7 hf
      refine lv_iconst (v := 0) hx hb dX9_in_14 (by decide) ?_
      exact ow_zret hx hb hr (Or.inl rfl) hW hf dX9_in_15 hlocks
    · replace hf := ow_if_f c7 hf
      refine lv_iconst (v := 1) hx hb dX9_in_10 (by decide) ?_
      refine lv_goto (tgt := 15) hx hb dX9_in_11 (by decide) ?_
      exact ow_zret hx hb hr (Or.inr rfl) hW hf dX9_in_15 hlocks
set_option maxHeartbeats 40000000 in
set_option maxRecDepth 100000 in
theorem c_X9_within (l : Launch) (Z : ow_Z) (fu : Nat) (a1 : Int32) (a2 : Int32) (a3 : Int32) (σ : ow_S) (rr : Int32) (σr : ow_S) (hf : f_X9_within fu a1 a2 a3 σ = some (rr, σr)) : Met l yX9_within wsX9_within { frames := 1, cells := 0, slots := 0, locals := 60 } (ow_Pc Z 56 20 [.int a1, .int a2, .int a3] σ) (ow_Qi Z 56 20 rr σr) 0 0 (ow_A Z 56 20) := by
  refine Met.ofW (cc := cX9_within) (maxL := 3) (ret := (some .int)) (by decide) rfl ?_
  intro p e s m args below meth c s₁ B hml hv
  obtain ⟨hav, hB⟩ := hv
  obtain ⟨hG, hW⟩ := ow_begin hB
  have hx := B.exec
  have hb := B.bytes
  have hr := B.returns
  have hts := atoms_spec (ws := wsX9_within) B.pre
  have hown : s.vm.findClass RX9 = some m.cls := findClass_of_methodNamed B.named
  have hlocks := B.notSynchronized
  have hl := lv_entry ([.int a1, .int a2, .int a3]) (n := 3) (Nat.le_of_ble_eq_true rfl)
  refine W.eq (g2 := F0 m 0 ((lg_sl ([.int a1, .int a2, .int a3]) ++ List.replicate (3 - (lg_sl ([.int a1, .int a2, .int a3])).length) Slot.unset).toArray) []) (by rw [hav]; exact lg_entry_eq _ _ _) ?_
  generalize (lg_sl ([.int a1, .int a2, .int a3]) ++ List.replicate (3 - (lg_sl ([.int a1, .int a2, .int a3])).length) Slot.unset).toArray = ls at hl ⊢
  have hl : lv_has ls 3 [(0, .int a1), (1, .int a2), (2, .int a3)] := hl
  unfold f_X9_within at hf
  refine lv_iload_n hx hb dX9_within_0 rfl (lv_at hl 0 rfl) ?_
  refine lv_iload_n hx hb dX9_within_1 rfl (lv_at hl 1 rfl) ?_
  refine lv_icmp_ge (tgt := 9) hx hb dX9_within_2 (by decide) (fun c2 => ?_) (fun c2 => ?_)
  · replace hf := ow_if_t c2 hf
    refine lv_iload_n hx hb dX9_within_9 rfl (lv_at hl 0 rfl) ?_
    refine lv_iload_n hx hb dX9_within_10 rfl (lv_at hl 2 rfl) ?_
    refine lv_icmp_le (tgt := 18) hx hb dX9_within_11 (by decide) (fun c11 => ?_) (fun c11 => ?_)
    · replace hf := ow_if_t c11 hf
      refine lv_iload_n hx hb dX9_within_18 rfl (lv_at hl 0 rfl) ?_
      exact ow_iret hx hb hr hW hf dX9_within_19 hlocks
    · replace hf := ow_if_f c11 hf
      refine lv_iload_n hx hb dX9_within_14 rfl (lv_at hl 2 rfl) ?_
      refine lv_goto (tgt := 19) hx hb dX9_within_15 (by decide) ?_
      exact ow_iret hx hb hr hW hf dX9_within_19 hlocks
  · replace hf := ow_if_f c2 hf
    refine lv_iload_n hx hb dX9_within_5 rfl (lv_at hl 1 rfl) ?_
    refine lv_goto (tgt := 19) hx hb dX9_within_6 (by decide) ?_
    exact ow_iret hx hb hr hW hf dX9_within_19 hlocks
