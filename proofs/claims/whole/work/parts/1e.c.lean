set_option maxHeartbeats 40000000 in
set_option maxRecDepth 100000 in
theorem c_X8_head (l : Launch) (Z : ow_Z) (fu : Nat) (a1 : Int32) (a2 : Int32) (a3 : Int32) (σ : ow_S) (rr : Int32) (σr : ow_S) (hf : f_X8_head fu a1 a2 a3 σ = some (rr, σr)) : Met l yX8_head wsX8_head { frames := 2, cells := 0, slots := 0, locals := 80 } (ow_Pc Z 0 56 [.ref (ow_ad Z 0), .int a1, .int a2, .int a3] σ) (ow_Qi Z 0 56 rr σr) 0 0 (ow_A Z 0 56) := by
  refine Met.ofW (cc := cX8_head) (maxL := 5) (ret := (some .int)) (by decide) rfl ?_
  intro p e s m args below meth c s₁ B hml hv
  obtain ⟨hav, hB⟩ := hv
  obtain ⟨hG, hW⟩ := ow_begin hB
  have hx := B.exec
  have hb := B.bytes
  have hr := B.returns
  have hts := atoms_spec (ws := wsX8_head) B.pre
  have hown : s.vm.findClass RX8 = some m.cls := findClass_of_methodNamed B.named
  have hlocks := B.notSynchronized
  have hinX0 : ∀ w ∈ wsX00, w ∈ wsX8_head := by decide +kernel
  have hinX8 : ∀ w ∈ wsX80, w ∈ wsX8_head := by decide +kernel
  have hl := lv_entry ([.ref (ow_ad Z 0), .int a1, .int a2, .int a3]) (n := 5) (Nat.le_of_ble_eq_true rfl)
  refine W.eq (g2 := F0 m 0 ((lg_sl ([.ref (ow_ad Z 0), .int a1, .int a2, .int a3]) ++ List.replicate (5 - (lg_sl ([.ref (ow_ad Z 0), .int a1, .int a2, .int a3])).length) Slot.unset).toArray) []) (by rw [hav]; exact lg_entry_eq _ _ _) ?_
  generalize (lg_sl ([.ref (ow_ad Z 0), .int a1, .int a2, .int a3]) ++ List.replicate (5 - (lg_sl ([.ref (ow_ad Z 0), .int a1, .int a2, .int a3])).length) Slot.unset).toArray = ls at hl ⊢
  have hl : lv_has ls 5 [(0, .ref (ow_ad Z 0)), (1, .int a1), (2, .int a2), (3, .int a3)] := hl
  unfold f_X8_head at hf
  refine lv_iload_n hx hb dX8_head_0 rfl (lv_at hl 1 rfl) ?_
  refine lv_if_lt (tgt := 26) hx hb dX8_head_1 (by decide) (fun c1 => ?_) (fun c1 => ?_)
  · replace hf := ow_if_t c1 hf
    refine lv_bipush (v := -2) hx hb dX8_head_26 (by decide) ?_
    exact ow_iret hx hb hr hW hf dX8_head_28 hlocks
  · replace hf := ow_if_f c1 hf
    refine lv_iload_n hx hb dX8_head_4 rfl (lv_at hl 1 rfl) ?_
    refine lv_bipush (v := 10) hx hb dX8_head_5 (by decide) ?_
    refine lv_idiv hx hb dX8_head_7 (by decide) ?_
    refine lv_iconst (v := 5) hx hb dX8_head_8 (by decide) ?_
    refine lv_icmp_gt (tgt := 26) hx hb dX8_head_9 (by decide) (fun c9 => ?_) (fun c9 => ?_)
    · replace hf := ow_if_t c9 hf
      refine lv_bipush (v := -2) hx hb dX8_head_26 (by decide) ?_
      exact ow_iret hx hb hr hW hf dX8_head_28 hlocks
    · replace hf := ow_if_f c9 hf
      refine lv_iload_n hx hb dX8_head_12 rfl (lv_at hl 2 rfl) ?_
      obtain ⟨r_13, σ_13, hc13, hf⟩ := ow_cl_i hf
      refine ow_callz (va_runS (As := [.int a2]) (rest := []) ⟨hx, hb, hml, hown, hts⟩ (c_X8_isBits l Z fu a2 σ r_13 σ_13 hc13) (va_cwS 1 hts gX8_head_X8_isBits rfl rfl rfl (by decide +kernel) ⟨Nat.le_of_ble_eq_true rfl, Nat.le_of_ble_eq_true rfl⟩) (ow_preS hG hW) rfl rfl hl.1 rfl (lv_room (Nat.le_of_ble_eq_true rfl)) dX8_head_13 ⟨Nat.zero_le _, Nat.zero_le _⟩) hW (fun b13 H locs hW => ?_)
      refine lv_if_eq (tgt := 26) hx hb dX8_head_16 (by decide) (fun c16 => ?_) (fun c16 => ?_)
      · replace hf := ow_if_t c16 hf
        refine lv_bipush (v := -2) hx hb dX8_head_26 (by decide) ?_
        exact ow_iret hx hb hr hW hf dX8_head_28 hlocks
      · replace hf := ow_if_f c16 hf
        refine lv_iload_n hx hb dX8_head_19 rfl (lv_at hl 3 rfl) ?_
        obtain ⟨r_20, σ_20, hc20, hf⟩ := ow_cl_i hf
        refine ow_callz (va_runS (As := [.int a3]) (rest := []) ⟨hx, hb, hml, hown, hts⟩ (c_X8_isNumber l Z fu a3 σ_13 r_20 σ_20 hc20) (va_cwS 1 hts gX8_head_X8_isNumber rfl rfl rfl (by decide +kernel) ⟨Nat.le_of_ble_eq_true rfl, Nat.le_of_ble_eq_true rfl⟩) (ow_preS hG hW) rfl rfl hl.1 rfl (lv_room (Nat.le_of_ble_eq_true rfl)) dX8_head_20 ⟨Nat.zero_le _, Nat.zero_le _⟩) hW (fun b20 H locs hW => ?_)
        refine lv_if_ne (tgt := 29) hx hb dX8_head_23 (by decide) (fun c23 => ?_) (fun c23 => ?_)
        · replace hf := ow_if_f c23 hf
          refine lv_aload_n hx hb dX8_head_29 rfl (lv_at hl 0 rfl) ?_
          refine ow_getV (ci := 8) (C := RX8) (T := TX8) (N := 15) hx hb hts hown hG hW ow_i0 (by decide) rfl hinX8 12 (by decide) (fk := 0) rfl (hts (.fieldLink RX8 78 "FiftyOneCards" "headCount" "I") (by decide +kernel)) (v := .int (σ_20.1 0 12)) rfl dX8_head_30 ?_
          refine lv_iconst (v := 5) hx hb dX8_head_33 (by decide) ?_
          refine lv_icmp_lt (tgt := 40) hx hb dX8_head_34 (by decide) (fun c34 => ?_) (fun c34 => ?_)
          · replace hf := ow_if_t c34 hf
            refine lv_aload_n hx hb dX8_head_40 rfl (lv_at hl 0 rfl) ?_
            refine ow_getV (ci := 8) (C := RX8) (T := TX8) (N := 15) hx hb hts hown hG hW ow_i0 (by decide) rfl hinX8 2 (by decide) (fk := 2) rfl (hts (.fieldLink RX8 21 "FiftyOneCards" "heads" "[LFiftyOneCards$Head;") (by decide +kernel)) (v := .ref (ow_ad Z 5)) (ow_vR hW ow_i0.1 ow_i0.2.1 rfl) dX8_head_41 ?_
            refine lv_aload_n hx hb dX8_head_44 rfl (lv_at hl 0 rfl) ?_
            refine ow_getV (ci := 8) (C := RX8) (T := TX8) (N := 15) hx hb hts hown hG hW ow_i0 (by decide) rfl hinX8 12 (by decide) (fk := 0) rfl (hts (.fieldLink RX8 78 "FiftyOneCards" "headCount" "I") (by decide +kernel)) (v := .int (σ_20.1 0 12)) rfl dX8_head_45 ?_
            refine ow_rld (f := fun j => 25 + j) (ct := 0) hx hb hG hW ow_i5 ⟨by decide, by decide⟩ rfl ow_ra5 hf dX8_head_48 (fun h_48 hf hi48 => ?_)
            refine lv_astore (lv' := [(4, .ref (ow_ad Z h_48)), (0, .ref (ow_ad Z 0)), (1, .int a1), (2, .int a2), (3, .int a3)]) hx hb dX8_head_49 hl (by decide) rfl (fun ls hl => ?_)
            refine lv_aload hx hb dX8_head_51 (lv_at hl 0 rfl) ?_
            refine lv_iload_n hx hb dX8_head_53 rfl (lv_at hl 2 rfl) ?_
            refine lv_bipush (v := 10) hx hb dX8_head_54 (by decide) ?_
            refine lv_idiv hx hb dX8_head_56 (by decide) ?_
            refine ow_putIN (ci := 0) (C := RX0) (T := TX0) (N := 5) hx hb hts hown hG hW hi48 (by decide) rfl hinX0 tyX0 tyX0_ok nmX0 0 (by decide) rfl (ow_nwp hG (.fieldLinkNest RX8 191 "FiftyOneCards$Head" "kind" "I" "FiftyOneCards") (by decide +kernel)) rfl rfl rfl hf dX8_head_57 (fun σ_57 H locs hf hW => ?_)
            refine lv_aload hx hb dX8_head_60 (lv_at hl 0 rfl) ?_
            refine lv_iload_n hx hb dX8_head_62 rfl (lv_at hl 2 rfl) ?_
            refine lv_bipush (v := 10) hx hb dX8_head_63 (by decide) ?_
            refine ow_r_irem hx hb dX8_head_65 (by decide) ?_
            refine ow_putIN (ci := 0) (C := RX0) (T := TX0) (N := 5) hx hb hts hown hG hW hi48 (by decide) rfl hinX0 tyX0 tyX0_ok nmX0 1 (by decide) rfl (ow_nwp hG (.fieldLinkNest RX8 194 "FiftyOneCards$Head" "more" "I" "FiftyOneCards") (by decide +kernel)) rfl rfl rfl hf dX8_head_66 (fun σ_66 H locs hf hW => ?_)
            refine lv_aload hx hb dX8_head_69 (lv_at hl 0 rfl) ?_
            refine lv_iload_n hx hb dX8_head_71 rfl (lv_at hl 3 rfl) ?_
            refine ow_putIN (ci := 0) (C := RX0) (T := TX0) (N := 5) hx hb hts hown hG hW hi48 (by decide) rfl hinX0 tyX0 tyX0_ok nmX0 2 (by decide) rfl (ow_nwp hG (.fieldLinkNest RX8 197 "FiftyOneCards$Head" "bits" "I" "FiftyOneCards") (by decide +kernel)) rfl rfl rfl hf dX8_head_72 (fun σ_72 H locs hf hW => ?_)
            refine lv_aload hx hb dX8_head_75 (lv_at hl 0 rfl) ?_
            refine lv_iload_n hx hb dX8_head_77 rfl (lv_at hl 4 rfl) ?_
            refine ow_putIN (ci := 0) (C := RX0) (T := TX0) (N := 5) hx hb hts hown hG hW hi48 (by decide) rfl hinX0 tyX0 tyX0_ok nmX0 3 (by decide) rfl (ow_nwp hG (.fieldLinkNest RX8 200 "FiftyOneCards$Head" "first" "I" "FiftyOneCards") (by decide +kernel)) rfl rfl rfl hf dX8_head_78 (fun σ_78 H locs hf hW => ?_)
            refine lv_aload hx hb dX8_head_81 (lv_at hl 0 rfl) ?_
            refine lv_iconst (v := 0) hx hb dX8_head_83 (by decide) ?_
            refine ow_putIN (ci := 0) (C := RX0) (T := TX0) (N := 5) hx hb hts hown hG hW hi48 (by decide) rfl hinX0 tyX0 tyX0_ok nmX0 4 (by decide) rfl (ow_nwp hG (.fieldLinkNest RX8 203 "FiftyOneCards$Head" "second" "I" "FiftyOneCards") (by decide +kernel)) rfl rfl rfl hf dX8_head_84 (fun σ_84 H locs hf hW => ?_)
            refine lv_aload_n hx hb dX8_head_87 rfl (lv_at hl 1 rfl) ?_
            refine lv_dup hx hb dX8_head_88 rfl ?_
            refine ow_getV (ci := 8) (C := RX8) (T := TX8) (N := 15) hx hb hts hown hG hW ow_i0 (by decide) rfl hinX8 12 (by decide) (fk := 0) rfl (hts (.fieldLink RX8 78 "FiftyOneCards" "headCount" "I") (by decide +kernel)) (v := .int (σ_84.1 0 12)) rfl dX8_head_89 ?_
            refine lv_iconst (v := 1) hx hb dX8_head_92 (by decide) ?_
            refine lv_iadd hx hb dX8_head_93 ?_
            refine ow_putI (ci := 8) (C := RX8) (T := TX8) (N := 15) hx hb hts hown hG hW ow_i0 (by decide) rfl hinX8 tyX8 tyX8_ok nmX8 12 (by decide) rfl (hts (.fieldLink RX8 78 "FiftyOneCards" "headCount" "I") (by decide +kernel)) rfl rfl rfl hf dX8_head_94 (fun σ_94 H locs hf hW => ?_)
            refine lv_aload_n hx hb dX8_head_97 rfl (lv_at hl 1 rfl) ?_
            refine ow_getV (ci := 8) (C := RX8) (T := TX8) (N := 15) hx hb hts hown hG hW ow_i0 (by decide) rfl hinX8 12 (by decide) (fk := 0) rfl (hts (.fieldLink RX8 78 "FiftyOneCards" "headCount" "I") (by decide +kernel)) (v := .int (σ_94.1 0 12)) rfl dX8_head_98 ?_
            refine lv_iconst (v := 1) hx hb dX8_head_101 (by decide) ?_
            refine lv_isub hx hb dX8_head_102 ?_
            exact ow_iret hx hb hr hW hf dX8_head_103 hlocks
          · replace hf := ow_if_f c34 hf
            refine lv_bipush (v := -4) hx hb dX8_head_37 (by decide) ?_
            exact ow_iret hx hb hr hW hf dX8_head_39 hlocks
        · replace hf := ow_if_t c23 hf
          refine lv_bipush (v := -2) hx hb dX8_head_26 (by decide) ?_
          exact ow_iret hx hb hr hW hf dX8_head_28 hlocks
set_option maxHeartbeats 40000000 in
set_option maxRecDepth 100000 in
theorem c_X8_isHead (l : Launch) (Z : ow_Z) (fu : Nat) (a1 : Int32) (σ : ow_S) (rr : Int32) (σr : ow_S) (hf : f_X8_isHead fu a1 σ = some (rr, σr)) : Met l yX8_isHead wsX8_isHead { frames := 1, cells := 0, slots := 0, locals := 60 } (ow_Pc Z 0 56 [.ref (ow_ad Z 0), .int a1] σ) (ow_Qz Z 0 56 rr σr) 0 0 (ow_A Z 0 56) := by
  refine Met.ofW (cc := cX8_isHead) (maxL := 2) (ret := (some .boolean)) (by decide) rfl ?_
  intro p e s m args below meth c s₁ B hml hv
  obtain ⟨hav, hB⟩ := hv
  obtain ⟨hG, hW⟩ := ow_begin hB
  have hx := B.exec
  have hb := B.bytes
  have hr := B.returns
  have hts := atoms_spec (ws := wsX8_isHead) B.pre
  have hown : s.vm.findClass RX8 = some m.cls := findClass_of_methodNamed B.named
  have hlocks := B.notSynchronized
  have hinX8 : ∀ w ∈ wsX80, w ∈ wsX8_isHead := by decide +kernel
  have hl := lv_entry ([.ref (ow_ad Z 0), .int a1]) (n := 2) (Nat.le_of_ble_eq_true rfl)
  refine W.eq (g2 := F0 m 0 ((lg_sl ([.ref (ow_ad Z 0), .int a1]) ++ List.replicate (2 - (lg_sl ([.ref (ow_ad Z 0), .int a1])).length) Slot.unset).toArray) []) (by rw [hav]; exact lg_entry_eq _ _ _) ?_
  generalize (lg_sl ([.ref (ow_ad Z 0), .int a1]) ++ List.replicate (2 - (lg_sl ([.ref (ow_ad Z 0), .int a1])).length) Slot.unset).toArray = ls at hl ⊢
  have hl : lv_has ls 2 [(0, .ref (ow_ad Z 0)), (1, .int a1)] := hl
  unfold f_X8_isHead at hf
  refine lv_iload_n hx hb dX8_isHead_0 rfl (lv_at hl 1 rfl) ?_
  refine lv_if_lt (tgt := 16) hx hb dX8_isHead_1 (by decide) (fun c1 => ?_) (fun c1 => ?_)
  · replace hf := ow_if_t c1 hf
    refine lv_iconst (v := 0) hx hb dX8_isHead_16 (by decide) ?_
    exact ow_zret hx hb hr (Or.inl rfl) hW hf dX8_isHead_17 hlocks
  · replace hf := ow_if_f c1 hf
    refine lv_iload_n hx hb dX8_isHead_4 rfl (lv_at hl 1 rfl) ?_
    refine lv_aload_n hx hb dX8_isHead_5 rfl (lv_at hl 0 rfl) ?_
    refine ow_getV (ci := 8) (C := RX8) (T := TX8) (N := 15) hx hb hts hown hG hW ow_i0 (by decide) rfl hinX8 12 (by decide) (fk := 0) rfl (hts (.fieldLink RX8 78 "FiftyOneCards" "headCount" "I") (by decide +kernel)) (v := .int (σ.1 0 12)) rfl dX8_isHead_6 ?_
    refine lv_icmp_ge (tgt := 16) hx hb dX8_isHead_9 (by decide) (fun c9 => ?_) (fun c9 => ?_)
    · replace hf := ow_if_t c9 hf
      refine lv_iconst (v := 0) hx hb dX8_isHead_16 (by decide) ?_
      exact ow_zret hx hb hr (Or.inl rfl) hW hf dX8_isHead_17 hlocks
    · replace hf := ow_if_f c9 hf
      refine lv_iconst (v := 1) hx hb dX8_isHead_12 (by decide) ?_
      refine lv_goto (tgt := 17) hx hb dX8_isHead_13 (by decide) ?_
      exact ow_zret hx hb hr (Or.inr rfl) hW hf dX8_isHead_17 hlocks
set_option maxHeartbeats 40000000 in
set_option maxRecDepth 100000 in
theorem c_X8_told (l : Launch) (Z : ow_Z) (fu : Nat) (a1 : Int32) (a2 : Int32) (σ : ow_S) (rr : Int32) (σr : ow_S) (hf : f_X8_told fu a1 a2 σ = some (rr, σr)) : Met l yX8_told wsX8_told { frames := 2, cells := 0, slots := 0, locals := 81 } (ow_Pc Z 0 56 [.ref (ow_ad Z 0), .int a1, .int a2] σ) (ow_Qi Z 0 56 rr σr) 0 0 (ow_A Z 0 56) := by
  refine Met.ofW (cc := cX8_told) (maxL := 4) (ret := (some .int)) (by decide) rfl ?_
  intro p e s m args below meth c s₁ B hml hv
  obtain ⟨hav, hB⟩ := hv
  obtain ⟨hG, hW⟩ := ow_begin hB
  have hx := B.exec
  have hb := B.bytes
  have hr := B.returns
  have hts := atoms_spec (ws := wsX8_told) B.pre
  have hown : s.vm.findClass RX8 = some m.cls := findClass_of_methodNamed B.named
  have hlocks := B.notSynchronized
  have hinX0 : ∀ w ∈ wsX00, w ∈ wsX8_told := by decide +kernel
  have hinX8 : ∀ w ∈ wsX80, w ∈ wsX8_told := by decide +kernel
  have hl := lv_entry ([.ref (ow_ad Z 0), .int a1, .int a2]) (n := 4) (Nat.le_of_ble_eq_true rfl)
  refine W.eq (g2 := F0 m 0 ((lg_sl ([.ref (ow_ad Z 0), .int a1, .int a2]) ++ List.replicate (4 - (lg_sl ([.ref (ow_ad Z 0), .int a1, .int a2])).length) Slot.unset).toArray) []) (by rw [hav]; exact lg_entry_eq _ _ _) ?_
  generalize (lg_sl ([.ref (ow_ad Z 0), .int a1, .int a2]) ++ List.replicate (4 - (lg_sl ([.ref (ow_ad Z 0), .int a1, .int a2])).length) Slot.unset).toArray = ls at hl ⊢
  have hl : lv_has ls 4 [(0, .ref (ow_ad Z 0)), (1, .int a1), (2, .int a2)] := hl
  unfold f_X8_told at hf
  refine lv_aload_n hx hb dX8_told_0 rfl (lv_at hl 0 rfl) ?_
  refine lv_iload_n hx hb dX8_told_1 rfl (lv_at hl 1 rfl) ?_
  obtain ⟨r_2, σ_2, hc2, hf⟩ := ow_cl_i hf
  refine ow_callz (va_runV (As := [.int a1]) (rest := []) ⟨hx, hb, hml, hown, hts⟩ (c_X8_isHead l Z fu a1 σ r_2 σ_2 hc2) (cwV 1 hts gX8_told_X8_isHead rfl rfl rfl (by decide +kernel) ⟨Nat.le_of_ble_eq_true rfl, Nat.le_of_ble_eq_true rfl⟩) (ow_preV hG hW ow_i0 (by decide) rfl) rfl rfl hl.1 rfl (lv_room (Nat.le_of_ble_eq_true rfl)) dX8_told_2 ⟨Nat.zero_le _, Nat.zero_le _⟩) hW (fun b2 H locs hW => ?_)
  refine lv_if_ne (tgt := 11) hx hb dX8_told_5 (by decide) (fun c5 => ?_) (fun c5 => ?_)
  · replace hf := ow_if_f c5 hf
    refine lv_aload_n hx hb dX8_told_11 rfl (lv_at hl 0 rfl) ?_
    refine ow_getV (ci := 8) (C := RX8) (T := TX8) (N := 15) hx hb hts hown hG hW ow_i0 (by decide) rfl hinX8 2 (by decide) (fk := 2) rfl (hts (.fieldLink RX8 21 "FiftyOneCards" "heads" "[LFiftyOneCards$Head;") (by decide +kernel)) (v := .ref (ow_ad Z 5)) (ow_vR hW ow_i0.1 ow_i0.2.1 rfl) dX8_told_12 ?_
    refine lv_iload_n hx hb dX8_told_15 rfl (lv_at hl 1 rfl) ?_
    refine ow_rld (f := fun j => 25 + j) (ct := 0) hx hb hG hW ow_i5 ⟨by decide, by decide⟩ rfl ow_ra5 hf dX8_told_16 (fun h_16 hf hi16 => ?_)
    refine lv_astore_n (lv' := [(3, .ref (ow_ad Z h_16)), (0, .ref (ow_ad Z 0)), (1, .int a1), (2, .int a2)]) hx hb dX8_told_17 rfl hl (by decide) rfl (fun ls hl => ?_)
    refine lv_iload_n hx hb dX8_told_18 rfl (lv_at hl 3 rfl) ?_
    by_cases c19_0 : a2 = (0 : Int32)
    · replace hf := ow_if_t c19_0 hf
      refine lv_tableIn (off := 33) (tgt := 52) hx hb dX8_told_19 (by rw [c19_0]; decide) (by rw [c19_0]; decide) (by rw [c19_0]; rfl) (by decide) ?_
      refine lv_aload_n hx hb dX8_told_52 rfl (lv_at hl 0 rfl) ?_
      refine ow_getVN (ci := 0) (C := RX0) (T := TX0) (N := 5) hx hb hts hown hG hW hi16 (by decide) rfl hinX0 0 (by decide) (fk := 0) rfl (ow_nwp hG (.fieldLinkNest RX8 191 "FiftyOneCards$Head" "kind" "I" "FiftyOneCards") (by decide +kernel)) (v := .int (σ_2.1 h_16 0)) rfl dX8_told_53 ?_
      exact ow_iret hx hb hr hW hf dX8_told_56 hlocks
    · replace hf := ow_if_f c19_0 hf
      by_cases c19_1 : a2 = (1 : Int32)
      · replace hf := ow_if_t c19_1 hf
        refine lv_tableIn (off := 38) (tgt := 57) hx hb dX8_told_19 (by rw [c19_1]; decide) (by rw [c19_1]; decide) (by rw [c19_1]; rfl) (by decide) ?_
        refine lv_aload_n hx hb dX8_told_57 rfl (lv_at hl 0 rfl) ?_
        refine ow_getVN (ci := 0) (C := RX0) (T := TX0) (N := 5) hx hb hts hown hG hW hi16 (by decide) rfl hinX0 1 (by decide) (fk := 0) rfl (ow_nwp hG (.fieldLinkNest RX8 194 "FiftyOneCards$Head" "more" "I" "FiftyOneCards") (by decide +kernel)) (v := .int (σ_2.1 h_16 1)) rfl dX8_told_58 ?_
        exact ow_iret hx hb hr hW hf dX8_told_61 hlocks
      · replace hf := ow_if_f c19_1 hf
        by_cases c19_2 : a2 = (2 : Int32)
        · replace hf := ow_if_t c19_2 hf
          refine lv_tableIn (off := 43) (tgt := 62) hx hb dX8_told_19 (by rw [c19_2]; decide) (by rw [c19_2]; decide) (by rw [c19_2]; rfl) (by decide) ?_
          refine lv_aload_n hx hb dX8_told_62 rfl (lv_at hl 0 rfl) ?_
          refine ow_getVN (ci := 0) (C := RX0) (T := TX0) (N := 5) hx hb hts hown hG hW hi16 (by decide) rfl hinX0 2 (by decide) (fk := 0) rfl (ow_nwp hG (.fieldLinkNest RX8 197 "FiftyOneCards$Head" "bits" "I" "FiftyOneCards") (by decide +kernel)) (v := .int (σ_2.1 h_16 2)) rfl dX8_told_63 ?_
          exact ow_iret hx hb hr hW hf dX8_told_66 hlocks
        · replace hf := ow_if_f c19_2 hf
          by_cases c19_3 : a2 = (3 : Int32)
          · replace hf := ow_if_t c19_3 hf
            refine lv_tableIn (off := 48) (tgt := 67) hx hb dX8_told_19 (by rw [c19_3]; decide) (by rw [c19_3]; decide) (by rw [c19_3]; rfl) (by decide) ?_
            refine lv_aload_n hx hb dX8_told_67 rfl (lv_at hl 0 rfl) ?_
            refine ow_getVN (ci := 0) (C := RX0) (T := TX0) (N := 5) hx hb hts hown hG hW hi16 (by decide) rfl hinX0 3 (by decide) (fk := 0) rfl (ow_nwp hG (.fieldLinkNest RX8 200 "FiftyOneCards$Head" "first" "I" "FiftyOneCards") (by decide +kernel)) (v := .int (σ_2.1 h_16 3)) rfl dX8_told_68 ?_
            exact ow_iret hx hb hr hW hf dX8_told_71 hlocks
          · replace hf := ow_if_f c19_3 hf
            by_cases c19_4 : a2 = (4 : Int32)
            · replace hf := ow_if_t c19_4 hf
              refine lv_tableIn (off := 53) (tgt := 72) hx hb dX8_told_19 (by rw [c19_4]; decide) (by rw [c19_4]; decide) (by rw [c19_4]; rfl) (by decide) ?_
              refine lv_aload_n hx hb dX8_told_72 rfl (lv_at hl 0 rfl) ?_
              refine ow_getVN (ci := 0) (C := RX0) (T := TX0) (N := 5) hx hb hts hown hG hW hi16 (by decide) rfl hinX0 4 (by decide) (fk := 0) rfl (ow_nwp hG (.fieldLinkNest RX8 203 "FiftyOneCards$Head" "second" "I" "FiftyOneCards") (by decide +kernel)) (v := .int (σ_2.1 h_16 4)) rfl dX8_told_73 ?_
              exact ow_iret hx hb hr hW hf dX8_told_76 hlocks
            · replace hf := ow_if_f c19_4 hf
              have e19_0 := lv_neT c19_0 (a := 0) (by decide)
              have e19_1 := lv_neT c19_1 (a := 1) (by decide)
              have e19_2 := lv_neT c19_2 (a := 2) (by decide)
              have e19_3 := lv_neT c19_3 (a := 3) (by decide)
              have e19_4 := lv_neT c19_4 (a := 4) (by decide)
              refine lv_tableOut (tgt := 77) hx hb dX8_told_19 (by omega) (by decide) ?_
              refine lv_bipush (v := -7) hx hb dX8_told_77 (by decide) ?_
              exact ow_iret hx hb hr hW hf dX8_told_79 hlocks
  · replace hf := ow_if_t c5 hf
    refine lv_bipush (v := -5) hx hb dX8_told_8 (by decide) ?_
    exact ow_iret hx hb hr hW hf dX8_told_10 hlocks
set_option maxHeartbeats 40000000 in
set_option maxRecDepth 100000 in
theorem c_X8_set (l : Launch) (Z : ow_Z) (fu : Nat) (a1 : Int32) (a2 : Int32) (a3 : Int32) (σ : ow_S) (rr : Int32) (σr : ow_S) (hf : f_X8_set fu a1 a2 a3 σ = some (rr, σr)) : Met l yX8_set wsX8_set { frames := 3, cells := 0, slots := 0, locals := 104 } (ow_Pc Z 0 56 [.ref (ow_ad Z 0), .int a1, .int a2, .int a3] σ) (ow_Qi Z 0 56 rr σr) 0 0 (ow_A Z 0 56) := by
  refine Met.ofW (cc := cX8_set) (maxL := 6) (ret := (some .int)) (by decide) rfl ?_
  intro p e s m args below meth c s₁ B hml hv
  obtain ⟨hav, hB⟩ := hv
  obtain ⟨hG, hW⟩ := ow_begin hB
  have hx := B.exec
  have hb := B.bytes
  have hr := B.returns
  have hts := atoms_spec (ws := wsX8_set) B.pre
  have hown : s.vm.findClass RX8 = some m.cls := findClass_of_methodNamed B.named
  have hlocks := B.notSynchronized
  have hinX0 : ∀ w ∈ wsX00, w ∈ wsX8_set := by decide +kernel
  have hinX8 : ∀ w ∈ wsX80, w ∈ wsX8_set := by decide +kernel
  have hJ44 : ∀ (x1 : Int32) (x2 : Int32) (x3 : Int32) (σ : ow_S) (H : Heap) (locs : List Loc) (ls : Array Slot), L_X8_set_44 fu x1 x2 x3 σ = some (rr, σr) → ow_Wd Z 0 56 σ s H locs → lv_has ls 6 [(0, .ref (ow_ad Z 0)), (1, .int x1), (2, .int x2), (3, .int x3)] → W p l e (headSpec wsX8_set { frames := 3, cells := 0, slots := 0, locals := 104 }).room s m args below meth c H locs 0 0 (MQ below (ow_Qi Z 0 56 rr σr) args s 0 0 (ow_A Z 0 56)) (F0 m 44 ls []) := by
    intro x1 x2 x3 σ H locs ls hf hW hl
    unfold L_X8_set_44 at hf
    refine lv_aload_n hx hb dX8_set_44 rfl (lv_at hl 0 rfl) ?_
    refine ow_getV (ci := 8) (C := RX8) (T := TX8) (N := 15) hx hb hts hown hG hW ow_i0 (by decide) rfl hinX8 2 (by decide) (fk := 2) rfl (hts (.fieldLink RX8 21 "FiftyOneCards" "heads" "[LFiftyOneCards$Head;") (by decide +kernel)) (v := .ref (ow_ad Z 5)) (ow_vR hW ow_i0.1 ow_i0.2.1 rfl) dX8_set_45 ?_
    refine lv_iload_n hx hb dX8_set_48 rfl (lv_at hl 1 rfl) ?_
    refine ow_rld (f := fun j => 25 + j) (ct := 0) hx hb hG hW ow_i5 ⟨by decide, by decide⟩ rfl ow_ra5 hf dX8_set_49 (fun h_49 hf hi49 => ?_)
    refine lv_astore (lv' := [(4, .ref (ow_ad Z h_49)), (0, .ref (ow_ad Z 0)), (1, .int x1), (2, .int x2), (3, .int x3)]) hx hb dX8_set_50 hl (by decide) rfl (fun ls hl => ?_)
    refine lv_aload_n hx hb dX8_set_52 rfl (lv_at hl 1 rfl) ?_
    refine lv_iload_n hx hb dX8_set_53 rfl (lv_at hl 2 rfl) ?_
    refine lv_iload_n hx hb dX8_set_54 rfl (lv_at hl 3 rfl) ?_
    refine lv_iconst (v := 2) hx hb dX8_set_55 (by decide) ?_
    refine lv_iadd hx hb dX8_set_56 ?_
    obtain ⟨r_57, σ_57, hc57, hf⟩ := ow_cl_i hf
    refine ow_calli (va_runV (As := [.int x1, .int (x2 + (2 : Int32))]) (rest := []) ⟨hx, hb, hml, hown, hts⟩ (c_X8_told l Z fu x1 (x2 + (2 : Int32)) σ r_57 σ_57 hc57) (cwV 2 hts gX8_set_X8_told rfl rfl rfl (by decide +kernel) ⟨Nat.le_of_ble_eq_true rfl, Nat.le_of_ble_eq_true rfl⟩) (ow_preV hG hW ow_i0 (by decide) rfl) rfl rfl hl.1 rfl (lv_room (Nat.le_of_ble_eq_true rfl)) dX8_set_57 ⟨Nat.zero_le _, Nat.zero_le _⟩) hW (fun H locs hW => ?_)
    refine lv_istore (lv' := [(5, .int r_57), (4, .ref (ow_ad Z h_49)), (0, .ref (ow_ad Z 0)), (1, .int x1), (2, .int x2), (3, .int x3)]) hx hb dX8_set_60 hl (by decide) rfl (fun ls hl => ?_)
    refine lv_iload_n hx hb dX8_set_62 rfl (lv_at hl 4 rfl) ?_
    refine lv_if_ne (tgt := 75) hx hb dX8_set_63 (by decide) (fun c63 => ?_) (fun c63 => ?_)
    · replace hf := ow_if_f c63 hf
      refine lv_iload_n hx hb dX8_set_75 rfl (lv_at hl 4 rfl) ?_
      refine lv_iconst (v := 1) hx hb dX8_set_76 (by decide) ?_
      refine lv_icmp_ne (tgt := 89) hx hb dX8_set_77 (by decide) (fun c77 => ?_) (fun c77 => ?_)
      · replace hf := ow_if_f c77 hf
        refine lv_aload hx hb dX8_set_89 (lv_at hl 1 rfl) ?_
        refine lv_iload_n hx hb dX8_set_91 rfl (lv_at hl 5 rfl) ?_
        refine ow_putIN (ci := 0) (C := RX0) (T := TX0) (N := 5) hx hb hts hown hG hW hi49 (by decide) rfl hinX0 tyX0 tyX0_ok nmX0 4 (by decide) rfl (ow_nwp hG (.fieldLinkNest RX8 203 "FiftyOneCards$Head" "second" "I" "FiftyOneCards") (by decide +kernel)) rfl rfl rfl hf dX8_set_92 (fun σ_92 H locs hf hW => ?_)
        refine lv_iload hx hb dX8_set_95 (lv_at hl 0 rfl) ?_
        exact ow_iret hx hb hr hW hf dX8_set_97 hlocks
      · replace hf := ow_if_t c77 hf
        refine lv_aload hx hb dX8_set_80 (lv_at hl 1 rfl) ?_
        refine lv_iload_n hx hb dX8_set_82 rfl (lv_at hl 5 rfl) ?_
        refine ow_putIN (ci := 0) (C := RX0) (T := TX0) (N := 5) hx hb hts hown hG hW hi49 (by decide) rfl hinX0 tyX0 tyX0_ok nmX0 3 (by decide) rfl (ow_nwp hG (.fieldLinkNest RX8 200 "FiftyOneCards$Head" "first" "I" "FiftyOneCards") (by decide +kernel)) rfl rfl rfl hf dX8_set_83 (fun σ_83 H locs hf hW => ?_)
        refine lv_goto (tgt := 95) hx hb dX8_set_86 (by decide) ?_
        refine lv_iload hx hb dX8_set_95 (lv_at hl 0 rfl) ?_
        exact ow_iret hx hb hr hW hf dX8_set_97 hlocks
    · replace hf := ow_if_t c63 hf
      refine lv_aload hx hb dX8_set_66 (lv_at hl 1 rfl) ?_
      refine lv_iload_n hx hb dX8_set_68 rfl (lv_at hl 5 rfl) ?_
      refine ow_putIN (ci := 0) (C := RX0) (T := TX0) (N := 5) hx hb hts hown hG hW hi49 (by decide) rfl hinX0 tyX0 tyX0_ok nmX0 2 (by decide) rfl (ow_nwp hG (.fieldLinkNest RX8 197 "FiftyOneCards$Head" "bits" "I" "FiftyOneCards") (by decide +kernel)) rfl rfl rfl hf dX8_set_69 (fun σ_69 H locs hf hW => ?_)
      refine lv_goto (tgt := 95) hx hb dX8_set_72 (by decide) ?_
      refine lv_iload hx hb dX8_set_95 (lv_at hl 0 rfl) ?_
      exact ow_iret hx hb hr hW hf dX8_set_97 hlocks
  have hl := lv_entry ([.ref (ow_ad Z 0), .int a1, .int a2, .int a3]) (n := 6) (Nat.le_of_ble_eq_true rfl)
  refine W.eq (g2 := F0 m 0 ((lg_sl ([.ref (ow_ad Z 0), .int a1, .int a2, .int a3]) ++ List.replicate (6 - (lg_sl ([.ref (ow_ad Z 0), .int a1, .int a2, .int a3])).length) Slot.unset).toArray) []) (by rw [hav]; exact lg_entry_eq _ _ _) ?_
  generalize (lg_sl ([.ref (ow_ad Z 0), .int a1, .int a2, .int a3]) ++ List.replicate (6 - (lg_sl ([.ref (ow_ad Z 0), .int a1, .int a2, .int a3])).length) Slot.unset).toArray = ls at hl ⊢
  have hl : lv_has ls 6 [(0, .ref (ow_ad Z 0)), (1, .int a1), (2, .int a2), (3, .int a3)] := hl
  unfold f_X8_set at hf
  refine lv_aload_n hx hb dX8_set_0 rfl (lv_at hl 0 rfl) ?_
  refine lv_iload_n hx hb dX8_set_1 rfl (lv_at hl 1 rfl) ?_
  obtain ⟨r_2, σ_2, hc2, hf⟩ := ow_cl_i hf
  refine ow_callz (va_runV (As := [.int a1]) (rest := []) ⟨hx, hb, hml, hown, hts⟩ (c_X8_isHead l Z fu a1 σ r_2 σ_2 hc2) (cwV 1 hts gX8_set_X8_isHead rfl rfl rfl (by decide +kernel) ⟨Nat.le_of_ble_eq_true rfl, Nat.le_of_ble_eq_true rfl⟩) (ow_preV hG hW ow_i0 (by decide) rfl) rfl rfl hl.1 rfl (lv_room (Nat.le_of_ble_eq_true rfl)) dX8_set_2 ⟨Nat.zero_le _, Nat.zero_le _⟩) hW (fun b2 H locs hW => ?_)
  refine lv_if_ne (tgt := 11) hx hb dX8_set_5 (by decide) (fun c5 => ?_) (fun c5 => ?_)
  · replace hf := ow_if_f c5 hf
    refine lv_iload_n hx hb dX8_set_11 rfl (lv_at hl 2 rfl) ?_
    refine lv_if_lt (tgt := 41) hx hb dX8_set_12 (by decide) (fun c12 => ?_) (fun c12 => ?_)
    · replace hf := ow_if_t c12 hf
      refine lv_bipush (v := -7) hx hb dX8_set_41 (by decide) ?_
      exact ow_iret hx hb hr hW hf dX8_set_43 hlocks
    · replace hf := ow_if_f c12 hf
      refine lv_iload_n hx hb dX8_set_15 rfl (lv_at hl 2 rfl) ?_
      refine lv_iconst (v := 2) hx hb dX8_set_16 (by decide) ?_
      refine lv_icmp_gt (tgt := 41) hx hb dX8_set_17 (by decide) (fun c17 => ?_) (fun c17 => ?_)
      · replace hf := ow_if_t c17 hf
        refine lv_bipush (v := -7) hx hb dX8_set_41 (by decide) ?_
        exact ow_iret hx hb hr hW hf dX8_set_43 hlocks
      · replace hf := ow_if_f c17 hf
        refine lv_iload_n hx hb dX8_set_20 rfl (lv_at hl 2 rfl) ?_
        refine lv_if_ne (tgt := 34) hx hb dX8_set_21 (by decide) (fun c21 => ?_) (fun c21 => ?_)
        · replace hf := ow_if_f c21 hf
          refine lv_iload_n hx hb dX8_set_34 rfl (lv_at hl 3 rfl) ?_
          obtain ⟨r_35, σ_35, hc35, hf⟩ := ow_cl_i hf
          refine ow_callz (va_runS (As := [.int a3]) (rest := []) ⟨hx, hb, hml, hown, hts⟩ (c_X8_isNumber l Z fu a3 σ_2 r_35 σ_35 hc35) (va_cwS 1 hts gX8_set_X8_isNumber rfl rfl rfl (by decide +kernel) ⟨Nat.le_of_ble_eq_true rfl, Nat.le_of_ble_eq_true rfl⟩) (ow_preS hG hW) rfl rfl hl.1 rfl (lv_room (Nat.le_of_ble_eq_true rfl)) dX8_set_35 ⟨Nat.zero_le _, Nat.zero_le _⟩) hW (fun b35 H locs hW => ?_)
          refine lv_if_ne (tgt := 44) hx hb dX8_set_38 (by decide) (fun c38 => ?_) (fun c38 => ?_)
          · replace hf := ow_if_f c38 hf
            exact hJ44 a1 a2 a3 σ_35 _ _ _ hf hW (lv_sub hl [0, 1, 2, 3] rfl)
          · replace hf := ow_if_t c38 hf
            refine lv_bipush (v := -7) hx hb dX8_set_41 (by decide) ?_
            exact ow_iret hx hb hr hW hf dX8_set_43 hlocks
        · replace hf := ow_if_t c21 hf
          refine lv_iload_n hx hb dX8_set_24 rfl (lv_at hl 3 rfl) ?_
          obtain ⟨r_25, σ_25, hc25, hf⟩ := ow_cl_i hf
          refine ow_callz (va_runS (As := [.int a3]) (rest := []) ⟨hx, hb, hml, hown, hts⟩ (c_X8_isBits l Z fu a3 σ_2 r_25 σ_25 hc25) (va_cwS 1 hts gX8_set_X8_isBits rfl rfl rfl (by decide +kernel) ⟨Nat.le_of_ble_eq_true rfl, Nat.le_of_ble_eq_true rfl⟩) (ow_preS hG hW) rfl rfl hl.1 rfl (lv_room (Nat.le_of_ble_eq_true rfl)) dX8_set_25 ⟨Nat.zero_le _, Nat.zero_le _⟩) hW (fun b25 H locs hW => ?_)
          refine lv_if_eq (tgt := 41) hx hb dX8_set_28 (by decide) (fun c28 => ?_) (fun c28 => ?_)
          · replace hf := ow_if_t c28 hf
            refine lv_bipush (v := -7) hx hb dX8_set_41 (by decide) ?_
            exact ow_iret hx hb hr hW hf dX8_set_43 hlocks
          · replace hf := ow_if_f c28 hf
            refine lv_goto (tgt := 44) hx hb dX8_set_31 (by decide) ?_
            exact hJ44 a1 a2 a3 σ_25 _ _ _ hf hW (lv_sub hl [0, 1, 2, 3] rfl)
  · replace hf := ow_if_t c5 hf
    refine lv_bipush (v := -5) hx hb dX8_set_8 (by decide) ?_
    exact ow_iret hx hb hr hW hf dX8_set_10 hlocks
set_option maxHeartbeats 40000000 in
set_option maxRecDepth 100000 in
theorem c_X8_saysOf (l : Launch) (Z : ow_Z) (fu : Nat) (a1 : Nat) (ha1 : ow_in 0 56 a1 0) (a2 : Nat) (ha2 : ow_in 0 56 a2 4) (σ : ow_S) (rr : Int32) (σr : ow_S) (hf : f_X8_saysOf fu a1 a2 σ = some (rr, σr)) : Met l yX8_saysOf wsX8_saysOf { frames := 6, cells := 0, slots := 0, locals := 181 } (ow_Pc Z 0 56 [.ref (ow_ad Z 0), .ref (ow_ad Z a1), .ref (ow_ad Z a2)] σ) (ow_Qi Z 0 56 rr σr) 0 0 (ow_A Z 0 56) := by
  refine Met.ofW (cc := cX8_saysOf) (maxL := 3) (ret := (some .int)) (by decide) rfl ?_
  intro p e s m args below meth c s₁ B hml hv
  obtain ⟨hav, hB⟩ := hv
  obtain ⟨hG, hW⟩ := ow_begin hB
  have hx := B.exec
  have hb := B.bytes
  have hr := B.returns
  have hts := atoms_spec (ws := wsX8_saysOf) B.pre
  have hown : s.vm.findClass RX8 = some m.cls := findClass_of_methodNamed B.named
  have hlocks := B.notSynchronized
  have hinX8 : ∀ w ∈ wsX80, w ∈ wsX8_saysOf := by decide +kernel
  have hl := lv_entry ([.ref (ow_ad Z 0), .ref (ow_ad Z a1), .ref (ow_ad Z a2)]) (n := 3) (Nat.le_of_ble_eq_true rfl)
  refine W.eq (g2 := F0 m 0 ((lg_sl ([.ref (ow_ad Z 0), .ref (ow_ad Z a1), .ref (ow_ad Z a2)]) ++ List.replicate (3 - (lg_sl ([.ref (ow_ad Z 0), .ref (ow_ad Z a1), .ref (ow_ad Z a2)])).length) Slot.unset).toArray) []) (by rw [hav]; exact lg_entry_eq _ _ _) ?_
  generalize (lg_sl ([.ref (ow_ad Z 0), .ref (ow_ad Z a1), .ref (ow_ad Z a2)]) ++ List.replicate (3 - (lg_sl ([.ref (ow_ad Z 0), .ref (ow_ad Z a1), .ref (ow_ad Z a2)])).length) Slot.unset).toArray = ls at hl ⊢
  have hl : lv_has ls 3 [(0, .ref (ow_ad Z 0)), (1, .ref (ow_ad Z a1)), (2, .ref (ow_ad Z a2))] := hl
  unfold f_X8_saysOf at hf
  refine lv_aload_n hx hb dX8_saysOf_0 rfl (lv_at hl 0 rfl) ?_
  refine ow_getV (ci := 8) (C := RX8) (T := TX8) (N := 15) hx hb hts hown hG hW ow_i0 (by decide) rfl hinX8 6 (by decide) (fk := 2) rfl (hts (.fieldLink RX8 46 "FiftyOneCards" "walk" "LFiftyOneCards$Walk;") (by decide +kernel)) (v := .ref (ow_ad Z 10)) (ow_vR hW ow_i0.1 ow_i0.2.1 rfl) dX8_saysOf_1 ?_
  refine lv_aload_n hx hb dX8_saysOf_4 rfl (lv_at hl 1 rfl) ?_
  refine lv_aload_n hx hb dX8_saysOf_5 rfl (lv_at hl 2 rfl) ?_
  refine lv_aload_n hx hb dX8_saysOf_6 rfl (lv_at hl 0 rfl) ?_
  obtain ⟨r_7, σ_7, hc7, hf⟩ := ow_cl_i hf
  refine ow_callr (va_runV (As := []) (rest := [.ref (ow_ad Z a2), .ref (ow_ad Z a1), .ref (ow_ad Z 10)]) ⟨hx, hb, hml, hown, hts⟩ (c_X8_lawText l Z fu σ r_7 σ_7 hc7) (cwV 0 hts gX8_saysOf_X8_lawText rfl rfl rfl (by decide +kernel) ⟨Nat.le_of_ble_eq_true rfl, Nat.le_of_ble_eq_true rfl⟩) (ow_preV hG hW ow_i0 (by decide) rfl) rfl rfl hl.1 rfl (lv_room (Nat.le_of_ble_eq_true rfl)) dX8_saysOf_7 ⟨Nat.zero_le _, Nat.zero_le _⟩) hW (fun b7 H locs hW => ?_)
  refine lv_aload_n hx hb dX8_saysOf_10 rfl (lv_at hl 0 rfl) ?_
  refine ow_getV (ci := 8) (C := RX8) (T := TX8) (N := 15) hx hb hts hown hG hW ow_i0 (by decide) rfl hinX8 11 (by decide) (fk := 0) rfl (hts (.fieldLink RX8 74 "FiftyOneCards" "pack" "I") (by decide +kernel)) (v := .int (σ_7.1 0 11)) rfl dX8_saysOf_11 ?_
  obtain ⟨r_14, σ_14, hc14, hf⟩ := ow_cl_i hf
  refine ow_calli (va_runVN (As := [.ref (ow_ad Z a1), .ref (ow_ad Z a2), .ref (ow_ad Z r_7), .int (σ_7.1 0 11)]) (rest := []) ⟨hx, hb, hml, hown, hts⟩ (c_X7_says l Z fu a1 ha1 a2 ha2 r_7 b7 (σ_7.1 0 11) σ_7 r_14 σ_14 hc14) ⟨va_cnB (host := "FiftyOneCards") 4 hts ggX8_saysOf_X7_says rfl rfl rfl (ow_nwp hG (.methodLinkNest RX8 341 yX7_says "FiftyOneCards") (by decide +kernel)) (hts (.initialized RX7) (by decide +kernel)) (by decide +kernel) ⟨Nat.le_of_ble_eq_true rfl, Nat.le_of_ble_eq_true rfl⟩, hts (.instanceMethod yX7_says) (by decide +kernel), hts (.selects RX7 yX7_says yX7_says) (by decide +kernel)⟩ (ow_preV hG hW ow_i10 (by decide) rfl) rfl rfl hl.1 rfl (lv_room (Nat.le_of_ble_eq_true rfl)) dX8_saysOf_14 ⟨Nat.zero_le _, Nat.zero_le _⟩) hW (fun H locs hW => ?_)
  exact ow_iret hx hb hr hW hf dX8_saysOf_17 hlocks
set_option maxHeartbeats 40000000 in
set_option maxRecDepth 100000 in
theorem c_X8_say (l : Launch) (Z : ow_Z) (fu : Nat) (a1 : Int32) (σ : ow_S) (rr : Int32) (σr : ow_S) (hf : f_X8_say fu a1 σ = some (rr, σr)) : Met l yX8_say wsX8_say { frames := 7, cells := 0, slots := 0, locals := 203 } (ow_Pc Z 0 56 [.ref (ow_ad Z 0), .int a1] σ) (ow_Qi Z 0 56 rr σr) 0 0 (ow_A Z 0 56) := by
  refine Met.ofW (cc := cX8_say) (maxL := 2) (ret := (some .int)) (by decide) rfl ?_
  intro p e s m args below meth c s₁ B hml hv
  obtain ⟨hav, hB⟩ := hv
  obtain ⟨hG, hW⟩ := ow_begin hB
  have hx := B.exec
  have hb := B.bytes
  have hr := B.returns
  have hts := atoms_spec (ws := wsX8_say) B.pre
  have hown : s.vm.findClass RX8 = some m.cls := findClass_of_methodNamed B.named
  have hlocks := B.notSynchronized
  have hinX8 : ∀ w ∈ wsX80, w ∈ wsX8_say := by decide +kernel
  have hl := lv_entry ([.ref (ow_ad Z 0), .int a1]) (n := 2) (Nat.le_of_ble_eq_true rfl)
  refine W.eq (g2 := F0 m 0 ((lg_sl ([.ref (ow_ad Z 0), .int a1]) ++ List.replicate (2 - (lg_sl ([.ref (ow_ad Z 0), .int a1])).length) Slot.unset).toArray) []) (by rw [hav]; exact lg_entry_eq _ _ _) ?_
  generalize (lg_sl ([.ref (ow_ad Z 0), .int a1]) ++ List.replicate (2 - (lg_sl ([.ref (ow_ad Z 0), .int a1])).length) Slot.unset).toArray = ls at hl ⊢
  have hl : lv_has ls 2 [(0, .ref (ow_ad Z 0)), (1, .int a1)] := hl
  unfold f_X8_say at hf
  refine lv_aload_n hx hb dX8_say_0 rfl (lv_at hl 0 rfl) ?_
  refine lv_iload_n hx hb dX8_say_1 rfl (lv_at hl 1 rfl) ?_
  obtain ⟨r_2, σ_2, hc2, hf⟩ := ow_cl_i hf
  refine ow_callz (va_runV (As := [.int a1]) (rest := []) ⟨hx, hb, hml, hown, hts⟩ (c_X8_isHead l Z fu a1 σ r_2 σ_2 hc2) (cwV 1 hts gX8_say_X8_isHead rfl rfl rfl (by decide +kernel) ⟨Nat.le_of_ble_eq_true rfl, Nat.le_of_ble_eq_true rfl⟩) (ow_preV hG hW ow_i0 (by decide) rfl) rfl rfl hl.1 rfl (lv_room (Nat.le_of_ble_eq_true rfl)) dX8_say_2 ⟨Nat.zero_le _, Nat.zero_le _⟩) hW (fun b2 H locs hW => ?_)
  refine lv_if_eq (tgt := 25) hx hb dX8_say_5 (by decide) (fun c5 => ?_) (fun c5 => ?_)
  · replace hf := ow_if_t c5 hf
    refine lv_ldc (v := -1000005) hx hb hown (hts (.constant RX8 217 (-1000005)) (by decide +kernel)) dX8_say_25 ?_
    exact ow_iret hx hb hr hW hf dX8_say_27 hlocks
  · replace hf := ow_if_f c5 hf
    refine lv_aload_n hx hb dX8_say_8 rfl (lv_at hl 0 rfl) ?_
    refine lv_aload_n hx hb dX8_say_9 rfl (lv_at hl 0 rfl) ?_
    refine ow_getV (ci := 8) (C := RX8) (T := TX8) (N := 15) hx hb hts hown hG hW ow_i0 (by decide) rfl hinX8 2 (by decide) (fk := 2) rfl (hts (.fieldLink RX8 21 "FiftyOneCards" "heads" "[LFiftyOneCards$Head;") (by decide +kernel)) (v := .ref (ow_ad Z 5)) (ow_vR hW ow_i0.1 ow_i0.2.1 rfl) dX8_say_10 ?_
    refine lv_iload_n hx hb dX8_say_13 rfl (lv_at hl 1 rfl) ?_
    refine ow_rld (f := fun j => 25 + j) (ct := 0) hx hb hG hW ow_i5 ⟨by decide, by decide⟩ rfl ow_ra5 hf dX8_say_14 (fun h_14 hf hi14 => ?_)
    refine lv_aload_n hx hb dX8_say_15 rfl (lv_at hl 0 rfl) ?_
    refine ow_getV (ci := 8) (C := RX8) (T := TX8) (N := 15) hx hb hts hown hG hW ow_i0 (by decide) rfl hinX8 0 (by decide) (fk := 2) rfl (hts (.fieldLink RX8 10 "FiftyOneCards" "row" "LFiftyOneCards$Row;") (by decide +kernel)) (v := .ref (ow_ad Z 1)) (ow_vR hW ow_i0.1 ow_i0.2.1 rfl) dX8_say_16 ?_
    obtain ⟨r_19, σ_19, hc19, hf⟩ := ow_cl_i hf
    refine ow_calli (va_runV (As := [.ref (ow_ad Z h_14), .ref (ow_ad Z 1)]) (rest := []) ⟨hx, hb, hml, hown, hts⟩ (c_X8_saysOf l Z fu h_14 hi14 1 ow_i1 σ_2 r_19 σ_19 hc19) (cwV 2 hts gX8_say_X8_saysOf rfl rfl rfl (by decide +kernel) ⟨Nat.le_of_ble_eq_true rfl, Nat.le_of_ble_eq_true rfl⟩) (ow_preV hG hW ow_i0 (by decide) rfl) rfl rfl hl.1 rfl (lv_room (Nat.le_of_ble_eq_true rfl)) dX8_say_19 ⟨Nat.zero_le _, Nat.zero_le _⟩) hW (fun H locs hW => ?_)
    refine lv_goto (tgt := 27) hx hb dX8_say_22 (by decide) ?_
    exact ow_iret hx hb hr hW hf dX8_say_27 hlocks
set_option maxHeartbeats 40000000 in
set_option maxRecDepth 100000 in
theorem c_X8_keep (l : Launch) (Z : ow_Z) (fu : Nat) (a1 : Int32) (a2 : Int32) (a3 : Int32) (σ : ow_S) (rr : Int32) (σr : ow_S) (hf : f_X8_keep fu a1 a2 a3 σ = some (rr, σr)) : Met l yX8_keep wsX8_keep { frames := 5, cells := 0, slots := 0, locals := 156 } (ow_Pc Z 0 56 [.ref (ow_ad Z 0), .int a1, .int a2, .int a3] σ) (ow_Qi Z 0 56 rr σr) 0 0 (ow_A Z 0 56) := by
  refine Met.ofW (cc := cX8_keep) (maxL := 6) (ret := (some .int)) (by decide) rfl ?_
  intro p e s m args below meth c s₁ B hml hv
  obtain ⟨hav, hB⟩ := hv
  obtain ⟨hG, hW⟩ := ow_begin hB
  have hx := B.exec
  have hb := B.bytes
  have hr := B.returns
  have hts := atoms_spec (ws := wsX8_keep) B.pre
  have hown : s.vm.findClass RX8 = some m.cls := findClass_of_methodNamed B.named
  have hlocks := B.notSynchronized
  have hinX4 : ∀ w ∈ wsX40, w ∈ wsX8_keep := by decide +kernel
  have hinX7 : ∀ w ∈ wsX70, w ∈ wsX8_keep := by decide +kernel
  have hinX8 : ∀ w ∈ wsX80, w ∈ wsX8_keep := by decide +kernel
  have hJ66 : ∀ (fn : Nat), ∀ (x2 : Int32) (x3 : Int32) (r4 : Nat) (hr4 : ow_in 0 56 r4 0) (x5 : Int32) (σ : ow_S) (H : Heap) (locs : List Loc) (ls : Array Slot), L_X8_keep_66 fu fn x2 x3 r4 x5 σ = some (rr, σr) → ow_Wd Z 0 56 σ s H locs → lv_has ls 6 [(0, .ref (ow_ad Z 0)), (2, .int x2), (3, .int x3), (4, .ref (ow_ad Z r4)), (5, .int x5)] → W p l e (headSpec wsX8_keep { frames := 5, cells := 0, slots := 0, locals := 156 }).room s m args below meth c H locs 0 0 (MQ below (ow_Qi Z 0 56 rr σr) args s 0 0 (ow_A Z 0 56)) (F0 m 66 ls []) := by
    intro fn
    induction fn with
    | zero => intro x2 x3 r4 hr4 x5 σ H locs ls hf hW hl; simp [L_X8_keep_66] at hf
    | succ fn ih =>
      intro x2 x3 r4 hr4 x5 σ H locs ls hf hW hl
      rw [L_X8_keep_66] at hf
      refine lv_iload hx hb dX8_keep_66 (lv_at hl 4 rfl) ?_
      refine lv_aload hx hb dX8_keep_68 (lv_at hl 3 rfl) ?_
      obtain ⟨r_70, σ_70, hc70, hf⟩ := ow_cl_i hf
      refine ow_calli (va_runVN (As := []) (rest := [.int x5]) ⟨hx, hb, hml, hown, hts⟩ (c_X0_goings l Z fu r4 hr4 σ r_70 σ_70 hc70) ⟨va_cnB (host := "FiftyOneCards") 0 hts ggX8_keep_X0_goings rfl rfl rfl (ow_nwp hG (.methodLinkNest RX8 222 yX0_goings "FiftyOneCards") (by decide +kernel)) (hts (.initialized RX0) (by decide +kernel)) (by decide +kernel) ⟨Nat.le_of_ble_eq_true rfl, Nat.le_of_ble_eq_true rfl⟩, hts (.instanceMethod yX0_goings) (by decide +kernel), hts (.selects RX0 yX0_goings yX0_goings) (by decide +kernel)⟩ (ow_preV hG hW hr4 (by decide) rfl) rfl rfl hl.1 rfl (lv_room (Nat.le_of_ble_eq_true rfl)) dX8_keep_70 ⟨Nat.zero_le _, Nat.zero_le _⟩) hW (fun H locs hW => ?_)
      refine lv_icmp_ge (tgt := 102) hx hb dX8_keep_73 (by decide) (fun c73 => ?_) (fun c73 => ?_)
      · replace hf := ow_if_t c73 hf
        refine lv_aload_n hx hb dX8_keep_102 rfl (lv_at hl 0 rfl) ?_
        refine ow_getV (ci := 8) (C := RX8) (T := TX8) (N := 15) hx hb hts hown hG hW ow_i0 (by decide) rfl hinX8 6 (by decide) (fk := 2) rfl (hts (.fieldLink RX8 46 "FiftyOneCards" "walk" "LFiftyOneCards$Walk;") (by decide +kernel)) (v := .ref (ow_ad Z 10)) (ow_vR hW ow_i0.1 ow_i0.2.1 rfl) dX8_keep_103 ?_
        refine lv_aload hx hb dX8_keep_106 (lv_at hl 3 rfl) ?_
        refine lv_aload_n hx hb dX8_keep_108 rfl (lv_at hl 0 rfl) ?_
        refine ow_getV (ci := 8) (C := RX8) (T := TX8) (N := 15) hx hb hts hown hG hW ow_i0 (by decide) rfl hinX8 0 (by decide) (fk := 2) rfl (hts (.fieldLink RX8 10 "FiftyOneCards" "row" "LFiftyOneCards$Row;") (by decide +kernel)) (v := .ref (ow_ad Z 1)) (ow_vR hW ow_i0.1 ow_i0.2.1 rfl) dX8_keep_109 ?_
        refine lv_iload_n hx hb dX8_keep_112 rfl (lv_at hl 1 rfl) ?_
        obtain ⟨σ_113, hc113, hf⟩ := ow_cv_i hf
        refine ow_callv (va_runVN (As := [.ref (ow_ad Z r4), .ref (ow_ad Z 1), .int x2]) (rest := []) ⟨hx, hb, hml, hown, hts⟩ (c_X7_goAlong l Z fu r4 hr4 1 ow_i1 x2 σ_70 σ_113  hc113) ⟨va_cnB (host := "FiftyOneCards") 3 hts ggX8_keep_X7_goAlong rfl rfl rfl (ow_nwp hG (.methodLinkNest RX8 225 yX7_goAlong "FiftyOneCards") (by decide +kernel)) (hts (.initialized RX7) (by decide +kernel)) (by decide +kernel) ⟨Nat.le_of_ble_eq_true rfl, Nat.le_of_ble_eq_true rfl⟩, hts (.instanceMethod yX7_goAlong) (by decide +kernel), hts (.selects RX7 yX7_goAlong yX7_goAlong) (by decide +kernel)⟩ (ow_preV hG hW ow_i10 (by decide) rfl) rfl rfl hl.1 rfl (lv_room (Nat.le_of_ble_eq_true rfl)) dX8_keep_113 ⟨Nat.zero_le _, Nat.zero_le _⟩) hW (fun H locs hW => ?_)
        refine lv_iload_n hx hb dX8_keep_116 rfl (lv_at hl 2 rfl) ?_
        refine lv_if_ne (tgt := 132) hx hb dX8_keep_117 (by decide) (fun c117 => ?_) (fun c117 => ?_)
        · replace hf := ow_if_f c117 hf
          refine lv_aload_n hx hb dX8_keep_132 rfl (lv_at hl 0 rfl) ?_
          refine ow_getV (ci := 8) (C := RX8) (T := TX8) (N := 15) hx hb hts hown hG hW ow_i0 (by decide) rfl hinX8 6 (by decide) (fk := 2) rfl (hts (.fieldLink RX8 46 "FiftyOneCards" "walk" "LFiftyOneCards$Walk;") (by decide +kernel)) (v := .ref (ow_ad Z 10)) (ow_vR hW ow_i0.1 ow_i0.2.1 rfl) dX8_keep_133 ?_
          refine ow_getVN (ci := 7) (C := RX7) (T := TX7) (N := 3) hx hb hts hown hG hW ow_i10 (by decide) rfl hinX7 0 (by decide) (fk := 2) rfl (ow_nwp hG (.fieldLinkNest RX8 229 "FiftyOneCards$Walk" "names" "[I" "FiftyOneCards") (by decide +kernel)) (v := .ref (ow_ad Z 11)) (ow_vR hW ow_i10.1 ow_i10.2.1 rfl) dX8_keep_136 ?_
          refine lv_iconst (v := 1) hx hb dX8_keep_139 (by decide) ?_
          refine ow_ild (q := 1) hx hb hG hW ow_i11 rfl (by decide) (by decide) dX8_keep_140 ?_
          exact ow_iret hx hb hr hW hf dX8_keep_141 hlocks
        · replace hf := ow_if_t c117 hf
          refine lv_aload_n hx hb dX8_keep_120 rfl (lv_at hl 0 rfl) ?_
          refine ow_getV (ci := 8) (C := RX8) (T := TX8) (N := 15) hx hb hts hown hG hW ow_i0 (by decide) rfl hinX8 6 (by decide) (fk := 2) rfl (hts (.fieldLink RX8 46 "FiftyOneCards" "walk" "LFiftyOneCards$Walk;") (by decide +kernel)) (v := .ref (ow_ad Z 10)) (ow_vR hW ow_i0.1 ow_i0.2.1 rfl) dX8_keep_121 ?_
          refine ow_getVN (ci := 7) (C := RX7) (T := TX7) (N := 3) hx hb hts hown hG hW ow_i10 (by decide) rfl hinX7 0 (by decide) (fk := 2) rfl (ow_nwp hG (.fieldLinkNest RX8 229 "FiftyOneCards$Walk" "names" "[I" "FiftyOneCards") (by decide +kernel)) (v := .ref (ow_ad Z 11)) (ow_vR hW ow_i10.1 ow_i10.2.1 rfl) dX8_keep_124 ?_
          refine lv_iconst (v := 0) hx hb dX8_keep_127 (by decide) ?_
          refine ow_ild (q := 0) hx hb hG hW ow_i11 rfl (by decide) (by decide) dX8_keep_128 ?_
          refine lv_goto (tgt := 141) hx hb dX8_keep_129 (by decide) ?_
          exact ow_iret hx hb hr hW hf dX8_keep_141 hlocks
      · replace hf := ow_if_f c73 hf
        refine lv_aload_n hx hb dX8_keep_76 rfl (lv_at hl 0 rfl) ?_
        refine ow_getV (ci := 8) (C := RX8) (T := TX8) (N := 15) hx hb hts hown hG hW ow_i0 (by decide) rfl hinX8 6 (by decide) (fk := 2) rfl (hts (.fieldLink RX8 46 "FiftyOneCards" "walk" "LFiftyOneCards$Walk;") (by decide +kernel)) (v := .ref (ow_ad Z 10)) (ow_vR hW ow_i0.1 ow_i0.2.1 rfl) dX8_keep_77 ?_
        refine lv_aload hx hb dX8_keep_80 (lv_at hl 3 rfl) ?_
        refine lv_aload_n hx hb dX8_keep_82 rfl (lv_at hl 0 rfl) ?_
        refine ow_getV (ci := 8) (C := RX8) (T := TX8) (N := 15) hx hb hts hown hG hW ow_i0 (by decide) rfl hinX8 0 (by decide) (fk := 2) rfl (hts (.fieldLink RX8 10 "FiftyOneCards" "row" "LFiftyOneCards$Row;") (by decide +kernel)) (v := .ref (ow_ad Z 1)) (ow_vR hW ow_i0.1 ow_i0.2.1 rfl) dX8_keep_83 ?_
        refine lv_aload_n hx hb dX8_keep_86 rfl (lv_at hl 0 rfl) ?_
        refine ow_getV (ci := 8) (C := RX8) (T := TX8) (N := 15) hx hb hts hown hG hW ow_i0 (by decide) rfl hinX8 0 (by decide) (fk := 2) rfl (hts (.fieldLink RX8 10 "FiftyOneCards" "row" "LFiftyOneCards$Row;") (by decide +kernel)) (v := .ref (ow_ad Z 1)) (ow_vR hW ow_i0.1 ow_i0.2.1 rfl) dX8_keep_87 ?_
        refine ow_getVN (ci := 4) (C := RX4) (T := TX4) (N := 2) hx hb hts hown hG hW ow_i1 (by decide) rfl hinX4 1 (by decide) (fk := 0) rfl (ow_nwp hG (.fieldLinkNest RX8 108 "FiftyOneCards$Row" "size" "I" "FiftyOneCards") (by decide +kernel)) (v := .int (σ_70.1 1 1)) rfl dX8_keep_90 ?_
        obtain ⟨σ_93, hc93, hf⟩ := ow_cv_i hf
        refine ow_callv (va_runVN (As := [.ref (ow_ad Z r4), .ref (ow_ad Z 1), .int (σ_70.1 1 1)]) (rest := []) ⟨hx, hb, hml, hown, hts⟩ (c_X7_goAlong l Z fu r4 hr4 1 ow_i1 (σ_70.1 1 1) σ_70 σ_93  hc93) ⟨va_cnB (host := "FiftyOneCards") 3 hts ggX8_keep_X7_goAlong rfl rfl rfl (ow_nwp hG (.methodLinkNest RX8 225 yX7_goAlong "FiftyOneCards") (by decide +kernel)) (hts (.initialized RX7) (by decide +kernel)) (by decide +kernel) ⟨Nat.le_of_ble_eq_true rfl, Nat.le_of_ble_eq_true rfl⟩, hts (.instanceMethod yX7_goAlong) (by decide +kernel), hts (.selects RX7 yX7_goAlong yX7_goAlong) (by decide +kernel)⟩ (ow_preV hG hW ow_i10 (by decide) rfl) rfl rfl hl.1 rfl (lv_room (Nat.le_of_ble_eq_true rfl)) dX8_keep_93 ⟨Nat.zero_le _, Nat.zero_le _⟩) hW (fun H locs hW => ?_)
        refine ow_iinc (d := 1) (lv' := fun z => [(5, .int z), (0, .ref (ow_ad Z 0)), (2, .int x2), (3, .int x3), (4, .ref (ow_ad Z r4))]) hx hb hf dX8_keep_96 hl (k := 4) rfl (by decide) (by decide) (fun z => rfl) (fun x5_96 hf ls hl => ?_)
        refine lv_goto (tgt := 66) hx hb dX8_keep_99 (by decide) ?_
        exact ih x2 x3 r4 hr4 x5_96 σ_93 _ _ _ hf hW (lv_sub hl [1, 2, 3, 4, 0] rfl)
  have hl := lv_entry ([.ref (ow_ad Z 0), .int a1, .int a2, .int a3]) (n := 6) (Nat.le_of_ble_eq_true rfl)
  refine W.eq (g2 := F0 m 0 ((lg_sl ([.ref (ow_ad Z 0), .int a1, .int a2, .int a3]) ++ List.replicate (6 - (lg_sl ([.ref (ow_ad Z 0), .int a1, .int a2, .int a3])).length) Slot.unset).toArray) []) (by rw [hav]; exact lg_entry_eq _ _ _) ?_
  generalize (lg_sl ([.ref (ow_ad Z 0), .int a1, .int a2, .int a3]) ++ List.replicate (6 - (lg_sl ([.ref (ow_ad Z 0), .int a1, .int a2, .int a3])).length) Slot.unset).toArray = ls at hl ⊢
  have hl : lv_has ls 6 [(0, .ref (ow_ad Z 0)), (1, .int a1), (2, .int a2), (3, .int a3)] := hl
  unfold f_X8_keep at hf
  refine lv_aload_n hx hb dX8_keep_0 rfl (lv_at hl 0 rfl) ?_
  refine lv_iload_n hx hb dX8_keep_1 rfl (lv_at hl 1 rfl) ?_
  obtain ⟨r_2, σ_2, hc2, hf⟩ := ow_cl_i hf
  refine ow_callz (va_runV (As := [.int a1]) (rest := []) ⟨hx, hb, hml, hown, hts⟩ (c_X8_isHead l Z fu a1 σ r_2 σ_2 hc2) (cwV 1 hts gX8_keep_X8_isHead rfl rfl rfl (by decide +kernel) ⟨Nat.le_of_ble_eq_true rfl, Nat.le_of_ble_eq_true rfl⟩) (ow_preV hG hW ow_i0 (by decide) rfl) rfl rfl hl.1 rfl (lv_room (Nat.le_of_ble_eq_true rfl)) dX8_keep_2 ⟨Nat.zero_le _, Nat.zero_le _⟩) hW (fun b2 H locs hW => ?_)
  refine lv_if_ne (tgt := 11) hx hb dX8_keep_5 (by decide) (fun c5 => ?_) (fun c5 => ?_)
  · replace hf := ow_if_f c5 hf
    refine lv_iload_n hx hb dX8_keep_11 rfl (lv_at hl 2 rfl) ?_
    refine lv_if_lt (tgt := 35) hx hb dX8_keep_12 (by decide) (fun c12 => ?_) (fun c12 => ?_)
    · replace hf := ow_if_t c12 hf
      refine lv_bipush (v := -7) hx hb dX8_keep_35 (by decide) ?_
      exact ow_iret hx hb hr hW hf dX8_keep_37 hlocks
    · replace hf := ow_if_f c12 hf
      refine lv_iload_n hx hb dX8_keep_15 rfl (lv_at hl 2 rfl) ?_
      refine lv_aload_n hx hb dX8_keep_16 rfl (lv_at hl 0 rfl) ?_
      refine ow_getV (ci := 8) (C := RX8) (T := TX8) (N := 15) hx hb hts hown hG hW ow_i0 (by decide) rfl hinX8 0 (by decide) (fk := 2) rfl (hts (.fieldLink RX8 10 "FiftyOneCards" "row" "LFiftyOneCards$Row;") (by decide +kernel)) (v := .ref (ow_ad Z 1)) (ow_vR hW ow_i0.1 ow_i0.2.1 rfl) dX8_keep_17 ?_
      refine ow_getVN (ci := 4) (C := RX4) (T := TX4) (N := 2) hx hb hts hown hG hW ow_i1 (by decide) rfl hinX4 1 (by decide) (fk := 0) rfl (ow_nwp hG (.fieldLinkNest RX8 108 "FiftyOneCards$Row" "size" "I" "FiftyOneCards") (by decide +kernel)) (v := .int (σ_2.1 1 1)) rfl dX8_keep_20 ?_
      refine lv_icmp_gt (tgt := 35) hx hb dX8_keep_23 (by decide) (fun c23 => ?_) (fun c23 => ?_)
      · replace hf := ow_if_t c23 hf
        refine lv_bipush (v := -7) hx hb dX8_keep_35 (by decide) ?_
        exact ow_iret hx hb hr hW hf dX8_keep_37 hlocks
      · replace hf := ow_if_f c23 hf
        refine lv_iload_n hx hb dX8_keep_26 rfl (lv_at hl 3 rfl) ?_
        refine lv_if_lt (tgt := 35) hx hb dX8_keep_27 (by decide) (fun c27 => ?_) (fun c27 => ?_)
        · replace hf := ow_if_t c27 hf
          refine lv_bipush (v := -7) hx hb dX8_keep_35 (by decide) ?_
          exact ow_iret hx hb hr hW hf dX8_keep_37 hlocks
        · replace hf := ow_if_f c27 hf
          refine lv_iload_n hx hb dX8_keep_30 rfl (lv_at hl 3 rfl) ?_
          refine lv_iconst (v := 1) hx hb dX8_keep_31 (by decide) ?_
          refine lv_icmp_le (tgt := 38) hx hb dX8_keep_32 (by decide) (fun c32 => ?_) (fun c32 => ?_)
          · replace hf := ow_if_t c32 hf
            refine lv_aload_n hx hb dX8_keep_38 rfl (lv_at hl 0 rfl) ?_
            refine ow_getV (ci := 8) (C := RX8) (T := TX8) (N := 15) hx hb hts hown hG hW ow_i0 (by decide) rfl hinX8 2 (by decide) (fk := 2) rfl (hts (.fieldLink RX8 21 "FiftyOneCards" "heads" "[LFiftyOneCards$Head;") (by decide +kernel)) (v := .ref (ow_ad Z 5)) (ow_vR hW ow_i0.1 ow_i0.2.1 rfl) dX8_keep_39 ?_
            refine lv_iload_n hx hb dX8_keep_42 rfl (lv_at hl 1 rfl) ?_
            refine ow_rld (f := fun j => 25 + j) (ct := 0) hx hb hG hW ow_i5 ⟨by decide, by decide⟩ rfl ow_ra5 hf dX8_keep_43 (fun h_43 hf hi43 => ?_)
            refine lv_astore (lv' := [(4, .ref (ow_ad Z h_43)), (0, .ref (ow_ad Z 0)), (1, .int a1), (2, .int a2), (3, .int a3)]) hx hb dX8_keep_44 hl (by decide) rfl (fun ls hl => ?_)
            refine lv_aload_n hx hb dX8_keep_46 rfl (lv_at hl 1 rfl) ?_
            refine ow_getV (ci := 8) (C := RX8) (T := TX8) (N := 15) hx hb hts hown hG hW ow_i0 (by decide) rfl hinX8 6 (by decide) (fk := 2) rfl (hts (.fieldLink RX8 46 "FiftyOneCards" "walk" "LFiftyOneCards$Walk;") (by decide +kernel)) (v := .ref (ow_ad Z 10)) (ow_vR hW ow_i0.1 ow_i0.2.1 rfl) dX8_keep_47 ?_
            refine lv_aload hx hb dX8_keep_50 (lv_at hl 0 rfl) ?_
            refine lv_aload_n hx hb dX8_keep_52 rfl (lv_at hl 1 rfl) ?_
            obtain ⟨r_53, σ_53, hc53, hf⟩ := ow_cl_i hf
            refine ow_callr (va_runV (As := []) (rest := [.ref (ow_ad Z h_43), .ref (ow_ad Z 10)]) ⟨hx, hb, hml, hown, hts⟩ (c_X8_lawText l Z fu σ_2 r_53 σ_53 hc53) (cwV 0 hts gX8_keep_X8_lawText rfl rfl rfl (by decide +kernel) ⟨Nat.le_of_ble_eq_true rfl, Nat.le_of_ble_eq_true rfl⟩) (ow_preV hG hW ow_i0 (by decide) rfl) rfl rfl hl.1 rfl (lv_room (Nat.le_of_ble_eq_true rfl)) dX8_keep_53 ⟨Nat.zero_le _, Nat.zero_le _⟩) hW (fun b53 H locs hW => ?_)
            refine lv_aload_n hx hb dX8_keep_56 rfl (lv_at hl 1 rfl) ?_
            refine ow_getV (ci := 8) (C := RX8) (T := TX8) (N := 15) hx hb hts hown hG hW ow_i0 (by decide) rfl hinX8 11 (by decide) (fk := 0) rfl (hts (.fieldLink RX8 74 "FiftyOneCards" "pack" "I") (by decide +kernel)) (v := .int (σ_53.1 0 11)) rfl dX8_keep_57 ?_
            obtain ⟨σ_60, hc60, hf⟩ := ow_cv_i hf
            refine ow_callv (va_runVN (As := [.ref (ow_ad Z h_43), .ref (ow_ad Z r_53), .int (σ_53.1 0 11)]) (rest := []) ⟨hx, hb, hml, hown, hts⟩ (c_X7_setOutAs l Z fu h_43 hi43 r_53 b53 (σ_53.1 0 11) σ_53 σ_60  hc60) ⟨va_cnB (host := "FiftyOneCards") 3 hts ggX8_keep_X7_setOutAs rfl rfl rfl (ow_nwp hG (.methodLinkNest RX8 218 yX7_setOutAs "FiftyOneCards") (by decide +kernel)) (hts (.initialized RX7) (by decide +kernel)) (by decide +kernel) ⟨Nat.le_of_ble_eq_true rfl, Nat.le_of_ble_eq_true rfl⟩, hts (.instanceMethod yX7_setOutAs) (by decide +kernel), hts (.selects RX7 yX7_setOutAs yX7_setOutAs) (by decide +kernel)⟩ (ow_preV hG hW ow_i10 (by decide) rfl) rfl rfl hl.1 rfl (lv_room (Nat.le_of_ble_eq_true rfl)) dX8_keep_60 ⟨Nat.zero_le _, Nat.zero_le _⟩) hW (fun H locs hW => ?_)
            refine lv_iconst (v := 1) hx hb dX8_keep_63 (by decide) ?_
            refine lv_istore (lv' := [(5, .int (1 : Int32)), (4, .ref (ow_ad Z h_43)), (0, .ref (ow_ad Z 0)), (1, .int a1), (2, .int a2), (3, .int a3)]) hx hb dX8_keep_64 hl (by decide) rfl (fun ls hl => ?_)
            exact hJ66 fu a2 a3 h_43 hi43 (1 : Int32) σ_60 _ _ _ hf hW (lv_sub hl [2, 4, 5, 1, 0] rfl)
          · replace hf := ow_if_f c32 hf
            refine lv_bipush (v := -7) hx hb dX8_keep_35 (by decide) ?_
            exact ow_iret hx hb hr hW hf dX8_keep_37 hlocks
  · replace hf := ow_if_t c5 hf
    refine lv_bipush (v := -5) hx hb dX8_keep_8 (by decide) ?_
    exact ow_iret hx hb hr hW hf dX8_keep_10 hlocks
set_option maxHeartbeats 40000000 in
set_option maxRecDepth 100000 in
theorem c_X8_saysBut (l : Launch) (Z : ow_Z) (fu : Nat) (a1 : Int32) (a2 : Int32) (a3 : Nat) (ha3 : ow_in 0 56 a3 0) (a4 : Nat) (ha4 : ow_in 0 56 a4 6) (σ : ow_S) (rr : Int32) (σr : ow_S) (hf : f_X8_saysBut fu a1 a2 a3 a4 σ = some (rr, σr)) : Met l yX8_saysBut wsX8_saysBut { frames := 6, cells := 0, slots := 0, locals := 181 } (ow_Pc Z 0 56 [.ref (ow_ad Z 0), .int a1, .int a2, .ref (ow_ad Z a3), .ref (ow_ad Z a4)] σ) (ow_Qi Z 0 56 rr σr) 0 0 (ow_A Z 0 56) := by
  refine Met.ofW (cc := cX8_saysBut) (maxL := 5) (ret := (some .int)) (by decide) rfl ?_
  intro p e s m args below meth c s₁ B hml hv
  obtain ⟨hav, hB⟩ := hv
  obtain ⟨hG, hW⟩ := ow_begin hB
  have hx := B.exec
  have hb := B.bytes
  have hr := B.returns
  have hts := atoms_spec (ws := wsX8_saysBut) B.pre
  have hown : s.vm.findClass RX8 = some m.cls := findClass_of_methodNamed B.named
  have hlocks := B.notSynchronized
  have hinX8 : ∀ w ∈ wsX80, w ∈ wsX8_saysBut := by decide +kernel
  have hl := lv_entry ([.ref (ow_ad Z 0), .int a1, .int a2, .ref (ow_ad Z a3), .ref (ow_ad Z a4)]) (n := 5) (Nat.le_of_ble_eq_true rfl)
  refine W.eq (g2 := F0 m 0 ((lg_sl ([.ref (ow_ad Z 0), .int a1, .int a2, .ref (ow_ad Z a3), .ref (ow_ad Z a4)]) ++ List.replicate (5 - (lg_sl ([.ref (ow_ad Z 0), .int a1, .int a2, .ref (ow_ad Z a3), .ref (ow_ad Z a4)])).length) Slot.unset).toArray) []) (by rw [hav]; exact lg_entry_eq _ _ _) ?_
  generalize (lg_sl ([.ref (ow_ad Z 0), .int a1, .int a2, .ref (ow_ad Z a3), .ref (ow_ad Z a4)]) ++ List.replicate (5 - (lg_sl ([.ref (ow_ad Z 0), .int a1, .int a2, .ref (ow_ad Z a3), .ref (ow_ad Z a4)])).length) Slot.unset).toArray = ls at hl ⊢
  have hl : lv_has ls 5 [(0, .ref (ow_ad Z 0)), (1, .int a1), (2, .int a2), (3, .ref (ow_ad Z a3)), (4, .ref (ow_ad Z a4))] := hl
  unfold f_X8_saysBut at hf
  refine lv_aload_n hx hb dX8_saysBut_0 rfl (lv_at hl 0 rfl) ?_
  refine ow_getV (ci := 8) (C := RX8) (T := TX8) (N := 15) hx hb hts hown hG hW ow_i0 (by decide) rfl hinX8 1 (by decide) (fk := 2) rfl (hts (.fieldLink RX8 16 "FiftyOneCards" "trialRow" "LFiftyOneCards$Row;") (by decide +kernel)) (v := .ref (ow_ad Z 3)) (ow_vR hW ow_i0.1 ow_i0.2.1 rfl) dX8_saysBut_1 ?_
  refine lv_iload_n hx hb dX8_saysBut_4 rfl (lv_at hl 1 rfl) ?_
  refine lv_aload_n hx hb dX8_saysBut_5 rfl (lv_at hl 0 rfl) ?_
  refine ow_getV (ci := 8) (C := RX8) (T := TX8) (N := 15) hx hb hts hown hG hW ow_i0 (by decide) rfl hinX8 11 (by decide) (fk := 0) rfl (hts (.fieldLink RX8 74 "FiftyOneCards" "pack" "I") (by decide +kernel)) (v := .int (σ.1 0 11)) rfl dX8_saysBut_6 ?_
  refine lv_iload_n hx hb dX8_saysBut_9 rfl (lv_at hl 2 rfl) ?_
  obtain ⟨σ_10, hc10, hf⟩ := ow_cv_i hf
  refine ow_callv (va_runVN (As := [.int a1, .int (σ.1 0 11), .int a2]) (rest := []) ⟨hx, hb, hml, hown, hts⟩ (c_X4_becomeAllBut l Z fu 3 ow_i3 a1 (σ.1 0 11) a2 σ σ_10  hc10) ⟨va_cnB (host := "FiftyOneCards") 3 hts ggX8_saysBut_X4_becomeAllBut rfl rfl rfl (ow_nwp hG (.methodLinkNest RX8 125 yX4_becomeAllBut "FiftyOneCards") (by decide +kernel)) (hts (.initialized RX4) (by decide +kernel)) (by decide +kernel) ⟨Nat.le_of_ble_eq_true rfl, Nat.le_of_ble_eq_true rfl⟩, hts (.instanceMethod yX4_becomeAllBut) (by decide +kernel), hts (.selects RX4 yX4_becomeAllBut yX4_becomeAllBut) (by decide +kernel)⟩ (ow_preV hG hW ow_i3 (by decide) rfl) rfl rfl hl.1 rfl (lv_room (Nat.le_of_ble_eq_true rfl)) dX8_saysBut_10 ⟨Nat.zero_le _, Nat.zero_le _⟩) hW (fun H locs hW => ?_)
  refine lv_aload_n hx hb dX8_saysBut_13 rfl (lv_at hl 0 rfl) ?_
  refine ow_getV (ci := 8) (C := RX8) (T := TX8) (N := 15) hx hb hts hown hG hW ow_i0 (by decide) rfl hinX8 6 (by decide) (fk := 2) rfl (hts (.fieldLink RX8 46 "FiftyOneCards" "walk" "LFiftyOneCards$Walk;") (by decide +kernel)) (v := .ref (ow_ad Z 10)) (ow_vR hW ow_i0.1 ow_i0.2.1 rfl) dX8_saysBut_14 ?_
  refine lv_aload_n hx hb dX8_saysBut_17 rfl (lv_at hl 3 rfl) ?_
  refine lv_aload_n hx hb dX8_saysBut_18 rfl (lv_at hl 0 rfl) ?_
  refine ow_getV (ci := 8) (C := RX8) (T := TX8) (N := 15) hx hb hts hown hG hW ow_i0 (by decide) rfl hinX8 1 (by decide) (fk := 2) rfl (hts (.fieldLink RX8 16 "FiftyOneCards" "trialRow" "LFiftyOneCards$Row;") (by decide +kernel)) (v := .ref (ow_ad Z 3)) (ow_vR hW ow_i0.1 ow_i0.2.1 rfl) dX8_saysBut_19 ?_
  refine lv_aload hx hb dX8_saysBut_22 (lv_at hl 4 rfl) ?_
  refine lv_aload_n hx hb dX8_saysBut_24 rfl (lv_at hl 0 rfl) ?_
  refine ow_getV (ci := 8) (C := RX8) (T := TX8) (N := 15) hx hb hts hown hG hW ow_i0 (by decide) rfl hinX8 11 (by decide) (fk := 0) rfl (hts (.fieldLink RX8 74 "FiftyOneCards" "pack" "I") (by decide +kernel)) (v := .int (σ_10.1 0 11)) rfl dX8_saysBut_25 ?_
  obtain ⟨r_28, σ_28, hc28, hf⟩ := ow_cl_i hf
  refine ow_calli (va_runVN (As := [.ref (ow_ad Z a3), .ref (ow_ad Z 3), .ref (ow_ad Z a4), .int (σ_10.1 0 11)]) (rest := []) ⟨hx, hb, hml, hown, hts⟩ (c_X7_says l Z fu a3 ha3 3 ow_i3 a4 ha4 (σ_10.1 0 11) σ_10 r_28 σ_28 hc28) ⟨va_cnB (host := "FiftyOneCards") 4 hts ggX8_saysBut_X7_says rfl rfl rfl (ow_nwp hG (.methodLinkNest RX8 341 yX7_says "FiftyOneCards") (by decide +kernel)) (hts (.initialized RX7) (by decide +kernel)) (by decide +kernel) ⟨Nat.le_of_ble_eq_true rfl, Nat.le_of_ble_eq_true rfl⟩, hts (.instanceMethod yX7_says) (by decide +kernel), hts (.selects RX7 yX7_says yX7_says) (by decide +kernel)⟩ (ow_preV hG hW ow_i10 (by decide) rfl) rfl rfl hl.1 rfl (lv_room (Nat.le_of_ble_eq_true rfl)) dX8_saysBut_28 ⟨Nat.zero_le _, Nat.zero_le _⟩) hW (fun H locs hW => ?_)
  exact ow_iret hx hb hr hW hf dX8_saysBut_31 hlocks
set_option maxHeartbeats 40000000 in
set_option maxRecDepth 100000 in
theorem c_X8_right (l : Launch) (Z : ow_Z) (fu : Nat) (a1 : Int32) (a2 : Int32) (σ : ow_S) (rr : Int64) (σr : ow_S) (hf : f_X8_right fu a1 a2 σ = some (rr, σr)) : Met l yX8_right wsX8_right { frames := 7, cells := 0, slots := 0, locals := 205 } (ow_Pc Z 0 56 [.ref (ow_ad Z 0), .int a1, .int a2] σ) (ow_Ql Z 0 56 rr σr) 0 0 (ow_A Z 0 56) := by
  refine Met.ofW (cc := cX8_right) (maxL := 6) (ret := (some .long)) (by decide) rfl ?_
  intro p e s m args below meth c s₁ B hml hv
  obtain ⟨hav, hB⟩ := hv
  obtain ⟨hG, hW⟩ := ow_begin hB
  have hx := B.exec
  have hb := B.bytes
  have hr := B.returns
  have hts := atoms_spec (ws := wsX8_right) B.pre
  have hown : s.vm.findClass RX8 = some m.cls := findClass_of_methodNamed B.named
  have hlocks := B.notSynchronized
  have hinX8 : ∀ w ∈ wsX80, w ∈ wsX8_right := by decide +kernel
  have hJ64 : ∀ (k24 : Int32 → Int32 → Int64 → Int32 → ow_S → Option (Int64 × ow_S)) (hk24 : ∀ (x1 : Int32) (x2 : Int32) (x3 : Int64) (x5 : Int32) (σ : ow_S) (H : Heap) (locs : List Loc) (ls : Array Slot), k24 x1 x2 x3 x5 σ = some (rr, σr) → ow_Wd Z 0 56 σ s H locs → lv_has ls 6 [(0, .ref (ow_ad Z 0)), (1, .int x1), (2, .int x2), (3, .long x3), (5, .int x5)] → W p l e (headSpec wsX8_right { frames := 7, cells := 0, slots := 0, locals := 205 }).room s m args below meth c H locs 0 0 (MQ below (ow_Ql Z 0 56 rr σr) args s 0 0 (ow_A Z 0 56)) (F0 m 24 ls [])), ∀ (x1 : Int32) (x2 : Int32) (x3 : Int64) (x5 : Int32) (σ : ow_S) (H : Heap) (locs : List Loc) (ls : Array Slot), L_X8_right_64 fu k24 x1 x2 x3 x5 σ = some (rr, σr) → ow_Wd Z 0 56 σ s H locs → lv_has ls 6 [(0, .ref (ow_ad Z 0)), (1, .int x1), (2, .int x2), (3, .long x3), (5, .int x5)] → W p l e (headSpec wsX8_right { frames := 7, cells := 0, slots := 0, locals := 205 }).room s m args below meth c H locs 0 0 (MQ below (ow_Ql Z 0 56 rr σr) args s 0 0 (ow_A Z 0 56)) (F0 m 64 ls []) := by
    intro k24 hk24 x1 x2 x3 x5 σ H locs ls hf hW hl
    unfold L_X8_right_64 at hf
    refine ow_iinc (d := 1) (lv' := fun z => [(5, .int z), (0, .ref (ow_ad Z 0)), (1, .int x1), (2, .int x2), (3, .long x3)]) hx hb hf dX8_right_64 hl (k := 4) rfl (by decide) (by decide) (fun z => rfl) (fun x5_64 hf ls hl => ?_)
    refine lv_goto (tgt := 24) hx hb dX8_right_67 (by decide) ?_
    exact hk24 x1 x2 x3 x5_64 σ _ _ _ hf hW (lv_sub hl [1, 2, 3, 4, 0] rfl)
  have hJ24 : ∀ (fn : Nat), ∀ (x1 : Int32) (x2 : Int32) (x3 : Int64) (x5 : Int32) (σ : ow_S) (H : Heap) (locs : List Loc) (ls : Array Slot), L_X8_right_24 fu fn x1 x2 x3 x5 σ = some (rr, σr) → ow_Wd Z 0 56 σ s H locs → lv_has ls 6 [(0, .ref (ow_ad Z 0)), (1, .int x1), (2, .int x2), (3, .long x3), (5, .int x5)] → W p l e (headSpec wsX8_right { frames := 7, cells := 0, slots := 0, locals := 205 }).room s m args below meth c H locs 0 0 (MQ below (ow_Ql Z 0 56 rr σr) args s 0 0 (ow_A Z 0 56)) (F0 m 24 ls []) := by
    intro fn
    induction fn with
    | zero => intro x1 x2 x3 x5 σ H locs ls hf hW hl; simp [L_X8_right_24] at hf
    | succ fn ih =>
      intro x1 x2 x3 x5 σ H locs ls hf hW hl
      rw [L_X8_right_24] at hf
      refine lv_iload hx hb dX8_right_24 (lv_at hl 4 rfl) ?_
      refine lv_aload_n hx hb dX8_right_26 rfl (lv_at hl 0 rfl) ?_
      refine ow_getV (ci := 8) (C := RX8) (T := TX8) (N := 15) hx hb hts hown hG hW ow_i0 (by decide) rfl hinX8 11 (by decide) (fk := 0) rfl (hts (.fieldLink RX8 74 "FiftyOneCards" "pack" "I") (by decide +kernel)) (v := .int (σ.1 0 11)) rfl dX8_right_27 ?_
      refine lv_icmp_gt (tgt := 70) hx hb dX8_right_30 (by decide) (fun c30 => ?_) (fun c30 => ?_)
      · replace hf := ow_if_t c30 hf
        refine lv_lload_n hx hb dX8_right_70 rfl (lv_at hl 3 rfl) ?_
        exact ow_lret hx hb hr hW hf dX8_right_71 hlocks
      · replace hf := ow_if_f c30 hf
        refine lv_aload_n hx hb dX8_right_33 rfl (lv_at hl 0 rfl) ?_
        refine lv_iload hx hb dX8_right_34 (lv_at hl 4 rfl) ?_
        refine lv_iload_n hx hb dX8_right_36 rfl (lv_at hl 2 rfl) ?_
        refine lv_aload_n hx hb dX8_right_37 rfl (lv_at hl 0 rfl) ?_
        refine ow_getV (ci := 8) (C := RX8) (T := TX8) (N := 15) hx hb hts hown hG hW ow_i0 (by decide) rfl hinX8 2 (by decide) (fk := 2) rfl (hts (.fieldLink RX8 21 "FiftyOneCards" "heads" "[LFiftyOneCards$Head;") (by decide +kernel)) (v := .ref (ow_ad Z 5)) (ow_vR hW ow_i0.1 ow_i0.2.1 rfl) dX8_right_38 ?_
        refine lv_iload_n hx hb dX8_right_41 rfl (lv_at hl 1 rfl) ?_
        refine ow_rld (f := fun j => 25 + j) (ct := 0) hx hb hG hW ow_i5 ⟨by decide, by decide⟩ rfl ow_ra5 hf dX8_right_42 (fun h_42 hf hi42 => ?_)
        refine lv_aload_n hx hb dX8_right_43 rfl (lv_at hl 0 rfl) ?_
        obtain ⟨r_44, σ_44, hc44, hf⟩ := ow_cl_i hf
        refine ow_callr (va_runV (As := []) (rest := [.ref (ow_ad Z h_42), .int x2, .int x5, .ref (ow_ad Z 0)]) ⟨hx, hb, hml, hown, hts⟩ (c_X8_lawText l Z fu σ r_44 σ_44 hc44) (cwV 0 hts gX8_right_X8_lawText rfl rfl rfl (by decide +kernel) ⟨Nat.le_of_ble_eq_true rfl, Nat.le_of_ble_eq_true rfl⟩) (ow_preV hG hW ow_i0 (by decide) rfl) rfl rfl hl.1 rfl (lv_room (Nat.le_of_ble_eq_true rfl)) dX8_right_44 ⟨Nat.zero_le _, Nat.zero_le _⟩) hW (fun b44 H locs hW => ?_)
        obtain ⟨r_47, σ_47, hc47, hf⟩ := ow_cl_i hf
        refine ow_calli (va_runV (As := [.int x5, .int x2, .ref (ow_ad Z h_42), .ref (ow_ad Z r_44)]) (rest := []) ⟨hx, hb, hml, hown, hts⟩ (c_X8_saysBut l Z fu x5 x2 h_42 hi42 r_44 b44 σ_44 r_47 σ_47 hc47) (cwV 4 hts gX8_right_X8_saysBut rfl rfl rfl (by decide +kernel) ⟨Nat.le_of_ble_eq_true rfl, Nat.le_of_ble_eq_true rfl⟩) (ow_preV hG hW ow_i0 (by decide) rfl) rfl rfl hl.1 rfl (lv_room (Nat.le_of_ble_eq_true rfl)) dX8_right_47 ⟨Nat.zero_le _, Nat.zero_le _⟩) hW (fun H locs hW => ?_)
        refine lv_iload hx hb dX8_right_50 (lv_at hl 4 rfl) ?_
        refine lv_icmp_ne (tgt := 64) hx hb dX8_right_52 (by decide) (fun c52 => ?_) (fun c52 => ?_)
        · replace hf := ow_if_f c52 hf
          exact hJ64 (L_X8_right_24 fu fn) ih x1 x2 x3 x5 σ_47 _ _ _ hf hW (lv_sub hl [0, 1, 2, 3, 4] rfl)
        · replace hf := ow_if_t c52 hf
          refine lv_lload_n hx hb dX8_right_55 rfl (lv_at hl 3 rfl) ?_
          refine lv_lconst (v := 1) hx hb dX8_right_56 (by decide) ?_
          refine lv_iload hx hb dX8_right_57 (lv_at hl 4 rfl) ?_
          refine lv_iconst (v := 1) hx hb dX8_right_59 (by decide) ?_
          refine lv_isub hx hb dX8_right_60 ?_
          refine lv_lshl (v := ((1 : Int64) <<< ((x5 - (1 : Int32)).toInt64 &&& 63))) hx hb dX8_right_61 rfl ?_
          refine lv_lor hx hb dX8_right_62 ?_
          refine ow_topl hf (fun x3_63 hf => ?_)
          refine lv_lstore_n (lv' := [(3, .long x3_63), (0, .ref (ow_ad Z 0)), (1, .int x1), (2, .int x2), (5, .int x5)]) hx hb dX8_right_63 rfl hl (by decide) rfl (fun ls hl => ?_)
          exact hJ64 (L_X8_right_24 fu fn) ih x1 x2 x3_63 x5 σ_47 _ _ _ hf hW (lv_sub hl [1, 2, 3, 0, 4] rfl)
  have hl := lv_entry ([.ref (ow_ad Z 0), .int a1, .int a2]) (n := 6) (Nat.le_of_ble_eq_true rfl)
  refine W.eq (g2 := F0 m 0 ((lg_sl ([.ref (ow_ad Z 0), .int a1, .int a2]) ++ List.replicate (6 - (lg_sl ([.ref (ow_ad Z 0), .int a1, .int a2])).length) Slot.unset).toArray) []) (by rw [hav]; exact lg_entry_eq _ _ _) ?_
  generalize (lg_sl ([.ref (ow_ad Z 0), .int a1, .int a2]) ++ List.replicate (6 - (lg_sl ([.ref (ow_ad Z 0), .int a1, .int a2])).length) Slot.unset).toArray = ls at hl ⊢
  have hl : lv_has ls 6 [(0, .ref (ow_ad Z 0)), (1, .int a1), (2, .int a2)] := hl
  unfold f_X8_right at hf
  refine lv_aload_n hx hb dX8_right_0 rfl (lv_at hl 0 rfl) ?_
  refine lv_iload_n hx hb dX8_right_1 rfl (lv_at hl 1 rfl) ?_
  obtain ⟨r_2, σ_2, hc2, hf⟩ := ow_cl_i hf
  refine ow_callz (va_runV (As := [.int a1]) (rest := []) ⟨hx, hb, hml, hown, hts⟩ (c_X8_isHead l Z fu a1 σ r_2 σ_2 hc2) (cwV 1 hts gX8_right_X8_isHead rfl rfl rfl (by decide +kernel) ⟨Nat.le_of_ble_eq_true rfl, Nat.le_of_ble_eq_true rfl⟩) (ow_preV hG hW ow_i0 (by decide) rfl) rfl rfl hl.1 rfl (lv_room (Nat.le_of_ble_eq_true rfl)) dX8_right_2 ⟨Nat.zero_le _, Nat.zero_le _⟩) hW (fun b2 H locs hW => ?_)
  refine lv_if_eq (tgt := 15) hx hb dX8_right_5 (by decide) (fun c5 => ?_) (fun c5 => ?_)
  · replace hf := ow_if_t c5 hf
    refine lv_ldc2 (v := -4611686018427387904) hx hb hown (hts (.constantLong RX8 232 (-4611686018427387904)) (by decide +kernel)) dX8_right_15 ?_
    exact ow_lret hx hb hr hW hf dX8_right_18 hlocks
  · replace hf := ow_if_f c5 hf
    refine lv_iload_n hx hb dX8_right_8 rfl (lv_at hl 2 rfl) ?_
    obtain ⟨r_9, σ_9, hc9, hf⟩ := ow_cl_i hf
    refine ow_callz (va_runS (As := [.int a2]) (rest := []) ⟨hx, hb, hml, hown, hts⟩ (c_X8_isWay l Z fu a2 σ_2 r_9 σ_9 hc9) (va_cwS 1 hts gX8_right_X8_isWay rfl rfl rfl (by decide +kernel) ⟨Nat.le_of_ble_eq_true rfl, Nat.le_of_ble_eq_true rfl⟩) (ow_preS hG hW) rfl rfl hl.1 rfl (lv_room (Nat.le_of_ble_eq_true rfl)) dX8_right_9 ⟨Nat.zero_le _, Nat.zero_le _⟩) hW (fun b9 H locs hW => ?_)
    refine lv_if_ne (tgt := 19) hx hb dX8_right_12 (by decide) (fun c12 => ?_) (fun c12 => ?_)
    · replace hf := ow_if_f c12 hf
      refine lv_lconst (v := 0) hx hb dX8_right_19 (by decide) ?_
      refine ow_topl hf (fun x3_20 hf => ?_)
      refine lv_lstore_n (lv' := [(3, .long x3_20), (0, .ref (ow_ad Z 0)), (1, .int a1), (2, .int a2)]) hx hb dX8_right_20 rfl hl (by decide) rfl (fun ls hl => ?_)
      refine lv_iconst (v := 1) hx hb dX8_right_21 (by decide) ?_
      refine lv_istore (lv' := [(5, .int (1 : Int32)), (3, .long x3_20), (0, .ref (ow_ad Z 0)), (1, .int a1), (2, .int a2)]) hx hb dX8_right_22 hl (by decide) rfl (fun ls hl => ?_)
      exact hJ24 fu a1 a2 x3_20 (1 : Int32) σ_9 _ _ _ hf hW (lv_sub hl [2, 3, 4, 1, 0] rfl)
    · replace hf := ow_if_t c12 hf
      refine lv_ldc2 (v := -4611686018427387904) hx hb hown (hts (.constantLong RX8 232 (-4611686018427387904)) (by decide +kernel)) dX8_right_15 ?_
      exact ow_lret hx hb hr hW hf dX8_right_18 hlocks
set_option maxHeartbeats 40000000 in
set_option maxRecDepth 100000 in
theorem c_X8_isRightOfAll (l : Launch) (Z : ow_Z) (fu : Nat) (a1 : Nat) (ha1 : ow_in 0 56 a1 0) (σ : ow_S) (rr : Int32) (σr : ow_S) (hf : f_X8_isRightOfAll fu a1 σ = some (rr, σr)) : Met l yX8_isRightOfAll wsX8_isRightOfAll { frames := 7, cells := 0, slots := 0, locals := 205 } (ow_Pc Z 0 56 [.ref (ow_ad Z 0), .ref (ow_ad Z a1)] σ) (ow_Qz Z 0 56 rr σr) 0 0 (ow_A Z 0 56) := by
  refine Met.ofW (cc := cX8_isRightOfAll) (maxL := 3) (ret := (some .boolean)) (by decide) rfl ?_
  intro p e s m args below meth c s₁ B hml hv
  obtain ⟨hav, hB⟩ := hv
  obtain ⟨hG, hW⟩ := ow_begin hB
  have hx := B.exec
  have hb := B.bytes
  have hr := B.returns
  have hts := atoms_spec (ws := wsX8_isRightOfAll) B.pre
  have hown : s.vm.findClass RX8 = some m.cls := findClass_of_methodNamed B.named
  have hlocks := B.notSynchronized
  have hinX8 : ∀ w ∈ wsX80, w ∈ wsX8_isRightOfAll := by decide +kernel
  have hJ2 : ∀ (fn : Nat), ∀ (r1 : Nat) (hr1 : ow_in 0 56 r1 0) (x2 : Int32) (σ : ow_S) (H : Heap) (locs : List Loc) (ls : Array Slot), L_X8_isRightOfAll_2 fu fn r1 x2 σ = some (rr, σr) → ow_Wd Z 0 56 σ s H locs → lv_has ls 3 [(0, .ref (ow_ad Z 0)), (1, .ref (ow_ad Z r1)), (2, .int x2)] → W p l e (headSpec wsX8_isRightOfAll { frames := 7, cells := 0, slots := 0, locals := 205 }).room s m args below meth c H locs 0 0 (MQ below (ow_Qz Z 0 56 rr σr) args s 0 0 (ow_A Z 0 56)) (F0 m 2 ls []) := by
    intro fn
    induction fn with
    | zero => intro r1 hr1 x2 σ H locs ls hf hW hl; simp [L_X8_isRightOfAll_2] at hf
    | succ fn ih =>
      intro r1 hr1 x2 σ H locs ls hf hW hl
      rw [L_X8_isRightOfAll_2] at hf
      refine lv_iload_n hx hb dX8_isRightOfAll_2 rfl (lv_at hl 2 rfl) ?_
      refine lv_aload_n hx hb dX8_isRightOfAll_3 rfl (lv_at hl 0 rfl) ?_
      refine ow_getV (ci := 8) (C := RX8) (T := TX8) (N := 15) hx hb hts hown hG hW ow_i0 (by decide) rfl hinX8 11 (by decide) (fk := 0) rfl (hts (.fieldLink RX8 74 "FiftyOneCards" "pack" "I") (by decide +kernel)) (v := .int (σ.1 0 11)) rfl dX8_isRightOfAll_4 ?_
      refine lv_icmp_gt (tgt := 33) hx hb dX8_isRightOfAll_7 (by decide) (fun c7 => ?_) (fun c7 => ?_)
      · replace hf := ow_if_t c7 hf
        refine lv_iconst (v := 1) hx hb dX8_isRightOfAll_33 (by decide) ?_
        exact ow_zret hx hb hr (Or.inr rfl) hW hf dX8_isRightOfAll_34 hlocks
      · replace hf := ow_if_f c7 hf
        refine lv_aload_n hx hb dX8_isRightOfAll_10 rfl (lv_at hl 0 rfl) ?_
        refine lv_iload_n hx hb dX8_isRightOfAll_11 rfl (lv_at hl 2 rfl) ?_
        refine lv_iconst (v := 0) hx hb dX8_isRightOfAll_12 (by decide) ?_
        refine lv_aload_n hx hb dX8_isRightOfAll_13 rfl (lv_at hl 1 rfl) ?_
        refine lv_aload_n hx hb dX8_isRightOfAll_14 rfl (lv_at hl 0 rfl) ?_
        obtain ⟨r_15, σ_15, hc15, hf⟩ := ow_cl_i hf
        refine ow_callr (va_runV (As := []) (rest := [.ref (ow_ad Z r1), .int (0 : Int32), .int x2, .ref (ow_ad Z 0)]) ⟨hx, hb, hml, hown, hts⟩ (c_X8_lawText l Z fu σ r_15 σ_15 hc15) (cwV 0 hts gX8_isRightOfAll_X8_lawText rfl rfl rfl (by decide +kernel) ⟨Nat.le_of_ble_eq_true rfl, Nat.le_of_ble_eq_true rfl⟩) (ow_preV hG hW ow_i0 (by decide) rfl) rfl rfl hl.1 rfl (lv_room (Nat.le_of_ble_eq_true rfl)) dX8_isRightOfAll_15 ⟨Nat.zero_le _, Nat.zero_le _⟩) hW (fun b15 H locs hW => ?_)
        obtain ⟨r_18, σ_18, hc18, hf⟩ := ow_cl_i hf
        refine ow_calli (va_runV (As := [.int x2, .int (0 : Int32), .ref (ow_ad Z r1), .ref (ow_ad Z r_15)]) (rest := []) ⟨hx, hb, hml, hown, hts⟩ (c_X8_saysBut l Z fu x2 (0 : Int32) r1 hr1 r_15 b15 σ_15 r_18 σ_18 hc18) (cwV 4 hts gX8_isRightOfAll_X8_saysBut rfl rfl rfl (by decide +kernel) ⟨Nat.le_of_ble_eq_true rfl, Nat.le_of_ble_eq_true rfl⟩) (ow_preV hG hW ow_i0 (by decide) rfl) rfl rfl hl.1 rfl (lv_room (Nat.le_of_ble_eq_true rfl)) dX8_isRightOfAll_18 ⟨Nat.zero_le _, Nat.zero_le _⟩) hW (fun H locs hW => ?_)
        refine lv_iload_n hx hb dX8_isRightOfAll_21 rfl (lv_at hl 2 rfl) ?_
        refine lv_icmp_eq (tgt := 27) hx hb dX8_isRightOfAll_22 (by decide) (fun c22 => ?_) (fun c22 => ?_)
        · replace hf := ow_if_t c22 hf
          refine ow_iinc (d := 1) (lv' := fun z => [(2, .int z), (0, .ref (ow_ad Z 0)), (1, .ref (ow_ad Z r1))]) hx hb hf dX8_isRightOfAll_27 hl (k := 2) rfl (by decide) (by decide) (fun z => rfl) (fun x2_27 hf ls hl => ?_)
          refine lv_goto (tgt := 2) hx hb dX8_isRightOfAll_30 (by decide) ?_
          exact ih r1 hr1 x2_27 σ_18 _ _ _ hf hW (lv_sub hl [1, 2, 0] rfl)
        · replace hf := ow_if_f c22 hf
          refine lv_iconst (v := 0) hx hb dX8_isRightOfAll_25 (by decide) ?_
          exact ow_zret hx hb hr (Or.inl rfl) hW hf dX8_isRightOfAll_26 hlocks
  have hl := lv_entry ([.ref (ow_ad Z 0), .ref (ow_ad Z a1)]) (n := 3) (Nat.le_of_ble_eq_true rfl)
  refine W.eq (g2 := F0 m 0 ((lg_sl ([.ref (ow_ad Z 0), .ref (ow_ad Z a1)]) ++ List.replicate (3 - (lg_sl ([.ref (ow_ad Z 0), .ref (ow_ad Z a1)])).length) Slot.unset).toArray) []) (by rw [hav]; exact lg_entry_eq _ _ _) ?_
  generalize (lg_sl ([.ref (ow_ad Z 0), .ref (ow_ad Z a1)]) ++ List.replicate (3 - (lg_sl ([.ref (ow_ad Z 0), .ref (ow_ad Z a1)])).length) Slot.unset).toArray = ls at hl ⊢
  have hl : lv_has ls 3 [(0, .ref (ow_ad Z 0)), (1, .ref (ow_ad Z a1))] := hl
  unfold f_X8_isRightOfAll at hf
  refine lv_iconst (v := 1) hx hb dX8_isRightOfAll_0 (by decide) ?_
  refine lv_istore_n (lv' := [(2, .int (1 : Int32)), (0, .ref (ow_ad Z 0)), (1, .ref (ow_ad Z a1))]) hx hb dX8_isRightOfAll_1 rfl hl (by decide) rfl (fun ls hl => ?_)
  exact hJ2 fu a1 ha1 (1 : Int32) σ _ _ _ hf hW (lv_sub hl [1, 2, 0] rfl)
set_option maxHeartbeats 40000000 in
set_option maxRecDepth 100000 in
theorem c_X8_least (l : Launch) (Z : ow_Z) (fu : Nat) (a1 : Int32) (σ : ow_S) (rr : Int32) (σr : ow_S) (hf : f_X8_least fu a1 σ = some (rr, σr)) : Met l yX8_least wsX8_least { frames := 8, cells := 0, slots := 0, locals := 227 } (ow_Pc Z 0 56 [.ref (ow_ad Z 0), .int a1] σ) (ow_Qi Z 0 56 rr σr) 0 0 (ow_A Z 0 56) := by
  refine Met.ofW (cc := cX8_least) (maxL := 3) (ret := (some .int)) (by decide) rfl ?_
  intro p e s m args below meth c s₁ B hml hv
  obtain ⟨hav, hB⟩ := hv
  obtain ⟨hG, hW⟩ := ow_begin hB
  have hx := B.exec
  have hb := B.bytes
  have hr := B.returns
  have hts := atoms_spec (ws := wsX8_least) B.pre
  have hown : s.vm.findClass RX8 = some m.cls := findClass_of_methodNamed B.named
  have hlocks := B.notSynchronized
  have hinX0 : ∀ w ∈ wsX00, w ∈ wsX8_least := by decide +kernel
  have hinX8 : ∀ w ∈ wsX80, w ∈ wsX8_least := by decide +kernel
  have hJ26 : ∀ (fn : Nat), ∀ (x2 : Int32) (σ : ow_S) (H : Heap) (locs : List Loc) (ls : Array Slot), L_X8_least_26 fu fn x2 σ = some (rr, σr) → ow_Wd Z 0 56 σ s H locs → lv_has ls 3 [(0, .ref (ow_ad Z 0)), (2, .int x2)] → W p l e (headSpec wsX8_least { frames := 8, cells := 0, slots := 0, locals := 227 }).room s m args below meth c H locs 0 0 (MQ below (ow_Qi Z 0 56 rr σr) args s 0 0 (ow_A Z 0 56)) (F0 m 26 ls []) := by
    intro fn
    induction fn with
    | zero => intro x2 σ H locs ls hf hW hl; simp [L_X8_least_26] at hf
    | succ fn ih =>
      intro x2 σ H locs ls hf hW hl
      rw [L_X8_least_26] at hf
      refine lv_iload_n hx hb dX8_least_26 rfl (lv_at hl 1 rfl) ?_
      refine lv_bipush (v := 16) hx hb dX8_least_27 (by decide) ?_
      refine lv_icmp_gt (tgt := 59) hx hb dX8_least_29 (by decide) (fun c29 => ?_) (fun c29 => ?_)
      · replace hf := ow_if_t c29 hf
        refine lv_iconst (v := -1) hx hb dX8_least_59 (by decide) ?_
        exact ow_iret hx hb hr hW hf dX8_least_60 hlocks
      · replace hf := ow_if_f c29 hf
        refine lv_aload_n hx hb dX8_least_32 rfl (lv_at hl 0 rfl) ?_
        refine ow_getV (ci := 8) (C := RX8) (T := TX8) (N := 15) hx hb hts hown hG hW ow_i0 (by decide) rfl hinX8 3 (by decide) (fk := 2) rfl (hts (.fieldLink RX8 26 "FiftyOneCards" "trial" "LFiftyOneCards$Head;") (by decide +kernel)) (v := .ref (ow_ad Z 6)) (ow_vR hW ow_i0.1 ow_i0.2.1 rfl) dX8_least_33 ?_
        refine lv_iload_n hx hb dX8_least_36 rfl (lv_at hl 1 rfl) ?_
        refine ow_putIN (ci := 0) (C := RX0) (T := TX0) (N := 5) hx hb hts hown hG hW ow_i6 (by decide) rfl hinX0 tyX0 tyX0_ok nmX0 2 (by decide) rfl (ow_nwp hG (.fieldLinkNest RX8 197 "FiftyOneCards$Head" "bits" "I" "FiftyOneCards") (by decide +kernel)) rfl rfl rfl hf dX8_least_37 (fun σ_37 H locs hf hW => ?_)
        refine lv_aload_n hx hb dX8_least_40 rfl (lv_at hl 0 rfl) ?_
        refine lv_aload_n hx hb dX8_least_41 rfl (lv_at hl 0 rfl) ?_
        refine ow_getV (ci := 8) (C := RX8) (T := TX8) (N := 15) hx hb hts hown hG hW ow_i0 (by decide) rfl hinX8 3 (by decide) (fk := 2) rfl (hts (.fieldLink RX8 26 "FiftyOneCards" "trial" "LFiftyOneCards$Head;") (by decide +kernel)) (v := .ref (ow_ad Z 6)) (ow_vR hW ow_i0.1 ow_i0.2.1 rfl) dX8_least_42 ?_
        obtain ⟨r_45, σ_45, hc45, hf⟩ := ow_cl_i hf
        refine ow_callz (va_runV (As := [.ref (ow_ad Z 6)]) (rest := []) ⟨hx, hb, hml, hown, hts⟩ (c_X8_isRightOfAll l Z fu 6 ow_i6 σ_37 r_45 σ_45 hc45) (cwV 1 hts gX8_least_X8_isRightOfAll rfl rfl rfl (by decide +kernel) ⟨Nat.le_of_ble_eq_true rfl, Nat.le_of_ble_eq_true rfl⟩) (ow_preV hG hW ow_i0 (by decide) rfl) rfl rfl hl.1 rfl (lv_room (Nat.le_of_ble_eq_true rfl)) dX8_least_45 ⟨Nat.zero_le _, Nat.zero_le _⟩) hW (fun b45 H locs hW => ?_)
        refine lv_if_eq (tgt := 53) hx hb dX8_least_48 (by decide) (fun c48 => ?_) (fun c48 => ?_)
        · replace hf := ow_if_t c48 hf
          refine ow_iinc (d := 1) (lv' := fun z => [(2, .int z), (0, .ref (ow_ad Z 0))]) hx hb hf dX8_least_53 hl (k := 1) rfl (by decide) (by decide) (fun z => rfl) (fun x2_53 hf ls hl => ?_)
          refine lv_goto (tgt := 26) hx hb dX8_least_56 (by decide) ?_
          exact ih x2_53 σ_45 _ _ _ hf hW (lv_sub hl [1, 0] rfl)
        · replace hf := ow_if_f c48 hf
          refine lv_iload_n hx hb dX8_least_51 rfl (lv_at hl 1 rfl) ?_
          exact ow_iret hx hb hr hW hf dX8_least_52 hlocks
  have hl := lv_entry ([.ref (ow_ad Z 0), .int a1]) (n := 3) (Nat.le_of_ble_eq_true rfl)
  refine W.eq (g2 := F0 m 0 ((lg_sl ([.ref (ow_ad Z 0), .int a1]) ++ List.replicate (3 - (lg_sl ([.ref (ow_ad Z 0), .int a1])).length) Slot.unset).toArray) []) (by rw [hav]; exact lg_entry_eq _ _ _) ?_
  generalize (lg_sl ([.ref (ow_ad Z 0), .int a1]) ++ List.replicate (3 - (lg_sl ([.ref (ow_ad Z 0), .int a1])).length) Slot.unset).toArray = ls at hl ⊢
  have hl : lv_has ls 3 [(0, .ref (ow_ad Z 0)), (1, .int a1)] := hl
  unfold f_X8_least at hf
  refine lv_aload_n hx hb dX8_least_0 rfl (lv_at hl 0 rfl) ?_
  refine lv_iload_n hx hb dX8_least_1 rfl (lv_at hl 1 rfl) ?_
  obtain ⟨r_2, σ_2, hc2, hf⟩ := ow_cl_i hf
  refine ow_callz (va_runV (As := [.int a1]) (rest := []) ⟨hx, hb, hml, hown, hts⟩ (c_X8_isHead l Z fu a1 σ r_2 σ_2 hc2) (cwV 1 hts gX8_least_X8_isHead rfl rfl rfl (by decide +kernel) ⟨Nat.le_of_ble_eq_true rfl, Nat.le_of_ble_eq_true rfl⟩) (ow_preV hG hW ow_i0 (by decide) rfl) rfl rfl hl.1 rfl (lv_room (Nat.le_of_ble_eq_true rfl)) dX8_least_2 ⟨Nat.zero_le _, Nat.zero_le _⟩) hW (fun b2 H locs hW => ?_)
  refine lv_if_ne (tgt := 11) hx hb dX8_least_5 (by decide) (fun c5 => ?_) (fun c5 => ?_)
  · replace hf := ow_if_f c5 hf
    refine lv_aload_n hx hb dX8_least_11 rfl (lv_at hl 0 rfl) ?_
    refine ow_getV (ci := 8) (C := RX8) (T := TX8) (N := 15) hx hb hts hown hG hW ow_i0 (by decide) rfl hinX8 3 (by decide) (fk := 2) rfl (hts (.fieldLink RX8 26 "FiftyOneCards" "trial" "LFiftyOneCards$Head;") (by decide +kernel)) (v := .ref (ow_ad Z 6)) (ow_vR hW ow_i0.1 ow_i0.2.1 rfl) dX8_least_12 ?_
    refine lv_aload_n hx hb dX8_least_15 rfl (lv_at hl 0 rfl) ?_
    refine ow_getV (ci := 8) (C := RX8) (T := TX8) (N := 15) hx hb hts hown hG hW ow_i0 (by decide) rfl hinX8 2 (by decide) (fk := 2) rfl (hts (.fieldLink RX8 21 "FiftyOneCards" "heads" "[LFiftyOneCards$Head;") (by decide +kernel)) (v := .ref (ow_ad Z 5)) (ow_vR hW ow_i0.1 ow_i0.2.1 rfl) dX8_least_16 ?_
    refine lv_iload_n hx hb dX8_least_19 rfl (lv_at hl 1 rfl) ?_
    refine ow_rld (f := fun j => 25 + j) (ct := 0) hx hb hG hW ow_i5 ⟨by decide, by decide⟩ rfl ow_ra5 hf dX8_least_20 (fun h_20 hf hi20 => ?_)
    obtain ⟨σ_21, hc21, hf⟩ := ow_cv_i hf
    refine ow_callv (va_runVN (As := [.ref (ow_ad Z h_20)]) (rest := []) ⟨hx, hb, hml, hown, hts⟩ (c_X0_become l Z fu 6 ow_i6 h_20 hi20 σ_2 σ_21  hc21) ⟨va_cnB (host := "FiftyOneCards") 1 hts ggX8_least_X0_become rfl rfl rfl (ow_nwp hG (.methodLinkNest RX8 238 yX0_become "FiftyOneCards") (by decide +kernel)) (hts (.initialized RX0) (by decide +kernel)) (by decide +kernel) ⟨Nat.le_of_ble_eq_true rfl, Nat.le_of_ble_eq_true rfl⟩, hts (.instanceMethod yX0_become) (by decide +kernel), hts (.selects RX0 yX0_become yX0_become) (by decide +kernel)⟩ (ow_preV hG hW ow_i6 (by decide) rfl) rfl rfl hl.1 rfl (lv_room (Nat.le_of_ble_eq_true rfl)) dX8_least_21 ⟨Nat.zero_le _, Nat.zero_le _⟩) hW (fun H locs hW => ?_)
    refine lv_iconst (v := 1) hx hb dX8_least_24 (by decide) ?_
    refine lv_istore_n (lv' := [(2, .int (1 : Int32)), (0, .ref (ow_ad Z 0)), (1, .int a1)]) hx hb dX8_least_25 rfl hl (by decide) rfl (fun ls hl => ?_)
    exact hJ26 fu (1 : Int32) σ_21 _ _ _ hf hW (lv_sub hl [1, 0] rfl)
  · replace hf := ow_if_t c5 hf
    refine lv_bipush (v := -5) hx hb dX8_least_8 (by decide) ?_
    exact ow_iret hx hb hr hW hf dX8_least_10 hlocks
set_option maxHeartbeats 40000000 in
set_option maxRecDepth 100000 in
theorem c_X8_countRight (l : Launch) (Z : ow_Z) (fu : Nat) (a1 : Nat) (ha1 : ow_in 0 56 a1 0) (σ : ow_S) (rr : Int32) (σr : ow_S) (hf : f_X8_countRight fu a1 σ = some (rr, σr)) : Met l yX8_countRight wsX8_countRight { frames := 7, cells := 0, slots := 0, locals := 205 } (ow_Pc Z 0 56 [.ref (ow_ad Z 0), .ref (ow_ad Z a1)] σ) (ow_Qi Z 0 56 rr σr) 0 0 (ow_A Z 0 56) := by
  refine Met.ofW (cc := cX8_countRight) (maxL := 4) (ret := (some .int)) (by decide) rfl ?_
  intro p e s m args below meth c s₁ B hml hv
  obtain ⟨hav, hB⟩ := hv
  obtain ⟨hG, hW⟩ := ow_begin hB
  have hx := B.exec
  have hb := B.bytes
  have hr := B.returns
  have hts := atoms_spec (ws := wsX8_countRight) B.pre
  have hown : s.vm.findClass RX8 = some m.cls := findClass_of_methodNamed B.named
  have hlocks := B.notSynchronized
  have hinX8 : ∀ w ∈ wsX80, w ∈ wsX8_countRight := by decide +kernel
  have hJ30 : ∀ (k4 : Nat → Int32 → Int32 → ow_S → Option (Int32 × ow_S)) (hk4 : ∀ (r1 : Nat) (hr1 : ow_in 0 56 r1 0) (x2 : Int32) (x3 : Int32) (σ : ow_S) (H : Heap) (locs : List Loc) (ls : Array Slot), k4 r1 x2 x3 σ = some (rr, σr) → ow_Wd Z 0 56 σ s H locs → lv_has ls 4 [(0, .ref (ow_ad Z 0)), (1, .ref (ow_ad Z r1)), (2, .int x2), (3, .int x3)] → W p l e (headSpec wsX8_countRight { frames := 7, cells := 0, slots := 0, locals := 205 }).room s m args below meth c H locs 0 0 (MQ below (ow_Qi Z 0 56 rr σr) args s 0 0 (ow_A Z 0 56)) (F0 m 4 ls [])), ∀ (r1 : Nat) (hr1 : ow_in 0 56 r1 0) (x2 : Int32) (x3 : Int32) (σ : ow_S) (H : Heap) (locs : List Loc) (ls : Array Slot), L_X8_countRight_30 fu k4 r1 x2 x3 σ = some (rr, σr) → ow_Wd Z 0 56 σ s H locs → lv_has ls 4 [(0, .ref (ow_ad Z 0)), (1, .ref (ow_ad Z r1)), (2, .int x2), (3, .int x3)] → W p l e (headSpec wsX8_countRight { frames := 7, cells := 0, slots := 0, locals := 205 }).room s m args below meth c H locs 0 0 (MQ below (ow_Qi Z 0 56 rr σr) args s 0 0 (ow_A Z 0 56)) (F0 m 30 ls []) := by
    intro k4 hk4 r1 hr1 x2 x3 σ H locs ls hf hW hl
    unfold L_X8_countRight_30 at hf
    refine ow_iinc (d := 1) (lv' := fun z => [(3, .int z), (0, .ref (ow_ad Z 0)), (1, .ref (ow_ad Z r1)), (2, .int x2)]) hx hb hf dX8_countRight_30 hl (k := 3) rfl (by decide) (by decide) (fun z => rfl) (fun x3_30 hf ls hl => ?_)
    refine lv_goto (tgt := 4) hx hb dX8_countRight_33 (by decide) ?_
    exact hk4 r1 hr1 x2 x3_30 σ _ _ _ hf hW (lv_sub hl [1, 2, 3, 0] rfl)
  have hJ4 : ∀ (fn : Nat), ∀ (r1 : Nat) (hr1 : ow_in 0 56 r1 0) (x2 : Int32) (x3 : Int32) (σ : ow_S) (H : Heap) (locs : List Loc) (ls : Array Slot), L_X8_countRight_4 fu fn r1 x2 x3 σ = some (rr, σr) → ow_Wd Z 0 56 σ s H locs → lv_has ls 4 [(0, .ref (ow_ad Z 0)), (1, .ref (ow_ad Z r1)), (2, .int x2), (3, .int x3)] → W p l e (headSpec wsX8_countRight { frames := 7, cells := 0, slots := 0, locals := 205 }).room s m args below meth c H locs 0 0 (MQ below (ow_Qi Z 0 56 rr σr) args s 0 0 (ow_A Z 0 56)) (F0 m 4 ls []) := by
    intro fn
    induction fn with
    | zero => intro r1 hr1 x2 x3 σ H locs ls hf hW hl; simp [L_X8_countRight_4] at hf
    | succ fn ih =>
      intro r1 hr1 x2 x3 σ H locs ls hf hW hl
      rw [L_X8_countRight_4] at hf
      refine lv_iload_n hx hb dX8_countRight_4 rfl (lv_at hl 3 rfl) ?_
      refine lv_aload_n hx hb dX8_countRight_5 rfl (lv_at hl 0 rfl) ?_
      refine ow_getV (ci := 8) (C := RX8) (T := TX8) (N := 15) hx hb hts hown hG hW ow_i0 (by decide) rfl hinX8 11 (by decide) (fk := 0) rfl (hts (.fieldLink RX8 74 "FiftyOneCards" "pack" "I") (by decide +kernel)) (v := .int (σ.1 0 11)) rfl dX8_countRight_6 ?_
      refine lv_icmp_gt (tgt := 36) hx hb dX8_countRight_9 (by decide) (fun c9 => ?_) (fun c9 => ?_)
      · replace hf := ow_if_t c9 hf
        refine lv_iload_n hx hb dX8_countRight_36 rfl (lv_at hl 2 rfl) ?_
        exact ow_iret hx hb hr hW hf dX8_countRight_37 hlocks
      · replace hf := ow_if_f c9 hf
        refine lv_aload_n hx hb dX8_countRight_12 rfl (lv_at hl 0 rfl) ?_
        refine lv_iload_n hx hb dX8_countRight_13 rfl (lv_at hl 3 rfl) ?_
        refine lv_iconst (v := 0) hx hb dX8_countRight_14 (by decide) ?_
        refine lv_aload_n hx hb dX8_countRight_15 rfl (lv_at hl 1 rfl) ?_
        refine lv_aload_n hx hb dX8_countRight_16 rfl (lv_at hl 0 rfl) ?_
        obtain ⟨r_17, σ_17, hc17, hf⟩ := ow_cl_i hf
        refine ow_callr (va_runV (As := []) (rest := [.ref (ow_ad Z r1), .int (0 : Int32), .int x3, .ref (ow_ad Z 0)]) ⟨hx, hb, hml, hown, hts⟩ (c_X8_lawText l Z fu σ r_17 σ_17 hc17) (cwV 0 hts gX8_countRight_X8_lawText rfl rfl rfl (by decide +kernel) ⟨Nat.le_of_ble_eq_true rfl, Nat.le_of_ble_eq_true rfl⟩) (ow_preV hG hW ow_i0 (by decide) rfl) rfl rfl hl.1 rfl (lv_room (Nat.le_of_ble_eq_true rfl)) dX8_countRight_17 ⟨Nat.zero_le _, Nat.zero_le _⟩) hW (fun b17 H locs hW => ?_)
        obtain ⟨r_20, σ_20, hc20, hf⟩ := ow_cl_i hf
        refine ow_calli (va_runV (As := [.int x3, .int (0 : Int32), .ref (ow_ad Z r1), .ref (ow_ad Z r_17)]) (rest := []) ⟨hx, hb, hml, hown, hts⟩ (c_X8_saysBut l Z fu x3 (0 : Int32) r1 hr1 r_17 b17 σ_17 r_20 σ_20 hc20) (cwV 4 hts gX8_countRight_X8_saysBut rfl rfl rfl (by decide +kernel) ⟨Nat.le_of_ble_eq_true rfl, Nat.le_of_ble_eq_true rfl⟩) (ow_preV hG hW ow_i0 (by decide) rfl) rfl rfl hl.1 rfl (lv_room (Nat.le_of_ble_eq_true rfl)) dX8_countRight_20 ⟨Nat.zero_le _, Nat.zero_le _⟩) hW (fun H locs hW => ?_)
        refine lv_iload_n hx hb dX8_countRight_23 rfl (lv_at hl 3 rfl) ?_
        refine lv_icmp_ne (tgt := 30) hx hb dX8_countRight_24 (by decide) (fun c24 => ?_) (fun c24 => ?_)
        · replace hf := ow_if_f c24 hf
          exact hJ30 (L_X8_countRight_4 fu fn) ih r1 hr1 x2 x3 σ_20 _ _ _ hf hW (lv_sub hl [0, 1, 2, 3] rfl)
        · replace hf := ow_if_t c24 hf
          refine ow_iinc (d := 1) (lv' := fun z => [(2, .int z), (0, .ref (ow_ad Z 0)), (1, .ref (ow_ad Z r1)), (3, .int x3)]) hx hb hf dX8_countRight_27 hl (k := 2) rfl (by decide) (by decide) (fun z => rfl) (fun x2_27 hf ls hl => ?_)
          exact hJ30 (L_X8_countRight_4 fu fn) ih r1 hr1 x2_27 x3 σ_20 _ _ _ hf hW (lv_sub hl [1, 2, 0, 3] rfl)
  have hl := lv_entry ([.ref (ow_ad Z 0), .ref (ow_ad Z a1)]) (n := 4) (Nat.le_of_ble_eq_true rfl)
  refine W.eq (g2 := F0 m 0 ((lg_sl ([.ref (ow_ad Z 0), .ref (ow_ad Z a1)]) ++ List.replicate (4 - (lg_sl ([.ref (ow_ad Z 0), .ref (ow_ad Z a1)])).length) Slot.unset).toArray) []) (by rw [hav]; exact lg_entry_eq _ _ _) ?_
  generalize (lg_sl ([.ref (ow_ad Z 0), .ref (ow_ad Z a1)]) ++ List.replicate (4 - (lg_sl ([.ref (ow_ad Z 0), .ref (ow_ad Z a1)])).length) Slot.unset).toArray = ls at hl ⊢
  have hl : lv_has ls 4 [(0, .ref (ow_ad Z 0)), (1, .ref (ow_ad Z a1))] := hl
  unfold f_X8_countRight at hf
  refine lv_iconst (v := 0) hx hb dX8_countRight_0 (by decide) ?_
  refine lv_istore_n (lv' := [(2, .int (0 : Int32)), (0, .ref (ow_ad Z 0)), (1, .ref (ow_ad Z a1))]) hx hb dX8_countRight_1 rfl hl (by decide) rfl (fun ls hl => ?_)
  refine lv_iconst (v := 1) hx hb dX8_countRight_2 (by decide) ?_
  refine lv_istore_n (lv' := [(3, .int (1 : Int32)), (2, .int (0 : Int32)), (0, .ref (ow_ad Z 0)), (1, .ref (ow_ad Z a1))]) hx hb dX8_countRight_3 rfl hl (by decide) rfl (fun ls hl => ?_)
  exact hJ4 fu a1 ha1 (0 : Int32) (1 : Int32) σ _ _ _ hf hW (lv_sub hl [2, 3, 1, 0] rfl)
set_option maxHeartbeats 40000000 in
set_option maxRecDepth 100000 in
theorem c_X8_begin (l : Launch) (Z : ow_Z) (fu : Nat) (a1 : Int32) (a2 : Int32) (σ : ow_S) (rr : Int32) (σr : ow_S) (hf : f_X8_begin fu a1 a2 σ = some (rr, σr)) : Met l yX8_begin wsX8_begin { frames := 8, cells := 0, slots := 0, locals := 228 } (ow_Pc Z 0 56 [.ref (ow_ad Z 0), .int a1, .int a2] σ) (ow_Qi Z 0 56 rr σr) 0 0 (ow_A Z 0 56) := by
  refine Met.ofW (cc := cX8_begin) (maxL := 7) (ret := (some .int)) (by decide) rfl ?_
  intro p e s m args below meth c s₁ B hml hv
  obtain ⟨hav, hB⟩ := hv
  obtain ⟨hG, hW⟩ := ow_begin hB
  have hx := B.exec
  have hb := B.bytes
  have hr := B.returns
  have hts := atoms_spec (ws := wsX8_begin) B.pre
  have hown : s.vm.findClass RX8 = some m.cls := findClass_of_methodNamed B.named
  have hlocks := B.notSynchronized
  have hinX0 : ∀ w ∈ wsX00, w ∈ wsX8_begin := by decide +kernel
  have hinX8 : ∀ w ∈ wsX80, w ∈ wsX8_begin := by decide +kernel
  have hJ103 : ∀ (k44 : Int32 → Int32 → Int32 → Int32 → ow_S → Option (Int32 × ow_S)) (hk44 : ∀ (x2 : Int32) (x3 : Int32) (x4 : Int32) (x5 : Int32) (σ : ow_S) (H : Heap) (locs : List Loc) (ls : Array Slot), k44 x2 x3 x4 x5 σ = some (rr, σr) → ow_Wd Z 0 56 σ s H locs → lv_has ls 7 [(0, .ref (ow_ad Z 0)), (2, .int x2), (3, .int x3), (4, .int x4), (5, .int x5)] → W p l e (headSpec wsX8_begin { frames := 8, cells := 0, slots := 0, locals := 228 }).room s m args below meth c H locs 0 0 (MQ below (ow_Qi Z 0 56 rr σr) args s 0 0 (ow_A Z 0 56)) (F0 m 44 ls [])), ∀ (x2 : Int32) (x3 : Int32) (x4 : Int32) (x5 : Int32) (σ : ow_S) (H : Heap) (locs : List Loc) (ls : Array Slot), L_X8_begin_103 fu k44 x2 x3 x4 x5 σ = some (rr, σr) → ow_Wd Z 0 56 σ s H locs → lv_has ls 7 [(0, .ref (ow_ad Z 0)), (2, .int x2), (3, .int x3), (4, .int x4), (5, .int x5)] → W p l e (headSpec wsX8_begin { frames := 8, cells := 0, slots := 0, locals := 228 }).room s m args below meth c H locs 0 0 (MQ below (ow_Qi Z 0 56 rr σr) args s 0 0 (ow_A Z 0 56)) (F0 m 103 ls []) := by
    intro k44 hk44 x2 x3 x4 x5 σ H locs ls hf hW hl
    unfold L_X8_begin_103 at hf
    refine ow_iinc (d := 1) (lv' := fun z => [(5, .int z), (0, .ref (ow_ad Z 0)), (2, .int x2), (3, .int x3), (4, .int x4)]) hx hb hf dX8_begin_103 hl (k := 4) rfl (by decide) (by decide) (fun z => rfl) (fun x5_103 hf ls hl => ?_)
    refine lv_goto (tgt := 44) hx hb dX8_begin_106 (by decide) ?_
    exact hk44 x2 x3 x4 x5_103 σ _ _ _ hf hW (lv_sub hl [1, 2, 3, 4, 0] rfl)
  have hJ71 : ∀ (k44 : Int32 → Int32 → Int32 → Int32 → ow_S → Option (Int32 × ow_S)) (hk44 : ∀ (x2 : Int32) (x3 : Int32) (x4 : Int32) (x5 : Int32) (σ : ow_S) (H : Heap) (locs : List Loc) (ls : Array Slot), k44 x2 x3 x4 x5 σ = some (rr, σr) → ow_Wd Z 0 56 σ s H locs → lv_has ls 7 [(0, .ref (ow_ad Z 0)), (2, .int x2), (3, .int x3), (4, .int x4), (5, .int x5)] → W p l e (headSpec wsX8_begin { frames := 8, cells := 0, slots := 0, locals := 228 }).room s m args below meth c H locs 0 0 (MQ below (ow_Qi Z 0 56 rr σr) args s 0 0 (ow_A Z 0 56)) (F0 m 44 ls [])), ∀ (x2 : Int32) (x3 : Int32) (x4 : Int32) (x5 : Int32) (s1 : Int32) (σ : ow_S) (H : Heap) (locs : List Loc) (ls : Array Slot), L_X8_begin_71 fu k44 x2 x3 x4 x5 s1 σ = some (rr, σr) → ow_Wd Z 0 56 σ s H locs → lv_has ls 7 [(0, .ref (ow_ad Z 0)), (2, .int x2), (3, .int x3), (4, .int x4), (5, .int x5)] → W p l e (headSpec wsX8_begin { frames := 8, cells := 0, slots := 0, locals := 228 }).room s m args below meth c H locs 0 0 (MQ below (ow_Qi Z 0 56 rr σr) args s 0 0 (ow_A Z 0 56)) (F0 m 71 ls [.int s1, .ref (ow_ad Z 6)]) := by
    intro k44 hk44 x2 x3 x4 x5 s1 σ H locs ls hf hW hl
    unfold L_X8_begin_71 at hf
    refine ow_putIN (ci := 0) (C := RX0) (T := TX0) (N := 5) hx hb hts hown hG hW ow_i6 (by decide) rfl hinX0 tyX0 tyX0_ok nmX0 3 (by decide) rfl (ow_nwp hG (.fieldLinkNest RX8 200 "FiftyOneCards$Head" "first" "I" "FiftyOneCards") (by decide +kernel)) rfl rfl rfl hf dX8_begin_71 (fun σ_71 H locs hf hW => ?_)
    refine lv_aload_n hx hb dX8_begin_74 rfl (lv_at hl 0 rfl) ?_
    refine lv_aload_n hx hb dX8_begin_75 rfl (lv_at hl 0 rfl) ?_
    refine ow_getV (ci := 8) (C := RX8) (T := TX8) (N := 15) hx hb hts hown hG hW ow_i0 (by decide) rfl hinX8 3 (by decide) (fk := 2) rfl (hts (.fieldLink RX8 26 "FiftyOneCards" "trial" "LFiftyOneCards$Head;") (by decide +kernel)) (v := .ref (ow_ad Z 6)) (ow_vR hW ow_i0.1 ow_i0.2.1 rfl) dX8_begin_76 ?_
    obtain ⟨r_79, σ_79, hc79, hf⟩ := ow_cl_i hf
    refine ow_calli (va_runV (As := [.ref (ow_ad Z 6)]) (rest := []) ⟨hx, hb, hml, hown, hts⟩ (c_X8_countRight l Z fu 6 ow_i6 σ_71 r_79 σ_79 hc79) (cwV 1 hts gX8_begin_X8_countRight rfl rfl rfl (by decide +kernel) ⟨Nat.le_of_ble_eq_true rfl, Nat.le_of_ble_eq_true rfl⟩) (ow_preV hG hW ow_i0 (by decide) rfl) rfl rfl hl.1 rfl (lv_room (Nat.le_of_ble_eq_true rfl)) dX8_begin_79 ⟨Nat.zero_le _, Nat.zero_le _⟩) hW (fun H locs hW => ?_)
    refine lv_istore (lv' := [(6, .int r_79), (0, .ref (ow_ad Z 0)), (2, .int x2), (3, .int x3), (4, .int x4), (5, .int x5)]) hx hb dX8_begin_82 hl (by decide) rfl (fun ls hl => ?_)
    refine lv_iload hx hb dX8_begin_84 (lv_at hl 0 rfl) ?_
    refine lv_iload hx hb dX8_begin_86 (lv_at hl 4 rfl) ?_
    refine lv_icmp_le (tgt := 103) hx hb dX8_begin_88 (by decide) (fun c88 => ?_) (fun c88 => ?_)
    · replace hf := ow_if_t c88 hf
      exact hJ103 k44 hk44 x2 x3 x4 x5 σ_79 _ _ _ hf hW (lv_sub hl [1, 2, 3, 4, 5] rfl)
    · replace hf := ow_if_f c88 hf
      refine lv_iload hx hb dX8_begin_91 (lv_at hl 0 rfl) ?_
      refine lv_istore (lv' := [(4, .int r_79), (6, .int r_79), (0, .ref (ow_ad Z 0)), (2, .int x2), (3, .int x3), (5, .int x5)]) hx hb dX8_begin_93 hl (by decide) rfl (fun ls hl => ?_)
      refine lv_aload_n hx hb dX8_begin_95 rfl (lv_at hl 2 rfl) ?_
      refine ow_getV (ci := 8) (C := RX8) (T := TX8) (N := 15) hx hb hts hown hG hW ow_i0 (by decide) rfl hinX8 3 (by decide) (fk := 2) rfl (hts (.fieldLink RX8 26 "FiftyOneCards" "trial" "LFiftyOneCards$Head;") (by decide +kernel)) (v := .ref (ow_ad Z 6)) (ow_vR hW ow_i0.1 ow_i0.2.1 rfl) dX8_begin_96 ?_
      refine ow_getVN (ci := 0) (C := RX0) (T := TX0) (N := 5) hx hb hts hown hG hW ow_i6 (by decide) rfl hinX0 3 (by decide) (fk := 0) rfl (ow_nwp hG (.fieldLinkNest RX8 200 "FiftyOneCards$Head" "first" "I" "FiftyOneCards") (by decide +kernel)) (v := .int (σ_79.1 6 3)) rfl dX8_begin_99 ?_
      refine ow_topi hf (fun x3_102 hf => ?_)
      refine lv_istore_n (lv' := [(3, .int x3_102), (4, .int r_79), (6, .int r_79), (0, .ref (ow_ad Z 0)), (2, .int x2), (5, .int x5)]) hx hb dX8_begin_102 rfl hl (by decide) rfl (fun ls hl => ?_)
      exact hJ103 k44 hk44 x2 x3_102 r_79 x5 σ_79 _ _ _ hf hW (lv_sub hl [3, 4, 0, 1, 5] rfl)
  have hJ44 : ∀ (fn : Nat), ∀ (x2 : Int32) (x3 : Int32) (x4 : Int32) (x5 : Int32) (σ : ow_S) (H : Heap) (locs : List Loc) (ls : Array Slot), L_X8_begin_44 fu fn x2 x3 x4 x5 σ = some (rr, σr) → ow_Wd Z 0 56 σ s H locs → lv_has ls 7 [(0, .ref (ow_ad Z 0)), (2, .int x2), (3, .int x3), (4, .int x4), (5, .int x5)] → W p l e (headSpec wsX8_begin { frames := 8, cells := 0, slots := 0, locals := 228 }).room s m args below meth c H locs 0 0 (MQ below (ow_Qi Z 0 56 rr σr) args s 0 0 (ow_A Z 0 56)) (F0 m 44 ls []) := by
    intro fn
    induction fn with
    | zero => intro x2 x3 x4 x5 σ H locs ls hf hW hl; simp [L_X8_begin_44] at hf
    | succ fn ih =>
      intro x2 x3 x4 x5 σ H locs ls hf hW hl
      rw [L_X8_begin_44] at hf
      refine lv_iload hx hb dX8_begin_44 (lv_at hl 4 rfl) ?_
      refine lv_bipush (v := 100) hx hb dX8_begin_46 (by decide) ?_
      refine lv_icmp_gt (tgt := 109) hx hb dX8_begin_48 (by decide) (fun c48 => ?_) (fun c48 => ?_)
      · replace hf := ow_if_t c48 hf
        refine lv_iload_n hx hb dX8_begin_109 rfl (lv_at hl 1 rfl) ?_
        refine lv_if_ne (tgt := 117) hx hb dX8_begin_110 (by decide) (fun c110 => ?_) (fun c110 => ?_)
        · replace hf := ow_if_f c110 hf
          refine lv_iload hx hb dX8_begin_117 (lv_at hl 3 rfl) ?_
          exact ow_iret hx hb hr hW hf dX8_begin_119 hlocks
        · replace hf := ow_if_t c110 hf
          refine lv_iload_n hx hb dX8_begin_113 rfl (lv_at hl 2 rfl) ?_
          refine lv_goto (tgt := 119) hx hb dX8_begin_114 (by decide) ?_
          exact ow_iret hx hb hr hW hf dX8_begin_119 hlocks
      · replace hf := ow_if_f c48 hf
        refine lv_aload_n hx hb dX8_begin_51 rfl (lv_at hl 0 rfl) ?_
        refine ow_getV (ci := 8) (C := RX8) (T := TX8) (N := 15) hx hb hts hown hG hW ow_i0 (by decide) rfl hinX8 3 (by decide) (fk := 2) rfl (hts (.fieldLink RX8 26 "FiftyOneCards" "trial" "LFiftyOneCards$Head;") (by decide +kernel)) (v := .ref (ow_ad Z 6)) (ow_vR hW ow_i0.1 ow_i0.2.1 rfl) dX8_begin_52 ?_
        refine lv_iload hx hb dX8_begin_55 (lv_at hl 4 rfl) ?_
        refine lv_bipush (v := 100) hx hb dX8_begin_57 (by decide) ?_
        refine lv_icmp_ge (tgt := 67) hx hb dX8_begin_59 (by decide) (fun c59 => ?_) (fun c59 => ?_)
        · replace hf := ow_if_t c59 hf
          refine lv_aload_n hx hb dX8_begin_67 rfl (lv_at hl 0 rfl) ?_
          obtain ⟨r_68, σ_68, hc68, hf⟩ := ow_cl_i hf
          refine ow_calli (va_runV (As := []) (rest := [.ref (ow_ad Z 6)]) ⟨hx, hb, hml, hown, hts⟩ (c_X8_packSum l Z fu σ r_68 σ_68 hc68) (cwV 0 hts gX8_begin_X8_packSum rfl rfl rfl (by decide +kernel) ⟨Nat.le_of_ble_eq_true rfl, Nat.le_of_ble_eq_true rfl⟩) (ow_preV hG hW ow_i0 (by decide) rfl) rfl rfl hl.1 rfl (lv_room (Nat.le_of_ble_eq_true rfl)) dX8_begin_68 ⟨Nat.zero_le _, Nat.zero_le _⟩) hW (fun H locs hW => ?_)
          exact hJ71 (L_X8_begin_44 fu fn) ih x2 x3 x4 x5 r_68 σ_68 _ _ _ hf hW (lv_sub hl [0, 1, 2, 3, 4] rfl)
        · replace hf := ow_if_f c59 hf
          refine lv_iload hx hb dX8_begin_62 (lv_at hl 4 rfl) ?_
          refine lv_goto (tgt := 71) hx hb dX8_begin_64 (by decide) ?_
          exact hJ71 (L_X8_begin_44 fu fn) ih x2 x3 x4 x5 x5 σ _ _ _ hf hW (lv_sub hl [0, 1, 2, 3, 4] rfl)
  have hl := lv_entry ([.ref (ow_ad Z 0), .int a1, .int a2]) (n := 7) (Nat.le_of_ble_eq_true rfl)
  refine W.eq (g2 := F0 m 0 ((lg_sl ([.ref (ow_ad Z 0), .int a1, .int a2]) ++ List.replicate (7 - (lg_sl ([.ref (ow_ad Z 0), .int a1, .int a2])).length) Slot.unset).toArray) []) (by rw [hav]; exact lg_entry_eq _ _ _) ?_
  generalize (lg_sl ([.ref (ow_ad Z 0), .int a1, .int a2]) ++ List.replicate (7 - (lg_sl ([.ref (ow_ad Z 0), .int a1, .int a2])).length) Slot.unset).toArray = ls at hl ⊢
  have hl : lv_has ls 7 [(0, .ref (ow_ad Z 0)), (1, .int a1), (2, .int a2)] := hl
  unfold f_X8_begin at hf
  refine lv_aload_n hx hb dX8_begin_0 rfl (lv_at hl 0 rfl) ?_
  refine lv_iload_n hx hb dX8_begin_1 rfl (lv_at hl 1 rfl) ?_
  obtain ⟨r_2, σ_2, hc2, hf⟩ := ow_cl_i hf
  refine ow_callz (va_runV (As := [.int a1]) (rest := []) ⟨hx, hb, hml, hown, hts⟩ (c_X8_isHead l Z fu a1 σ r_2 σ_2 hc2) (cwV 1 hts gX8_begin_X8_isHead rfl rfl rfl (by decide +kernel) ⟨Nat.le_of_ble_eq_true rfl, Nat.le_of_ble_eq_true rfl⟩) (ow_preV hG hW ow_i0 (by decide) rfl) rfl rfl hl.1 rfl (lv_room (Nat.le_of_ble_eq_true rfl)) dX8_begin_2 ⟨Nat.zero_le _, Nat.zero_le _⟩) hW (fun b2 H locs hW => ?_)
  refine lv_if_ne (tgt := 11) hx hb dX8_begin_5 (by decide) (fun c5 => ?_) (fun c5 => ?_)
  · replace hf := ow_if_f c5 hf
    refine lv_iload_n hx hb dX8_begin_11 rfl (lv_at hl 2 rfl) ?_
    refine lv_if_lt (tgt := 20) hx hb dX8_begin_12 (by decide) (fun c12 => ?_) (fun c12 => ?_)
    · replace hf := ow_if_t c12 hf
      refine lv_bipush (v := -7) hx hb dX8_begin_20 (by decide) ?_
      exact ow_iret hx hb hr hW hf dX8_begin_22 hlocks
    · replace hf := ow_if_f c12 hf
      refine lv_iload_n hx hb dX8_begin_15 rfl (lv_at hl 2 rfl) ?_
      refine lv_iconst (v := 1) hx hb dX8_begin_16 (by decide) ?_
      refine lv_icmp_le (tgt := 23) hx hb dX8_begin_17 (by decide) (fun c17 => ?_) (fun c17 => ?_)
      · replace hf := ow_if_t c17 hf
        refine lv_aload_n hx hb dX8_begin_23 rfl (lv_at hl 0 rfl) ?_
        refine ow_getV (ci := 8) (C := RX8) (T := TX8) (N := 15) hx hb hts hown hG hW ow_i0 (by decide) rfl hinX8 3 (by decide) (fk := 2) rfl (hts (.fieldLink RX8 26 "FiftyOneCards" "trial" "LFiftyOneCards$Head;") (by decide +kernel)) (v := .ref (ow_ad Z 6)) (ow_vR hW ow_i0.1 ow_i0.2.1 rfl) dX8_begin_24 ?_
        refine lv_aload_n hx hb dX8_begin_27 rfl (lv_at hl 0 rfl) ?_
        refine ow_getV (ci := 8) (C := RX8) (T := TX8) (N := 15) hx hb hts hown hG hW ow_i0 (by decide) rfl hinX8 2 (by decide) (fk := 2) rfl (hts (.fieldLink RX8 21 "FiftyOneCards" "heads" "[LFiftyOneCards$Head;") (by decide +kernel)) (v := .ref (ow_ad Z 5)) (ow_vR hW ow_i0.1 ow_i0.2.1 rfl) dX8_begin_28 ?_
        refine lv_iload_n hx hb dX8_begin_31 rfl (lv_at hl 1 rfl) ?_
        refine ow_rld (f := fun j => 25 + j) (ct := 0) hx hb hG hW ow_i5 ⟨by decide, by decide⟩ rfl ow_ra5 hf dX8_begin_32 (fun h_32 hf hi32 => ?_)
        obtain ⟨σ_33, hc33, hf⟩ := ow_cv_i hf
        refine ow_callv (va_runVN (As := [.ref (ow_ad Z h_32)]) (rest := []) ⟨hx, hb, hml, hown, hts⟩ (c_X0_become l Z fu 6 ow_i6 h_32 hi32 σ_2 σ_33  hc33) ⟨va_cnB (host := "FiftyOneCards") 1 hts ggX8_begin_X0_become rfl rfl rfl (ow_nwp hG (.methodLinkNest RX8 238 yX0_become "FiftyOneCards") (by decide +kernel)) (hts (.initialized RX0) (by decide +kernel)) (by decide +kernel) ⟨Nat.le_of_ble_eq_true rfl, Nat.le_of_ble_eq_true rfl⟩, hts (.instanceMethod yX0_become) (by decide +kernel), hts (.selects RX0 yX0_become yX0_become) (by decide +kernel)⟩ (ow_preV hG hW ow_i6 (by decide) rfl) rfl rfl hl.1 rfl (lv_room (Nat.le_of_ble_eq_true rfl)) dX8_begin_33 ⟨Nat.zero_le _, Nat.zero_le _⟩) hW (fun H locs hW => ?_)
        refine lv_iconst (v := 0) hx hb dX8_begin_36 (by decide) ?_
        refine lv_istore_n (lv' := [(3, .int (0 : Int32)), (0, .ref (ow_ad Z 0)), (1, .int a1), (2, .int a2)]) hx hb dX8_begin_37 rfl hl (by decide) rfl (fun ls hl => ?_)
        refine lv_iconst (v := -1) hx hb dX8_begin_38 (by decide) ?_
        refine lv_istore (lv' := [(4, .int (-1 : Int32)), (3, .int (0 : Int32)), (0, .ref (ow_ad Z 0)), (1, .int a1), (2, .int a2)]) hx hb dX8_begin_39 hl (by decide) rfl (fun ls hl => ?_)
        refine lv_iconst (v := 0) hx hb dX8_begin_41 (by decide) ?_
        refine lv_istore (lv' := [(5, .int (0 : Int32)), (4, .int (-1 : Int32)), (3, .int (0 : Int32)), (0, .ref (ow_ad Z 0)), (1, .int a1), (2, .int a2)]) hx hb dX8_begin_42 hl (by decide) rfl (fun ls hl => ?_)
        exact hJ44 fu a2 (0 : Int32) (-1 : Int32) (0 : Int32) σ_33 _ _ _ hf hW (lv_sub hl [3, 5, 2, 1, 0] rfl)
      · replace hf := ow_if_f c17 hf
        refine lv_bipush (v := -7) hx hb dX8_begin_20 (by decide) ?_
        exact ow_iret hx hb hr hW hf dX8_begin_22 hlocks
  · replace hf := ow_if_t c5 hf
    refine lv_bipush (v := -5) hx hb dX8_begin_8 (by decide) ?_
    exact ow_iret hx hb hr hW hf dX8_begin_10 hlocks
set_option maxHeartbeats 40000000 in
set_option maxRecDepth 100000 in
theorem c_X8_same (l : Launch) (Z : ow_Z) (fu : Nat) (a1 : Int32) (a2 : Int32) (σ : ow_S) (rr : Int32) (σr : ow_S) (hf : f_X8_same fu a1 a2 σ = some (rr, σr)) : Met l yX8_same wsX8_same { frames := 7, cells := 0, slots := 0, locals := 203 } (ow_Pc Z 0 56 [.ref (ow_ad Z 0), .int a1, .int a2] σ) (ow_Qi Z 0 56 rr σr) 0 0 (ow_A Z 0 56) := by
  refine Met.ofW (cc := cX8_same) (maxL := 3) (ret := (some .int)) (by decide) rfl ?_
  intro p e s m args below meth c s₁ B hml hv
  obtain ⟨hav, hB⟩ := hv
  obtain ⟨hG, hW⟩ := ow_begin hB
  have hx := B.exec
  have hb := B.bytes
  have hr := B.returns
  have hts := atoms_spec (ws := wsX8_same) B.pre
  have hown : s.vm.findClass RX8 = some m.cls := findClass_of_methodNamed B.named
  have hlocks := B.notSynchronized
  have hinX8 : ∀ w ∈ wsX80, w ∈ wsX8_same := by decide +kernel
  have hl := lv_entry ([.ref (ow_ad Z 0), .int a1, .int a2]) (n := 3) (Nat.le_of_ble_eq_true rfl)
  refine W.eq (g2 := F0 m 0 ((lg_sl ([.ref (ow_ad Z 0), .int a1, .int a2]) ++ List.replicate (3 - (lg_sl ([.ref (ow_ad Z 0), .int a1, .int a2])).length) Slot.unset).toArray) []) (by rw [hav]; exact lg_entry_eq _ _ _) ?_
  generalize (lg_sl ([.ref (ow_ad Z 0), .int a1, .int a2]) ++ List.replicate (3 - (lg_sl ([.ref (ow_ad Z 0), .int a1, .int a2])).length) Slot.unset).toArray = ls at hl ⊢
  have hl : lv_has ls 3 [(0, .ref (ow_ad Z 0)), (1, .int a1), (2, .int a2)] := hl
  unfold f_X8_same at hf
  refine lv_aload_n hx hb dX8_same_0 rfl (lv_at hl 0 rfl) ?_
  refine lv_iload_n hx hb dX8_same_1 rfl (lv_at hl 1 rfl) ?_
  obtain ⟨r_2, σ_2, hc2, hf⟩ := ow_cl_i hf
  refine ow_callz (va_runV (As := [.int a1]) (rest := []) ⟨hx, hb, hml, hown, hts⟩ (c_X8_isHead l Z fu a1 σ r_2 σ_2 hc2) (cwV 1 hts gX8_same_X8_isHead rfl rfl rfl (by decide +kernel) ⟨Nat.le_of_ble_eq_true rfl, Nat.le_of_ble_eq_true rfl⟩) (ow_preV hG hW ow_i0 (by decide) rfl) rfl rfl hl.1 rfl (lv_room (Nat.le_of_ble_eq_true rfl)) dX8_same_2 ⟨Nat.zero_le _, Nat.zero_le _⟩) hW (fun b2 H locs hW => ?_)
  refine lv_if_ne (tgt := 11) hx hb dX8_same_5 (by decide) (fun c5 => ?_) (fun c5 => ?_)
  · replace hf := ow_if_f c5 hf
    refine lv_iload_n hx hb dX8_same_11 rfl (lv_at hl 2 rfl) ?_
    refine lv_if_lt (tgt := 20) hx hb dX8_same_12 (by decide) (fun c12 => ?_) (fun c12 => ?_)
    · replace hf := ow_if_t c12 hf
      refine lv_bipush (v := -7) hx hb dX8_same_20 (by decide) ?_
      exact ow_iret hx hb hr hW hf dX8_same_22 hlocks
    · replace hf := ow_if_f c12 hf
      refine lv_iload_n hx hb dX8_same_15 rfl (lv_at hl 2 rfl) ?_
      refine lv_iconst (v := 1) hx hb dX8_same_16 (by decide) ?_
      refine lv_icmp_le (tgt := 23) hx hb dX8_same_17 (by decide) (fun c17 => ?_) (fun c17 => ?_)
      · replace hf := ow_if_t c17 hf
        refine lv_aload_n hx hb dX8_same_23 rfl (lv_at hl 0 rfl) ?_
        refine ow_getV (ci := 8) (C := RX8) (T := TX8) (N := 15) hx hb hts hown hG hW ow_i0 (by decide) rfl hinX8 1 (by decide) (fk := 2) rfl (hts (.fieldLink RX8 16 "FiftyOneCards" "trialRow" "LFiftyOneCards$Row;") (by decide +kernel)) (v := .ref (ow_ad Z 3)) (ow_vR hW ow_i0.1 ow_i0.2.1 rfl) dX8_same_24 ?_
        refine lv_aload_n hx hb dX8_same_27 rfl (lv_at hl 0 rfl) ?_
        refine ow_getV (ci := 8) (C := RX8) (T := TX8) (N := 15) hx hb hts hown hG hW ow_i0 (by decide) rfl hinX8 0 (by decide) (fk := 2) rfl (hts (.fieldLink RX8 10 "FiftyOneCards" "row" "LFiftyOneCards$Row;") (by decide +kernel)) (v := .ref (ow_ad Z 1)) (ow_vR hW ow_i0.1 ow_i0.2.1 rfl) dX8_same_28 ?_
        obtain ⟨σ_31, hc31, hf⟩ := ow_cv_i hf
        refine ow_callv (va_runVN (As := [.ref (ow_ad Z 1)]) (rest := []) ⟨hx, hb, hml, hown, hts⟩ (c_X4_become l Z fu 3 ow_i3 1 ow_i1 σ_2 σ_31  hc31) ⟨va_cnB (host := "FiftyOneCards") 1 hts ggX8_same_X4_become rfl rfl rfl (ow_nwp hG (.methodLinkNest RX8 250 yX4_become "FiftyOneCards") (by decide +kernel)) (hts (.initialized RX4) (by decide +kernel)) (by decide +kernel) ⟨Nat.le_of_ble_eq_true rfl, Nat.le_of_ble_eq_true rfl⟩, hts (.instanceMethod yX4_become) (by decide +kernel), hts (.selects RX4 yX4_become yX4_become) (by decide +kernel)⟩ (ow_preV hG hW ow_i3 (by decide) rfl) rfl rfl hl.1 rfl (lv_room (Nat.le_of_ble_eq_true rfl)) dX8_same_31 ⟨Nat.zero_le _, Nat.zero_le _⟩) hW (fun H locs hW => ?_)
        refine lv_aload_n hx hb dX8_same_34 rfl (lv_at hl 0 rfl) ?_
        refine ow_getV (ci := 8) (C := RX8) (T := TX8) (N := 15) hx hb hts hown hG hW ow_i0 (by decide) rfl hinX8 1 (by decide) (fk := 2) rfl (hts (.fieldLink RX8 16 "FiftyOneCards" "trialRow" "LFiftyOneCards$Row;") (by decide +kernel)) (v := .ref (ow_ad Z 3)) (ow_vR hW ow_i0.1 ow_i0.2.1 rfl) dX8_same_35 ?_
        refine lv_iload_n hx hb dX8_same_38 rfl (lv_at hl 2 rfl) ?_
        obtain ⟨σ_39, hc39, hf⟩ := ow_cv_i hf
        refine ow_callv (va_runVN (As := [.int a2]) (rest := []) ⟨hx, hb, hml, hown, hts⟩ (c_X4_beTurned l Z fu 3 ow_i3 a2 σ_31 σ_39  hc39) ⟨va_cnB (host := "FiftyOneCards") 1 hts ggX8_same_X4_beTurned rfl rfl rfl (ow_nwp hG (.methodLinkNest RX8 135 yX4_beTurned "FiftyOneCards") (by decide +kernel)) (hts (.initialized RX4) (by decide +kernel)) (by decide +kernel) ⟨Nat.le_of_ble_eq_true rfl, Nat.le_of_ble_eq_true rfl⟩, hts (.instanceMethod yX4_beTurned) (by decide +kernel), hts (.selects RX4 yX4_beTurned yX4_beTurned) (by decide +kernel)⟩ (ow_preV hG hW ow_i3 (by decide) rfl) rfl rfl hl.1 rfl (lv_room (Nat.le_of_ble_eq_true rfl)) dX8_same_39 ⟨Nat.zero_le _, Nat.zero_le _⟩) hW (fun H locs hW => ?_)
        refine lv_aload_n hx hb dX8_same_42 rfl (lv_at hl 0 rfl) ?_
        refine lv_aload_n hx hb dX8_same_43 rfl (lv_at hl 0 rfl) ?_
        refine ow_getV (ci := 8) (C := RX8) (T := TX8) (N := 15) hx hb hts hown hG hW ow_i0 (by decide) rfl hinX8 2 (by decide) (fk := 2) rfl (hts (.fieldLink RX8 21 "FiftyOneCards" "heads" "[LFiftyOneCards$Head;") (by decide +kernel)) (v := .ref (ow_ad Z 5)) (ow_vR hW ow_i0.1 ow_i0.2.1 rfl) dX8_same_44 ?_
        refine lv_iload_n hx hb dX8_same_47 rfl (lv_at hl 1 rfl) ?_
        refine ow_rld (f := fun j => 25 + j) (ct := 0) hx hb hG hW ow_i5 ⟨by decide, by decide⟩ rfl ow_ra5 hf dX8_same_48 (fun h_48 hf hi48 => ?_)
        refine lv_aload_n hx hb dX8_same_49 rfl (lv_at hl 0 rfl) ?_
        refine ow_getV (ci := 8) (C := RX8) (T := TX8) (N := 15) hx hb hts hown hG hW ow_i0 (by decide) rfl hinX8 0 (by decide) (fk := 2) rfl (hts (.fieldLink RX8 10 "FiftyOneCards" "row" "LFiftyOneCards$Row;") (by decide +kernel)) (v := .ref (ow_ad Z 1)) (ow_vR hW ow_i0.1 ow_i0.2.1 rfl) dX8_same_50 ?_
        obtain ⟨r_53, σ_53, hc53, hf⟩ := ow_cl_i hf
        refine ow_calli (va_runV (As := [.ref (ow_ad Z h_48), .ref (ow_ad Z 1)]) (rest := []) ⟨hx, hb, hml, hown, hts⟩ (c_X8_saysOf l Z fu h_48 hi48 1 ow_i1 σ_39 r_53 σ_53 hc53) (cwV 2 hts gX8_same_X8_saysOf rfl rfl rfl (by decide +kernel) ⟨Nat.le_of_ble_eq_true rfl, Nat.le_of_ble_eq_true rfl⟩) (ow_preV hG hW ow_i0 (by decide) rfl) rfl rfl hl.1 rfl (lv_room (Nat.le_of_ble_eq_true rfl)) dX8_same_53 ⟨Nat.zero_le _, Nat.zero_le _⟩) hW (fun H locs hW => ?_)
        refine lv_aload_n hx hb dX8_same_56 rfl (lv_at hl 0 rfl) ?_
        refine lv_aload_n hx hb dX8_same_57 rfl (lv_at hl 0 rfl) ?_
        refine ow_getV (ci := 8) (C := RX8) (T := TX8) (N := 15) hx hb hts hown hG hW ow_i0 (by decide) rfl hinX8 2 (by decide) (fk := 2) rfl (hts (.fieldLink RX8 21 "FiftyOneCards" "heads" "[LFiftyOneCards$Head;") (by decide +kernel)) (v := .ref (ow_ad Z 5)) (ow_vR hW ow_i0.1 ow_i0.2.1 rfl) dX8_same_58 ?_
        refine lv_iload_n hx hb dX8_same_61 rfl (lv_at hl 1 rfl) ?_
        refine ow_rld (f := fun j => 25 + j) (ct := 0) hx hb hG hW ow_i5 ⟨by decide, by decide⟩ rfl ow_ra5 hf dX8_same_62 (fun h_62 hf hi62 => ?_)
        refine lv_aload_n hx hb dX8_same_63 rfl (lv_at hl 0 rfl) ?_
        refine ow_getV (ci := 8) (C := RX8) (T := TX8) (N := 15) hx hb hts hown hG hW ow_i0 (by decide) rfl hinX8 1 (by decide) (fk := 2) rfl (hts (.fieldLink RX8 16 "FiftyOneCards" "trialRow" "LFiftyOneCards$Row;") (by decide +kernel)) (v := .ref (ow_ad Z 3)) (ow_vR hW ow_i0.1 ow_i0.2.1 rfl) dX8_same_64 ?_
        obtain ⟨r_67, σ_67, hc67, hf⟩ := ow_cl_i hf
        refine ow_calli (va_runV (As := [.ref (ow_ad Z h_62), .ref (ow_ad Z 3)]) (rest := [.int r_53]) ⟨hx, hb, hml, hown, hts⟩ (c_X8_saysOf l Z fu h_62 hi62 3 ow_i3 σ_53 r_67 σ_67 hc67) (cwV 2 hts gX8_same_X8_saysOf rfl rfl rfl (by decide +kernel) ⟨Nat.le_of_ble_eq_true rfl, Nat.le_of_ble_eq_true rfl⟩) (ow_preV hG hW ow_i0 (by decide) rfl) rfl rfl hl.1 rfl (lv_room (Nat.le_of_ble_eq_true rfl)) dX8_same_67 ⟨Nat.zero_le _, Nat.zero_le _⟩) hW (fun H locs hW => ?_)
        refine lv_icmp_ne (tgt := 77) hx hb dX8_same_70 (by decide) (fun c70 => ?_) (fun c70 => ?_)
        · replace hf := ow_if_f c70 hf
          refine lv_iconst (v := 0) hx hb dX8_same_77 (by decide) ?_
          exact ow_iret hx hb hr hW hf dX8_same_78 hlocks
        · replace hf := ow_if_t c70 hf
          refine lv_iconst (v := 1) hx hb dX8_same_73 (by decide) ?_
          refine lv_goto (tgt := 78) hx hb dX8_same_74 (by decide) ?_
          exact ow_iret hx hb hr hW hf dX8_same_78 hlocks
      · replace hf := ow_if_f c17 hf
        refine lv_bipush (v := -7) hx hb dX8_same_20 (by decide) ?_
        exact ow_iret hx hb hr hW hf dX8_same_22 hlocks
  · replace hf := ow_if_t c5 hf
    refine lv_bipush (v := -5) hx hb dX8_same_8 (by decide) ?_
    exact ow_iret hx hb hr hW hf dX8_same_10 hlocks
set_option maxHeartbeats 40000000 in
set_option maxRecDepth 100000 in
theorem c_X8_share (l : Launch) (Z : ow_Z) (fu : Nat) (a1 : Int32) (a2 : Int32) (σ : ow_S) (rr : Int32) (σr : ow_S) (hf : f_X8_share fu a1 a2 σ = some (rr, σr)) : Met l yX8_share wsX8_share { frames := 7, cells := 0, slots := 0, locals := 203 } (ow_Pc Z 0 56 [.ref (ow_ad Z 0), .int a1, .int a2] σ) (ow_Qi Z 0 56 rr σr) 0 0 (ow_A Z 0 56) := by
  refine Met.ofW (cc := cX8_share) (maxL := 4) (ret := (some .int)) (by decide) rfl ?_
  intro p e s m args below meth c s₁ B hml hv
  obtain ⟨hav, hB⟩ := hv
  obtain ⟨hG, hW⟩ := ow_begin hB
  have hx := B.exec
  have hb := B.bytes
  have hr := B.returns
  have hts := atoms_spec (ws := wsX8_share) B.pre
  have hown : s.vm.findClass RX8 = some m.cls := findClass_of_methodNamed B.named
  have hlocks := B.notSynchronized
  have hinX8 : ∀ w ∈ wsX80, w ∈ wsX8_share := by decide +kernel
  have hl := lv_entry ([.ref (ow_ad Z 0), .int a1, .int a2]) (n := 4) (Nat.le_of_ble_eq_true rfl)
  refine W.eq (g2 := F0 m 0 ((lg_sl ([.ref (ow_ad Z 0), .int a1, .int a2]) ++ List.replicate (4 - (lg_sl ([.ref (ow_ad Z 0), .int a1, .int a2])).length) Slot.unset).toArray) []) (by rw [hav]; exact lg_entry_eq _ _ _) ?_
  generalize (lg_sl ([.ref (ow_ad Z 0), .int a1, .int a2]) ++ List.replicate (4 - (lg_sl ([.ref (ow_ad Z 0), .int a1, .int a2])).length) Slot.unset).toArray = ls at hl ⊢
  have hl : lv_has ls 4 [(0, .ref (ow_ad Z 0)), (1, .int a1), (2, .int a2)] := hl
  unfold f_X8_share at hf
  refine lv_aload_n hx hb dX8_share_0 rfl (lv_at hl 0 rfl) ?_
  refine lv_iload_n hx hb dX8_share_1 rfl (lv_at hl 1 rfl) ?_
  obtain ⟨r_2, σ_2, hc2, hf⟩ := ow_cl_i hf
  refine ow_callz (va_runV (As := [.int a1]) (rest := []) ⟨hx, hb, hml, hown, hts⟩ (c_X8_isHead l Z fu a1 σ r_2 σ_2 hc2) (cwV 1 hts gX8_share_X8_isHead rfl rfl rfl (by decide +kernel) ⟨Nat.le_of_ble_eq_true rfl, Nat.le_of_ble_eq_true rfl⟩) (ow_preV hG hW ow_i0 (by decide) rfl) rfl rfl hl.1 rfl (lv_room (Nat.le_of_ble_eq_true rfl)) dX8_share_2 ⟨Nat.zero_le _, Nat.zero_le _⟩) hW (fun b2 H locs hW => ?_)
  refine lv_if_eq (tgt := 16) hx hb dX8_share_5 (by decide) (fun c5 => ?_) (fun c5 => ?_)
  · replace hf := ow_if_t c5 hf
    refine lv_ldc (v := -1000005) hx hb hown (hts (.constant RX8 217 (-1000005)) (by decide +kernel)) dX8_share_16 ?_
    exact ow_iret hx hb hr hW hf dX8_share_18 hlocks
  · replace hf := ow_if_f c5 hf
    refine lv_aload_n hx hb dX8_share_8 rfl (lv_at hl 0 rfl) ?_
    refine lv_iload_n hx hb dX8_share_9 rfl (lv_at hl 2 rfl) ?_
    obtain ⟨r_10, σ_10, hc10, hf⟩ := ow_cl_i hf
    refine ow_callz (va_runV (As := [.int a2]) (rest := []) ⟨hx, hb, hml, hown, hts⟩ (c_X8_isHead l Z fu a2 σ_2 r_10 σ_10 hc10) (cwV 1 hts gX8_share_X8_isHead rfl rfl rfl (by decide +kernel) ⟨Nat.le_of_ble_eq_true rfl, Nat.le_of_ble_eq_true rfl⟩) (ow_preV hG hW ow_i0 (by decide) rfl) rfl rfl hl.1 rfl (lv_room (Nat.le_of_ble_eq_true rfl)) dX8_share_10 ⟨Nat.zero_le _, Nat.zero_le _⟩) hW (fun b10 H locs hW => ?_)
    refine lv_if_ne (tgt := 19) hx hb dX8_share_13 (by decide) (fun c13 => ?_) (fun c13 => ?_)
    · replace hf := ow_if_f c13 hf
      refine lv_aload_n hx hb dX8_share_19 rfl (lv_at hl 0 rfl) ?_
      refine ow_getV (ci := 8) (C := RX8) (T := TX8) (N := 15) hx hb hts hown hG hW ow_i0 (by decide) rfl hinX8 1 (by decide) (fk := 2) rfl (hts (.fieldLink RX8 16 "FiftyOneCards" "trialRow" "LFiftyOneCards$Row;") (by decide +kernel)) (v := .ref (ow_ad Z 3)) (ow_vR hW ow_i0.1 ow_i0.2.1 rfl) dX8_share_20 ?_
      refine lv_aload_n hx hb dX8_share_23 rfl (lv_at hl 0 rfl) ?_
      refine ow_getV (ci := 8) (C := RX8) (T := TX8) (N := 15) hx hb hts hown hG hW ow_i0 (by decide) rfl hinX8 0 (by decide) (fk := 2) rfl (hts (.fieldLink RX8 10 "FiftyOneCards" "row" "LFiftyOneCards$Row;") (by decide +kernel)) (v := .ref (ow_ad Z 1)) (ow_vR hW ow_i0.1 ow_i0.2.1 rfl) dX8_share_24 ?_
      refine lv_iconst (v := 0) hx hb dX8_share_27 (by decide) ?_
      obtain ⟨σ_28, hc28, hf⟩ := ow_cv_i hf
      refine ow_callv (va_runVN (As := [.ref (ow_ad Z 1), .int (0 : Int32)]) (rest := []) ⟨hx, hb, hml, hown, hts⟩ (c_X4_becomeEverySecond l Z fu 3 ow_i3 1 ow_i1 (0 : Int32) σ_10 σ_28  hc28) ⟨va_cnB (host := "FiftyOneCards") 2 hts ggX8_share_X4_becomeEverySecond rfl rfl rfl (ow_nwp hG (.methodLinkNest RX8 253 yX4_becomeEverySecond "FiftyOneCards") (by decide +kernel)) (hts (.initialized RX4) (by decide +kernel)) (by decide +kernel) ⟨Nat.le_of_ble_eq_true rfl, Nat.le_of_ble_eq_true rfl⟩, hts (.instanceMethod yX4_becomeEverySecond) (by decide +kernel), hts (.selects RX4 yX4_becomeEverySecond yX4_becomeEverySecond) (by decide +kernel)⟩ (ow_preV hG hW ow_i3 (by decide) rfl) rfl rfl hl.1 rfl (lv_room (Nat.le_of_ble_eq_true rfl)) dX8_share_28 ⟨Nat.zero_le _, Nat.zero_le _⟩) hW (fun H locs hW => ?_)
      refine lv_aload_n hx hb dX8_share_31 rfl (lv_at hl 0 rfl) ?_
      refine lv_aload_n hx hb dX8_share_32 rfl (lv_at hl 0 rfl) ?_
      refine ow_getV (ci := 8) (C := RX8) (T := TX8) (N := 15) hx hb hts hown hG hW ow_i0 (by decide) rfl hinX8 2 (by decide) (fk := 2) rfl (hts (.fieldLink RX8 21 "FiftyOneCards" "heads" "[LFiftyOneCards$Head;") (by decide +kernel)) (v := .ref (ow_ad Z 5)) (ow_vR hW ow_i0.1 ow_i0.2.1 rfl) dX8_share_33 ?_
      refine lv_iload_n hx hb dX8_share_36 rfl (lv_at hl 1 rfl) ?_
      refine ow_rld (f := fun j => 25 + j) (ct := 0) hx hb hG hW ow_i5 ⟨by decide, by decide⟩ rfl ow_ra5 hf dX8_share_37 (fun h_37 hf hi37 => ?_)
      refine lv_aload_n hx hb dX8_share_38 rfl (lv_at hl 0 rfl) ?_
      refine ow_getV (ci := 8) (C := RX8) (T := TX8) (N := 15) hx hb hts hown hG hW ow_i0 (by decide) rfl hinX8 1 (by decide) (fk := 2) rfl (hts (.fieldLink RX8 16 "FiftyOneCards" "trialRow" "LFiftyOneCards$Row;") (by decide +kernel)) (v := .ref (ow_ad Z 3)) (ow_vR hW ow_i0.1 ow_i0.2.1 rfl) dX8_share_39 ?_
      obtain ⟨r_42, σ_42, hc42, hf⟩ := ow_cl_i hf
      refine ow_calli (va_runV (As := [.ref (ow_ad Z h_37), .ref (ow_ad Z 3)]) (rest := []) ⟨hx, hb, hml, hown, hts⟩ (c_X8_saysOf l Z fu h_37 hi37 3 ow_i3 σ_28 r_42 σ_42 hc42) (cwV 2 hts gX8_share_X8_saysOf rfl rfl rfl (by decide +kernel) ⟨Nat.le_of_ble_eq_true rfl, Nat.le_of_ble_eq_true rfl⟩) (ow_preV hG hW ow_i0 (by decide) rfl) rfl rfl hl.1 rfl (lv_room (Nat.le_of_ble_eq_true rfl)) dX8_share_42 ⟨Nat.zero_le _, Nat.zero_le _⟩) hW (fun H locs hW => ?_)
      refine lv_istore_n (lv' := [(3, .int r_42), (0, .ref (ow_ad Z 0)), (1, .int a1), (2, .int a2)]) hx hb dX8_share_45 rfl hl (by decide) rfl (fun ls hl => ?_)
      refine lv_aload_n hx hb dX8_share_46 rfl (lv_at hl 1 rfl) ?_
      refine ow_getV (ci := 8) (C := RX8) (T := TX8) (N := 15) hx hb hts hown hG hW ow_i0 (by decide) rfl hinX8 1 (by decide) (fk := 2) rfl (hts (.fieldLink RX8 16 "FiftyOneCards" "trialRow" "LFiftyOneCards$Row;") (by decide +kernel)) (v := .ref (ow_ad Z 3)) (ow_vR hW ow_i0.1 ow_i0.2.1 rfl) dX8_share_47 ?_
      refine lv_aload_n hx hb dX8_share_50 rfl (lv_at hl 1 rfl) ?_
      refine ow_getV (ci := 8) (C := RX8) (T := TX8) (N := 15) hx hb hts hown hG hW ow_i0 (by decide) rfl hinX8 0 (by decide) (fk := 2) rfl (hts (.fieldLink RX8 10 "FiftyOneCards" "row" "LFiftyOneCards$Row;") (by decide +kernel)) (v := .ref (ow_ad Z 1)) (ow_vR hW ow_i0.1 ow_i0.2.1 rfl) dX8_share_51 ?_
      refine lv_iconst (v := 1) hx hb dX8_share_54 (by decide) ?_
      obtain ⟨σ_55, hc55, hf⟩ := ow_cv_i hf
      refine ow_callv (va_runVN (As := [.ref (ow_ad Z 1), .int (1 : Int32)]) (rest := []) ⟨hx, hb, hml, hown, hts⟩ (c_X4_becomeEverySecond l Z fu 3 ow_i3 1 ow_i1 (1 : Int32) σ_42 σ_55  hc55) ⟨va_cnB (host := "FiftyOneCards") 2 hts ggX8_share_X4_becomeEverySecond rfl rfl rfl (ow_nwp hG (.methodLinkNest RX8 253 yX4_becomeEverySecond "FiftyOneCards") (by decide +kernel)) (hts (.initialized RX4) (by decide +kernel)) (by decide +kernel) ⟨Nat.le_of_ble_eq_true rfl, Nat.le_of_ble_eq_true rfl⟩, hts (.instanceMethod yX4_becomeEverySecond) (by decide +kernel), hts (.selects RX4 yX4_becomeEverySecond yX4_becomeEverySecond) (by decide +kernel)⟩ (ow_preV hG hW ow_i3 (by decide) rfl) rfl rfl hl.1 rfl (lv_room (Nat.le_of_ble_eq_true rfl)) dX8_share_55 ⟨Nat.zero_le _, Nat.zero_le _⟩) hW (fun H locs hW => ?_)
      refine lv_iload_n hx hb dX8_share_58 rfl (lv_at hl 0 rfl) ?_
      refine lv_aload_n hx hb dX8_share_59 rfl (lv_at hl 1 rfl) ?_
      refine lv_aload_n hx hb dX8_share_60 rfl (lv_at hl 1 rfl) ?_
      refine ow_getV (ci := 8) (C := RX8) (T := TX8) (N := 15) hx hb hts hown hG hW ow_i0 (by decide) rfl hinX8 2 (by decide) (fk := 2) rfl (hts (.fieldLink RX8 21 "FiftyOneCards" "heads" "[LFiftyOneCards$Head;") (by decide +kernel)) (v := .ref (ow_ad Z 5)) (ow_vR hW ow_i0.1 ow_i0.2.1 rfl) dX8_share_61 ?_
      refine lv_iload_n hx hb dX8_share_64 rfl (lv_at hl 3 rfl) ?_
      refine ow_rld (f := fun j => 25 + j) (ct := 0) hx hb hG hW ow_i5 ⟨by decide, by decide⟩ rfl ow_ra5 hf dX8_share_65 (fun h_65 hf hi65 => ?_)
      refine lv_aload_n hx hb dX8_share_66 rfl (lv_at hl 1 rfl) ?_
      refine ow_getV (ci := 8) (C := RX8) (T := TX8) (N := 15) hx hb hts hown hG hW ow_i0 (by decide) rfl hinX8 1 (by decide) (fk := 2) rfl (hts (.fieldLink RX8 16 "FiftyOneCards" "trialRow" "LFiftyOneCards$Row;") (by decide +kernel)) (v := .ref (ow_ad Z 3)) (ow_vR hW ow_i0.1 ow_i0.2.1 rfl) dX8_share_67 ?_
      obtain ⟨r_70, σ_70, hc70, hf⟩ := ow_cl_i hf
      refine ow_calli (va_runV (As := [.ref (ow_ad Z h_65), .ref (ow_ad Z 3)]) (rest := [.int r_42]) ⟨hx, hb, hml, hown, hts⟩ (c_X8_saysOf l Z fu h_65 hi65 3 ow_i3 σ_55 r_70 σ_70 hc70) (cwV 2 hts gX8_share_X8_saysOf rfl rfl rfl (by decide +kernel) ⟨Nat.le_of_ble_eq_true rfl, Nat.le_of_ble_eq_true rfl⟩) (ow_preV hG hW ow_i0 (by decide) rfl) rfl rfl hl.1 rfl (lv_room (Nat.le_of_ble_eq_true rfl)) dX8_share_70 ⟨Nat.zero_le _, Nat.zero_le _⟩) hW (fun H locs hW => ?_)
      refine lv_iadd hx hb dX8_share_73 ?_
      exact ow_iret hx hb hr hW hf dX8_share_74 hlocks
    · replace hf := ow_if_t c13 hf
      refine lv_ldc (v := -1000005) hx hb hown (hts (.constant RX8 217 (-1000005)) (by decide +kernel)) dX8_share_16 ?_
      exact ow_iret hx hb hr hW hf dX8_share_18 hlocks
set_option maxHeartbeats 40000000 in
set_option maxRecDepth 100000 in
theorem c_X8_extendPairs (l : Launch) (Z : ow_Z) (fu : Nat) (a1 : Nat) (ha1 : ow_in 0 56 a1 0) (a2 : Int32) (a3 : Int32) (a4 : Int32) (a5 : Int32) (σ : ow_S) (rr : Int32) (σr : ow_S) (hf : f_X8_extendPairs fu a1 a2 a3 a4 a5 σ = some (rr, σr)) : Met l yX8_extendPairs wsX8_extendPairs { frames := 4, cells := 0, slots := 0, locals := 132 } (ow_Pc Z 0 56 [.ref (ow_ad Z 0), .ref (ow_ad Z a1), .int a2, .int a3, .int a4, .int a5] σ) (ow_Qi Z 0 56 rr σr) 0 0 (ow_A Z 0 56) := by
  refine Met.ofW (cc := cX8_extendPairs) (maxL := 9) (ret := (some .int)) (by decide) rfl ?_
  intro p e s m args below meth c s₁ B hml hv
  obtain ⟨hav, hB⟩ := hv
  obtain ⟨hG, hW⟩ := ow_begin hB
  have hx := B.exec
  have hb := B.bytes
  have hr := B.returns
  have hts := atoms_spec (ws := wsX8_extendPairs) B.pre
  have hown : s.vm.findClass RX8 = some m.cls := findClass_of_methodNamed B.named
  have hlocks := B.notSynchronized
  have hinX8 : ∀ w ∈ wsX80, w ∈ wsX8_extendPairs := by decide +kernel
  have hJ80 : ∀ (k8 : Nat → Int32 → Int32 → Int32 → Int32 → Int32 → ow_S → Option (Int32 × ow_S)) (hk8 : ∀ (r1 : Nat) (hr1 : ow_in 0 56 r1 0) (x2 : Int32) (x3 : Int32) (x5 : Int32) (x6 : Int32) (x7 : Int32) (σ : ow_S) (H : Heap) (locs : List Loc) (ls : Array Slot), k8 r1 x2 x3 x5 x6 x7 σ = some (rr, σr) → ow_Wd Z 0 56 σ s H locs → lv_has ls 9 [(0, .ref (ow_ad Z 0)), (1, .ref (ow_ad Z r1)), (2, .int x2), (3, .int x3), (5, .int x5), (6, .int x6), (7, .int x7)] → W p l e (headSpec wsX8_extendPairs { frames := 4, cells := 0, slots := 0, locals := 132 }).room s m args below meth c H locs 0 0 (MQ below (ow_Qi Z 0 56 rr σr) args s 0 0 (ow_A Z 0 56)) (F0 m 8 ls [])), ∀ (r1 : Nat) (hr1 : ow_in 0 56 r1 0) (x2 : Int32) (x3 : Int32) (x5 : Int32) (x6 : Int32) (x7 : Int32) (σ : ow_S) (H : Heap) (locs : List Loc) (ls : Array Slot), L_X8_extendPairs_80 fu k8 r1 x2 x3 x5 x6 x7 σ = some (rr, σr) → ow_Wd Z 0 56 σ s H locs → lv_has ls 9 [(0, .ref (ow_ad Z 0)), (1, .ref (ow_ad Z r1)), (2, .int x2), (3, .int x3), (5, .int x5), (6, .int x6), (7, .int x7)] → W p l e (headSpec wsX8_extendPairs { frames := 4, cells := 0, slots := 0, locals := 132 }).room s m args below meth c H locs 0 0 (MQ below (ow_Qi Z 0 56 rr σr) args s 0 0 (ow_A Z 0 56)) (F0 m 80 ls []) := by
    intro k8 hk8 r1 hr1 x2 x3 x5 x6 x7 σ H locs ls hf hW hl
    unfold L_X8_extendPairs_80 at hf
    refine ow_iinc (d := 1) (lv' := fun z => [(7, .int z), (0, .ref (ow_ad Z 0)), (1, .ref (ow_ad Z r1)), (2, .int x2), (3, .int x3), (5, .int x5), (6, .int x6)]) hx hb hf dX8_extendPairs_80 hl (k := 6) rfl (by decide) (by decide) (fun z => rfl) (fun x7_80 hf ls hl => ?_)
    refine lv_goto (tgt := 8) hx hb dX8_extendPairs_83 (by decide) ?_
    exact hk8 r1 hr1 x2 x3 x5 x6 x7_80 σ _ _ _ hf hW (lv_sub hl [1, 2, 3, 4, 5, 6, 0] rfl)
  have hJ18 : ∀ (k8 : Nat → Int32 → Int32 → Int32 → Int32 → Int32 → ow_S → Option (Int32 × ow_S)) (hk8 : ∀ (r1 : Nat) (hr1 : ow_in 0 56 r1 0) (x2 : Int32) (x3 : Int32) (x5 : Int32) (x6 : Int32) (x7 : Int32) (σ : ow_S) (H : Heap) (locs : List Loc) (ls : Array Slot), k8 r1 x2 x3 x5 x6 x7 σ = some (rr, σr) → ow_Wd Z 0 56 σ s H locs → lv_has ls 9 [(0, .ref (ow_ad Z 0)), (1, .ref (ow_ad Z r1)), (2, .int x2), (3, .int x3), (5, .int x5), (6, .int x6), (7, .int x7)] → W p l e (headSpec wsX8_extendPairs { frames := 4, cells := 0, slots := 0, locals := 132 }).room s m args below meth c H locs 0 0 (MQ below (ow_Qi Z 0 56 rr σr) args s 0 0 (ow_A Z 0 56)) (F0 m 8 ls [])), ∀ (fn : Nat), ∀ (r1 : Nat) (hr1 : ow_in 0 56 r1 0) (x2 : Int32) (x3 : Int32) (x5 : Int32) (x6 : Int32) (x7 : Int32) (x8 : Int32) (σ : ow_S) (H : Heap) (locs : List Loc) (ls : Array Slot), L_X8_extendPairs_18 fu k8 fn r1 x2 x3 x5 x6 x7 x8 σ = some (rr, σr) → ow_Wd Z 0 56 σ s H locs → lv_has ls 9 [(0, .ref (ow_ad Z 0)), (1, .ref (ow_ad Z r1)), (2, .int x2), (3, .int x3), (5, .int x5), (6, .int x6), (7, .int x7), (8, .int x8)] → W p l e (headSpec wsX8_extendPairs { frames := 4, cells := 0, slots := 0, locals := 132 }).room s m args below meth c H locs 0 0 (MQ below (ow_Qi Z 0 56 rr σr) args s 0 0 (ow_A Z 0 56)) (F0 m 18 ls []) := by
    intro k8 hk8 fn
    induction fn with
    | zero => intro r1 hr1 x2 x3 x5 x6 x7 x8 σ H locs ls hf hW hl; simp [L_X8_extendPairs_18] at hf
    | succ fn ih =>
      intro r1 hr1 x2 x3 x5 x6 x7 x8 σ H locs ls hf hW hl
      rw [L_X8_extendPairs_18] at hf
      refine lv_iload hx hb dX8_extendPairs_18 (lv_at hl 7 rfl) ?_
      refine lv_iload_n hx hb dX8_extendPairs_20 rfl (lv_at hl 2 rfl) ?_
      refine lv_icmp_gt (tgt := 80) hx hb dX8_extendPairs_21 (by decide) (fun c21 => ?_) (fun c21 => ?_)
      · replace hf := ow_if_t c21 hf
        exact hJ80 k8 hk8 r1 hr1 x2 x3 x5 x6 x7 σ _ _ _ hf hW (lv_sub hl [0, 1, 2, 3, 4, 5, 6] rfl)
      · replace hf := ow_if_f c21 hf
        refine lv_iload hx hb dX8_extendPairs_24 (lv_at hl 5 rfl) ?_
        refine lv_sipush (v := 259) hx hb dX8_extendPairs_26 (by decide) ?_
        refine lv_icmp_ge (tgt := 80) hx hb dX8_extendPairs_29 (by decide) (fun c29 => ?_) (fun c29 => ?_)
        · replace hf := ow_if_t c29 hf
          exact hJ80 k8 hk8 r1 hr1 x2 x3 x5 x6 x7 σ _ _ _ hf hW (lv_sub hl [0, 1, 2, 3, 4, 5, 6] rfl)
        · replace hf := ow_if_f c29 hf
          refine lv_aload_n hx hb dX8_extendPairs_32 rfl (lv_at hl 0 rfl) ?_
          refine ow_getV (ci := 8) (C := RX8) (T := TX8) (N := 15) hx hb hts hown hG hW ow_i0 (by decide) rfl hinX8 6 (by decide) (fk := 2) rfl (hts (.fieldLink RX8 46 "FiftyOneCards" "walk" "LFiftyOneCards$Walk;") (by decide +kernel)) (v := .ref (ow_ad Z 10)) (ow_vR hW ow_i0.1 ow_i0.2.1 rfl) dX8_extendPairs_33 ?_
          refine lv_aload_n hx hb dX8_extendPairs_36 rfl (lv_at hl 0 rfl) ?_
          refine ow_getV (ci := 8) (C := RX8) (T := TX8) (N := 15) hx hb hts hown hG hW ow_i0 (by decide) rfl hinX8 8 (by decide) (fk := 2) rfl (hts (.fieldLink RX8 57 "FiftyOneCards" "pairs" "[I") (by decide +kernel)) (v := .ref (ow_ad Z 14)) (ow_vR hW ow_i0.1 ow_i0.2.1 rfl) dX8_extendPairs_37 ?_
          refine lv_iload hx hb dX8_extendPairs_40 (lv_at hl 6 rfl) ?_
          obtain ⟨q42, hf⟩ := ow_ck_i hf
          refine ow_ild (q := x7.toNatClampNeg) hx hb hG hW ow_i14 rfl q42 rfl dX8_extendPairs_42 ?_
          obtain ⟨σ_43, hc43, hf⟩ := ow_cv_i hf
          refine ow_callv (va_runVN (As := [.int (σ.1 14 x7.toNatClampNeg)]) (rest := []) ⟨hx, hb, hml, hown, hts⟩ (c_X7_keepPair l Z fu (σ.1 14 x7.toNatClampNeg) σ σ_43  hc43) ⟨va_cnB (host := "FiftyOneCards") 1 hts ggX8_extendPairs_X7_keepPair rfl rfl rfl (ow_nwp hG (.methodLinkNest RX8 345 yX7_keepPair "FiftyOneCards") (by decide +kernel)) (hts (.initialized RX7) (by decide +kernel)) (by decide +kernel) ⟨Nat.le_of_ble_eq_true rfl, Nat.le_of_ble_eq_true rfl⟩, hts (.instanceMethod yX7_keepPair) (by decide +kernel), hts (.selects RX7 yX7_keepPair yX7_keepPair) (by decide +kernel)⟩ (ow_preV hG hW ow_i10 (by decide) rfl) rfl rfl hl.1 rfl (lv_room (Nat.le_of_ble_eq_true rfl)) dX8_extendPairs_43 ⟨Nat.zero_le _, Nat.zero_le _⟩) hW (fun H locs hW => ?_)
          refine lv_aload_n hx hb dX8_extendPairs_46 rfl (lv_at hl 0 rfl) ?_
          refine ow_getV (ci := 8) (C := RX8) (T := TX8) (N := 15) hx hb hts hown hG hW ow_i0 (by decide) rfl hinX8 6 (by decide) (fk := 2) rfl (hts (.fieldLink RX8 46 "FiftyOneCards" "walk" "LFiftyOneCards$Walk;") (by decide +kernel)) (v := .ref (ow_ad Z 10)) (ow_vR hW ow_i0.1 ow_i0.2.1 rfl) dX8_extendPairs_47 ?_
          refine lv_aload_n hx hb dX8_extendPairs_50 rfl (lv_at hl 1 rfl) ?_
          refine lv_iload hx hb dX8_extendPairs_51 (lv_at hl 7 rfl) ?_
          refine lv_iload_n hx hb dX8_extendPairs_53 rfl (lv_at hl 3 rfl) ?_
          obtain ⟨σ_54, hc54, hf⟩ := ow_cv_i hf
          refine ow_callv (va_runVN (As := [.ref (ow_ad Z r1), .int x8, .int x3]) (rest := []) ⟨hx, hb, hml, hown, hts⟩ (c_X7_pass l Z fu r1 hr1 x8 x3 σ_43 σ_54  hc54) ⟨va_cnB (host := "FiftyOneCards") 3 hts ggX8_extendPairs_X7_pass rfl rfl rfl (ow_nwp hG (.methodLinkNest RX8 348 yX7_pass "FiftyOneCards") (by decide +kernel)) (hts (.initialized RX7) (by decide +kernel)) (by decide +kernel) ⟨Nat.le_of_ble_eq_true rfl, Nat.le_of_ble_eq_true rfl⟩, hts (.instanceMethod yX7_pass) (by decide +kernel), hts (.selects RX7 yX7_pass yX7_pass) (by decide +kernel)⟩ (ow_preV hG hW ow_i10 (by decide) rfl) rfl rfl hl.1 rfl (lv_room (Nat.le_of_ble_eq_true rfl)) dX8_extendPairs_54 ⟨Nat.zero_le _, Nat.zero_le _⟩) hW (fun H locs hW => ?_)
          refine lv_aload_n hx hb dX8_extendPairs_57 rfl (lv_at hl 0 rfl) ?_
          refine ow_getV (ci := 8) (C := RX8) (T := TX8) (N := 15) hx hb hts hown hG hW ow_i0 (by decide) rfl hinX8 8 (by decide) (fk := 2) rfl (hts (.fieldLink RX8 57 "FiftyOneCards" "pairs" "[I") (by decide +kernel)) (v := .ref (ow_ad Z 14)) (ow_vR hW ow_i0.1 ow_i0.2.1 rfl) dX8_extendPairs_58 ?_
          refine lv_iload hx hb dX8_extendPairs_61 (lv_at hl 5 rfl) ?_
          refine lv_aload_n hx hb dX8_extendPairs_63 rfl (lv_at hl 0 rfl) ?_
          refine ow_getV (ci := 8) (C := RX8) (T := TX8) (N := 15) hx hb hts hown hG hW ow_i0 (by decide) rfl hinX8 6 (by decide) (fk := 2) rfl (hts (.fieldLink RX8 46 "FiftyOneCards" "walk" "LFiftyOneCards$Walk;") (by decide +kernel)) (v := .ref (ow_ad Z 10)) (ow_vR hW ow_i0.1 ow_i0.2.1 rfl) dX8_extendPairs_64 ?_
          obtain ⟨r_67, σ_67, hc67, hf⟩ := ow_cl_i hf
          refine ow_calli (va_runVN (As := []) (rest := [.int x6, .ref (ow_ad Z 14)]) ⟨hx, hb, hml, hown, hts⟩ (c_X7_pair l Z fu σ_54 r_67 σ_67 hc67) ⟨va_cnB (host := "FiftyOneCards") 0 hts ggX8_extendPairs_X7_pair rfl rfl rfl (ow_nwp hG (.methodLinkNest RX8 257 yX7_pair "FiftyOneCards") (by decide +kernel)) (hts (.initialized RX7) (by decide +kernel)) (by decide +kernel) ⟨Nat.le_of_ble_eq_true rfl, Nat.le_of_ble_eq_true rfl⟩, hts (.instanceMethod yX7_pair) (by decide +kernel), hts (.selects RX7 yX7_pair yX7_pair) (by decide +kernel)⟩ (ow_preV hG hW ow_i10 (by decide) rfl) rfl rfl hl.1 rfl (lv_room (Nat.le_of_ble_eq_true rfl)) dX8_extendPairs_67 ⟨Nat.zero_le _, Nat.zero_le _⟩) hW (fun H locs hW => ?_)
          obtain ⟨q70, hf⟩ := ow_ck_i hf
          refine ow_ist (q := x6.toNatClampNeg) hx hb hG hW ow_i14 rfl q70 rfl hf dX8_extendPairs_70 (fun σ_70 H locs hf hW => ?_)
          refine ow_iinc (d := 1) (lv' := fun z => [(6, .int z), (0, .ref (ow_ad Z 0)), (1, .ref (ow_ad Z r1)), (2, .int x2), (3, .int x3), (5, .int x5), (7, .int x7), (8, .int x8)]) hx hb hf dX8_extendPairs_71 hl (k := 5) rfl (by decide) (by decide) (fun z => rfl) (fun x6_71 hf ls hl => ?_)
          refine ow_iinc (d := 1) (lv' := fun z => [(8, .int z), (6, .int x6_71), (0, .ref (ow_ad Z 0)), (1, .ref (ow_ad Z r1)), (2, .int x2), (3, .int x3), (5, .int x5), (7, .int x7)]) hx hb hf dX8_extendPairs_74 hl (k := 7) rfl (by decide) (by decide) (fun z => rfl) (fun x8_74 hf ls hl => ?_)
          refine lv_goto (tgt := 18) hx hb dX8_extendPairs_77 (by decide) ?_
          exact ih r1 hr1 x2 x3 x5 x6_71 x7 x8_74 σ_70 _ _ _ hf hW (lv_sub hl [2, 3, 4, 5, 6, 1, 7, 0] rfl)
  have hJ8 : ∀ (fn : Nat), ∀ (r1 : Nat) (hr1 : ow_in 0 56 r1 0) (x2 : Int32) (x3 : Int32) (x5 : Int32) (x6 : Int32) (x7 : Int32) (σ : ow_S) (H : Heap) (locs : List Loc) (ls : Array Slot), L_X8_extendPairs_8 fu fn r1 x2 x3 x5 x6 x7 σ = some (rr, σr) → ow_Wd Z 0 56 σ s H locs → lv_has ls 9 [(0, .ref (ow_ad Z 0)), (1, .ref (ow_ad Z r1)), (2, .int x2), (3, .int x3), (5, .int x5), (6, .int x6), (7, .int x7)] → W p l e (headSpec wsX8_extendPairs { frames := 4, cells := 0, slots := 0, locals := 132 }).room s m args below meth c H locs 0 0 (MQ below (ow_Qi Z 0 56 rr σr) args s 0 0 (ow_A Z 0 56)) (F0 m 8 ls []) := by
    intro fn
    induction fn with
    | zero => intro r1 hr1 x2 x3 x5 x6 x7 σ H locs ls hf hW hl; simp [L_X8_extendPairs_8] at hf
    | succ fn ih =>
      intro r1 hr1 x2 x3 x5 x6 x7 σ H locs ls hf hW hl
      rw [L_X8_extendPairs_8] at hf
      refine lv_iload hx hb dX8_extendPairs_8 (lv_at hl 6 rfl) ?_
      refine lv_iload hx hb dX8_extendPairs_10 (lv_at hl 4 rfl) ?_
      refine lv_icmp_ge (tgt := 86) hx hb dX8_extendPairs_12 (by decide) (fun c12 => ?_) (fun c12 => ?_)
      · replace hf := ow_if_t c12 hf
        refine lv_iload hx hb dX8_extendPairs_86 (lv_at hl 5 rfl) ?_
        exact ow_iret hx hb hr hW hf dX8_extendPairs_88 hlocks
      · replace hf := ow_if_f c12 hf
        refine lv_iconst (v := 1) hx hb dX8_extendPairs_15 (by decide) ?_
        refine lv_istore (lv' := [(8, .int (1 : Int32)), (0, .ref (ow_ad Z 0)), (1, .ref (ow_ad Z r1)), (2, .int x2), (3, .int x3), (5, .int x5), (6, .int x6), (7, .int x7)]) hx hb dX8_extendPairs_16 hl (by decide) rfl (fun ls hl => ?_)
        exact hJ18 (L_X8_extendPairs_8 fu fn) ih fu r1 hr1 x2 x3 x5 x6 x7 (1 : Int32) σ _ _ _ hf hW (lv_sub hl [1, 2, 3, 4, 5, 6, 7, 0] rfl)
  have hl := lv_entry ([.ref (ow_ad Z 0), .ref (ow_ad Z a1), .int a2, .int a3, .int a4, .int a5]) (n := 9) (Nat.le_of_ble_eq_true rfl)
  refine W.eq (g2 := F0 m 0 ((lg_sl ([.ref (ow_ad Z 0), .ref (ow_ad Z a1), .int a2, .int a3, .int a4, .int a5]) ++ List.replicate (9 - (lg_sl ([.ref (ow_ad Z 0), .ref (ow_ad Z a1), .int a2, .int a3, .int a4, .int a5])).length) Slot.unset).toArray) []) (by rw [hav]; exact lg_entry_eq _ _ _) ?_
  generalize (lg_sl ([.ref (ow_ad Z 0), .ref (ow_ad Z a1), .int a2, .int a3, .int a4, .int a5]) ++ List.replicate (9 - (lg_sl ([.ref (ow_ad Z 0), .ref (ow_ad Z a1), .int a2, .int a3, .int a4, .int a5])).length) Slot.unset).toArray = ls at hl ⊢
  have hl : lv_has ls 9 [(0, .ref (ow_ad Z 0)), (1, .ref (ow_ad Z a1)), (2, .int a2), (3, .int a3), (4, .int a4), (5, .int a5)] := hl
  unfold f_X8_extendPairs at hf
  refine lv_iload hx hb dX8_extendPairs_0 (lv_at hl 5 rfl) ?_
  refine lv_istore (lv' := [(6, .int a5), (0, .ref (ow_ad Z 0)), (1, .ref (ow_ad Z a1)), (2, .int a2), (3, .int a3), (4, .int a4), (5, .int a5)]) hx hb dX8_extendPairs_2 hl (by decide) rfl (fun ls hl => ?_)
  refine lv_iload hx hb dX8_extendPairs_4 (lv_at hl 5 rfl) ?_
  refine lv_istore (lv' := [(7, .int a4), (6, .int a5), (0, .ref (ow_ad Z 0)), (1, .ref (ow_ad Z a1)), (2, .int a2), (3, .int a3), (4, .int a4), (5, .int a5)]) hx hb dX8_extendPairs_6 hl (by decide) rfl (fun ls hl => ?_)
  exact hJ8 fu a1 ha1 a2 a3 a5 a5 a4 σ _ _ _ hf hW (lv_sub hl [2, 3, 4, 5, 7, 1, 0] rfl)
