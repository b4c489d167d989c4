set_option maxHeartbeats 40000000 in
set_option maxRecDepth 100000 in
theorem c_X8_deal (l : Launch) (Z : ow_Z) (fu : Nat) (a1 : Int32) (σ : ow_S) (rr : Int32) (σr : ow_S) (hf : f_X8_deal fu a1 σ = some (rr, σr)) : Met l yX8_deal wsX8_deal { frames := 3, cells := 0, slots := 0, locals := 104 } (ow_Pc Z 0 56 [.ref (ow_ad Z 0), .int a1] σ) (ow_Qi Z 0 56 rr σr) 0 0 (ow_A Z 0 56) := by
  refine Met.ofW (cc := cX8_deal) (maxL := 3) (ret := (some .int)) (by decide) rfl ?_
  intro p e s m args below meth c s₁ B hml hv
  obtain ⟨hav, hB⟩ := hv
  obtain ⟨hG, hW⟩ := ow_begin hB
  have hx := B.exec
  have hb := B.bytes
  have hr := B.returns
  have hts := atoms_spec (ws := wsX8_deal) B.pre
  have hown : s.vm.findClass RX8 = some m.cls := findClass_of_methodNamed B.named
  have hlocks := B.notSynchronized
  have hinX8 : ∀ w ∈ wsX80, w ∈ wsX8_deal := by decide +kernel
  have hl := lv_entry ([.ref (ow_ad Z 0), .int a1]) (n := 3) (Nat.le_of_ble_eq_true rfl)
  refine W.eq (g2 := F0 m 0 ((lg_sl ([.ref (ow_ad Z 0), .int a1]) ++ List.replicate (3 - (lg_sl ([.ref (ow_ad Z 0), .int a1])).length) Slot.unset).toArray) []) (by rw [hav]; exact lg_entry_eq _ _ _) ?_
  generalize (lg_sl ([.ref (ow_ad Z 0), .int a1]) ++ List.replicate (3 - (lg_sl ([.ref (ow_ad Z 0), .int a1])).length) Slot.unset).toArray = ls at hl ⊢
  have hl : lv_has ls 3 [(0, .ref (ow_ad Z 0)), (1, .int a1)] := hl
  unfold f_X8_deal at hf
  refine lv_iload_n hx hb dX8_deal_0 rfl (lv_at hl 1 rfl) ?_
  refine lv_iconst (v := 1) hx hb dX8_deal_1 (by decide) ?_
  refine lv_icmp_lt (tgt := 11) hx hb dX8_deal_2 (by decide) (fun c2 => ?_) (fun c2 => ?_)
  · replace hf := ow_if_t c2 hf
    refine lv_bipush (v := -2) hx hb dX8_deal_11 (by decide) ?_
    exact ow_iret hx hb hr hW hf dX8_deal_13 hlocks
  · replace hf := ow_if_f c2 hf
    refine lv_iload_n hx hb dX8_deal_5 rfl (lv_at hl 1 rfl) ?_
    refine lv_bipush (v := 52) hx hb dX8_deal_6 (by decide) ?_
    refine lv_icmp_le (tgt := 14) hx hb dX8_deal_8 (by decide) (fun c8 => ?_) (fun c8 => ?_)
    · replace hf := ow_if_t c8 hf
      refine lv_aload_n hx hb dX8_deal_14 rfl (lv_at hl 0 rfl) ?_
      refine ow_getV (ci := 8) (C := RX8) (T := TX8) (N := 15) hx hb hts hown hG hW ow_i0 (by decide) rfl hinX8 11 (by decide) (fk := 0) rfl (hts (.fieldLink RX8 74 "FiftyOneCards" "pack" "I") (by decide +kernel)) (v := .int (σ.1 0 11)) rfl dX8_deal_15 ?_
      refine ow_topi hf (fun x2_18 hf => ?_)
      refine lv_istore_n (lv' := [(2, .int x2_18), (0, .ref (ow_ad Z 0)), (1, .int a1)]) hx hb dX8_deal_18 rfl hl (by decide) rfl (fun ls hl => ?_)
      refine lv_aload_n hx hb dX8_deal_19 rfl (lv_at hl 1 rfl) ?_
      refine lv_iload_n hx hb dX8_deal_20 rfl (lv_at hl 2 rfl) ?_
      refine ow_putI (ci := 8) (C := RX8) (T := TX8) (N := 15) hx hb hts hown hG hW ow_i0 (by decide) rfl hinX8 tyX8 tyX8_ok nmX8 11 (by decide) rfl (hts (.fieldLink RX8 74 "FiftyOneCards" "pack" "I") (by decide +kernel)) rfl rfl rfl hf dX8_deal_21 (fun σ_21 H locs hf hW => ?_)
      refine lv_aload_n hx hb dX8_deal_24 rfl (lv_at hl 1 rfl) ?_
      refine ow_getV (ci := 8) (C := RX8) (T := TX8) (N := 15) hx hb hts hown hG hW ow_i0 (by decide) rfl hinX8 0 (by decide) (fk := 2) rfl (hts (.fieldLink RX8 10 "FiftyOneCards" "row" "LFiftyOneCards$Row;") (by decide +kernel)) (v := .ref (ow_ad Z 1)) (ow_vR hW ow_i0.1 ow_i0.2.1 rfl) dX8_deal_25 ?_
      refine lv_iload_n hx hb dX8_deal_28 rfl (lv_at hl 2 rfl) ?_
      obtain ⟨σ_29, hc29, hf⟩ := ow_cv_i hf
      refine ow_callv (va_runVN (As := [.int a1]) (rest := []) ⟨hx, hb, hml, hown, hts⟩ (c_X4_dropAbove l Z fu 1 ow_i1 a1 σ_21 σ_29  hc29) ⟨va_cnB (host := "FiftyOneCards") 1 hts ggX8_deal_X4_dropAbove rfl rfl rfl (ow_nwp hG (.methodLinkNest RX8 112 yX4_dropAbove "FiftyOneCards") (by decide +kernel)) (hts (.initialized RX4) (by decide +kernel)) (by decide +kernel) ⟨Nat.le_of_ble_eq_true rfl, Nat.le_of_ble_eq_true rfl⟩, hts (.instanceMethod yX4_dropAbove) (by decide +kernel), hts (.selects RX4 yX4_dropAbove yX4_dropAbove) (by decide +kernel)⟩ (ow_preV hG hW ow_i1 (by decide) rfl) rfl rfl hl.1 rfl (lv_room (Nat.le_of_ble_eq_true rfl)) dX8_deal_29 ⟨Nat.zero_le _, Nat.zero_le _⟩) hW (fun H locs hW => ?_)
      refine lv_iload_n hx hb dX8_deal_32 rfl (lv_at hl 0 rfl) ?_
      exact ow_iret hx hb hr hW hf dX8_deal_33 hlocks
    · replace hf := ow_if_f c8 hf
      refine lv_bipush (v := -2) hx hb dX8_deal_11 (by decide) ?_
      exact ow_iret hx hb hr hW hf dX8_deal_13 hlocks
set_option maxHeartbeats 40000000 in
set_option maxRecDepth 100000 in
theorem c_X8_isCard (l : Launch) (Z : ow_Z) (fu : Nat) (a1 : Int32) (σ : ow_S) (rr : Int32) (σr : ow_S) (hf : f_X8_isCard fu a1 σ = some (rr, σr)) : Met l yX8_isCard wsX8_isCard { frames := 1, cells := 0, slots := 0, locals := 60 } (ow_Pc Z 0 56 [.ref (ow_ad Z 0), .int a1] σ) (ow_Qz Z 0 56 rr σr) 0 0 (ow_A Z 0 56) := by
  refine Met.ofW (cc := cX8_isCard) (maxL := 2) (ret := (some .boolean)) (by decide) rfl ?_
  intro p e s m args below meth c s₁ B hml hv
  obtain ⟨hav, hB⟩ := hv
  obtain ⟨hG, hW⟩ := ow_begin hB
  have hx := B.exec
  have hb := B.bytes
  have hr := B.returns
  have hts := atoms_spec (ws := wsX8_isCard) B.pre
  have hown : s.vm.findClass RX8 = some m.cls := findClass_of_methodNamed B.named
  have hlocks := B.notSynchronized
  have hinX8 : ∀ w ∈ wsX80, w ∈ wsX8_isCard := by decide +kernel
  have hl := lv_entry ([.ref (ow_ad Z 0), .int a1]) (n := 2) (Nat.le_of_ble_eq_true rfl)
  refine W.eq (g2 := F0 m 0 ((lg_sl ([.ref (ow_ad Z 0), .int a1]) ++ List.replicate (2 - (lg_sl ([.ref (ow_ad Z 0), .int a1])).length) Slot.unset).toArray) []) (by rw [hav]; exact lg_entry_eq _ _ _) ?_
  generalize (lg_sl ([.ref (ow_ad Z 0), .int a1]) ++ List.replicate (2 - (lg_sl ([.ref (ow_ad Z 0), .int a1])).length) Slot.unset).toArray = ls at hl ⊢
  have hl : lv_has ls 2 [(0, .ref (ow_ad Z 0)), (1, .int a1)] := hl
  unfold f_X8_isCard at hf
  refine lv_iload_n hx hb dX8_isCard_0 rfl (lv_at hl 1 rfl) ?_
  refine lv_iconst (v := 1) hx hb dX8_isCard_1 (by decide) ?_
  refine lv_icmp_lt (tgt := 17) hx hb dX8_isCard_2 (by decide) (fun c2 => ?_) (fun c2 => ?_)
  · replace hf := ow_if_t c2 hf
    refine lv_iconst (v := 0) hx hb dX8_isCard_17 (by decide) ?_
    exact ow_zret hx hb hr (Or.inl rfl) hW hf dX8_isCard_18 hlocks
  · replace hf := ow_if_f c2 hf
    refine lv_iload_n hx hb dX8_isCard_5 rfl (lv_at hl 1 rfl) ?_
    refine lv_aload_n hx hb dX8_isCard_6 rfl (lv_at hl 0 rfl) ?_
    refine ow_getV (ci := 8) (C := RX8) (T := TX8) (N := 15) hx hb hts hown hG hW ow_i0 (by decide) rfl hinX8 11 (by decide) (fk := 0) rfl (hts (.fieldLink RX8 74 "FiftyOneCards" "pack" "I") (by decide +kernel)) (v := .int (σ.1 0 11)) rfl dX8_isCard_7 ?_
    refine lv_icmp_gt (tgt := 17) hx hb dX8_isCard_10 (by decide) (fun c10 => ?_) (fun c10 => ?_)
    · replace hf := ow_if_t c10 hf
      refine lv_iconst (v := 0) hx hb dX8_isCard_17 (by decide) ?_
      exact ow_zret hx hb hr (Or.inl rfl) hW hf dX8_isCard_18 hlocks
    · replace hf := ow_if_f c10 hf
      refine lv_iconst (v := 1) hx hb dX8_isCard_13 (by decide) ?_
      refine lv_goto (tgt := 18) hx hb dX8_isCard_14 (by decide) ?_
      exact ow_zret hx hb hr (Or.inr rfl) hW hf dX8_isCard_18 hlocks
set_option maxHeartbeats 40000000 in
set_option maxRecDepth 100000 in
theorem c_X8_card (l : Launch) (Z : ow_Z) (fu : Nat) (a1 : Int32) (σ : ow_S) (rr : Int32) (σr : ow_S) (hf : f_X8_card fu a1 σ = some (rr, σr)) : Met l yX8_card wsX8_card { frames := 2, cells := 0, slots := 0, locals := 81 } (ow_Pc Z 0 56 [.ref (ow_ad Z 0), .int a1] σ) (ow_Qi Z 0 56 rr σr) 0 0 (ow_A Z 0 56) := by
  refine Met.ofW (cc := cX8_card) (maxL := 2) (ret := (some .int)) (by decide) rfl ?_
  intro p e s m args below meth c s₁ B hml hv
  obtain ⟨hav, hB⟩ := hv
  obtain ⟨hG, hW⟩ := ow_begin hB
  have hx := B.exec
  have hb := B.bytes
  have hr := B.returns
  have hts := atoms_spec (ws := wsX8_card) B.pre
  have hown : s.vm.findClass RX8 = some m.cls := findClass_of_methodNamed B.named
  have hlocks := B.notSynchronized
  have hinX4 : ∀ w ∈ wsX40, w ∈ wsX8_card := by decide +kernel
  have hinX8 : ∀ w ∈ wsX80, w ∈ wsX8_card := by decide +kernel
  have hl := lv_entry ([.ref (ow_ad Z 0), .int a1]) (n := 2) (Nat.le_of_ble_eq_true rfl)
  refine W.eq (g2 := F0 m 0 ((lg_sl ([.ref (ow_ad Z 0), .int a1]) ++ List.replicate (2 - (lg_sl ([.ref (ow_ad Z 0), .int a1])).length) Slot.unset).toArray) []) (by rw [hav]; exact lg_entry_eq _ _ _) ?_
  generalize (lg_sl ([.ref (ow_ad Z 0), .int a1]) ++ List.replicate (2 - (lg_sl ([.ref (ow_ad Z 0), .int a1])).length) Slot.unset).toArray = ls at hl ⊢
  have hl : lv_has ls 2 [(0, .ref (ow_ad Z 0)), (1, .int a1)] := hl
  unfold f_X8_card at hf
  refine lv_aload_n hx hb dX8_card_0 rfl (lv_at hl 0 rfl) ?_
  refine lv_iload_n hx hb dX8_card_1 rfl (lv_at hl 1 rfl) ?_
  obtain ⟨r_2, σ_2, hc2, hf⟩ := ow_cl_i hf
  refine ow_callz (va_runV (As := [.int a1]) (rest := []) ⟨hx, hb, hml, hown, hts⟩ (c_X8_isCard l Z fu a1 σ r_2 σ_2 hc2) (cwV 1 hts gX8_card_X8_isCard rfl rfl rfl (by decide +kernel) ⟨Nat.le_of_ble_eq_true rfl, Nat.le_of_ble_eq_true rfl⟩) (ow_preV hG hW ow_i0 (by decide) rfl) rfl rfl hl.1 rfl (lv_room (Nat.le_of_ble_eq_true rfl)) dX8_card_2 ⟨Nat.zero_le _, Nat.zero_le _⟩) hW (fun b2 H locs hW => ?_)
  refine lv_if_ne (tgt := 11) hx hb dX8_card_5 (by decide) (fun c5 => ?_) (fun c5 => ?_)
  · replace hf := ow_if_f c5 hf
    refine lv_aload_n hx hb dX8_card_11 rfl (lv_at hl 0 rfl) ?_
    refine ow_getV (ci := 8) (C := RX8) (T := TX8) (N := 15) hx hb hts hown hG hW ow_i0 (by decide) rfl hinX8 0 (by decide) (fk := 2) rfl (hts (.fieldLink RX8 10 "FiftyOneCards" "row" "LFiftyOneCards$Row;") (by decide +kernel)) (v := .ref (ow_ad Z 1)) (ow_vR hW ow_i0.1 ow_i0.2.1 rfl) dX8_card_12 ?_
    refine lv_iload_n hx hb dX8_card_15 rfl (lv_at hl 1 rfl) ?_
    obtain ⟨r_16, σ_16, hc16, hf⟩ := ow_cl_i hf
    refine ow_callz (va_runVN (As := [.int a1]) (rest := []) ⟨hx, hb, hml, hown, hts⟩ (c_X4_add l Z fu 1 ow_i1 a1 σ_2 r_16 σ_16 hc16) ⟨va_cnB (host := "FiftyOneCards") 1 hts ggX8_card_X4_add rfl rfl rfl (ow_nwp hG (.methodLinkNest RX8 119 yX4_add "FiftyOneCards") (by decide +kernel)) (hts (.initialized RX4) (by decide +kernel)) (by decide +kernel) ⟨Nat.le_of_ble_eq_true rfl, Nat.le_of_ble_eq_true rfl⟩, hts (.instanceMethod yX4_add) (by decide +kernel), hts (.selects RX4 yX4_add yX4_add) (by decide +kernel)⟩ (ow_preV hG hW ow_i1 (by decide) rfl) rfl rfl hl.1 rfl (lv_room (Nat.le_of_ble_eq_true rfl)) dX8_card_16 ⟨Nat.zero_le _, Nat.zero_le _⟩) hW (fun b16 H locs hW => ?_)
    refine lv_if_eq (tgt := 32) hx hb dX8_card_19 (by decide) (fun c19 => ?_) (fun c19 => ?_)
    · replace hf := ow_if_t c19 hf
      refine lv_bipush (v := -4) hx hb dX8_card_32 (by decide) ?_
      exact ow_iret hx hb hr hW hf dX8_card_34 hlocks
    · replace hf := ow_if_f c19 hf
      refine lv_aload_n hx hb dX8_card_22 rfl (lv_at hl 0 rfl) ?_
      refine ow_getV (ci := 8) (C := RX8) (T := TX8) (N := 15) hx hb hts hown hG hW ow_i0 (by decide) rfl hinX8 0 (by decide) (fk := 2) rfl (hts (.fieldLink RX8 10 "FiftyOneCards" "row" "LFiftyOneCards$Row;") (by decide +kernel)) (v := .ref (ow_ad Z 1)) (ow_vR hW ow_i0.1 ow_i0.2.1 rfl) dX8_card_23 ?_
      refine ow_getVN (ci := 4) (C := RX4) (T := TX4) (N := 2) hx hb hts hown hG hW ow_i1 (by decide) rfl hinX4 1 (by decide) (fk := 0) rfl (ow_nwp hG (.fieldLinkNest RX8 108 "FiftyOneCards$Row" "size" "I" "FiftyOneCards") (by decide +kernel)) (v := .int (σ_16.1 1 1)) rfl dX8_card_26 ?_
      refine lv_goto (tgt := 34) hx hb dX8_card_29 (by decide) ?_
      exact ow_iret hx hb hr hW hf dX8_card_34 hlocks
  · replace hf := ow_if_t c5 hf
    refine lv_bipush (v := -2) hx hb dX8_card_8 (by decide) ?_
    exact ow_iret hx hb hr hW hf dX8_card_10 hlocks
set_option maxHeartbeats 40000000 in
set_option maxRecDepth 100000 in
theorem c_X8_isWay (l : Launch) (Z : ow_Z) (fu : Nat) (a1 : Int32) (σ : ow_S) (rr : Int32) (σr : ow_S) (hf : f_X8_isWay fu a1 σ = some (rr, σr)) : Met l yX8_isWay wsX8_isWay { frames := 1, cells := 0, slots := 0, locals := 60 } (ow_Pc Z 0 56 [.int a1] σ) (ow_Qz Z 0 56 rr σr) 0 0 (ow_A Z 0 56) := by
  refine Met.ofW (cc := cX8_isWay) (maxL := 1) (ret := (some .boolean)) (by decide) rfl ?_
  intro p e s m args below meth c s₁ B hml hv
  obtain ⟨hav, hB⟩ := hv
  obtain ⟨hG, hW⟩ := ow_begin hB
  have hx := B.exec
  have hb := B.bytes
  have hr := B.returns
  have hts := atoms_spec (ws := wsX8_isWay) B.pre
  have hown : s.vm.findClass RX8 = some m.cls := findClass_of_methodNamed B.named
  have hlocks := B.notSynchronized
  have hJ9 : ∀ (σ : ow_S) (H : Heap) (locs : List Loc) (ls : Array Slot), L_X8_isWay_9 fu σ = some (rr, σr) → ow_Wd Z 0 56 σ s H locs → lv_has ls 1 [] → W p l e (headSpec wsX8_isWay { frames := 1, cells := 0, slots := 0, locals := 60 }).room s m args below meth c H locs 0 0 (MQ below (ow_Qz Z 0 56 rr σr) args s 0 0 (ow_A Z 0 56)) (F0 m 9 ls []) := by
    intro σ H locs ls hf hW hl
    unfold L_X8_isWay_9 at hf
    refine lv_iconst (v := 1) hx hb dX8_isWay_9 (by decide) ?_
    refine lv_goto (tgt := 14) hx hb dX8_isWay_10 (by decide) ?_
    exact ow_zret hx hb hr (Or.inr rfl) hW hf dX8_isWay_14 hlocks
  have hl := lv_entry ([.int a1]) (n := 1) (Nat.le_of_ble_eq_true rfl)
  refine W.eq (g2 := F0 m 0 ((lg_sl ([.int a1]) ++ List.replicate (1 - (lg_sl ([.int a1])).length) Slot.unset).toArray) []) (by rw [hav]; exact lg_entry_eq _ _ _) ?_
  generalize (lg_sl ([.int a1]) ++ List.replicate (1 - (lg_sl ([.int a1])).length) Slot.unset).toArray = ls at hl ⊢
  have hl : lv_has ls 1 [(0, .int a1)] := hl
  unfold f_X8_isWay at hf
  refine lv_iload_n hx hb dX8_isWay_0 rfl (lv_at hl 0 rfl) ?_
  refine lv_if_eq (tgt := 9) hx hb dX8_isWay_1 (by decide) (fun c1 => ?_) (fun c1 => ?_)
  · replace hf := ow_if_t c1 hf
    exact hJ9 σ _ _ _ hf hW (lv_sub hl [] rfl)
  · replace hf := ow_if_f c1 hf
    refine lv_iload_n hx hb dX8_isWay_4 rfl (lv_at hl 0 rfl) ?_
    refine lv_iconst (v := 1) hx hb dX8_isWay_5 (by decide) ?_
    refine lv_icmp_ne (tgt := 13) hx hb dX8_isWay_6 (by decide) (fun c6 => ?_) (fun c6 => ?_)
    · replace hf := ow_if_f c6 hf
      refine lv_iconst (v := 0) hx hb dX8_isWay_13 (by decide) ?_
      exact ow_zret hx hb hr (Or.inl rfl) hW hf dX8_isWay_14 hlocks
    · replace hf := ow_if_t c6 hf
      exact hJ9 σ _ _ _ hf hW (lv_sub hl [] rfl)
set_option maxHeartbeats 40000000 in
set_option maxRecDepth 100000 in
theorem c_X8_fill (l : Launch) (Z : ow_Z) (fu : Nat) (a1 : Int32) (a2 : Int32) (σ : ow_S) (rr : Int32) (σr : ow_S) (hf : f_X8_fill fu a1 a2 σ = some (rr, σr)) : Met l yX8_fill wsX8_fill { frames := 3, cells := 0, slots := 0, locals := 106 } (ow_Pc Z 0 56 [.ref (ow_ad Z 0), .int a1, .int a2] σ) (ow_Qi Z 0 56 rr σr) 0 0 (ow_A Z 0 56) := by
  refine Met.ofW (cc := cX8_fill) (maxL := 3) (ret := (some .int)) (by decide) rfl ?_
  intro p e s m args below meth c s₁ B hml hv
  obtain ⟨hav, hB⟩ := hv
  obtain ⟨hG, hW⟩ := ow_begin hB
  have hx := B.exec
  have hb := B.bytes
  have hr := B.returns
  have hts := atoms_spec (ws := wsX8_fill) B.pre
  have hown : s.vm.findClass RX8 = some m.cls := findClass_of_methodNamed B.named
  have hlocks := B.notSynchronized
  have hinX4 : ∀ w ∈ wsX40, w ∈ wsX8_fill := by decide +kernel
  have hinX8 : ∀ w ∈ wsX80, w ∈ wsX8_fill := by decide +kernel
  have hJ13 : ∀ (x1 : Int32) (x2 : Int32) (σ : ow_S) (H : Heap) (locs : List Loc) (ls : Array Slot), L_X8_fill_13 fu x1 x2 σ = some (rr, σr) → ow_Wd Z 0 56 σ s H locs → lv_has ls 3 [(0, .ref (ow_ad Z 0)), (1, .int x1), (2, .int x2)] → W p l e (headSpec wsX8_fill { frames := 3, cells := 0, slots := 0, locals := 106 }).room s m args below meth c H locs 0 0 (MQ below (ow_Qi Z 0 56 rr σr) args s 0 0 (ow_A Z 0 56)) (F0 m 13 ls []) := by
    intro x1 x2 σ H locs ls hf hW hl
    unfold L_X8_fill_13 at hf
    refine lv_iload_n hx hb dX8_fill_13 rfl (lv_at hl 2 rfl) ?_
    obtain ⟨r_14, σ_14, hc14, hf⟩ := ow_cl_i hf
    refine ow_callz (va_runS (As := [.int x2]) (rest := []) ⟨hx, hb, hml, hown, hts⟩ (c_X8_isWay l Z fu x2 σ r_14 σ_14 hc14) (va_cwS 1 hts gX8_fill_X8_isWay rfl rfl rfl (by decide +kernel) ⟨Nat.le_of_ble_eq_true rfl, Nat.le_of_ble_eq_true rfl⟩) (ow_preS hG hW) rfl rfl hl.1 rfl (lv_room (Nat.le_of_ble_eq_true rfl)) dX8_fill_14 ⟨Nat.zero_le _, Nat.zero_le _⟩) hW (fun b14 H locs hW => ?_)
    refine lv_if_ne (tgt := 23) hx hb dX8_fill_17 (by decide) (fun c17 => ?_) (fun c17 => ?_)
    · replace hf := ow_if_f c17 hf
      refine lv_aload_n hx hb dX8_fill_23 rfl (lv_at hl 0 rfl) ?_
      refine ow_getV (ci := 8) (C := RX8) (T := TX8) (N := 15) hx hb hts hown hG hW ow_i0 (by decide) rfl hinX8 0 (by decide) (fk := 2) rfl (hts (.fieldLink RX8 10 "FiftyOneCards" "row" "LFiftyOneCards$Row;") (by decide +kernel)) (v := .ref (ow_ad Z 1)) (ow_vR hW ow_i0.1 ow_i0.2.1 rfl) dX8_fill_24 ?_
      refine lv_iload_n hx hb dX8_fill_27 rfl (lv_at hl 1 rfl) ?_
      refine lv_aload_n hx hb dX8_fill_28 rfl (lv_at hl 0 rfl) ?_
      refine ow_getV (ci := 8) (C := RX8) (T := TX8) (N := 15) hx hb hts hown hG hW ow_i0 (by decide) rfl hinX8 11 (by decide) (fk := 0) rfl (hts (.fieldLink RX8 74 "FiftyOneCards" "pack" "I") (by decide +kernel)) (v := .int (σ_14.1 0 11)) rfl dX8_fill_29 ?_
      refine lv_iload_n hx hb dX8_fill_32 rfl (lv_at hl 2 rfl) ?_
      obtain ⟨σ_33, hc33, hf⟩ := ow_cv_i hf
      refine ow_callv (va_runVN (As := [.int x1, .int (σ_14.1 0 11), .int x2]) (rest := []) ⟨hx, hb, hml, hown, hts⟩ (c_X4_becomeAllBut l Z fu 1 ow_i1 x1 (σ_14.1 0 11) x2 σ_14 σ_33  hc33) ⟨va_cnB (host := "FiftyOneCards") 3 hts ggX8_fill_X4_becomeAllBut rfl rfl rfl (ow_nwp hG (.methodLinkNest RX8 125 yX4_becomeAllBut "FiftyOneCards") (by decide +kernel)) (hts (.initialized RX4) (by decide +kernel)) (by decide +kernel) ⟨Nat.le_of_ble_eq_true rfl, Nat.le_of_ble_eq_true rfl⟩, hts (.instanceMethod yX4_becomeAllBut) (by decide +kernel), hts (.selects RX4 yX4_becomeAllBut yX4_becomeAllBut) (by decide +kernel)⟩ (ow_preV hG hW ow_i1 (by decide) rfl) rfl rfl hl.1 rfl (lv_room (Nat.le_of_ble_eq_true rfl)) dX8_fill_33 ⟨Nat.zero_le _, Nat.zero_le _⟩) hW (fun H locs hW => ?_)
      refine lv_aload_n hx hb dX8_fill_36 rfl (lv_at hl 0 rfl) ?_
      refine ow_getV (ci := 8) (C := RX8) (T := TX8) (N := 15) hx hb hts hown hG hW ow_i0 (by decide) rfl hinX8 0 (by decide) (fk := 2) rfl (hts (.fieldLink RX8 10 "FiftyOneCards" "row" "LFiftyOneCards$Row;") (by decide +kernel)) (v := .ref (ow_ad Z 1)) (ow_vR hW ow_i0.1 ow_i0.2.1 rfl) dX8_fill_37 ?_
      refine ow_getVN (ci := 4) (C := RX4) (T := TX4) (N := 2) hx hb hts hown hG hW ow_i1 (by decide) rfl hinX4 1 (by decide) (fk := 0) rfl (ow_nwp hG (.fieldLinkNest RX8 108 "FiftyOneCards$Row" "size" "I" "FiftyOneCards") (by decide +kernel)) (v := .int (σ_33.1 1 1)) rfl dX8_fill_40 ?_
      exact ow_iret hx hb hr hW hf dX8_fill_43 hlocks
    · replace hf := ow_if_t c17 hf
      refine lv_bipush (v := -2) hx hb dX8_fill_20 (by decide) ?_
      exact ow_iret hx hb hr hW hf dX8_fill_22 hlocks
  have hl := lv_entry ([.ref (ow_ad Z 0), .int a1, .int a2]) (n := 3) (Nat.le_of_ble_eq_true rfl)
  refine W.eq (g2 := F0 m 0 ((lg_sl ([.ref (ow_ad Z 0), .int a1, .int a2]) ++ List.replicate (3 - (lg_sl ([.ref (ow_ad Z 0), .int a1, .int a2])).length) Slot.unset).toArray) []) (by rw [hav]; exact lg_entry_eq _ _ _) ?_
  generalize (lg_sl ([.ref (ow_ad Z 0), .int a1, .int a2]) ++ List.replicate (3 - (lg_sl ([.ref (ow_ad Z 0), .int a1, .int a2])).length) Slot.unset).toArray = ls at hl ⊢
  have hl : lv_has ls 3 [(0, .ref (ow_ad Z 0)), (1, .int a1), (2, .int a2)] := hl
  unfold f_X8_fill at hf
  refine lv_iload_n hx hb dX8_fill_0 rfl (lv_at hl 1 rfl) ?_
  refine lv_iconst (v := -1) hx hb dX8_fill_1 (by decide) ?_
  refine lv_icmp_eq (tgt := 13) hx hb dX8_fill_2 (by decide) (fun c2 => ?_) (fun c2 => ?_)
  · replace hf := ow_if_t c2 hf
    exact hJ13 a1 a2 σ _ _ _ hf hW (lv_sub hl [0, 1, 2] rfl)
  · replace hf := ow_if_f c2 hf
    refine lv_aload_n hx hb dX8_fill_5 rfl (lv_at hl 0 rfl) ?_
    refine lv_iload_n hx hb dX8_fill_6 rfl (lv_at hl 1 rfl) ?_
    obtain ⟨r_7, σ_7, hc7, hf⟩ := ow_cl_i hf
    refine ow_callz (va_runV (As := [.int a1]) (rest := []) ⟨hx, hb, hml, hown, hts⟩ (c_X8_isCard l Z fu a1 σ r_7 σ_7 hc7) (cwV 1 hts gX8_fill_X8_isCard rfl rfl rfl (by decide +kernel) ⟨Nat.le_of_ble_eq_true rfl, Nat.le_of_ble_eq_true rfl⟩) (ow_preV hG hW ow_i0 (by decide) rfl) rfl rfl hl.1 rfl (lv_room (Nat.le_of_ble_eq_true rfl)) dX8_fill_7 ⟨Nat.zero_le _, Nat.zero_le _⟩) hW (fun b7 H locs hW => ?_)
    refine lv_if_eq (tgt := 20) hx hb dX8_fill_10 (by decide) (fun c10 => ?_) (fun c10 => ?_)
    · replace hf := ow_if_t c10 hf
      refine lv_bipush (v := -2) hx hb dX8_fill_20 (by decide) ?_
      exact ow_iret hx hb hr hW hf dX8_fill_22 hlocks
    · replace hf := ow_if_f c10 hf
      exact hJ13 a1 a2 σ_7 _ _ _ hf hW (lv_sub hl [0, 1, 2] rfl)
set_option maxHeartbeats 40000000 in
set_option maxRecDepth 100000 in
theorem c_X8_at (l : Launch) (Z : ow_Z) (fu : Nat) (a1 : Int32) (σ : ow_S) (rr : Int32) (σr : ow_S) (hf : f_X8_at fu a1 σ = some (rr, σr)) : Met l yX8_at wsX8_at { frames := 2, cells := 0, slots := 0, locals := 81 } (ow_Pc Z 0 56 [.ref (ow_ad Z 0), .int a1] σ) (ow_Qi Z 0 56 rr σr) 0 0 (ow_A Z 0 56) := by
  refine Met.ofW (cc := cX8_at) (maxL := 2) (ret := (some .int)) (by decide) rfl ?_
  intro p e s m args below meth c s₁ B hml hv
  obtain ⟨hav, hB⟩ := hv
  obtain ⟨hG, hW⟩ := ow_begin hB
  have hx := B.exec
  have hb := B.bytes
  have hr := B.returns
  have hts := atoms_spec (ws := wsX8_at) B.pre
  have hown : s.vm.findClass RX8 = some m.cls := findClass_of_methodNamed B.named
  have hlocks := B.notSynchronized
  have hinX4 : ∀ w ∈ wsX40, w ∈ wsX8_at := by decide +kernel
  have hinX8 : ∀ w ∈ wsX80, w ∈ wsX8_at := by decide +kernel
  have hl := lv_entry ([.ref (ow_ad Z 0), .int a1]) (n := 2) (Nat.le_of_ble_eq_true rfl)
  refine W.eq (g2 := F0 m 0 ((lg_sl ([.ref (ow_ad Z 0), .int a1]) ++ List.replicate (2 - (lg_sl ([.ref (ow_ad Z 0), .int a1])).length) Slot.unset).toArray) []) (by rw [hav]; exact lg_entry_eq _ _ _) ?_
  generalize (lg_sl ([.ref (ow_ad Z 0), .int a1]) ++ List.replicate (2 - (lg_sl ([.ref (ow_ad Z 0), .int a1])).length) Slot.unset).toArray = ls at hl ⊢
  have hl : lv_has ls 2 [(0, .ref (ow_ad Z 0)), (1, .int a1)] := hl
  unfold f_X8_at at hf
  refine lv_aload_n hx hb dX8_at_0 rfl (lv_at hl 0 rfl) ?_
  refine ow_getV (ci := 8) (C := RX8) (T := TX8) (N := 15) hx hb hts hown hG hW ow_i0 (by decide) rfl hinX8 0 (by decide) (fk := 2) rfl (hts (.fieldLink RX8 10 "FiftyOneCards" "row" "LFiftyOneCards$Row;") (by decide +kernel)) (v := .ref (ow_ad Z 1)) (ow_vR hW ow_i0.1 ow_i0.2.1 rfl) dX8_at_1 ?_
  refine lv_iload_n hx hb dX8_at_4 rfl (lv_at hl 1 rfl) ?_
  obtain ⟨r_5, σ_5, hc5, hf⟩ := ow_cl_i hf
  refine ow_callz (va_runVN (As := [.int a1]) (rest := []) ⟨hx, hb, hml, hown, hts⟩ (c_X4_has l Z fu 1 ow_i1 a1 σ r_5 σ_5 hc5) ⟨va_cnB (host := "FiftyOneCards") 1 hts ggX8_at_X4_has rfl rfl rfl (ow_nwp hG (.methodLinkNest RX8 129 yX4_has "FiftyOneCards") (by decide +kernel)) (hts (.initialized RX4) (by decide +kernel)) (by decide +kernel) ⟨Nat.le_of_ble_eq_true rfl, Nat.le_of_ble_eq_true rfl⟩, hts (.instanceMethod yX4_has) (by decide +kernel), hts (.selects RX4 yX4_has yX4_has) (by decide +kernel)⟩ (ow_preV hG hW ow_i1 (by decide) rfl) rfl rfl hl.1 rfl (lv_room (Nat.le_of_ble_eq_true rfl)) dX8_at_5 ⟨Nat.zero_le _, Nat.zero_le _⟩) hW (fun b5 H locs hW => ?_)
  refine lv_if_eq (tgt := 23) hx hb dX8_at_8 (by decide) (fun c8 => ?_) (fun c8 => ?_)
  · replace hf := ow_if_t c8 hf
    refine lv_bipush (v := -6) hx hb dX8_at_23 (by decide) ?_
    exact ow_iret hx hb hr hW hf dX8_at_25 hlocks
  · replace hf := ow_if_f c8 hf
    refine lv_aload_n hx hb dX8_at_11 rfl (lv_at hl 0 rfl) ?_
    refine ow_getV (ci := 8) (C := RX8) (T := TX8) (N := 15) hx hb hts hown hG hW ow_i0 (by decide) rfl hinX8 0 (by decide) (fk := 2) rfl (hts (.fieldLink RX8 10 "FiftyOneCards" "row" "LFiftyOneCards$Row;") (by decide +kernel)) (v := .ref (ow_ad Z 1)) (ow_vR hW ow_i0.1 ow_i0.2.1 rfl) dX8_at_12 ?_
    refine ow_getVN (ci := 4) (C := RX4) (T := TX4) (N := 2) hx hb hts hown hG hW ow_i1 (by decide) rfl hinX4 0 (by decide) (fk := 2) rfl (ow_nwp hG (.fieldLinkNest RX8 132 "FiftyOneCards$Row" "cards" "[I" "FiftyOneCards") (by decide +kernel)) (v := .ref (ow_ad Z 2)) (ow_vR hW ow_i1.1 ow_i1.2.1 rfl) dX8_at_15 ?_
    refine lv_iload_n hx hb dX8_at_18 rfl (lv_at hl 1 rfl) ?_
    obtain ⟨q19, hf⟩ := ow_ck_i hf
    refine ow_ild (q := a1.toNatClampNeg) hx hb hG hW ow_i2 rfl q19 rfl dX8_at_19 ?_
    refine lv_goto (tgt := 25) hx hb dX8_at_20 (by decide) ?_
    exact ow_iret hx hb hr hW hf dX8_at_25 hlocks
set_option maxHeartbeats 40000000 in
set_option maxRecDepth 100000 in
theorem c_X8_turn (l : Launch) (Z : ow_Z) (fu : Nat) (a1 : Int32) (σ : ow_S) (rr : Int32) (σr : ow_S) (hf : f_X8_turn fu a1 σ = some (rr, σr)) : Met l yX8_turn wsX8_turn { frames := 4, cells := 0, slots := 0, locals := 126 } (ow_Pc Z 0 56 [.ref (ow_ad Z 0), .int a1] σ) (ow_Qi Z 0 56 rr σr) 0 0 (ow_A Z 0 56) := by
  refine Met.ofW (cc := cX8_turn) (maxL := 2) (ret := (some .int)) (by decide) rfl ?_
  intro p e s m args below meth c s₁ B hml hv
  obtain ⟨hav, hB⟩ := hv
  obtain ⟨hG, hW⟩ := ow_begin hB
  have hx := B.exec
  have hb := B.bytes
  have hr := B.returns
  have hts := atoms_spec (ws := wsX8_turn) B.pre
  have hown : s.vm.findClass RX8 = some m.cls := findClass_of_methodNamed B.named
  have hlocks := B.notSynchronized
  have hinX4 : ∀ w ∈ wsX40, w ∈ wsX8_turn := by decide +kernel
  have hinX8 : ∀ w ∈ wsX80, w ∈ wsX8_turn := by decide +kernel
  have hl := lv_entry ([.ref (ow_ad Z 0), .int a1]) (n := 2) (Nat.le_of_ble_eq_true rfl)
  refine W.eq (g2 := F0 m 0 ((lg_sl ([.ref (ow_ad Z 0), .int a1]) ++ List.replicate (2 - (lg_sl ([.ref (ow_ad Z 0), .int a1])).length) Slot.unset).toArray) []) (by rw [hav]; exact lg_entry_eq _ _ _) ?_
  generalize (lg_sl ([.ref (ow_ad Z 0), .int a1]) ++ List.replicate (2 - (lg_sl ([.ref (ow_ad Z 0), .int a1])).length) Slot.unset).toArray = ls at hl ⊢
  have hl : lv_has ls 2 [(0, .ref (ow_ad Z 0)), (1, .int a1)] := hl
  unfold f_X8_turn at hf
  refine lv_iload_n hx hb dX8_turn_0 rfl (lv_at hl 1 rfl) ?_
  refine lv_if_lt (tgt := 9) hx hb dX8_turn_1 (by decide) (fun c1 => ?_) (fun c1 => ?_)
  · replace hf := ow_if_t c1 hf
    refine lv_bipush (v := -2) hx hb dX8_turn_9 (by decide) ?_
    exact ow_iret hx hb hr hW hf dX8_turn_11 hlocks
  · replace hf := ow_if_f c1 hf
    refine lv_iload_n hx hb dX8_turn_4 rfl (lv_at hl 1 rfl) ?_
    refine lv_iconst (v := 2) hx hb dX8_turn_5 (by decide) ?_
    refine lv_icmp_le (tgt := 12) hx hb dX8_turn_6 (by decide) (fun c6 => ?_) (fun c6 => ?_)
    · replace hf := ow_if_t c6 hf
      refine lv_aload_n hx hb dX8_turn_12 rfl (lv_at hl 0 rfl) ?_
      refine ow_getV (ci := 8) (C := RX8) (T := TX8) (N := 15) hx hb hts hown hG hW ow_i0 (by decide) rfl hinX8 0 (by decide) (fk := 2) rfl (hts (.fieldLink RX8 10 "FiftyOneCards" "row" "LFiftyOneCards$Row;") (by decide +kernel)) (v := .ref (ow_ad Z 1)) (ow_vR hW ow_i0.1 ow_i0.2.1 rfl) dX8_turn_13 ?_
      refine lv_iload_n hx hb dX8_turn_16 rfl (lv_at hl 1 rfl) ?_
      obtain ⟨σ_17, hc17, hf⟩ := ow_cv_i hf
      refine ow_callv (va_runVN (As := [.int a1]) (rest := []) ⟨hx, hb, hml, hown, hts⟩ (c_X4_beTurned l Z fu 1 ow_i1 a1 σ σ_17  hc17) ⟨va_cnB (host := "FiftyOneCards") 1 hts ggX8_turn_X4_beTurned rfl rfl rfl (ow_nwp hG (.methodLinkNest RX8 135 yX4_beTurned "FiftyOneCards") (by decide +kernel)) (hts (.initialized RX4) (by decide +kernel)) (by decide +kernel) ⟨Nat.le_of_ble_eq_true rfl, Nat.le_of_ble_eq_true rfl⟩, hts (.instanceMethod yX4_beTurned) (by decide +kernel), hts (.selects RX4 yX4_beTurned yX4_beTurned) (by decide +kernel)⟩ (ow_preV hG hW ow_i1 (by decide) rfl) rfl rfl hl.1 rfl (lv_room (Nat.le_of_ble_eq_true rfl)) dX8_turn_17 ⟨Nat.zero_le _, Nat.zero_le _⟩) hW (fun H locs hW => ?_)
      refine lv_aload_n hx hb dX8_turn_20 rfl (lv_at hl 0 rfl) ?_
      refine ow_getV (ci := 8) (C := RX8) (T := TX8) (N := 15) hx hb hts hown hG hW ow_i0 (by decide) rfl hinX8 0 (by decide) (fk := 2) rfl (hts (.fieldLink RX8 10 "FiftyOneCards" "row" "LFiftyOneCards$Row;") (by decide +kernel)) (v := .ref (ow_ad Z 1)) (ow_vR hW ow_i0.1 ow_i0.2.1 rfl) dX8_turn_21 ?_
      refine ow_getVN (ci := 4) (C := RX4) (T := TX4) (N := 2) hx hb hts hown hG hW ow_i1 (by decide) rfl hinX4 1 (by decide) (fk := 0) rfl (ow_nwp hG (.fieldLinkNest RX8 108 "FiftyOneCards$Row" "size" "I" "FiftyOneCards") (by decide +kernel)) (v := .int (σ_17.1 1 1)) rfl dX8_turn_24 ?_
      refine lv_if_le (tgt := 42) hx hb dX8_turn_27 (by decide) (fun c27 => ?_) (fun c27 => ?_)
      · replace hf := ow_if_t c27 hf
        refine lv_iconst (v := -1) hx hb dX8_turn_42 (by decide) ?_
        exact ow_iret hx hb hr hW hf dX8_turn_43 hlocks
      · replace hf := ow_if_f c27 hf
        refine lv_aload_n hx hb dX8_turn_30 rfl (lv_at hl 0 rfl) ?_
        refine ow_getV (ci := 8) (C := RX8) (T := TX8) (N := 15) hx hb hts hown hG hW ow_i0 (by decide) rfl hinX8 0 (by decide) (fk := 2) rfl (hts (.fieldLink RX8 10 "FiftyOneCards" "row" "LFiftyOneCards$Row;") (by decide +kernel)) (v := .ref (ow_ad Z 1)) (ow_vR hW ow_i0.1 ow_i0.2.1 rfl) dX8_turn_31 ?_
        refine ow_getVN (ci := 4) (C := RX4) (T := TX4) (N := 2) hx hb hts hown hG hW ow_i1 (by decide) rfl hinX4 0 (by decide) (fk := 2) rfl (ow_nwp hG (.fieldLinkNest RX8 132 "FiftyOneCards$Row" "cards" "[I" "FiftyOneCards") (by decide +kernel)) (v := .ref (ow_ad Z 2)) (ow_vR hW ow_i1.1 ow_i1.2.1 rfl) dX8_turn_34 ?_
        refine lv_iconst (v := 0) hx hb dX8_turn_37 (by decide) ?_
        refine ow_ild (q := 0) hx hb hG hW ow_i2 rfl (by decide) (by decide) dX8_turn_38 ?_
        refine lv_goto (tgt := 43) hx hb dX8_turn_39 (by decide) ?_
        exact ow_iret hx hb hr hW hf dX8_turn_43 hlocks
    · replace hf := ow_if_f c6 hf
      refine lv_bipush (v := -2) hx hb dX8_turn_9 (by decide) ?_
      exact ow_iret hx hb hr hW hf dX8_turn_11 hlocks
set_option maxHeartbeats 40000000 in
set_option maxRecDepth 100000 in
theorem c_X8_missing (l : Launch) (Z : ow_Z) (fu : Nat) (a1 : Int32) (σ : ow_S) (rr : Int32) (σr : ow_S) (hf : f_X8_missing fu a1 σ = some (rr, σr)) : Met l yX8_missing wsX8_missing { frames := 2, cells := 0, slots := 0, locals := 83 } (ow_Pc Z 0 56 [.ref (ow_ad Z 0), .int a1] σ) (ow_Qi Z 0 56 rr σr) 0 0 (ow_A Z 0 56) := by
  refine Met.ofW (cc := cX8_missing) (maxL := 4) (ret := (some .int)) (by decide) rfl ?_
  intro p e s m args below meth c s₁ B hml hv
  obtain ⟨hav, hB⟩ := hv
  obtain ⟨hG, hW⟩ := ow_begin hB
  have hx := B.exec
  have hb := B.bytes
  have hr := B.returns
  have hts := atoms_spec (ws := wsX8_missing) B.pre
  have hown : s.vm.findClass RX8 = some m.cls := findClass_of_methodNamed B.named
  have hlocks := B.notSynchronized
  have hinX8 : ∀ w ∈ wsX80, w ∈ wsX8_missing := by decide +kernel
  have hJ46 : ∀ (k17 : Int32 → Int32 → Int32 → ow_S → Option (Int32 × ow_S)) (hk17 : ∀ (x1 : Int32) (x2 : Int32) (x3 : Int32) (σ : ow_S) (H : Heap) (locs : List Loc) (ls : Array Slot), k17 x1 x2 x3 σ = some (rr, σr) → ow_Wd Z 0 56 σ s H locs → lv_has ls 4 [(0, .ref (ow_ad Z 0)), (1, .int x1), (2, .int x2), (3, .int x3)] → W p l e (headSpec wsX8_missing { frames := 2, cells := 0, slots := 0, locals := 83 }).room s m args below meth c H locs 0 0 (MQ below (ow_Qi Z 0 56 rr σr) args s 0 0 (ow_A Z 0 56)) (F0 m 17 ls [])), ∀ (x1 : Int32) (x2 : Int32) (x3 : Int32) (σ : ow_S) (H : Heap) (locs : List Loc) (ls : Array Slot), L_X8_missing_46 fu k17 x1 x2 x3 σ = some (rr, σr) → ow_Wd Z 0 56 σ s H locs → lv_has ls 4 [(0, .ref (ow_ad Z 0)), (1, .int x1), (2, .int x2), (3, .int x3)] → W p l e (headSpec wsX8_missing { frames := 2, cells := 0, slots := 0, locals := 83 }).room s m args below meth c H locs 0 0 (MQ below (ow_Qi Z 0 56 rr σr) args s 0 0 (ow_A Z 0 56)) (F0 m 46 ls []) := by
    intro k17 hk17 x1 x2 x3 σ H locs ls hf hW hl
    unfold L_X8_missing_46 at hf
    refine ow_iinc (d := 1) (lv' := fun z => [(3, .int z), (0, .ref (ow_ad Z 0)), (1, .int x1), (2, .int x2)]) hx hb hf dX8_missing_46 hl (k := 3) rfl (by decide) (by decide) (fun z => rfl) (fun x3_46 hf ls hl => ?_)
    refine lv_goto (tgt := 17) hx hb dX8_missing_49 (by decide) ?_
    exact hk17 x1 x2 x3_46 σ _ _ _ hf hW (lv_sub hl [1, 2, 3, 0] rfl)
  have hJ17 : ∀ (fn : Nat), ∀ (x1 : Int32) (x2 : Int32) (x3 : Int32) (σ : ow_S) (H : Heap) (locs : List Loc) (ls : Array Slot), L_X8_missing_17 fu fn x1 x2 x3 σ = some (rr, σr) → ow_Wd Z 0 56 σ s H locs → lv_has ls 4 [(0, .ref (ow_ad Z 0)), (1, .int x1), (2, .int x2), (3, .int x3)] → W p l e (headSpec wsX8_missing { frames := 2, cells := 0, slots := 0, locals := 83 }).room s m args below meth c H locs 0 0 (MQ below (ow_Qi Z 0 56 rr σr) args s 0 0 (ow_A Z 0 56)) (F0 m 17 ls []) := by
    intro fn
    induction fn with
    | zero => intro x1 x2 x3 σ H locs ls hf hW hl; simp [L_X8_missing_17] at hf
    | succ fn ih =>
      intro x1 x2 x3 σ H locs ls hf hW hl
      rw [L_X8_missing_17] at hf
      refine lv_iload_n hx hb dX8_missing_17 rfl (lv_at hl 3 rfl) ?_
      refine lv_aload_n hx hb dX8_missing_18 rfl (lv_at hl 0 rfl) ?_
      refine ow_getV (ci := 8) (C := RX8) (T := TX8) (N := 15) hx hb hts hown hG hW ow_i0 (by decide) rfl hinX8 11 (by decide) (fk := 0) rfl (hts (.fieldLink RX8 74 "FiftyOneCards" "pack" "I") (by decide +kernel)) (v := .int (σ.1 0 11)) rfl dX8_missing_19 ?_
      refine lv_icmp_gt (tgt := 52) hx hb dX8_missing_22 (by decide) (fun c22 => ?_) (fun c22 => ?_)
      · replace hf := ow_if_t c22 hf
        refine lv_iconst (v := -1) hx hb dX8_missing_52 (by decide) ?_
        exact ow_iret hx hb hr hW hf dX8_missing_53 hlocks
      · replace hf := ow_if_f c22 hf
        refine lv_aload_n hx hb dX8_missing_25 rfl (lv_at hl 0 rfl) ?_
        refine ow_getV (ci := 8) (C := RX8) (T := TX8) (N := 15) hx hb hts hown hG hW ow_i0 (by decide) rfl hinX8 0 (by decide) (fk := 2) rfl (hts (.fieldLink RX8 10 "FiftyOneCards" "row" "LFiftyOneCards$Row;") (by decide +kernel)) (v := .ref (ow_ad Z 1)) (ow_vR hW ow_i0.1 ow_i0.2.1 rfl) dX8_missing_26 ?_
        refine lv_iload_n hx hb dX8_missing_29 rfl (lv_at hl 3 rfl) ?_
        obtain ⟨r_30, σ_30, hc30, hf⟩ := ow_cl_i hf
        refine ow_calli (va_runVN (As := [.int x3]) (rest := []) ⟨hx, hb, hml, hown, hts⟩ (c_X4_timesOf l Z fu 1 ow_i1 x3 σ r_30 σ_30 hc30) ⟨va_cnB (host := "FiftyOneCards") 1 hts ggX8_missing_X4_timesOf rfl rfl rfl (ow_nwp hG (.methodLinkNest RX8 138 yX4_timesOf "FiftyOneCards") (by decide +kernel)) (hts (.initialized RX4) (by decide +kernel)) (by decide +kernel) ⟨Nat.le_of_ble_eq_true rfl, Nat.le_of_ble_eq_true rfl⟩, hts (.instanceMethod yX4_timesOf) (by decide +kernel), hts (.selects RX4 yX4_timesOf yX4_timesOf) (by decide +kernel)⟩ (ow_preV hG hW ow_i1 (by decide) rfl) rfl rfl hl.1 rfl (lv_room (Nat.le_of_ble_eq_true rfl)) dX8_missing_30 ⟨Nat.zero_le _, Nat.zero_le _⟩) hW (fun H locs hW => ?_)
        refine lv_if_ne (tgt := 46) hx hb dX8_missing_33 (by decide) (fun c33 => ?_) (fun c33 => ?_)
        · replace hf := ow_if_f c33 hf
          exact hJ46 (L_X8_missing_17 fu fn) ih x1 x2 x3 σ_30 _ _ _ hf hW (lv_sub hl [0, 1, 2, 3] rfl)
        · replace hf := ow_if_t c33 hf
          refine lv_iload_n hx hb dX8_missing_36 rfl (lv_at hl 2 rfl) ?_
          refine lv_iload_n hx hb dX8_missing_37 rfl (lv_at hl 1 rfl) ?_
          refine lv_icmp_ne (tgt := 43) hx hb dX8_missing_38 (by decide) (fun c38 => ?_) (fun c38 => ?_)
          · replace hf := ow_if_f c38 hf
            refine ow_iinc (d := 1) (lv' := fun z => [(2, .int z), (0, .ref (ow_ad Z 0)), (1, .int x1), (3, .int x3)]) hx hb hf dX8_missing_43 hl (k := 2) rfl (by decide) (by decide) (fun z => rfl) (fun x2_43 hf ls hl => ?_)
            exact hJ46 (L_X8_missing_17 fu fn) ih x1 x2_43 x3 σ_30 _ _ _ hf hW (lv_sub hl [1, 2, 0, 3] rfl)
          · replace hf := ow_if_t c38 hf
            refine lv_iload_n hx hb dX8_missing_41 rfl (lv_at hl 3 rfl) ?_
            exact ow_iret hx hb hr hW hf dX8_missing_42 hlocks
  have hl := lv_entry ([.ref (ow_ad Z 0), .int a1]) (n := 4) (Nat.le_of_ble_eq_true rfl)
  refine W.eq (g2 := F0 m 0 ((lg_sl ([.ref (ow_ad Z 0), .int a1]) ++ List.replicate (4 - (lg_sl ([.ref (ow_ad Z 0), .int a1])).length) Slot.unset).toArray) []) (by rw [hav]; exact lg_entry_eq _ _ _) ?_
  generalize (lg_sl ([.ref (ow_ad Z 0), .int a1]) ++ List.replicate (4 - (lg_sl ([.ref (ow_ad Z 0), .int a1])).length) Slot.unset).toArray = ls at hl ⊢
  have hl : lv_has ls 4 [(0, .ref (ow_ad Z 0)), (1, .int a1)] := hl
  unfold f_X8_missing at hf
  refine lv_iload_n hx hb dX8_missing_0 rfl (lv_at hl 1 rfl) ?_
  refine lv_if_lt (tgt := 10) hx hb dX8_missing_1 (by decide) (fun c1 => ?_) (fun c1 => ?_)
  · replace hf := ow_if_t c1 hf
    refine lv_bipush (v := -2) hx hb dX8_missing_10 (by decide) ?_
    exact ow_iret hx hb hr hW hf dX8_missing_12 hlocks
  · replace hf := ow_if_f c1 hf
    refine lv_iload_n hx hb dX8_missing_4 rfl (lv_at hl 1 rfl) ?_
    refine lv_bipush (v := 52) hx hb dX8_missing_5 (by decide) ?_
    refine lv_icmp_lt (tgt := 13) hx hb dX8_missing_7 (by decide) (fun c7 => ?_) (fun c7 => ?_)
    · replace hf := ow_if_t c7 hf
      refine lv_iconst (v := 0) hx hb dX8_missing_13 (by decide) ?_
      refine lv_istore_n (lv' := [(2, .int (0 : Int32)), (0, .ref (ow_ad Z 0)), (1, .int a1)]) hx hb dX8_missing_14 rfl hl (by decide) rfl (fun ls hl => ?_)
      refine lv_iconst (v := 1) hx hb dX8_missing_15 (by decide) ?_
      refine lv_istore_n (lv' := [(3, .int (1 : Int32)), (2, .int (0 : Int32)), (0, .ref (ow_ad Z 0)), (1, .int a1)]) hx hb dX8_missing_16 rfl hl (by decide) rfl (fun ls hl => ?_)
      exact hJ17 fu a1 (0 : Int32) (1 : Int32) σ _ _ _ hf hW (lv_sub hl [2, 3, 1, 0] rfl)
    · replace hf := ow_if_f c7 hf
      refine lv_bipush (v := -2) hx hb dX8_missing_10 (by decide) ?_
      exact ow_iret hx hb hr hW hf dX8_missing_12 hlocks
set_option maxHeartbeats 40000000 in
set_option maxRecDepth 100000 in
theorem c_X8_unlikeCards (l : Launch) (Z : ow_Z) (fu : Nat) (σ : ow_S) (rr : Int32) (σr : ow_S) (hf : f_X8_unlikeCards fu σ = some (rr, σr)) : Met l yX8_unlikeCards wsX8_unlikeCards { frames := 2, cells := 0, slots := 0, locals := 83 } (ow_Pc Z 0 56 [.ref (ow_ad Z 0)] σ) (ow_Qi Z 0 56 rr σr) 0 0 (ow_A Z 0 56) := by
  refine Met.ofW (cc := cX8_unlikeCards) (maxL := 3) (ret := (some .int)) (by decide) rfl ?_
  intro p e s m args below meth c s₁ B hml hv
  obtain ⟨hav, hB⟩ := hv
  obtain ⟨hG, hW⟩ := ow_begin hB
  have hx := B.exec
  have hb := B.bytes
  have hr := B.returns
  have hts := atoms_spec (ws := wsX8_unlikeCards) B.pre
  have hown : s.vm.findClass RX8 = some m.cls := findClass_of_methodNamed B.named
  have hlocks := B.notSynchronized
  have hinX8 : ∀ w ∈ wsX80, w ∈ wsX8_unlikeCards := by decide +kernel
  have hJ26 : ∀ (k4 : Int32 → Int32 → ow_S → Option (Int32 × ow_S)) (hk4 : ∀ (x1 : Int32) (x2 : Int32) (σ : ow_S) (H : Heap) (locs : List Loc) (ls : Array Slot), k4 x1 x2 σ = some (rr, σr) → ow_Wd Z 0 56 σ s H locs → lv_has ls 3 [(0, .ref (ow_ad Z 0)), (1, .int x1), (2, .int x2)] → W p l e (headSpec wsX8_unlikeCards { frames := 2, cells := 0, slots := 0, locals := 83 }).room s m args below meth c H locs 0 0 (MQ below (ow_Qi Z 0 56 rr σr) args s 0 0 (ow_A Z 0 56)) (F0 m 4 ls [])), ∀ (x1 : Int32) (x2 : Int32) (σ : ow_S) (H : Heap) (locs : List Loc) (ls : Array Slot), L_X8_unlikeCards_26 fu k4 x1 x2 σ = some (rr, σr) → ow_Wd Z 0 56 σ s H locs → lv_has ls 3 [(0, .ref (ow_ad Z 0)), (1, .int x1), (2, .int x2)] → W p l e (headSpec wsX8_unlikeCards { frames := 2, cells := 0, slots := 0, locals := 83 }).room s m args below meth c H locs 0 0 (MQ below (ow_Qi Z 0 56 rr σr) args s 0 0 (ow_A Z 0 56)) (F0 m 26 ls []) := by
    intro k4 hk4 x1 x2 σ H locs ls hf hW hl
    unfold L_X8_unlikeCards_26 at hf
    refine ow_iinc (d := 1) (lv' := fun z => [(2, .int z), (0, .ref (ow_ad Z 0)), (1, .int x1)]) hx hb hf dX8_unlikeCards_26 hl (k := 2) rfl (by decide) (by decide) (fun z => rfl) (fun x2_26 hf ls hl => ?_)
    refine lv_goto (tgt := 4) hx hb dX8_unlikeCards_29 (by decide) ?_
    exact hk4 x1 x2_26 σ _ _ _ hf hW (lv_sub hl [1, 2, 0] rfl)
  have hJ4 : ∀ (fn : Nat), ∀ (x1 : Int32) (x2 : Int32) (σ : ow_S) (H : Heap) (locs : List Loc) (ls : Array Slot), L_X8_unlikeCards_4 fu fn x1 x2 σ = some (rr, σr) → ow_Wd Z 0 56 σ s H locs → lv_has ls 3 [(0, .ref (ow_ad Z 0)), (1, .int x1), (2, .int x2)] → W p l e (headSpec wsX8_unlikeCards { frames := 2, cells := 0, slots := 0, locals := 83 }).room s m args below meth c H locs 0 0 (MQ below (ow_Qi Z 0 56 rr σr) args s 0 0 (ow_A Z 0 56)) (F0 m 4 ls []) := by
    intro fn
    induction fn with
    | zero => intro x1 x2 σ H locs ls hf hW hl; simp [L_X8_unlikeCards_4] at hf
    | succ fn ih =>
      intro x1 x2 σ H locs ls hf hW hl
      rw [L_X8_unlikeCards_4] at hf
      refine lv_iload_n hx hb dX8_unlikeCards_4 rfl (lv_at hl 2 rfl) ?_
      refine lv_aload_n hx hb dX8_unlikeCards_5 rfl (lv_at hl 0 rfl) ?_
      refine ow_getV (ci := 8) (C := RX8) (T := TX8) (N := 15) hx hb hts hown hG hW ow_i0 (by decide) rfl hinX8 11 (by decide) (fk := 0) rfl (hts (.fieldLink RX8 74 "FiftyOneCards" "pack" "I") (by decide +kernel)) (v := .int (σ.1 0 11)) rfl dX8_unlikeCards_6 ?_
      refine lv_icmp_gt (tgt := 32) hx hb dX8_unlikeCards_9 (by decide) (fun c9 => ?_) (fun c9 => ?_)
      · replace hf := ow_if_t c9 hf
        refine lv_iload_n hx hb dX8_unlikeCards_32 rfl (lv_at hl 1 rfl) ?_
        exact ow_iret hx hb hr hW hf dX8_unlikeCards_33 hlocks
      · replace hf := ow_if_f c9 hf
        refine lv_aload_n hx hb dX8_unlikeCards_12 rfl (lv_at hl 0 rfl) ?_
        refine ow_getV (ci := 8) (C := RX8) (T := TX8) (N := 15) hx hb hts hown hG hW ow_i0 (by decide) rfl hinX8 0 (by decide) (fk := 2) rfl (hts (.fieldLink RX8 10 "FiftyOneCards" "row" "LFiftyOneCards$Row;") (by decide +kernel)) (v := .ref (ow_ad Z 1)) (ow_vR hW ow_i0.1 ow_i0.2.1 rfl) dX8_unlikeCards_13 ?_
        refine lv_iload_n hx hb dX8_unlikeCards_16 rfl (lv_at hl 2 rfl) ?_
        obtain ⟨r_17, σ_17, hc17, hf⟩ := ow_cl_i hf
        refine ow_calli (va_runVN (As := [.int x2]) (rest := []) ⟨hx, hb, hml, hown, hts⟩ (c_X4_timesOf l Z fu 1 ow_i1 x2 σ r_17 σ_17 hc17) ⟨va_cnB (host := "FiftyOneCards") 1 hts ggX8_unlikeCards_X4_timesOf rfl rfl rfl (ow_nwp hG (.methodLinkNest RX8 138 yX4_timesOf "FiftyOneCards") (by decide +kernel)) (hts (.initialized RX4) (by decide +kernel)) (by decide +kernel) ⟨Nat.le_of_ble_eq_true rfl, Nat.le_of_ble_eq_true rfl⟩, hts (.instanceMethod yX4_timesOf) (by decide +kernel), hts (.selects RX4 yX4_timesOf yX4_timesOf) (by decide +kernel)⟩ (ow_preV hG hW ow_i1 (by decide) rfl) rfl rfl hl.1 rfl (lv_room (Nat.le_of_ble_eq_true rfl)) dX8_unlikeCards_17 ⟨Nat.zero_le _, Nat.zero_le _⟩) hW (fun H locs hW => ?_)
        refine lv_if_le (tgt := 26) hx hb dX8_unlikeCards_20 (by decide) (fun c20 => ?_) (fun c20 => ?_)
        · replace hf := ow_if_t c20 hf
          exact hJ26 (L_X8_unlikeCards_4 fu fn) ih x1 x2 σ_17 _ _ _ hf hW (lv_sub hl [0, 1, 2] rfl)
        · replace hf := ow_if_f c20 hf
          refine ow_iinc (d := 1) (lv' := fun z => [(1, .int z), (0, .ref (ow_ad Z 0)), (2, .int x2)]) hx hb hf dX8_unlikeCards_23 hl (k := 1) rfl (by decide) (by decide) (fun z => rfl) (fun x1_23 hf ls hl => ?_)
          exact hJ26 (L_X8_unlikeCards_4 fu fn) ih x1_23 x2 σ_17 _ _ _ hf hW (lv_sub hl [1, 0, 2] rfl)
  have hl := lv_entry ([.ref (ow_ad Z 0)]) (n := 3) (Nat.le_of_ble_eq_true rfl)
  refine W.eq (g2 := F0 m 0 ((lg_sl ([.ref (ow_ad Z 0)]) ++ List.replicate (3 - (lg_sl ([.ref (ow_ad Z 0)])).length) Slot.unset).toArray) []) (by rw [hav]; exact lg_entry_eq _ _ _) ?_
  generalize (lg_sl ([.ref (ow_ad Z 0)]) ++ List.replicate (3 - (lg_sl ([.ref (ow_ad Z 0)])).length) Slot.unset).toArray = ls at hl ⊢
  have hl : lv_has ls 3 [(0, .ref (ow_ad Z 0))] := hl
  unfold f_X8_unlikeCards at hf
  refine lv_iconst (v := 0) hx hb dX8_unlikeCards_0 (by decide) ?_
  refine lv_istore_n (lv' := [(1, .int (0 : Int32)), (0, .ref (ow_ad Z 0))]) hx hb dX8_unlikeCards_1 rfl hl (by decide) rfl (fun ls hl => ?_)
  refine lv_iconst (v := 1) hx hb dX8_unlikeCards_2 (by decide) ?_
  refine lv_istore_n (lv' := [(2, .int (1 : Int32)), (1, .int (0 : Int32)), (0, .ref (ow_ad Z 0))]) hx hb dX8_unlikeCards_3 rfl hl (by decide) rfl (fun ls hl => ?_)
  exact hJ4 fu (0 : Int32) (1 : Int32) σ _ _ _ hf hW (lv_sub hl [2, 1, 0] rfl)
set_option maxHeartbeats 40000000 in
set_option maxRecDepth 100000 in
theorem c_X8_commonestCard (l : Launch) (Z : ow_Z) (fu : Nat) (σ : ow_S) (rr : Int32) (σr : ow_S) (hf : f_X8_commonestCard fu σ = some (rr, σr)) : Met l yX8_commonestCard wsX8_commonestCard { frames := 2, cells := 0, slots := 0, locals := 83 } (ow_Pc Z 0 56 [.ref (ow_ad Z 0)] σ) (ow_Qi Z 0 56 rr σr) 0 0 (ow_A Z 0 56) := by
  refine Met.ofW (cc := cX8_commonestCard) (maxL := 5) (ret := (some .int)) (by decide) rfl ?_
  intro p e s m args below meth c s₁ B hml hv
  obtain ⟨hav, hB⟩ := hv
  obtain ⟨hG, hW⟩ := ow_begin hB
  have hx := B.exec
  have hb := B.bytes
  have hr := B.returns
  have hts := atoms_spec (ws := wsX8_commonestCard) B.pre
  have hown : s.vm.findClass RX8 = some m.cls := findClass_of_methodNamed B.named
  have hlocks := B.notSynchronized
  have hinX8 : ∀ w ∈ wsX80, w ∈ wsX8_commonestCard := by decide +kernel
  have hJ35 : ∀ (k6 : Int32 → Int32 → Int32 → ow_S → Option (Int32 × ow_S)) (hk6 : ∀ (x1 : Int32) (x2 : Int32) (x3 : Int32) (σ : ow_S) (H : Heap) (locs : List Loc) (ls : Array Slot), k6 x1 x2 x3 σ = some (rr, σr) → ow_Wd Z 0 56 σ s H locs → lv_has ls 5 [(0, .ref (ow_ad Z 0)), (1, .int x1), (2, .int x2), (3, .int x3)] → W p l e (headSpec wsX8_commonestCard { frames := 2, cells := 0, slots := 0, locals := 83 }).room s m args below meth c H locs 0 0 (MQ below (ow_Qi Z 0 56 rr σr) args s 0 0 (ow_A Z 0 56)) (F0 m 6 ls [])), ∀ (x1 : Int32) (x2 : Int32) (x3 : Int32) (σ : ow_S) (H : Heap) (locs : List Loc) (ls : Array Slot), L_X8_commonestCard_35 fu k6 x1 x2 x3 σ = some (rr, σr) → ow_Wd Z 0 56 σ s H locs → lv_has ls 5 [(0, .ref (ow_ad Z 0)), (1, .int x1), (2, .int x2), (3, .int x3)] → W p l e (headSpec wsX8_commonestCard { frames := 2, cells := 0, slots := 0, locals := 83 }).room s m args below meth c H locs 0 0 (MQ below (ow_Qi Z 0 56 rr σr) args s 0 0 (ow_A Z 0 56)) (F0 m 35 ls []) := by
    intro k6 hk6 x1 x2 x3 σ H locs ls hf hW hl
    unfold L_X8_commonestCard_35 at hf
    refine ow_iinc (d := 1) (lv' := fun z => [(3, .int z), (0, .ref (ow_ad Z 0)), (1, .int x1), (2, .int x2)]) hx hb hf dX8_commonestCard_35 hl (k := 3) rfl (by decide) (by decide) (fun z => rfl) (fun x3_35 hf ls hl => ?_)
    refine lv_goto (tgt := 6) hx hb dX8_commonestCard_38 (by decide) ?_
    exact hk6 x1 x2 x3_35 σ _ _ _ hf hW (lv_sub hl [1, 2, 3, 0] rfl)
  have hJ6 : ∀ (fn : Nat), ∀ (x1 : Int32) (x2 : Int32) (x3 : Int32) (σ : ow_S) (H : Heap) (locs : List Loc) (ls : Array Slot), L_X8_commonestCard_6 fu fn x1 x2 x3 σ = some (rr, σr) → ow_Wd Z 0 56 σ s H locs → lv_has ls 5 [(0, .ref (ow_ad Z 0)), (1, .int x1), (2, .int x2), (3, .int x3)] → W p l e (headSpec wsX8_commonestCard { frames := 2, cells := 0, slots := 0, locals := 83 }).room s m args below meth c H locs 0 0 (MQ below (ow_Qi Z 0 56 rr σr) args s 0 0 (ow_A Z 0 56)) (F0 m 6 ls []) := by
    intro fn
    induction fn with
    | zero => intro x1 x2 x3 σ H locs ls hf hW hl; simp [L_X8_commonestCard_6] at hf
    | succ fn ih =>
      intro x1 x2 x3 σ H locs ls hf hW hl
      rw [L_X8_commonestCard_6] at hf
      refine lv_iload_n hx hb dX8_commonestCard_6 rfl (lv_at hl 3 rfl) ?_
      refine lv_aload_n hx hb dX8_commonestCard_7 rfl (lv_at hl 0 rfl) ?_
      refine ow_getV (ci := 8) (C := RX8) (T := TX8) (N := 15) hx hb hts hown hG hW ow_i0 (by decide) rfl hinX8 11 (by decide) (fk := 0) rfl (hts (.fieldLink RX8 74 "FiftyOneCards" "pack" "I") (by decide +kernel)) (v := .int (σ.1 0 11)) rfl dX8_commonestCard_8 ?_
      refine lv_icmp_gt (tgt := 41) hx hb dX8_commonestCard_11 (by decide) (fun c11 => ?_) (fun c11 => ?_)
      · replace hf := ow_if_t c11 hf
        refine lv_iload_n hx hb dX8_commonestCard_41 rfl (lv_at hl 1 rfl) ?_
        exact ow_iret hx hb hr hW hf dX8_commonestCard_42 hlocks
      · replace hf := ow_if_f c11 hf
        refine lv_aload_n hx hb dX8_commonestCard_14 rfl (lv_at hl 0 rfl) ?_
        refine ow_getV (ci := 8) (C := RX8) (T := TX8) (N := 15) hx hb hts hown hG hW ow_i0 (by decide) rfl hinX8 0 (by decide) (fk := 2) rfl (hts (.fieldLink RX8 10 "FiftyOneCards" "row" "LFiftyOneCards$Row;") (by decide +kernel)) (v := .ref (ow_ad Z 1)) (ow_vR hW ow_i0.1 ow_i0.2.1 rfl) dX8_commonestCard_15 ?_
        refine lv_iload_n hx hb dX8_commonestCard_18 rfl (lv_at hl 3 rfl) ?_
        obtain ⟨r_19, σ_19, hc19, hf⟩ := ow_cl_i hf
        refine ow_calli (va_runVN (As := [.int x3]) (rest := []) ⟨hx, hb, hml, hown, hts⟩ (c_X4_timesOf l Z fu 1 ow_i1 x3 σ r_19 σ_19 hc19) ⟨va_cnB (host := "FiftyOneCards") 1 hts ggX8_commonestCard_X4_timesOf rfl rfl rfl (ow_nwp hG (.methodLinkNest RX8 138 yX4_timesOf "FiftyOneCards") (by decide +kernel)) (hts (.initialized RX4) (by decide +kernel)) (by decide +kernel) ⟨Nat.le_of_ble_eq_true rfl, Nat.le_of_ble_eq_true rfl⟩, hts (.instanceMethod yX4_timesOf) (by decide +kernel), hts (.selects RX4 yX4_timesOf yX4_timesOf) (by decide +kernel)⟩ (ow_preV hG hW ow_i1 (by decide) rfl) rfl rfl hl.1 rfl (lv_room (Nat.le_of_ble_eq_true rfl)) dX8_commonestCard_19 ⟨Nat.zero_le _, Nat.zero_le _⟩) hW (fun H locs hW => ?_)
        refine lv_istore (lv' := [(4, .int r_19), (0, .ref (ow_ad Z 0)), (1, .int x1), (2, .int x2), (3, .int x3)]) hx hb dX8_commonestCard_22 hl (by decide) rfl (fun ls hl => ?_)
        refine lv_iload hx hb dX8_commonestCard_24 (lv_at hl 0 rfl) ?_
        refine lv_iload_n hx hb dX8_commonestCard_26 rfl (lv_at hl 3 rfl) ?_
        refine lv_icmp_le (tgt := 35) hx hb dX8_commonestCard_27 (by decide) (fun c27 => ?_) (fun c27 => ?_)
        · replace hf := ow_if_t c27 hf
          exact hJ35 (L_X8_commonestCard_6 fu fn) ih x1 x2 x3 σ_19 _ _ _ hf hW (lv_sub hl [1, 2, 3, 4] rfl)
        · replace hf := ow_if_f c27 hf
          refine lv_iload hx hb dX8_commonestCard_30 (lv_at hl 0 rfl) ?_
          refine lv_istore_n (lv' := [(2, .int r_19), (4, .int r_19), (0, .ref (ow_ad Z 0)), (1, .int x1), (3, .int x3)]) hx hb dX8_commonestCard_32 rfl hl (by decide) rfl (fun ls hl => ?_)
          refine lv_iload_n hx hb dX8_commonestCard_33 rfl (lv_at hl 4 rfl) ?_
          refine lv_istore_n (lv' := [(1, .int x3), (2, .int r_19), (4, .int r_19), (0, .ref (ow_ad Z 0)), (3, .int x3)]) hx hb dX8_commonestCard_34 rfl hl (by decide) rfl (fun ls hl => ?_)
          exact hJ35 (L_X8_commonestCard_6 fu fn) ih x3 r_19 x3 σ_19 _ _ _ hf hW (lv_sub hl [3, 0, 1, 4] rfl)
  have hl := lv_entry ([.ref (ow_ad Z 0)]) (n := 5) (Nat.le_of_ble_eq_true rfl)
  refine W.eq (g2 := F0 m 0 ((lg_sl ([.ref (ow_ad Z 0)]) ++ List.replicate (5 - (lg_sl ([.ref (ow_ad Z 0)])).length) Slot.unset).toArray) []) (by rw [hav]; exact lg_entry_eq _ _ _) ?_
  generalize (lg_sl ([.ref (ow_ad Z 0)]) ++ List.replicate (5 - (lg_sl ([.ref (ow_ad Z 0)])).length) Slot.unset).toArray = ls at hl ⊢
  have hl : lv_has ls 5 [(0, .ref (ow_ad Z 0))] := hl
  unfold f_X8_commonestCard at hf
  refine lv_iconst (v := -1) hx hb dX8_commonestCard_0 (by decide) ?_
  refine lv_istore_n (lv' := [(1, .int (-1 : Int32)), (0, .ref (ow_ad Z 0))]) hx hb dX8_commonestCard_1 rfl hl (by decide) rfl (fun ls hl => ?_)
  refine lv_iconst (v := 0) hx hb dX8_commonestCard_2 (by decide) ?_
  refine lv_istore_n (lv' := [(2, .int (0 : Int32)), (1, .int (-1 : Int32)), (0, .ref (ow_ad Z 0))]) hx hb dX8_commonestCard_3 rfl hl (by decide) rfl (fun ls hl => ?_)
  refine lv_iconst (v := 1) hx hb dX8_commonestCard_4 (by decide) ?_
  refine lv_istore_n (lv' := [(3, .int (1 : Int32)), (2, .int (0 : Int32)), (1, .int (-1 : Int32)), (0, .ref (ow_ad Z 0))]) hx hb dX8_commonestCard_5 rfl hl (by decide) rfl (fun ls hl => ?_)
  exact hJ6 fu (-1 : Int32) (0 : Int32) (1 : Int32) σ _ _ _ hf hW (lv_sub hl [3, 2, 1, 0] rfl)
set_option maxHeartbeats 40000000 in
set_option maxRecDepth 100000 in
theorem c_X8_truth (l : Launch) (Z : ow_Z) (fu : Nat) (a1 : Int32) (σ : ow_S) (rr : Int32) (σr : ow_S) (hf : f_X8_truth fu a1 σ = some (rr, σr)) : Met l yX8_truth wsX8_truth { frames := 3, cells := 0, slots := 0, locals := 107 } (ow_Pc Z 0 56 [.ref (ow_ad Z 0), .int a1] σ) (ow_Qi Z 0 56 rr σr) 0 0 (ow_A Z 0 56) := by
  refine Met.ofW (cc := cX8_truth) (maxL := 2) (ret := (some .int)) (by decide) rfl ?_
  intro p e s m args below meth c s₁ B hml hv
  obtain ⟨hav, hB⟩ := hv
  obtain ⟨hG, hW⟩ := ow_begin hB
  have hx := B.exec
  have hb := B.bytes
  have hr := B.returns
  have hts := atoms_spec (ws := wsX8_truth) B.pre
  have hown : s.vm.findClass RX8 = some m.cls := findClass_of_methodNamed B.named
  have hlocks := B.notSynchronized
  have hinX4 : ∀ w ∈ wsX40, w ∈ wsX8_truth := by decide +kernel
  have hinX8 : ∀ w ∈ wsX80, w ∈ wsX8_truth := by decide +kernel
  have hl := lv_entry ([.ref (ow_ad Z 0), .int a1]) (n := 2) (Nat.le_of_ble_eq_true rfl)
  refine W.eq (g2 := F0 m 0 ((lg_sl ([.ref (ow_ad Z 0), .int a1]) ++ List.replicate (2 - (lg_sl ([.ref (ow_ad Z 0), .int a1])).length) Slot.unset).toArray) []) (by rw [hav]; exact lg_entry_eq _ _ _) ?_
  generalize (lg_sl ([.ref (ow_ad Z 0), .int a1]) ++ List.replicate (2 - (lg_sl ([.ref (ow_ad Z 0), .int a1])).length) Slot.unset).toArray = ls at hl ⊢
  have hl : lv_has ls 2 [(0, .ref (ow_ad Z 0)), (1, .int a1)] := hl
  unfold f_X8_truth at hf
  refine lv_iload_n hx hb dX8_truth_0 rfl (lv_at hl 1 rfl) ?_
  by_cases c1_0 : a1 = (0 : Int32)
  · replace hf := ow_if_t c1_0 hf
    refine lv_tableIn (off := 47) (tgt := 48) hx hb dX8_truth_1 (by rw [c1_0]; decide) (by rw [c1_0]; decide) (by rw [c1_0]; rfl) (by decide) ?_
    refine lv_aload_n hx hb dX8_truth_48 rfl (lv_at hl 0 rfl) ?_
    refine ow_getV (ci := 8) (C := RX8) (T := TX8) (N := 15) hx hb hts hown hG hW ow_i0 (by decide) rfl hinX8 11 (by decide) (fk := 0) rfl (hts (.fieldLink RX8 74 "FiftyOneCards" "pack" "I") (by decide +kernel)) (v := .int (σ.1 0 11)) rfl dX8_truth_49 ?_
    refine lv_aload_n hx hb dX8_truth_52 rfl (lv_at hl 0 rfl) ?_
    obtain ⟨r_53, σ_53, hc53, hf⟩ := ow_cl_i hf
    refine ow_calli (va_runV (As := []) (rest := [.int (σ.1 0 11)]) ⟨hx, hb, hml, hown, hts⟩ (c_X8_unlikeCards l Z fu σ r_53 σ_53 hc53) (cwV 0 hts gX8_truth_X8_unlikeCards rfl rfl rfl (by decide +kernel) ⟨Nat.le_of_ble_eq_true rfl, Nat.le_of_ble_eq_true rfl⟩) (ow_preV hG hW ow_i0 (by decide) rfl) rfl rfl hl.1 rfl (lv_room (Nat.le_of_ble_eq_true rfl)) dX8_truth_53 ⟨Nat.zero_le _, Nat.zero_le _⟩) hW (fun H locs hW => ?_)
    refine lv_isub hx hb dX8_truth_56 ?_
    exact ow_iret hx hb hr hW hf dX8_truth_57 hlocks
  · replace hf := ow_if_f c1_0 hf
    by_cases c1_1 : a1 = (1 : Int32)
    · replace hf := ow_if_t c1_1 hf
      refine lv_tableIn (off := 57) (tgt := 58) hx hb dX8_truth_1 (by rw [c1_1]; decide) (by rw [c1_1]; decide) (by rw [c1_1]; rfl) (by decide) ?_
      refine lv_aload_n hx hb dX8_truth_58 rfl (lv_at hl 0 rfl) ?_
      obtain ⟨r_59, σ_59, hc59, hf⟩ := ow_cl_i hf
      refine ow_calli (va_runV (As := []) (rest := []) ⟨hx, hb, hml, hown, hts⟩ (c_X8_unlikeCards l Z fu σ r_59 σ_59 hc59) (cwV 0 hts gX8_truth_X8_unlikeCards rfl rfl rfl (by decide +kernel) ⟨Nat.le_of_ble_eq_true rfl, Nat.le_of_ble_eq_true rfl⟩) (ow_preV hG hW ow_i0 (by decide) rfl) rfl rfl hl.1 rfl (lv_room (Nat.le_of_ble_eq_true rfl)) dX8_truth_59 ⟨Nat.zero_le _, Nat.zero_le _⟩) hW (fun H locs hW => ?_)
      exact ow_iret hx hb hr hW hf dX8_truth_62 hlocks
    · replace hf := ow_if_f c1_1 hf
      by_cases c1_2 : a1 = (2 : Int32)
      · replace hf := ow_if_t c1_2 hf
        refine lv_tableIn (off := 62) (tgt := 63) hx hb dX8_truth_1 (by rw [c1_2]; decide) (by rw [c1_2]; decide) (by rw [c1_2]; rfl) (by decide) ?_
        refine lv_aload_n hx hb dX8_truth_63 rfl (lv_at hl 0 rfl) ?_
        obtain ⟨r_64, σ_64, hc64, hf⟩ := ow_cl_i hf
        refine ow_calli (va_runV (As := []) (rest := []) ⟨hx, hb, hml, hown, hts⟩ (c_X8_commonestCard l Z fu σ r_64 σ_64 hc64) (cwV 0 hts gX8_truth_X8_commonestCard rfl rfl rfl (by decide +kernel) ⟨Nat.le_of_ble_eq_true rfl, Nat.le_of_ble_eq_true rfl⟩) (ow_preV hG hW ow_i0 (by decide) rfl) rfl rfl hl.1 rfl (lv_room (Nat.le_of_ble_eq_true rfl)) dX8_truth_64 ⟨Nat.zero_le _, Nat.zero_le _⟩) hW (fun H locs hW => ?_)
        exact ow_iret hx hb hr hW hf dX8_truth_67 hlocks
      · replace hf := ow_if_f c1_2 hf
        by_cases c1_3 : a1 = (3 : Int32)
        · replace hf := ow_if_t c1_3 hf
          refine lv_tableIn (off := 67) (tgt := 68) hx hb dX8_truth_1 (by rw [c1_3]; decide) (by rw [c1_3]; decide) (by rw [c1_3]; rfl) (by decide) ?_
          refine lv_aload_n hx hb dX8_truth_68 rfl (lv_at hl 0 rfl) ?_
          refine ow_getV (ci := 8) (C := RX8) (T := TX8) (N := 15) hx hb hts hown hG hW ow_i0 (by decide) rfl hinX8 0 (by decide) (fk := 2) rfl (hts (.fieldLink RX8 10 "FiftyOneCards" "row" "LFiftyOneCards$Row;") (by decide +kernel)) (v := .ref (ow_ad Z 1)) (ow_vR hW ow_i0.1 ow_i0.2.1 rfl) dX8_truth_69 ?_
          refine lv_aload_n hx hb dX8_truth_72 rfl (lv_at hl 0 rfl) ?_
          obtain ⟨r_73, σ_73, hc73, hf⟩ := ow_cl_i hf
          refine ow_calli (va_runV (As := []) (rest := [.ref (ow_ad Z 1)]) ⟨hx, hb, hml, hown, hts⟩ (c_X8_commonestCard l Z fu σ r_73 σ_73 hc73) (cwV 0 hts gX8_truth_X8_commonestCard rfl rfl rfl (by decide +kernel) ⟨Nat.le_of_ble_eq_true rfl, Nat.le_of_ble_eq_true rfl⟩) (ow_preV hG hW ow_i0 (by decide) rfl) rfl rfl hl.1 rfl (lv_room (Nat.le_of_ble_eq_true rfl)) dX8_truth_73 ⟨Nat.zero_le _, Nat.zero_le _⟩) hW (fun H locs hW => ?_)
          obtain ⟨r_76, σ_76, hc76, hf⟩ := ow_cl_i hf
          refine ow_calli (va_runVN (As := [.int r_73]) (rest := []) ⟨hx, hb, hml, hown, hts⟩ (c_X4_timesOf l Z fu 1 ow_i1 r_73 σ_73 r_76 σ_76 hc76) ⟨va_cnB (host := "FiftyOneCards") 1 hts ggX8_truth_X4_timesOf rfl rfl rfl (ow_nwp hG (.methodLinkNest RX8 138 yX4_timesOf "FiftyOneCards") (by decide +kernel)) (hts (.initialized RX4) (by decide +kernel)) (by decide +kernel) ⟨Nat.le_of_ble_eq_true rfl, Nat.le_of_ble_eq_true rfl⟩, hts (.instanceMethod yX4_timesOf) (by decide +kernel), hts (.selects RX4 yX4_timesOf yX4_timesOf) (by decide +kernel)⟩ (ow_preV hG hW ow_i1 (by decide) rfl) rfl rfl hl.1 rfl (lv_room (Nat.le_of_ble_eq_true rfl)) dX8_truth_76 ⟨Nat.zero_le _, Nat.zero_le _⟩) hW (fun H locs hW => ?_)
          exact ow_iret hx hb hr hW hf dX8_truth_79 hlocks
        · replace hf := ow_if_f c1_3 hf
          by_cases c1_4 : a1 = (4 : Int32)
          · replace hf := ow_if_t c1_4 hf
            refine lv_tableIn (off := 79) (tgt := 80) hx hb dX8_truth_1 (by rw [c1_4]; decide) (by rw [c1_4]; decide) (by rw [c1_4]; rfl) (by decide) ?_
            refine lv_aload_n hx hb dX8_truth_80 rfl (lv_at hl 0 rfl) ?_
            refine ow_getV (ci := 8) (C := RX8) (T := TX8) (N := 15) hx hb hts hown hG hW ow_i0 (by decide) rfl hinX8 0 (by decide) (fk := 2) rfl (hts (.fieldLink RX8 10 "FiftyOneCards" "row" "LFiftyOneCards$Row;") (by decide +kernel)) (v := .ref (ow_ad Z 1)) (ow_vR hW ow_i0.1 ow_i0.2.1 rfl) dX8_truth_81 ?_
            refine lv_aload_n hx hb dX8_truth_84 rfl (lv_at hl 0 rfl) ?_
            obtain ⟨r_85, σ_85, hc85, hf⟩ := ow_cl_i hf
            refine ow_calli (va_runV (As := []) (rest := [.ref (ow_ad Z 1)]) ⟨hx, hb, hml, hown, hts⟩ (c_X8_commonestCard l Z fu σ r_85 σ_85 hc85) (cwV 0 hts gX8_truth_X8_commonestCard rfl rfl rfl (by decide +kernel) ⟨Nat.le_of_ble_eq_true rfl, Nat.le_of_ble_eq_true rfl⟩) (ow_preV hG hW ow_i0 (by decide) rfl) rfl rfl hl.1 rfl (lv_room (Nat.le_of_ble_eq_true rfl)) dX8_truth_85 ⟨Nat.zero_le _, Nat.zero_le _⟩) hW (fun H locs hW => ?_)
            obtain ⟨r_88, σ_88, hc88, hf⟩ := ow_cl_i hf
            refine ow_calli (va_runVN (As := [.int r_85]) (rest := []) ⟨hx, hb, hml, hown, hts⟩ (c_X4_timesOf l Z fu 1 ow_i1 r_85 σ_85 r_88 σ_88 hc88) ⟨va_cnB (host := "FiftyOneCards") 1 hts ggX8_truth_X4_timesOf rfl rfl rfl (ow_nwp hG (.methodLinkNest RX8 138 yX4_timesOf "FiftyOneCards") (by decide +kernel)) (hts (.initialized RX4) (by decide +kernel)) (by decide +kernel) ⟨Nat.le_of_ble_eq_true rfl, Nat.le_of_ble_eq_true rfl⟩, hts (.instanceMethod yX4_timesOf) (by decide +kernel), hts (.selects RX4 yX4_timesOf yX4_timesOf) (by decide +kernel)⟩ (ow_preV hG hW ow_i1 (by decide) rfl) rfl rfl hl.1 rfl (lv_room (Nat.le_of_ble_eq_true rfl)) dX8_truth_88 ⟨Nat.zero_le _, Nat.zero_le _⟩) hW (fun H locs hW => ?_)
            refine lv_iconst (v := 2) hx hb dX8_truth_91 (by decide) ?_
            refine lv_imul hx hb dX8_truth_92 ?_
            refine lv_aload_n hx hb dX8_truth_93 rfl (lv_at hl 0 rfl) ?_
            refine ow_getV (ci := 8) (C := RX8) (T := TX8) (N := 15) hx hb hts hown hG hW ow_i0 (by decide) rfl hinX8 0 (by decide) (fk := 2) rfl (hts (.fieldLink RX8 10 "FiftyOneCards" "row" "LFiftyOneCards$Row;") (by decide +kernel)) (v := .ref (ow_ad Z 1)) (ow_vR hW ow_i0.1 ow_i0.2.1 rfl) dX8_truth_94 ?_
            refine ow_getVN (ci := 4) (C := RX4) (T := TX4) (N := 2) hx hb hts hown hG hW ow_i1 (by decide) rfl hinX4 1 (by decide) (fk := 0) rfl (ow_nwp hG (.fieldLinkNest RX8 108 "FiftyOneCards$Row" "size" "I" "FiftyOneCards") (by decide +kernel)) (v := .int (σ_88.1 1 1)) rfl dX8_truth_97 ?_
            refine lv_icmp_le (tgt := 107) hx hb dX8_truth_100 (by decide) (fun c100 => ?_) (fun c100 => ?_)
            · replace hf := ow_if_t c100 hf
              refine lv_iconst (v := 0) hx hb dX8_truth_107 (by decide) ?_
              exact ow_iret hx hb hr hW hf dX8_truth_108 hlocks
            · replace hf := ow_if_f c100 hf
              refine lv_iconst (v := 1) hx hb dX8_truth_103 (by decide) ?_
              refine lv_goto (tgt := 108) hx hb dX8_truth_104 (by decide) ?_
              exact ow_iret hx hb hr hW hf dX8_truth_108 hlocks
          · replace hf := ow_if_f c1_4 hf
            by_cases c1_5 : a1 = (5 : Int32)
            · replace hf := ow_if_t c1_5 hf
              refine lv_tableIn (off := 108) (tgt := 109) hx hb dX8_truth_1 (by rw [c1_5]; decide) (by rw [c1_5]; decide) (by rw [c1_5]; rfl) (by decide) ?_
              refine lv_aload_n hx hb dX8_truth_109 rfl (lv_at hl 0 rfl) ?_
              refine ow_getV (ci := 8) (C := RX8) (T := TX8) (N := 15) hx hb hts hown hG hW ow_i0 (by decide) rfl hinX8 0 (by decide) (fk := 2) rfl (hts (.fieldLink RX8 10 "FiftyOneCards" "row" "LFiftyOneCards$Row;") (by decide +kernel)) (v := .ref (ow_ad Z 1)) (ow_vR hW ow_i0.1 ow_i0.2.1 rfl) dX8_truth_110 ?_
              obtain ⟨r_113, σ_113, hc113, hf⟩ := ow_cl_i hf
              refine ow_calli (va_runVN (As := []) (rest := []) ⟨hx, hb, hml, hown, hts⟩ (c_X4_earliestTwice l Z fu 1 ow_i1 σ r_113 σ_113 hc113) ⟨va_cnB (host := "FiftyOneCards") 0 hts ggX8_truth_X4_earliestTwice rfl rfl rfl (ow_nwp hG (.methodLinkNest RX8 148 yX4_earliestTwice "FiftyOneCards") (by decide +kernel)) (hts (.initialized RX4) (by decide +kernel)) (by decide +kernel) ⟨Nat.le_of_ble_eq_true rfl, Nat.le_of_ble_eq_true rfl⟩, hts (.instanceMethod yX4_earliestTwice) (by decide +kernel), hts (.selects RX4 yX4_earliestTwice yX4_earliestTwice) (by decide +kernel)⟩ (ow_preV hG hW ow_i1 (by decide) rfl) rfl rfl hl.1 rfl (lv_room (Nat.le_of_ble_eq_true rfl)) dX8_truth_113 ⟨Nat.zero_le _, Nat.zero_le _⟩) hW (fun H locs hW => ?_)
              exact ow_iret hx hb hr hW hf dX8_truth_116 hlocks
            · replace hf := ow_if_f c1_5 hf
              by_cases c1_6 : a1 = (6 : Int32)
              · replace hf := ow_if_t c1_6 hf
                refine lv_tableIn (off := 116) (tgt := 117) hx hb dX8_truth_1 (by rw [c1_6]; decide) (by rw [c1_6]; decide) (by rw [c1_6]; rfl) (by decide) ?_
                refine lv_aload_n hx hb dX8_truth_117 rfl (lv_at hl 0 rfl) ?_
                refine ow_getV (ci := 8) (C := RX8) (T := TX8) (N := 15) hx hb hts hown hG hW ow_i0 (by decide) rfl hinX8 0 (by decide) (fk := 2) rfl (hts (.fieldLink RX8 10 "FiftyOneCards" "row" "LFiftyOneCards$Row;") (by decide +kernel)) (v := .ref (ow_ad Z 1)) (ow_vR hW ow_i0.1 ow_i0.2.1 rfl) dX8_truth_118 ?_
                obtain ⟨r_121, σ_121, hc121, hf⟩ := ow_cl_i hf
                refine ow_calli (va_runVN (As := []) (rest := []) ⟨hx, hb, hml, hown, hts⟩ (c_X4_sum l Z fu 1 ow_i1 σ r_121 σ_121 hc121) ⟨va_cnB (host := "FiftyOneCards") 0 hts ggX8_truth_X4_sum rfl rfl rfl (ow_nwp hG (.methodLinkNest RX8 151 yX4_sum "FiftyOneCards") (by decide +kernel)) (hts (.initialized RX4) (by decide +kernel)) (by decide +kernel) ⟨Nat.le_of_ble_eq_true rfl, Nat.le_of_ble_eq_true rfl⟩, hts (.instanceMethod yX4_sum) (by decide +kernel), hts (.selects RX4 yX4_sum yX4_sum) (by decide +kernel)⟩ (ow_preV hG hW ow_i1 (by decide) rfl) rfl rfl hl.1 rfl (lv_room (Nat.le_of_ble_eq_true rfl)) dX8_truth_121 ⟨Nat.zero_le _, Nat.zero_le _⟩) hW (fun H locs hW => ?_)
                exact ow_iret hx hb hr hW hf dX8_truth_124 hlocks
              · replace hf := ow_if_f c1_6 hf
                by_cases c1_7 : a1 = (7 : Int32)
                · replace hf := ow_if_t c1_7 hf
                  refine lv_tableIn (off := 124) (tgt := 125) hx hb dX8_truth_1 (by rw [c1_7]; decide) (by rw [c1_7]; decide) (by rw [c1_7]; rfl) (by decide) ?_
                  refine lv_aload_n hx hb dX8_truth_125 rfl (lv_at hl 0 rfl) ?_
                  refine ow_getV (ci := 8) (C := RX8) (T := TX8) (N := 15) hx hb hts hown hG hW ow_i0 (by decide) rfl hinX8 0 (by decide) (fk := 2) rfl (hts (.fieldLink RX8 10 "FiftyOneCards" "row" "LFiftyOneCards$Row;") (by decide +kernel)) (v := .ref (ow_ad Z 1)) (ow_vR hW ow_i0.1 ow_i0.2.1 rfl) dX8_truth_126 ?_
                  obtain ⟨r_129, σ_129, hc129, hf⟩ := ow_cl_i hf
                  refine ow_calli (va_runVN (As := []) (rest := []) ⟨hx, hb, hml, hown, hts⟩ (c_X4_squares l Z fu 1 ow_i1 σ r_129 σ_129 hc129) ⟨va_cnB (host := "FiftyOneCards") 0 hts ggX8_truth_X4_squares rfl rfl rfl (ow_nwp hG (.methodLinkNest RX8 154 yX4_squares "FiftyOneCards") (by decide +kernel)) (hts (.initialized RX4) (by decide +kernel)) (by decide +kernel) ⟨Nat.le_of_ble_eq_true rfl, Nat.le_of_ble_eq_true rfl⟩, hts (.instanceMethod yX4_squares) (by decide +kernel), hts (.selects RX4 yX4_squares yX4_squares) (by decide +kernel)⟩ (ow_preV hG hW ow_i1 (by decide) rfl) rfl rfl hl.1 rfl (lv_room (Nat.le_of_ble_eq_true rfl)) dX8_truth_129 ⟨Nat.zero_le _, Nat.zero_le _⟩) hW (fun H locs hW => ?_)
                  exact ow_iret hx hb hr hW hf dX8_truth_132 hlocks
                · replace hf := ow_if_f c1_7 hf
                  have e1_0 := lv_neT c1_0 (a := 0) (by decide)
                  have e1_1 := lv_neT c1_1 (a := 1) (by decide)
                  have e1_2 := lv_neT c1_2 (a := 2) (by decide)
                  have e1_3 := lv_neT c1_3 (a := 3) (by decide)
                  have e1_4 := lv_neT c1_4 (a := 4) (by decide)
                  have e1_5 := lv_neT c1_5 (a := 5) (by decide)
                  have e1_6 := lv_neT c1_6 (a := 6) (by decide)
                  have e1_7 := lv_neT c1_7 (a := 7) (by decide)
                  refine lv_tableOut (tgt := 133) hx hb dX8_truth_1 (by omega) (by decide) ?_
                  refine lv_bipush (v := -2) hx hb dX8_truth_133 (by decide) ?_
                  exact ow_iret hx hb hr hW hf dX8_truth_135 hlocks
set_option maxHeartbeats 40000000 in
set_option maxRecDepth 100000 in
theorem c_X8_packSum (l : Launch) (Z : ow_Z) (fu : Nat) (σ : ow_S) (rr : Int32) (σr : ow_S) (hf : f_X8_packSum fu σ = some (rr, σr)) : Met l yX8_packSum wsX8_packSum { frames := 1, cells := 0, slots := 0, locals := 60 } (ow_Pc Z 0 56 [.ref (ow_ad Z 0)] σ) (ow_Qi Z 0 56 rr σr) 0 0 (ow_A Z 0 56) := by
  refine Met.ofW (cc := cX8_packSum) (maxL := 1) (ret := (some .int)) (by decide) rfl ?_
  intro p e s m args below meth c s₁ B hml hv
  obtain ⟨hav, hB⟩ := hv
  obtain ⟨hG, hW⟩ := ow_begin hB
  have hx := B.exec
  have hb := B.bytes
  have hr := B.returns
  have hts := atoms_spec (ws := wsX8_packSum) B.pre
  have hown : s.vm.findClass RX8 = some m.cls := findClass_of_methodNamed B.named
  have hlocks := B.notSynchronized
  have hinX8 : ∀ w ∈ wsX80, w ∈ wsX8_packSum := by decide +kernel
  have hl := lv_entry ([.ref (ow_ad Z 0)]) (n := 1) (Nat.le_of_ble_eq_true rfl)
  refine W.eq (g2 := F0 m 0 ((lg_sl ([.ref (ow_ad Z 0)]) ++ List.replicate (1 - (lg_sl ([.ref (ow_ad Z 0)])).length) Slot.unset).toArray) []) (by rw [hav]; exact lg_entry_eq _ _ _) ?_
  generalize (lg_sl ([.ref (ow_ad Z 0)]) ++ List.replicate (1 - (lg_sl ([.ref (ow_ad Z 0)])).length) Slot.unset).toArray = ls at hl ⊢
  have hl : lv_has ls 1 [(0, .ref (ow_ad Z 0))] := hl
  unfold f_X8_packSum at hf
  refine lv_aload_n hx hb dX8_packSum_0 rfl (lv_at hl 0 rfl) ?_
  refine ow_getV (ci := 8) (C := RX8) (T := TX8) (N := 15) hx hb hts hown hG hW ow_i0 (by decide) rfl hinX8 11 (by decide) (fk := 0) rfl (hts (.fieldLink RX8 74 "FiftyOneCards" "pack" "I") (by decide +kernel)) (v := .int (σ.1 0 11)) rfl dX8_packSum_1 ?_
  refine lv_aload_n hx hb dX8_packSum_4 rfl (lv_at hl 0 rfl) ?_
  refine ow_getV (ci := 8) (C := RX8) (T := TX8) (N := 15) hx hb hts hown hG hW ow_i0 (by decide) rfl hinX8 11 (by decide) (fk := 0) rfl (hts (.fieldLink RX8 74 "FiftyOneCards" "pack" "I") (by decide +kernel)) (v := .int (σ.1 0 11)) rfl dX8_packSum_5 ?_
  refine lv_iconst (v := 1) hx hb dX8_packSum_8 (by decide) ?_
  refine lv_iadd hx hb dX8_packSum_9 ?_
  refine lv_imul hx hb dX8_packSum_10 ?_
  refine lv_iconst (v := 2) hx hb dX8_packSum_11 (by decide) ?_
  refine lv_idiv hx hb dX8_packSum_12 (by decide) ?_
  exact ow_iret hx hb hr hW hf dX8_packSum_13 hlocks
set_option maxHeartbeats 40000000 in
set_option maxRecDepth 100000 in
theorem c_X8_two (l : Launch) (Z : ow_Z) (fu : Nat) (a1 : Int32) (σ : ow_S) (rr : Int32) (σr : ow_S) (hf : f_X8_two fu a1 σ = some (rr, σr)) : Met l yX8_two wsX8_two { frames := 2, cells := 0, slots := 0, locals := 82 } (ow_Pc Z 0 56 [.ref (ow_ad Z 0), .int a1] σ) (ow_Qi Z 0 56 rr σr) 0 0 (ow_A Z 0 56) := by
  refine Met.ofW (cc := cX8_two) (maxL := 6) (ret := (some .int)) (by decide) rfl ?_
  intro p e s m args below meth c s₁ B hml hv
  obtain ⟨hav, hB⟩ := hv
  obtain ⟨hG, hW⟩ := ow_begin hB
  have hx := B.exec
  have hb := B.bytes
  have hr := B.returns
  have hts := atoms_spec (ws := wsX8_two) B.pre
  have hown : s.vm.findClass RX8 = some m.cls := findClass_of_methodNamed B.named
  have hlocks := B.notSynchronized
  have hinX8 : ∀ w ∈ wsX80, w ∈ wsX8_two := by decide +kernel
  have hJ124 : ∀ (k60 : Int32 → Int32 → Int32 → Int32 → ow_S → Option (Int32 × ow_S)) (hk60 : ∀ (x1 : Int32) (x2 : Int32) (x3 : Int32) (x4 : Int32) (σ : ow_S) (H : Heap) (locs : List Loc) (ls : Array Slot), k60 x1 x2 x3 x4 σ = some (rr, σr) → ow_Wd Z 0 56 σ s H locs → lv_has ls 6 [(0, .ref (ow_ad Z 0)), (1, .int x1), (2, .int x2), (3, .int x3), (4, .int x4)] → W p l e (headSpec wsX8_two { frames := 2, cells := 0, slots := 0, locals := 82 }).room s m args below meth c H locs 0 0 (MQ below (ow_Qi Z 0 56 rr σr) args s 0 0 (ow_A Z 0 56)) (F0 m 60 ls [])), ∀ (x1 : Int32) (x2 : Int32) (x3 : Int32) (x4 : Int32) (σ : ow_S) (H : Heap) (locs : List Loc) (ls : Array Slot), L_X8_two_124 fu k60 x1 x2 x3 x4 σ = some (rr, σr) → ow_Wd Z 0 56 σ s H locs → lv_has ls 6 [(0, .ref (ow_ad Z 0)), (1, .int x1), (2, .int x2), (3, .int x3), (4, .int x4)] → W p l e (headSpec wsX8_two { frames := 2, cells := 0, slots := 0, locals := 82 }).room s m args below meth c H locs 0 0 (MQ below (ow_Qi Z 0 56 rr σr) args s 0 0 (ow_A Z 0 56)) (F0 m 124 ls []) := by
    intro k60 hk60 x1 x2 x3 x4 σ H locs ls hf hW hl
    unfold L_X8_two_124 at hf
    refine ow_iinc (d := 1) (lv' := fun z => [(4, .int z), (0, .ref (ow_ad Z 0)), (1, .int x1), (2, .int x2), (3, .int x3)]) hx hb hf dX8_two_124 hl (k := 4) rfl (by decide) (by decide) (fun z => rfl) (fun x4_124 hf ls hl => ?_)
    refine lv_goto (tgt := 60) hx hb dX8_two_127 (by decide) ?_
    exact hk60 x1 x2 x3 x4_124 σ _ _ _ hf hW (lv_sub hl [1, 2, 3, 4, 0] rfl)
  have hJ60 : ∀ (fn : Nat), ∀ (x1 : Int32) (x2 : Int32) (x3 : Int32) (x4 : Int32) (σ : ow_S) (H : Heap) (locs : List Loc) (ls : Array Slot), L_X8_two_60 fu fn x1 x2 x3 x4 σ = some (rr, σr) → ow_Wd Z 0 56 σ s H locs → lv_has ls 6 [(0, .ref (ow_ad Z 0)), (1, .int x1), (2, .int x2), (3, .int x3), (4, .int x4)] → W p l e (headSpec wsX8_two { frames := 2, cells := 0, slots := 0, locals := 82 }).room s m args below meth c H locs 0 0 (MQ below (ow_Qi Z 0 56 rr σr) args s 0 0 (ow_A Z 0 56)) (F0 m 60 ls []) := by
    intro fn
    induction fn with
    | zero => intro x1 x2 x3 x4 σ H locs ls hf hW hl; simp [L_X8_two_60] at hf
    | succ fn ih =>
      intro x1 x2 x3 x4 σ H locs ls hf hW hl
      rw [L_X8_two_60] at hf
      refine lv_iload hx hb dX8_two_60 (lv_at hl 4 rfl) ?_
      refine lv_aload_n hx hb dX8_two_62 rfl (lv_at hl 0 rfl) ?_
      refine ow_getV (ci := 8) (C := RX8) (T := TX8) (N := 15) hx hb hts hown hG hW ow_i0 (by decide) rfl hinX8 11 (by decide) (fk := 0) rfl (hts (.fieldLink RX8 74 "FiftyOneCards" "pack" "I") (by decide +kernel)) (v := .int (σ.1 0 11)) rfl dX8_two_63 ?_
      refine lv_icmp_gt (tgt := 130) hx hb dX8_two_66 (by decide) (fun c66 => ?_) (fun c66 => ?_)
      · replace hf := ow_if_t c66 hf
        refine lv_iload_n hx hb dX8_two_130 rfl (lv_at hl 1 rfl) ?_
        refine lv_if_ne (tgt := 138) hx hb dX8_two_131 (by decide) (fun c131 => ?_) (fun c131 => ?_)
        · replace hf := ow_if_f c131 hf
          refine lv_aload_n hx hb dX8_two_138 rfl (lv_at hl 0 rfl) ?_
          refine ow_getV (ci := 8) (C := RX8) (T := TX8) (N := 15) hx hb hts hown hG hW ow_i0 (by decide) rfl hinX8 11 (by decide) (fk := 0) rfl (hts (.fieldLink RX8 74 "FiftyOneCards" "pack" "I") (by decide +kernel)) (v := .int (σ.1 0 11)) rfl dX8_two_139 ?_
          exact ow_iret hx hb hr hW hf dX8_two_142 hlocks
        · replace hf := ow_if_t c131 hf
          refine lv_iconst (v := -1) hx hb dX8_two_134 (by decide) ?_
          refine lv_goto (tgt := 142) hx hb dX8_two_135 (by decide) ?_
          exact ow_iret hx hb hr hW hf dX8_two_142 hlocks
      · replace hf := ow_if_f c66 hf
        refine lv_iload_n hx hb dX8_two_69 rfl (lv_at hl 2 rfl) ?_
        refine lv_iload hx hb dX8_two_70 (lv_at hl 4 rfl) ?_
        refine lv_isub hx hb dX8_two_72 ?_
        refine ow_topi hf (fun x5_73 hf => ?_)
        refine lv_istore (lv' := [(5, .int x5_73), (0, .ref (ow_ad Z 0)), (1, .int x1), (2, .int x2), (3, .int x3), (4, .int x4)]) hx hb dX8_two_73 hl (by decide) rfl (fun ls hl => ?_)
        refine lv_iload hx hb dX8_two_75 (lv_at hl 0 rfl) ?_
        refine lv_iload hx hb dX8_two_77 (lv_at hl 5 rfl) ?_
        refine lv_icmp_le (tgt := 124) hx hb dX8_two_79 (by decide) (fun c79 => ?_) (fun c79 => ?_)
        · replace hf := ow_if_t c79 hf
          exact hJ124 (L_X8_two_60 fu fn) ih x1 x2 x3 x4 σ _ _ _ hf hW (lv_sub hl [1, 2, 3, 4, 5] rfl)
        · replace hf := ow_if_f c79 hf
          refine lv_iload hx hb dX8_two_82 (lv_at hl 0 rfl) ?_
          refine lv_aload_n hx hb dX8_two_84 rfl (lv_at hl 1 rfl) ?_
          refine ow_getV (ci := 8) (C := RX8) (T := TX8) (N := 15) hx hb hts hown hG hW ow_i0 (by decide) rfl hinX8 11 (by decide) (fk := 0) rfl (hts (.fieldLink RX8 74 "FiftyOneCards" "pack" "I") (by decide +kernel)) (v := .int (σ.1 0 11)) rfl dX8_two_85 ?_
          refine lv_icmp_gt (tgt := 124) hx hb dX8_two_88 (by decide) (fun c88 => ?_) (fun c88 => ?_)
          · replace hf := ow_if_t c88 hf
            exact hJ124 (L_X8_two_60 fu fn) ih x1 x2 x3 x4 σ _ _ _ hf hW (lv_sub hl [1, 2, 3, 4, 5] rfl)
          · replace hf := ow_if_f c88 hf
            refine lv_iload hx hb dX8_two_91 (lv_at hl 5 rfl) ?_
            refine lv_iload hx hb dX8_two_93 (lv_at hl 5 rfl) ?_
            refine lv_imul hx hb dX8_two_95 ?_
            refine lv_iload hx hb dX8_two_96 (lv_at hl 0 rfl) ?_
            refine lv_iload hx hb dX8_two_98 (lv_at hl 0 rfl) ?_
            refine lv_imul hx hb dX8_two_100 ?_
            refine lv_iadd hx hb dX8_two_101 ?_
            refine lv_iload_n hx hb dX8_two_102 rfl (lv_at hl 4 rfl) ?_
            refine lv_icmp_ne (tgt := 124) hx hb dX8_two_103 (by decide) (fun c103 => ?_) (fun c103 => ?_)
            · replace hf := ow_if_f c103 hf
              exact hJ124 (L_X8_two_60 fu fn) ih x1 x2 x3 x4 σ _ _ _ hf hW (lv_sub hl [1, 2, 3, 4, 5] rfl)
            · replace hf := ow_if_t c103 hf
              refine lv_iload_n hx hb dX8_two_106 rfl (lv_at hl 2 rfl) ?_
              refine lv_if_ne (tgt := 121) hx hb dX8_two_107 (by decide) (fun c107 => ?_) (fun c107 => ?_)
              · replace hf := ow_if_f c107 hf
                refine lv_iload hx hb dX8_two_121 (lv_at hl 5 rfl) ?_
                exact ow_iret hx hb hr hW hf dX8_two_123 hlocks
              · replace hf := ow_if_t c107 hf
                refine lv_bipush (v := 100) hx hb dX8_two_110 (by decide) ?_
                refine lv_iload hx hb dX8_two_112 (lv_at hl 5 rfl) ?_
                refine lv_imul hx hb dX8_two_114 ?_
                refine lv_iload hx hb dX8_two_115 (lv_at hl 0 rfl) ?_
                refine lv_iadd hx hb dX8_two_117 ?_
                refine lv_goto (tgt := 123) hx hb dX8_two_118 (by decide) ?_
                exact ow_iret hx hb hr hW hf dX8_two_123 hlocks
  have hl := lv_entry ([.ref (ow_ad Z 0), .int a1]) (n := 6) (Nat.le_of_ble_eq_true rfl)
  refine W.eq (g2 := F0 m 0 ((lg_sl ([.ref (ow_ad Z 0), .int a1]) ++ List.replicate (6 - (lg_sl ([.ref (ow_ad Z 0), .int a1])).length) Slot.unset).toArray) []) (by rw [hav]; exact lg_entry_eq _ _ _) ?_
  generalize (lg_sl ([.ref (ow_ad Z 0), .int a1]) ++ List.replicate (6 - (lg_sl ([.ref (ow_ad Z 0), .int a1])).length) Slot.unset).toArray = ls at hl ⊢
  have hl : lv_has ls 6 [(0, .ref (ow_ad Z 0)), (1, .int a1)] := hl
  unfold f_X8_two at hf
  refine lv_iload_n hx hb dX8_two_0 rfl (lv_at hl 1 rfl) ?_
  refine lv_if_lt (tgt := 9) hx hb dX8_two_1 (by decide) (fun c1 => ?_) (fun c1 => ?_)
  · replace hf := ow_if_t c1 hf
    refine lv_bipush (v := -2) hx hb dX8_two_9 (by decide) ?_
    exact ow_iret hx hb hr hW hf dX8_two_11 hlocks
  · replace hf := ow_if_f c1 hf
    refine lv_iload_n hx hb dX8_two_4 rfl (lv_at hl 1 rfl) ?_
    refine lv_iconst (v := 1) hx hb dX8_two_5 (by decide) ?_
    refine lv_icmp_le (tgt := 12) hx hb dX8_two_6 (by decide) (fun c6 => ?_) (fun c6 => ?_)
    · replace hf := ow_if_t c6 hf
      refine lv_aload_n hx hb dX8_two_12 rfl (lv_at hl 0 rfl) ?_
      obtain ⟨r_13, σ_13, hc13, hf⟩ := ow_cl_i hf
      refine ow_calli (va_runV (As := []) (rest := []) ⟨hx, hb, hml, hown, hts⟩ (c_X8_packSum l Z fu σ r_13 σ_13 hc13) (cwV 0 hts gX8_two_X8_packSum rfl rfl rfl (by decide +kernel) ⟨Nat.le_of_ble_eq_true rfl, Nat.le_of_ble_eq_true rfl⟩) (ow_preV hG hW ow_i0 (by decide) rfl) rfl rfl hl.1 rfl (lv_room (Nat.le_of_ble_eq_true rfl)) dX8_two_13 ⟨Nat.zero_le _, Nat.zero_le _⟩) hW (fun H locs hW => ?_)
      refine lv_aload_n hx hb dX8_two_16 rfl (lv_at hl 0 rfl) ?_
      refine ow_getV (ci := 8) (C := RX8) (T := TX8) (N := 15) hx hb hts hown hG hW ow_i0 (by decide) rfl hinX8 0 (by decide) (fk := 2) rfl (hts (.fieldLink RX8 10 "FiftyOneCards" "row" "LFiftyOneCards$Row;") (by decide +kernel)) (v := .ref (ow_ad Z 1)) (ow_vR hW ow_i0.1 ow_i0.2.1 rfl) dX8_two_17 ?_
      obtain ⟨r_20, σ_20, hc20, hf⟩ := ow_cl_i hf
      refine ow_calli (va_runVN (As := []) (rest := [.int r_13]) ⟨hx, hb, hml, hown, hts⟩ (c_X4_sum l Z fu 1 ow_i1 σ_13 r_20 σ_20 hc20) ⟨va_cnB (host := "FiftyOneCards") 0 hts ggX8_two_X4_sum rfl rfl rfl (ow_nwp hG (.methodLinkNest RX8 151 yX4_sum "FiftyOneCards") (by decide +kernel)) (hts (.initialized RX4) (by decide +kernel)) (by decide +kernel) ⟨Nat.le_of_ble_eq_true rfl, Nat.le_of_ble_eq_true rfl⟩, hts (.instanceMethod yX4_sum) (by decide +kernel), hts (.selects RX4 yX4_sum yX4_sum) (by decide +kernel)⟩ (ow_preV hG hW ow_i1 (by decide) rfl) rfl rfl hl.1 rfl (lv_room (Nat.le_of_ble_eq_true rfl)) dX8_two_20 ⟨Nat.zero_le _, Nat.zero_le _⟩) hW (fun H locs hW => ?_)
      refine lv_isub hx hb dX8_two_23 ?_
      refine ow_topi hf (fun x2_24 hf => ?_)
      refine lv_istore_n (lv' := [(2, .int x2_24), (0, .ref (ow_ad Z 0)), (1, .int a1)]) hx hb dX8_two_24 rfl hl (by decide) rfl (fun ls hl => ?_)
      refine lv_aload_n hx hb dX8_two_25 rfl (lv_at hl 1 rfl) ?_
      refine ow_getV (ci := 8) (C := RX8) (T := TX8) (N := 15) hx hb hts hown hG hW ow_i0 (by decide) rfl hinX8 11 (by decide) (fk := 0) rfl (hts (.fieldLink RX8 74 "FiftyOneCards" "pack" "I") (by decide +kernel)) (v := .int (σ_20.1 0 11)) rfl dX8_two_26 ?_
      refine lv_aload_n hx hb dX8_two_29 rfl (lv_at hl 1 rfl) ?_
      refine ow_getV (ci := 8) (C := RX8) (T := TX8) (N := 15) hx hb hts hown hG hW ow_i0 (by decide) rfl hinX8 11 (by decide) (fk := 0) rfl (hts (.fieldLink RX8 74 "FiftyOneCards" "pack" "I") (by decide +kernel)) (v := .int (σ_20.1 0 11)) rfl dX8_two_30 ?_
      refine lv_iconst (v := 1) hx hb dX8_two_33 (by decide) ?_
      refine lv_iadd hx hb dX8_two_34 ?_
      refine lv_imul hx hb dX8_two_35 ?_
      refine lv_iconst (v := 2) hx hb dX8_two_36 (by decide) ?_
      refine lv_aload_n hx hb dX8_two_37 rfl (lv_at hl 1 rfl) ?_
      refine ow_getV (ci := 8) (C := RX8) (T := TX8) (N := 15) hx hb hts hown hG hW ow_i0 (by decide) rfl hinX8 11 (by decide) (fk := 0) rfl (hts (.fieldLink RX8 74 "FiftyOneCards" "pack" "I") (by decide +kernel)) (v := .int (σ_20.1 0 11)) rfl dX8_two_38 ?_
      refine lv_imul hx hb dX8_two_41 ?_
      refine lv_iconst (v := 1) hx hb dX8_two_42 (by decide) ?_
      refine lv_iadd hx hb dX8_two_43 ?_
      refine lv_imul hx hb dX8_two_44 ?_
      refine lv_bipush (v := 6) hx hb dX8_two_45 (by decide) ?_
      refine lv_idiv hx hb dX8_two_47 (by decide) ?_
      refine lv_aload_n hx hb dX8_two_48 rfl (lv_at hl 1 rfl) ?_
      refine ow_getV (ci := 8) (C := RX8) (T := TX8) (N := 15) hx hb hts hown hG hW ow_i0 (by decide) rfl hinX8 0 (by decide) (fk := 2) rfl (hts (.fieldLink RX8 10 "FiftyOneCards" "row" "LFiftyOneCards$Row;") (by decide +kernel)) (v := .ref (ow_ad Z 1)) (ow_vR hW ow_i0.1 ow_i0.2.1 rfl) dX8_two_49 ?_
      obtain ⟨r_52, σ_52, hc52, hf⟩ := ow_cl_i hf
      refine ow_calli (va_runVN (As := []) (rest := [.int ((((σ_20.1 0 11) * ((σ_20.1 0 11) + (1 : Int32))) * (((2 : Int32) * (σ_20.1 0 11)) + (1 : Int32))) / (6 : Int32))]) ⟨hx, hb, hml, hown, hts⟩ (c_X4_squares l Z fu 1 ow_i1 σ_20 r_52 σ_52 hc52) ⟨va_cnB (host := "FiftyOneCards") 0 hts ggX8_two_X4_squares rfl rfl rfl (ow_nwp hG (.methodLinkNest RX8 154 yX4_squares "FiftyOneCards") (by decide +kernel)) (hts (.initialized RX4) (by decide +kernel)) (by decide +kernel) ⟨Nat.le_of_ble_eq_true rfl, Nat.le_of_ble_eq_true rfl⟩, hts (.instanceMethod yX4_squares) (by decide +kernel), hts (.selects RX4 yX4_squares yX4_squares) (by decide +kernel)⟩ (ow_preV hG hW ow_i1 (by decide) rfl) rfl rfl hl.1 rfl (lv_room (Nat.le_of_ble_eq_true rfl)) dX8_two_52 ⟨Nat.zero_le _, Nat.zero_le _⟩) hW (fun H locs hW => ?_)
      refine lv_isub hx hb dX8_two_55 ?_
      refine ow_topi hf (fun x3_56 hf => ?_)
      refine lv_istore_n (lv' := [(3, .int x3_56), (2, .int x2_24), (0, .ref (ow_ad Z 0)), (1, .int a1)]) hx hb dX8_two_56 rfl hl (by decide) rfl (fun ls hl => ?_)
      refine lv_iconst (v := 1) hx hb dX8_two_57 (by decide) ?_
      refine lv_istore (lv' := [(4, .int (1 : Int32)), (3, .int x3_56), (2, .int x2_24), (0, .ref (ow_ad Z 0)), (1, .int a1)]) hx hb dX8_two_58 hl (by decide) rfl (fun ls hl => ?_)
      exact hJ60 fu a1 x2_24 x3_56 (1 : Int32) σ_52 _ _ _ hf hW (lv_sub hl [3, 4, 2, 1, 0] rfl)
    · replace hf := ow_if_f c6 hf
      refine lv_bipush (v := -2) hx hb dX8_two_9 (by decide) ?_
      exact ow_iret hx hb hr hW hf dX8_two_11 hlocks
set_option maxHeartbeats 40000000 in
set_option maxRecDepth 100000 in
theorem c_X8_isByte (l : Launch) (Z : ow_Z) (fu : Nat) (a1 : Int32) (σ : ow_S) (rr : Int32) (σr : ow_S) (hf : f_X8_isByte fu a1 σ = some (rr, σr)) : Met l yX8_isByte wsX8_isByte { frames := 1, cells := 0, slots := 0, locals := 60 } (ow_Pc Z 0 56 [.int a1] σ) (ow_Qz Z 0 56 rr σr) 0 0 (ow_A Z 0 56) := by
  refine Met.ofW (cc := cX8_isByte) (maxL := 1) (ret := (some .boolean)) (by decide) rfl ?_
  intro p e s m args below meth c s₁ B hml hv
  obtain ⟨hav, hB⟩ := hv
  obtain ⟨hG, hW⟩ := ow_begin hB
  have hx := B.exec
  have hb := B.bytes
  have hr := B.returns
  have hts := atoms_spec (ws := wsX8_isByte) B.pre
  have hown : s.vm.findClass RX8 = some m.cls := findClass_of_methodNamed B.named
  have hlocks := B.notSynchronized
  have hl := lv_entry ([.int a1]) (n := 1) (Nat.le_of_ble_eq_true rfl)
  refine W.eq (g2 := F0 m 0 ((lg_sl ([.int a1]) ++ List.replicate (1 - (lg_sl ([.int a1])).length) Slot.unset).toArray) []) (by rw [hav]; exact lg_entry_eq _ _ _) ?_
  generalize (lg_sl ([.int a1]) ++ List.replicate (1 - (lg_sl ([.int a1])).length) Slot.unset).toArray = ls at hl ⊢
  have hl : lv_has ls 1 [(0, .int a1)] := hl
  unfold f_X8_isByte at hf
  refine lv_iload_n hx hb dX8_isByte_0 rfl (lv_at hl 0 rfl) ?_
  refine lv_if_lt (tgt := 15) hx hb dX8_isByte_1 (by decide) (fun c1 => ?_) (fun c1 => ?_)
  · replace hf := ow_if_t c1 hf
    refine lv_iconst (v := 0) hx hb dX8_isByte_15 (by decide) ?_
    exact ow_zret hx hb hr (Or.inl rfl) hW hf dX8_isByte_16 hlocks
  · replace hf := ow_if_f c1 hf
    refine lv_iload_n hx hb dX8_isByte_4 rfl (lv_at hl 0 rfl) ?_
    refine lv_sipush (v := 255) hx hb dX8_isByte_5 (by decide) ?_
    refine lv_icmp_gt (tgt := 15) hx hb dX8_isByte_8 (by decide) (fun c8 => ?_) (fun c8 => ?_)
    · replace hf := ow_if_t c8 hf
      refine lv_iconst (v := 0) hx hb dX8_isByte_15 (by decide) ?_
      exact ow_zret hx hb hr (Or.inl rfl) hW hf dX8_isByte_16 hlocks
    · replace hf := ow_if_f c8 hf
      refine lv_iconst (v := 1) hx hb dX8_isByte_11 (by decide) ?_
      refine lv_goto (tgt := 16) hx hb dX8_isByte_12 (by decide) ?_
      exact ow_zret hx hb hr (Or.inr rfl) hW hf dX8_isByte_16 hlocks
set_option maxHeartbeats 40000000 in
set_option maxRecDepth 100000 in
theorem c_X8_feed (l : Launch) (Z : ow_Z) (fu : Nat) (a1 : Int32) (a2 : Int32) (a3 : Int32) (a4 : Int32) (a5 : Int32) (a6 : Int32) (σ : ow_S) (rr : Int32) (σr : ow_S) (hf : f_X8_feed fu a1 a2 a3 a4 a5 a6 σ = some (rr, σr)) : Met l yX8_feed wsX8_feed { frames := 2, cells := 0, slots := 0, locals := 81 } (ow_Pc Z 0 56 [.ref (ow_ad Z 0), .int a1, .int a2, .int a3, .int a4, .int a5, .int a6] σ) (ow_Qi Z 0 56 rr σr) 0 0 (ow_A Z 0 56) := by
  refine Met.ofW (cc := cX8_feed) (maxL := 8) (ret := (some .int)) (by decide) rfl ?_
  intro p e s m args below meth c s₁ B hml hv
  obtain ⟨hav, hB⟩ := hv
  obtain ⟨hG, hW⟩ := ow_begin hB
  have hx := B.exec
  have hb := B.bytes
  have hr := B.returns
  have hts := atoms_spec (ws := wsX8_feed) B.pre
  have hown : s.vm.findClass RX8 = some m.cls := findClass_of_methodNamed B.named
  have hlocks := B.notSynchronized
  have hinX3 : ∀ w ∈ wsX30, w ∈ wsX8_feed := by decide +kernel
  have hinX8 : ∀ w ∈ wsX80, w ∈ wsX8_feed := by decide +kernel
  have hJ125 : ∀ (k72 : Int32 → Int32 → Int32 → Int32 → Int32 → Int32 → Int32 → ow_S → Option (Int32 × ow_S)) (hk72 : ∀ (x1 : Int32) (x2 : Int32) (x3 : Int32) (x4 : Int32) (x5 : Int32) (x6 : Int32) (x7 : Int32) (σ : ow_S) (H : Heap) (locs : List Loc) (ls : Array Slot), k72 x1 x2 x3 x4 x5 x6 x7 σ = some (rr, σr) → ow_Wd Z 0 56 σ s H locs → lv_has ls 8 [(0, .ref (ow_ad Z 0)), (1, .int x1), (2, .int x2), (3, .int x3), (4, .int x4), (5, .int x5), (6, .int x6), (7, .int x7)] → W p l e (headSpec wsX8_feed { frames := 2, cells := 0, slots := 0, locals := 81 }).room s m args below meth c H locs 0 0 (MQ below (ow_Qi Z 0 56 rr σr) args s 0 0 (ow_A Z 0 56)) (F0 m 72 ls [])), ∀ (x1 : Int32) (x2 : Int32) (x3 : Int32) (x4 : Int32) (x5 : Int32) (x6 : Int32) (x7 : Int32) (s1 : Int32) (σ : ow_S) (H : Heap) (locs : List Loc) (ls : Array Slot), L_X8_feed_125 fu k72 x1 x2 x3 x4 x5 x6 x7 s1 σ = some (rr, σr) → ow_Wd Z 0 56 σ s H locs → lv_has ls 8 [(0, .ref (ow_ad Z 0)), (1, .int x1), (2, .int x2), (3, .int x3), (4, .int x4), (5, .int x5), (6, .int x6), (7, .int x7)] → W p l e (headSpec wsX8_feed { frames := 2, cells := 0, slots := 0, locals := 81 }).room s m args below meth c H locs 0 0 (MQ below (ow_Qi Z 0 56 rr σr) args s 0 0 (ow_A Z 0 56)) (F0 m 125 ls [.int s1, .ref (ow_ad Z 7)]) := by
    intro k72 hk72 x1 x2 x3 x4 x5 x6 x7 s1 σ H locs ls hf hW hl
    unfold L_X8_feed_125 at hf
    obtain ⟨σ_125, hc125, hf⟩ := ow_cv_i hf
    refine ow_callv (va_runVN (As := [.int s1]) (rest := []) ⟨hx, hb, hml, hown, hts⟩ (c_X3_take l Z fu s1 σ σ_125  hc125) ⟨va_cnB (host := "FiftyOneCards") 1 hts ggX8_feed_X3_take rfl rfl rfl (ow_nwp hG (.methodLinkNest RX8 101 yX3_take "FiftyOneCards") (by decide +kernel)) (hts (.initialized RX3) (by decide +kernel)) (by decide +kernel) ⟨Nat.le_of_ble_eq_true rfl, Nat.le_of_ble_eq_true rfl⟩, hts (.instanceMethod yX3_take) (by decide +kernel), hts (.selects RX3 yX3_take yX3_take) (by decide +kernel)⟩ (ow_preV hG hW ow_i7 (by decide) rfl) rfl rfl hl.1 rfl (lv_room (Nat.le_of_ble_eq_true rfl)) dX8_feed_125 ⟨Nat.zero_le _, Nat.zero_le _⟩) hW (fun H locs hW => ?_)
    refine ow_iinc (d := 1) (lv' := fun z => [(7, .int z), (0, .ref (ow_ad Z 0)), (1, .int x1), (2, .int x2), (3, .int x3), (4, .int x4), (5, .int x5), (6, .int x6)]) hx hb hf dX8_feed_128 hl (k := 7) rfl (by decide) (by decide) (fun z => rfl) (fun x7_128 hf ls hl => ?_)
    refine lv_goto (tgt := 72) hx hb dX8_feed_131 (by decide) ?_
    exact hk72 x1 x2 x3 x4 x5 x6 x7_128 σ_125 _ _ _ hf hW (lv_sub hl [1, 2, 3, 4, 5, 6, 7, 0] rfl)
  have hJ72 : ∀ (fn : Nat), ∀ (x1 : Int32) (x2 : Int32) (x3 : Int32) (x4 : Int32) (x5 : Int32) (x6 : Int32) (x7 : Int32) (σ : ow_S) (H : Heap) (locs : List Loc) (ls : Array Slot), L_X8_feed_72 fu fn x1 x2 x3 x4 x5 x6 x7 σ = some (rr, σr) → ow_Wd Z 0 56 σ s H locs → lv_has ls 8 [(0, .ref (ow_ad Z 0)), (1, .int x1), (2, .int x2), (3, .int x3), (4, .int x4), (5, .int x5), (6, .int x6), (7, .int x7)] → W p l e (headSpec wsX8_feed { frames := 2, cells := 0, slots := 0, locals := 81 }).room s m args below meth c H locs 0 0 (MQ below (ow_Qi Z 0 56 rr σr) args s 0 0 (ow_A Z 0 56)) (F0 m 72 ls []) := by
    intro fn
    induction fn with
    | zero => intro x1 x2 x3 x4 x5 x6 x7 σ H locs ls hf hW hl; simp [L_X8_feed_72] at hf
    | succ fn ih =>
      intro x1 x2 x3 x4 x5 x6 x7 σ H locs ls hf hW hl
      rw [L_X8_feed_72] at hf
      refine lv_iload hx hb dX8_feed_72 (lv_at hl 7 rfl) ?_
      refine lv_iload_n hx hb dX8_feed_74 rfl (lv_at hl 1 rfl) ?_
      refine lv_icmp_ge (tgt := 134) hx hb dX8_feed_75 (by decide) (fun c75 => ?_) (fun c75 => ?_)
      · replace hf := ow_if_t c75 hf
        refine lv_aload_n hx hb dX8_feed_134 rfl (lv_at hl 0 rfl) ?_
        refine ow_getV (ci := 8) (C := RX8) (T := TX8) (N := 15) hx hb hts hown hG hW ow_i0 (by decide) rfl hinX8 4 (by decide) (fk := 2) rfl (hts (.fieldLink RX8 33 "FiftyOneCards" "reader" "LFiftyOneCards$Reader;") (by decide +kernel)) (v := .ref (ow_ad Z 7)) (ow_vR hW ow_i0.1 ow_i0.2.1 rfl) dX8_feed_135 ?_
        refine ow_getVN (ci := 3) (C := RX3) (T := TX3) (N := 7) hx hb hts hown hG hW ow_i7 (by decide) rfl hinX3 1 (by decide) (fk := 0) rfl (ow_nwp hG (.fieldLinkNest RX8 111 "FiftyOneCards$Reader" "size" "I" "FiftyOneCards") (by decide +kernel)) (v := .int (σ.1 7 1)) rfl dX8_feed_138 ?_
        exact ow_iret hx hb hr hW hf dX8_feed_141 hlocks
      · replace hf := ow_if_f c75 hf
        refine lv_aload_n hx hb dX8_feed_78 rfl (lv_at hl 0 rfl) ?_
        refine ow_getV (ci := 8) (C := RX8) (T := TX8) (N := 15) hx hb hts hown hG hW ow_i0 (by decide) rfl hinX8 4 (by decide) (fk := 2) rfl (hts (.fieldLink RX8 33 "FiftyOneCards" "reader" "LFiftyOneCards$Reader;") (by decide +kernel)) (v := .ref (ow_ad Z 7)) (ow_vR hW ow_i0.1 ow_i0.2.1 rfl) dX8_feed_79 ?_
        refine lv_iload hx hb dX8_feed_82 (lv_at hl 7 rfl) ?_
        refine lv_if_ne (tgt := 91) hx hb dX8_feed_84 (by decide) (fun c84 => ?_) (fun c84 => ?_)
        · replace hf := ow_if_f c84 hf
          refine lv_iload hx hb dX8_feed_91 (lv_at hl 7 rfl) ?_
          refine lv_iconst (v := 1) hx hb dX8_feed_93 (by decide) ?_
          refine lv_icmp_ne (tgt := 101) hx hb dX8_feed_94 (by decide) (fun c94 => ?_) (fun c94 => ?_)
          · replace hf := ow_if_f c94 hf
            refine lv_iload hx hb dX8_feed_101 (lv_at hl 7 rfl) ?_
            refine lv_iconst (v := 2) hx hb dX8_feed_103 (by decide) ?_
            refine lv_icmp_ne (tgt := 112) hx hb dX8_feed_104 (by decide) (fun c104 => ?_) (fun c104 => ?_)
            · replace hf := ow_if_f c104 hf
              refine lv_iload hx hb dX8_feed_112 (lv_at hl 7 rfl) ?_
              refine lv_iconst (v := 3) hx hb dX8_feed_114 (by decide) ?_
              refine lv_icmp_ne (tgt := 123) hx hb dX8_feed_115 (by decide) (fun c115 => ?_) (fun c115 => ?_)
              · replace hf := ow_if_f c115 hf
                refine lv_iload hx hb dX8_feed_123 (lv_at hl 6 rfl) ?_
                exact hJ125 (L_X8_feed_72 fu fn) ih x1 x2 x3 x4 x5 x6 x7 x6 σ _ _ _ hf hW (lv_sub hl [0, 1, 2, 3, 4, 5, 6, 7] rfl)
              · replace hf := ow_if_t c115 hf
                refine lv_iload hx hb dX8_feed_118 (lv_at hl 5 rfl) ?_
                refine lv_goto (tgt := 125) hx hb dX8_feed_120 (by decide) ?_
                exact hJ125 (L_X8_feed_72 fu fn) ih x1 x2 x3 x4 x5 x6 x7 x5 σ _ _ _ hf hW (lv_sub hl [0, 1, 2, 3, 4, 5, 6, 7] rfl)
            · replace hf := ow_if_t c104 hf
              refine lv_iload hx hb dX8_feed_107 (lv_at hl 4 rfl) ?_
              refine lv_goto (tgt := 125) hx hb dX8_feed_109 (by decide) ?_
              exact hJ125 (L_X8_feed_72 fu fn) ih x1 x2 x3 x4 x5 x6 x7 x4 σ _ _ _ hf hW (lv_sub hl [0, 1, 2, 3, 4, 5, 6, 7] rfl)
          · replace hf := ow_if_t c94 hf
            refine lv_iload_n hx hb dX8_feed_97 rfl (lv_at hl 3 rfl) ?_
            refine lv_goto (tgt := 125) hx hb dX8_feed_98 (by decide) ?_
            exact hJ125 (L_X8_feed_72 fu fn) ih x1 x2 x3 x4 x5 x6 x7 x3 σ _ _ _ hf hW (lv_sub hl [0, 1, 2, 3, 4, 5, 6, 7] rfl)
        · replace hf := ow_if_t c84 hf
          refine lv_iload_n hx hb dX8_feed_87 rfl (lv_at hl 2 rfl) ?_
          refine lv_goto (tgt := 125) hx hb dX8_feed_88 (by decide) ?_
          exact hJ125 (L_X8_feed_72 fu fn) ih x1 x2 x3 x4 x5 x6 x7 x2 σ _ _ _ hf hW (lv_sub hl [0, 1, 2, 3, 4, 5, 6, 7] rfl)
  have hl := lv_entry ([.ref (ow_ad Z 0), .int a1, .int a2, .int a3, .int a4, .int a5, .int a6]) (n := 8) (Nat.le_of_ble_eq_true rfl)
  refine W.eq (g2 := F0 m 0 ((lg_sl ([.ref (ow_ad Z 0), .int a1, .int a2, .int a3, .int a4, .int a5, .int a6]) ++ List.replicate (8 - (lg_sl ([.ref (ow_ad Z 0), .int a1, .int a2, .int a3, .int a4, .int a5, .int a6])).length) Slot.unset).toArray) []) (by rw [hav]; exact lg_entry_eq _ _ _) ?_
  generalize (lg_sl ([.ref (ow_ad Z 0), .int a1, .int a2, .int a3, .int a4, .int a5, .int a6]) ++ List.replicate (8 - (lg_sl ([.ref (ow_ad Z 0), .int a1, .int a2, .int a3, .int a4, .int a5, .int a6])).length) Slot.unset).toArray = ls at hl ⊢
  have hl : lv_has ls 8 [(0, .ref (ow_ad Z 0)), (1, .int a1), (2, .int a2), (3, .int a3), (4, .int a4), (5, .int a5), (6, .int a6)] := hl
  unfold f_X8_feed at hf
  refine lv_iload_n hx hb dX8_feed_0 rfl (lv_at hl 1 rfl) ?_
  refine lv_iconst (v := 1) hx hb dX8_feed_1 (by decide) ?_
  refine lv_icmp_lt (tgt := 48) hx hb dX8_feed_2 (by decide) (fun c2 => ?_) (fun c2 => ?_)
  · replace hf := ow_if_t c2 hf
    refine lv_bipush (v := -2) hx hb dX8_feed_48 (by decide) ?_
    exact ow_iret hx hb hr hW hf dX8_feed_50 hlocks
  · replace hf := ow_if_f c2 hf
    refine lv_iload_n hx hb dX8_feed_5 rfl (lv_at hl 1 rfl) ?_
    refine lv_iconst (v := 5) hx hb dX8_feed_6 (by decide) ?_
    refine lv_icmp_gt (tgt := 48) hx hb dX8_feed_7 (by decide) (fun c7 => ?_) (fun c7 => ?_)
    · replace hf := ow_if_t c7 hf
      refine lv_bipush (v := -2) hx hb dX8_feed_48 (by decide) ?_
      exact ow_iret hx hb hr hW hf dX8_feed_50 hlocks
    · replace hf := ow_if_f c7 hf
      refine lv_iload_n hx hb dX8_feed_10 rfl (lv_at hl 2 rfl) ?_
      obtain ⟨r_11, σ_11, hc11, hf⟩ := ow_cl_i hf
      refine ow_callz (va_runS (As := [.int a2]) (rest := []) ⟨hx, hb, hml, hown, hts⟩ (c_X8_isByte l Z fu a2 σ r_11 σ_11 hc11) (va_cwS 1 hts gX8_feed_X8_isByte rfl rfl rfl (by decide +kernel) ⟨Nat.le_of_ble_eq_true rfl, Nat.le_of_ble_eq_true rfl⟩) (ow_preS hG hW) rfl rfl hl.1 rfl (lv_room (Nat.le_of_ble_eq_true rfl)) dX8_feed_11 ⟨Nat.zero_le _, Nat.zero_le _⟩) hW (fun b11 H locs hW => ?_)
      refine lv_if_eq (tgt := 48) hx hb dX8_feed_14 (by decide) (fun c14 => ?_) (fun c14 => ?_)
      · replace hf := ow_if_t c14 hf
        refine lv_bipush (v := -2) hx hb dX8_feed_48 (by decide) ?_
        exact ow_iret hx hb hr hW hf dX8_feed_50 hlocks
      · replace hf := ow_if_f c14 hf
        refine lv_iload_n hx hb dX8_feed_17 rfl (lv_at hl 3 rfl) ?_
        obtain ⟨r_18, σ_18, hc18, hf⟩ := ow_cl_i hf
        refine ow_callz (va_runS (As := [.int a3]) (rest := []) ⟨hx, hb, hml, hown, hts⟩ (c_X8_isByte l Z fu a3 σ_11 r_18 σ_18 hc18) (va_cwS 1 hts gX8_feed_X8_isByte rfl rfl rfl (by decide +kernel) ⟨Nat.le_of_ble_eq_true rfl, Nat.le_of_ble_eq_true rfl⟩) (ow_preS hG hW) rfl rfl hl.1 rfl (lv_room (Nat.le_of_ble_eq_true rfl)) dX8_feed_18 ⟨Nat.zero_le _, Nat.zero_le _⟩) hW (fun b18 H locs hW => ?_)
        refine lv_if_eq (tgt := 48) hx hb dX8_feed_21 (by decide) (fun c21 => ?_) (fun c21 => ?_)
        · replace hf := ow_if_t c21 hf
          refine lv_bipush (v := -2) hx hb dX8_feed_48 (by decide) ?_
          exact ow_iret hx hb hr hW hf dX8_feed_50 hlocks
        · replace hf := ow_if_f c21 hf
          refine lv_iload hx hb dX8_feed_24 (lv_at hl 4 rfl) ?_
          obtain ⟨r_26, σ_26, hc26, hf⟩ := ow_cl_i hf
          refine ow_callz (va_runS (As := [.int a4]) (rest := []) ⟨hx, hb, hml, hown, hts⟩ (c_X8_isByte l Z fu a4 σ_18 r_26 σ_26 hc26) (va_cwS 1 hts gX8_feed_X8_isByte rfl rfl rfl (by decide +kernel) ⟨Nat.le_of_ble_eq_true rfl, Nat.le_of_ble_eq_true rfl⟩) (ow_preS hG hW) rfl rfl hl.1 rfl (lv_room (Nat.le_of_ble_eq_true rfl)) dX8_feed_26 ⟨Nat.zero_le _, Nat.zero_le _⟩) hW (fun b26 H locs hW => ?_)
          refine lv_if_eq (tgt := 48) hx hb dX8_feed_29 (by decide) (fun c29 => ?_) (fun c29 => ?_)
          · replace hf := ow_if_t c29 hf
            refine lv_bipush (v := -2) hx hb dX8_feed_48 (by decide) ?_
            exact ow_iret hx hb hr hW hf dX8_feed_50 hlocks
          · replace hf := ow_if_f c29 hf
            refine lv_iload hx hb dX8_feed_32 (lv_at hl 5 rfl) ?_
            obtain ⟨r_34, σ_34, hc34, hf⟩ := ow_cl_i hf
            refine ow_callz (va_runS (As := [.int a5]) (rest := []) ⟨hx, hb, hml, hown, hts⟩ (c_X8_isByte l Z fu a5 σ_26 r_34 σ_34 hc34) (va_cwS 1 hts gX8_feed_X8_isByte rfl rfl rfl (by decide +kernel) ⟨Nat.le_of_ble_eq_true rfl, Nat.le_of_ble_eq_true rfl⟩) (ow_preS hG hW) rfl rfl hl.1 rfl (lv_room (Nat.le_of_ble_eq_true rfl)) dX8_feed_34 ⟨Nat.zero_le _, Nat.zero_le _⟩) hW (fun b34 H locs hW => ?_)
            refine lv_if_eq (tgt := 48) hx hb dX8_feed_37 (by decide) (fun c37 => ?_) (fun c37 => ?_)
            · replace hf := ow_if_t c37 hf
              refine lv_bipush (v := -2) hx hb dX8_feed_48 (by decide) ?_
              exact ow_iret hx hb hr hW hf dX8_feed_50 hlocks
            · replace hf := ow_if_f c37 hf
              refine lv_iload hx hb dX8_feed_40 (lv_at hl 6 rfl) ?_
              obtain ⟨r_42, σ_42, hc42, hf⟩ := ow_cl_i hf
              refine ow_callz (va_runS (As := [.int a6]) (rest := []) ⟨hx, hb, hml, hown, hts⟩ (c_X8_isByte l Z fu a6 σ_34 r_42 σ_42 hc42) (va_cwS 1 hts gX8_feed_X8_isByte rfl rfl rfl (by decide +kernel) ⟨Nat.le_of_ble_eq_true rfl, Nat.le_of_ble_eq_true rfl⟩) (ow_preS hG hW) rfl rfl hl.1 rfl (lv_room (Nat.le_of_ble_eq_true rfl)) dX8_feed_42 ⟨Nat.zero_le _, Nat.zero_le _⟩) hW (fun b42 H locs hW => ?_)
              refine lv_if_ne (tgt := 51) hx hb dX8_feed_45 (by decide) (fun c45 => ?_) (fun c45 => ?_)
              · replace hf := ow_if_f c45 hf
                refine lv_aload_n hx hb dX8_feed_51 rfl (lv_at hl 0 rfl) ?_
                refine ow_getV (ci := 8) (C := RX8) (T := TX8) (N := 15) hx hb hts hown hG hW ow_i0 (by decide) rfl hinX8 4 (by decide) (fk := 2) rfl (hts (.fieldLink RX8 33 "FiftyOneCards" "reader" "LFiftyOneCards$Reader;") (by decide +kernel)) (v := .ref (ow_ad Z 7)) (ow_vR hW ow_i0.1 ow_i0.2.1 rfl) dX8_feed_52 ?_
                refine ow_getVN (ci := 3) (C := RX3) (T := TX3) (N := 7) hx hb hts hown hG hW ow_i7 (by decide) rfl hinX3 1 (by decide) (fk := 0) rfl (ow_nwp hG (.fieldLinkNest RX8 111 "FiftyOneCards$Reader" "size" "I" "FiftyOneCards") (by decide +kernel)) (v := .int (σ_42.1 7 1)) rfl dX8_feed_55 ?_
                refine lv_iload_n hx hb dX8_feed_58 rfl (lv_at hl 1 rfl) ?_
                refine lv_iadd hx hb dX8_feed_59 ?_
                refine lv_sipush (v := 160) hx hb dX8_feed_60 (by decide) ?_
                refine lv_icmp_le (tgt := 69) hx hb dX8_feed_63 (by decide) (fun c63 => ?_) (fun c63 => ?_)
                · replace hf := ow_if_t c63 hf
                  refine lv_iconst (v := 0) hx hb dX8_feed_69 (by decide) ?_
                  refine lv_istore (lv' := [(7, .int (0 : Int32)), (0, .ref (ow_ad Z 0)), (1, .int a1), (2, .int a2), (3, .int a3), (4, .int a4), (5, .int a5), (6, .int a6)]) hx hb dX8_feed_70 hl (by decide) rfl (fun ls hl => ?_)
                  exact hJ72 fu a1 a2 a3 a4 a5 a6 (0 : Int32) σ_42 _ _ _ hf hW (lv_sub hl [1, 2, 3, 4, 5, 6, 7, 0] rfl)
                · replace hf := ow_if_f c63 hf
                  refine lv_bipush (v := -4) hx hb dX8_feed_66 (by decide) ?_
                  exact ow_iret hx hb hr hW hf dX8_feed_68 hlocks
              · replace hf := ow_if_t c45 hf
                refine lv_bipush (v := -2) hx hb dX8_feed_48 (by decide) ?_
                exact ow_iret hx hb hr hW hf dX8_feed_50 hlocks
set_option maxHeartbeats 40000000 in
set_option maxRecDepth 100000 in
theorem c_X8_text (l : Launch) (Z : ow_Z) (fu : Nat) (σ : ow_S) (rr : Int32) (σr : ow_S) (hf : f_X8_text fu σ = some (rr, σr)) : Met l yX8_text wsX8_text { frames := 153, cells := 0, slots := 0, locals := 6064 } (ow_Pc Z 0 56 [.ref (ow_ad Z 0)] σ) (ow_Qi Z 0 56 rr σr) 0 0 (ow_A Z 0 56) := by
  refine Met.ofW (cc := cX8_text) (maxL := 2) (ret := (some .int)) (by decide) rfl ?_
  intro p e s m args below meth c s₁ B hml hv
  obtain ⟨hav, hB⟩ := hv
  obtain ⟨hG, hW⟩ := ow_begin hB
  have hx := B.exec
  have hb := B.bytes
  have hr := B.returns
  have hts := atoms_spec (ws := wsX8_text) B.pre
  have hown : s.vm.findClass RX8 = some m.cls := findClass_of_methodNamed B.named
  have hlocks := B.notSynchronized
  have hinX8 : ∀ w ∈ wsX80, w ∈ wsX8_text := by decide +kernel
  have hl := lv_entry ([.ref (ow_ad Z 0)]) (n := 2) (Nat.le_of_ble_eq_true rfl)
  refine W.eq (g2 := F0 m 0 ((lg_sl ([.ref (ow_ad Z 0)]) ++ List.replicate (2 - (lg_sl ([.ref (ow_ad Z 0)])).length) Slot.unset).toArray) []) (by rw [hav]; exact lg_entry_eq _ _ _) ?_
  generalize (lg_sl ([.ref (ow_ad Z 0)]) ++ List.replicate (2 - (lg_sl ([.ref (ow_ad Z 0)])).length) Slot.unset).toArray = ls at hl ⊢
  have hl : lv_has ls 2 [(0, .ref (ow_ad Z 0))] := hl
  unfold f_X8_text at hf
  refine lv_aload_n hx hb dX8_text_0 rfl (lv_at hl 0 rfl) ?_
  refine ow_getV (ci := 8) (C := RX8) (T := TX8) (N := 15) hx hb hts hown hG hW ow_i0 (by decide) rfl hinX8 13 (by decide) (fk := 0) rfl (hts (.fieldLink RX8 81 "FiftyOneCards" "textCount" "I") (by decide +kernel)) (v := .int (σ.1 0 13)) rfl dX8_text_1 ?_
  refine lv_bipush (v := 6) hx hb dX8_text_4 (by decide) ?_
  refine lv_icmp_lt (tgt := 12) hx hb dX8_text_6 (by decide) (fun c6 => ?_) (fun c6 => ?_)
  · replace hf := ow_if_t c6 hf
    refine lv_aload_n hx hb dX8_text_12 rfl (lv_at hl 0 rfl) ?_
    refine ow_getV (ci := 8) (C := RX8) (T := TX8) (N := 15) hx hb hts hown hG hW ow_i0 (by decide) rfl hinX8 4 (by decide) (fk := 2) rfl (hts (.fieldLink RX8 33 "FiftyOneCards" "reader" "LFiftyOneCards$Reader;") (by decide +kernel)) (v := .ref (ow_ad Z 7)) (ow_vR hW ow_i0.1 ow_i0.2.1 rfl) dX8_text_13 ?_
    refine lv_aload_n hx hb dX8_text_16 rfl (lv_at hl 0 rfl) ?_
    refine ow_getV (ci := 8) (C := RX8) (T := TX8) (N := 15) hx hb hts hown hG hW ow_i0 (by decide) rfl hinX8 5 (by decide) (fk := 2) rfl (hts (.fieldLink RX8 39 "FiftyOneCards" "texts" "[LFiftyOneCards$Text;") (by decide +kernel)) (v := .ref (ow_ad Z 9)) (ow_vR hW ow_i0.1 ow_i0.2.1 rfl) dX8_text_17 ?_
    refine lv_aload_n hx hb dX8_text_20 rfl (lv_at hl 0 rfl) ?_
    refine ow_getV (ci := 8) (C := RX8) (T := TX8) (N := 15) hx hb hts hown hG hW ow_i0 (by decide) rfl hinX8 13 (by decide) (fk := 0) rfl (hts (.fieldLink RX8 81 "FiftyOneCards" "textCount" "I") (by decide +kernel)) (v := .int (σ.1 0 13)) rfl dX8_text_21 ?_
    refine ow_rld (f := fun j => 30 + 3 * j) (ct := 6) hx hb hG hW ow_i9 ⟨by decide, by decide⟩ rfl ow_ra9 hf dX8_text_24 (fun h_24 hf hi24 => ?_)
    obtain ⟨r_25, σ_25, hc25, hf⟩ := ow_cl_i hf
    refine ow_calli (va_runVN (As := [.ref (ow_ad Z h_24)]) (rest := []) ⟨hx, hb, hml, hown, hts⟩ (c_X3_readInto l Z fu h_24 hi24 σ r_25 σ_25 hc25) ⟨va_cnB (host := "FiftyOneCards") 1 hts ggX8_text_X3_readInto rfl rfl rfl (ow_nwp hG (.methodLinkNest RX8 163 yX3_readInto "FiftyOneCards") (by decide +kernel)) (hts (.initialized RX3) (by decide +kernel)) (by decide +kernel) ⟨Nat.le_of_ble_eq_true rfl, Nat.le_of_ble_eq_true rfl⟩, hts (.instanceMethod yX3_readInto) (by decide +kernel), hts (.selects RX3 yX3_readInto yX3_readInto) (by decide +kernel)⟩ (ow_preV hG hW ow_i7 (by decide) rfl) rfl rfl hl.1 rfl (lv_room (Nat.le_of_ble_eq_true rfl)) dX8_text_25 ⟨Nat.zero_le _, Nat.zero_le _⟩) hW (fun H locs hW => ?_)
    refine lv_istore_n (lv' := [(1, .int r_25), (0, .ref (ow_ad Z 0))]) hx hb dX8_text_28 rfl hl (by decide) rfl (fun ls hl => ?_)
    refine lv_iload_n hx hb dX8_text_29 rfl (lv_at hl 0 rfl) ?_
    refine lv_if_lt (tgt := 38) hx hb dX8_text_30 (by decide) (fun c30 => ?_) (fun c30 => ?_)
    · replace hf := ow_if_t c30 hf
      refine lv_aload_n hx hb dX8_text_38 rfl (lv_at hl 1 rfl) ?_
      refine lv_dup hx hb dX8_text_39 rfl ?_
      refine ow_getV (ci := 8) (C := RX8) (T := TX8) (N := 15) hx hb hts hown hG hW ow_i0 (by decide) rfl hinX8 13 (by decide) (fk := 0) rfl (hts (.fieldLink RX8 81 "FiftyOneCards" "textCount" "I") (by decide +kernel)) (v := .int (σ_25.1 0 13)) rfl dX8_text_40 ?_
      refine lv_iconst (v := 1) hx hb dX8_text_43 (by decide) ?_
      refine lv_iadd hx hb dX8_text_44 ?_
      refine ow_putI (ci := 8) (C := RX8) (T := TX8) (N := 15) hx hb hts hown hG hW ow_i0 (by decide) rfl hinX8 tyX8 tyX8_ok nmX8 13 (by decide) rfl (hts (.fieldLink RX8 81 "FiftyOneCards" "textCount" "I") (by decide +kernel)) rfl rfl rfl hf dX8_text_45 (fun σ_45 H locs hf hW => ?_)
      refine lv_aload_n hx hb dX8_text_48 rfl (lv_at hl 1 rfl) ?_
      refine ow_getV (ci := 8) (C := RX8) (T := TX8) (N := 15) hx hb hts hown hG hW ow_i0 (by decide) rfl hinX8 13 (by decide) (fk := 0) rfl (hts (.fieldLink RX8 81 "FiftyOneCards" "textCount" "I") (by decide +kernel)) (v := .int (σ_45.1 0 13)) rfl dX8_text_49 ?_
      refine lv_iconst (v := 1) hx hb dX8_text_52 (by decide) ?_
      refine lv_isub hx hb dX8_text_53 ?_
      exact ow_iret hx hb hr hW hf dX8_text_54 hlocks
    · replace hf := ow_if_f c30 hf
      refine lv_bipush (v := -100) hx hb dX8_text_33 (by decide) ?_
      refine lv_iload_n hx hb dX8_text_35 rfl (lv_at hl 0 rfl) ?_
      refine lv_isub hx hb dX8_text_36 ?_
      exact ow_iret hx hb hr hW hf dX8_text_37 hlocks
  · replace hf := ow_if_f c6 hf
    refine lv_bipush (v := -4) hx hb dX8_text_9 (by decide) ?_
    exact ow_iret hx hb hr hW hf dX8_text_11 hlocks
set_option maxHeartbeats 40000000 in
set_option maxRecDepth 100000 in
theorem c_X8_force (l : Launch) (Z : ow_Z) (fu : Nat) (a1 : Int32) (σ : ow_S) (rr : Int32) (σr : ow_S) (hf : f_X8_force fu a1 σ = some (rr, σr)) : Met l yX8_force wsX8_force { frames := 1, cells := 0, slots := 0, locals := 60 } (ow_Pc Z 0 56 [.ref (ow_ad Z 0), .int a1] σ) (ow_Qi Z 0 56 rr σr) 0 0 (ow_A Z 0 56) := by
  refine Met.ofW (cc := cX8_force) (maxL := 3) (ret := (some .int)) (by decide) rfl ?_
  intro p e s m args below meth c s₁ B hml hv
  obtain ⟨hav, hB⟩ := hv
  obtain ⟨hG, hW⟩ := ow_begin hB
  have hx := B.exec
  have hb := B.bytes
  have hr := B.returns
  have hts := atoms_spec (ws := wsX8_force) B.pre
  have hown : s.vm.findClass RX8 = some m.cls := findClass_of_methodNamed B.named
  have hlocks := B.notSynchronized
  have hinX8 : ∀ w ∈ wsX80, w ∈ wsX8_force := by decide +kernel
  have hl := lv_entry ([.ref (ow_ad Z 0), .int a1]) (n := 3) (Nat.le_of_ble_eq_true rfl)
  refine W.eq (g2 := F0 m 0 ((lg_sl ([.ref (ow_ad Z 0), .int a1]) ++ List.replicate (3 - (lg_sl ([.ref (ow_ad Z 0), .int a1])).length) Slot.unset).toArray) []) (by rw [hav]; exact lg_entry_eq _ _ _) ?_
  generalize (lg_sl ([.ref (ow_ad Z 0), .int a1]) ++ List.replicate (3 - (lg_sl ([.ref (ow_ad Z 0), .int a1])).length) Slot.unset).toArray = ls at hl ⊢
  have hl : lv_has ls 3 [(0, .ref (ow_ad Z 0)), (1, .int a1)] := hl
  unfold f_X8_force at hf
  refine lv_iload_n hx hb dX8_force_0 rfl (lv_at hl 1 rfl) ?_
  refine lv_if_lt (tgt := 12) hx hb dX8_force_1 (by decide) (fun c1 => ?_) (fun c1 => ?_)
  · replace hf := ow_if_t c1 hf
    refine lv_bipush (v := -2) hx hb dX8_force_12 (by decide) ?_
    exact ow_iret hx hb hr hW hf dX8_force_14 hlocks
  · replace hf := ow_if_f c1 hf
    refine lv_iload_n hx hb dX8_force_4 rfl (lv_at hl 1 rfl) ?_
    refine lv_aload_n hx hb dX8_force_5 rfl (lv_at hl 0 rfl) ?_
    refine ow_getV (ci := 8) (C := RX8) (T := TX8) (N := 15) hx hb hts hown hG hW ow_i0 (by decide) rfl hinX8 13 (by decide) (fk := 0) rfl (hts (.fieldLink RX8 81 "FiftyOneCards" "textCount" "I") (by decide +kernel)) (v := .int (σ.1 0 13)) rfl dX8_force_6 ?_
    refine lv_icmp_lt (tgt := 15) hx hb dX8_force_9 (by decide) (fun c9 => ?_) (fun c9 => ?_)
    · replace hf := ow_if_t c9 hf
      refine lv_aload_n hx hb dX8_force_15 rfl (lv_at hl 0 rfl) ?_
      refine ow_getV (ci := 8) (C := RX8) (T := TX8) (N := 15) hx hb hts hown hG hW ow_i0 (by decide) rfl hinX8 14 (by decide) (fk := 0) rfl (hts (.fieldLink RX8 84 "FiftyOneCards" "law" "I") (by decide +kernel)) (v := .int (σ.1 0 14)) rfl dX8_force_16 ?_
      refine ow_topi hf (fun x2_19 hf => ?_)
      refine lv_istore_n (lv' := [(2, .int x2_19), (0, .ref (ow_ad Z 0)), (1, .int a1)]) hx hb dX8_force_19 rfl hl (by decide) rfl (fun ls hl => ?_)
      refine lv_aload_n hx hb dX8_force_20 rfl (lv_at hl 1 rfl) ?_
      refine lv_iload_n hx hb dX8_force_21 rfl (lv_at hl 2 rfl) ?_
      refine ow_putI (ci := 8) (C := RX8) (T := TX8) (N := 15) hx hb hts hown hG hW ow_i0 (by decide) rfl hinX8 tyX8 tyX8_ok nmX8 14 (by decide) rfl (hts (.fieldLink RX8 84 "FiftyOneCards" "law" "I") (by decide +kernel)) rfl rfl rfl hf dX8_force_22 (fun σ_22 H locs hf hW => ?_)
      refine lv_iload_n hx hb dX8_force_25 rfl (lv_at hl 0 rfl) ?_
      exact ow_iret hx hb hr hW hf dX8_force_26 hlocks
    · replace hf := ow_if_f c9 hf
      refine lv_bipush (v := -2) hx hb dX8_force_12 (by decide) ?_
      exact ow_iret hx hb hr hW hf dX8_force_14 hlocks
set_option maxHeartbeats 40000000 in
set_option maxRecDepth 100000 in
theorem c_X8_isNumber (l : Launch) (Z : ow_Z) (fu : Nat) (a1 : Int32) (σ : ow_S) (rr : Int32) (σr : ow_S) (hf : f_X8_isNumber fu a1 σ = some (rr, σr)) : Met l yX8_isNumber wsX8_isNumber { frames := 1, cells := 0, slots := 0, locals := 60 } (ow_Pc Z 0 56 [.int a1] σ) (ow_Qz Z 0 56 rr σr) 0 0 (ow_A Z 0 56) := by
  refine Met.ofW (cc := cX8_isNumber) (maxL := 1) (ret := (some .boolean)) (by decide) rfl ?_
  intro p e s m args below meth c s₁ B hml hv
  obtain ⟨hav, hB⟩ := hv
  obtain ⟨hG, hW⟩ := ow_begin hB
  have hx := B.exec
  have hb := B.bytes
  have hr := B.returns
  have hts := atoms_spec (ws := wsX8_isNumber) B.pre
  have hown : s.vm.findClass RX8 = some m.cls := findClass_of_methodNamed B.named
  have hlocks := B.notSynchronized
  have hl := lv_entry ([.int a1]) (n := 1) (Nat.le_of_ble_eq_true rfl)
  refine W.eq (g2 := F0 m 0 ((lg_sl ([.int a1]) ++ List.replicate (1 - (lg_sl ([.int a1])).length) Slot.unset).toArray) []) (by rw [hav]; exact lg_entry_eq _ _ _) ?_
  generalize (lg_sl ([.int a1]) ++ List.replicate (1 - (lg_sl ([.int a1])).length) Slot.unset).toArray = ls at hl ⊢
  have hl : lv_has ls 1 [(0, .int a1)] := hl
  unfold f_X8_isNumber at hf
  refine lv_iload_n hx hb dX8_isNumber_0 rfl (lv_at hl 0 rfl) ?_
  refine lv_if_lt (tgt := 15) hx hb dX8_isNumber_1 (by decide) (fun c1 => ?_) (fun c1 => ?_)
  · replace hf := ow_if_t c1 hf
    refine lv_iconst (v := 0) hx hb dX8_isNumber_15 (by decide) ?_
    exact ow_zret hx hb hr (Or.inl rfl) hW hf dX8_isNumber_16 hlocks
  · replace hf := ow_if_f c1 hf
    refine lv_iload_n hx hb dX8_isNumber_4 rfl (lv_at hl 0 rfl) ?_
    refine lv_ldcw (v := 65535) hx hb hown (hts (.constant RX8 336 (65535)) (by decide +kernel)) dX8_isNumber_5 ?_
    refine lv_icmp_gt (tgt := 15) hx hb dX8_isNumber_8 (by decide) (fun c8 => ?_) (fun c8 => ?_)
    · replace hf := ow_if_t c8 hf
      refine lv_iconst (v := 0) hx hb dX8_isNumber_15 (by decide) ?_
      exact ow_zret hx hb hr (Or.inl rfl) hW hf dX8_isNumber_16 hlocks
    · replace hf := ow_if_f c8 hf
      refine lv_iconst (v := 1) hx hb dX8_isNumber_11 (by decide) ?_
      refine lv_goto (tgt := 16) hx hb dX8_isNumber_12 (by decide) ?_
      exact ow_zret hx hb hr (Or.inr rfl) hW hf dX8_isNumber_16 hlocks
set_option maxHeartbeats 40000000 in
set_option maxRecDepth 100000 in
theorem c_X8_lawText (l : Launch) (Z : ow_Z) (fu : Nat) (σ : ow_S) (rr : Nat) (σr : ow_S) (hf : f_X8_lawText fu σ = some (rr, σr)) : Met l yX8_lawText wsX8_lawText { frames := 1, cells := 0, slots := 0, locals := 60 } (ow_Pc Z 0 56 [.ref (ow_ad Z 0)] σ) (ow_Qr Z 0 56 6 rr σr) 0 0 (ow_A Z 0 56) := by
  refine Met.ofW (cc := cX8_lawText) (maxL := 1) (ret := (some (.object "FiftyOneCards$Text"))) (by decide) rfl ?_
  intro p e s m args below meth c s₁ B hml hv
  obtain ⟨hav, hB⟩ := hv
  obtain ⟨hG, hW⟩ := ow_begin hB
  have hx := B.exec
  have hb := B.bytes
  have hr := B.returns
  have hts := atoms_spec (ws := wsX8_lawText) B.pre
  have hown : s.vm.findClass RX8 = some m.cls := findClass_of_methodNamed B.named
  have hlocks := B.notSynchronized
  have hinX8 : ∀ w ∈ wsX80, w ∈ wsX8_lawText := by decide +kernel
  have hJ28 : ∀ (σ : ow_S) (H : Heap) (locs : List Loc) (ls : Array Slot), L_X8_lawText_28 fu σ = some (rr, σr) → ow_Wd Z 0 56 σ s H locs → lv_has ls 1 [(0, .ref (ow_ad Z 0))] → W p l e (headSpec wsX8_lawText { frames := 1, cells := 0, slots := 0, locals := 60 }).room s m args below meth c H locs 0 0 (MQ below (ow_Qr Z 0 56 6 rr σr) args s 0 0 (ow_A Z 0 56)) (F0 m 28 ls []) := by
    intro σ H locs ls hf hW hl
    unfold L_X8_lawText_28 at hf
    refine lv_aload_n hx hb dX8_lawText_28 rfl (lv_at hl 0 rfl) ?_
    refine ow_getV (ci := 8) (C := RX8) (T := TX8) (N := 15) hx hb hts hown hG hW ow_i0 (by decide) rfl hinX8 5 (by decide) (fk := 2) rfl (hts (.fieldLink RX8 39 "FiftyOneCards" "texts" "[LFiftyOneCards$Text;") (by decide +kernel)) (v := .ref (ow_ad Z 9)) (ow_vR hW ow_i0.1 ow_i0.2.1 rfl) dX8_lawText_29 ?_
    refine lv_iconst (v := 0) hx hb dX8_lawText_32 (by decide) ?_
    refine ow_rld (f := fun j => 30 + 3 * j) (ct := 6) hx hb hG hW ow_i9 ⟨by decide, by decide⟩ rfl ow_ra9 hf dX8_lawText_33 (fun h_33 hf hi33 => ?_)
    exact ow_aret hx hb hr hW hi33 hf dX8_lawText_34 hlocks
  have hl := lv_entry ([.ref (ow_ad Z 0)]) (n := 1) (Nat.le_of_ble_eq_true rfl)
  refine W.eq (g2 := F0 m 0 ((lg_sl ([.ref (ow_ad Z 0)]) ++ List.replicate (1 - (lg_sl ([.ref (ow_ad Z 0)])).length) Slot.unset).toArray) []) (by rw [hav]; exact lg_entry_eq _ _ _) ?_
  generalize (lg_sl ([.ref (ow_ad Z 0)]) ++ List.replicate (1 - (lg_sl ([.ref (ow_ad Z 0)])).length) Slot.unset).toArray = ls at hl ⊢
  have hl : lv_has ls 1 [(0, .ref (ow_ad Z 0))] := hl
  unfold f_X8_lawText at hf
  refine lv_aload_n hx hb dX8_lawText_0 rfl (lv_at hl 0 rfl) ?_
  refine ow_getV (ci := 8) (C := RX8) (T := TX8) (N := 15) hx hb hts hown hG hW ow_i0 (by decide) rfl hinX8 14 (by decide) (fk := 0) rfl (hts (.fieldLink RX8 84 "FiftyOneCards" "law" "I") (by decide +kernel)) (v := .int (σ.1 0 14)) rfl dX8_lawText_1 ?_
  refine lv_if_lt (tgt := 28) hx hb dX8_lawText_4 (by decide) (fun c4 => ?_) (fun c4 => ?_)
  · replace hf := ow_if_t c4 hf
    exact hJ28 σ _ _ _ hf hW (lv_sub hl [0] rfl)
  · replace hf := ow_if_f c4 hf
    refine lv_aload_n hx hb dX8_lawText_7 rfl (lv_at hl 0 rfl) ?_
    refine ow_getV (ci := 8) (C := RX8) (T := TX8) (N := 15) hx hb hts hown hG hW ow_i0 (by decide) rfl hinX8 14 (by decide) (fk := 0) rfl (hts (.fieldLink RX8 84 "FiftyOneCards" "law" "I") (by decide +kernel)) (v := .int (σ.1 0 14)) rfl dX8_lawText_8 ?_
    refine lv_bipush (v := 6) hx hb dX8_lawText_11 (by decide) ?_
    refine lv_icmp_ge (tgt := 28) hx hb dX8_lawText_13 (by decide) (fun c13 => ?_) (fun c13 => ?_)
    · replace hf := ow_if_t c13 hf
      exact hJ28 σ _ _ _ hf hW (lv_sub hl [0] rfl)
    · replace hf := ow_if_f c13 hf
      refine lv_aload_n hx hb dX8_lawText_16 rfl (lv_at hl 0 rfl) ?_
      refine ow_getV (ci := 8) (C := RX8) (T := TX8) (N := 15) hx hb hts hown hG hW ow_i0 (by decide) rfl hinX8 5 (by decide) (fk := 2) rfl (hts (.fieldLink RX8 39 "FiftyOneCards" "texts" "[LFiftyOneCards$Text;") (by decide +kernel)) (v := .ref (ow_ad Z 9)) (ow_vR hW ow_i0.1 ow_i0.2.1 rfl) dX8_lawText_17 ?_
      refine lv_aload_n hx hb dX8_lawText_20 rfl (lv_at hl 0 rfl) ?_
      refine ow_getV (ci := 8) (C := RX8) (T := TX8) (N := 15) hx hb hts hown hG hW ow_i0 (by decide) rfl hinX8 14 (by decide) (fk := 0) rfl (hts (.fieldLink RX8 84 "FiftyOneCards" "law" "I") (by decide +kernel)) (v := .int (σ.1 0 14)) rfl dX8_lawText_21 ?_
      refine ow_rld (f := fun j => 30 + 3 * j) (ct := 6) hx hb hG hW ow_i9 ⟨by decide, by decide⟩ rfl ow_ra9 hf dX8_lawText_24 (fun h_24 hf hi24 => ?_)
      refine lv_goto (tgt := 34) hx hb dX8_lawText_25 (by decide) ?_
      exact ow_aret hx hb hr hW hi24 hf dX8_lawText_34 hlocks
set_option maxHeartbeats 40000000 in
set_option maxRecDepth 100000 in
theorem c_X8_asks (l : Launch) (Z : ow_Z) (fu : Nat) (a1 : Int32) (a2 : Int32) (a3 : Int32) (a4 : Int32) (σ : ow_S) (rr : Int32) (σr : ow_S) (hf : f_X8_asks fu a1 a2 a3 a4 σ = some (rr, σr)) : Met l yX8_asks wsX8_asks { frames := 4, cells := 0, slots := 0, locals := 128 } (ow_Pc Z 0 56 [.ref (ow_ad Z 0), .int a1, .int a2, .int a3, .int a4] σ) (ow_Qi Z 0 56 rr σr) 0 0 (ow_A Z 0 56) := by
  refine Met.ofW (cc := cX8_asks) (maxL := 7) (ret := (some .int)) (by decide) rfl ?_
  intro p e s m args below meth c s₁ B hml hv
  obtain ⟨hav, hB⟩ := hv
  obtain ⟨hG, hW⟩ := ow_begin hB
  have hx := B.exec
  have hb := B.bytes
  have hr := B.returns
  have hts := atoms_spec (ws := wsX8_asks) B.pre
  have hown : s.vm.findClass RX8 = some m.cls := findClass_of_methodNamed B.named
  have hlocks := B.notSynchronized
  have hinX8 : ∀ w ∈ wsX80, w ∈ wsX8_asks := by decide +kernel
  have hl := lv_entry ([.ref (ow_ad Z 0), .int a1, .int a2, .int a3, .int a4]) (n := 7) (Nat.le_of_ble_eq_true rfl)
  refine W.eq (g2 := F0 m 0 ((lg_sl ([.ref (ow_ad Z 0), .int a1, .int a2, .int a3, .int a4]) ++ List.replicate (7 - (lg_sl ([.ref (ow_ad Z 0), .int a1, .int a2, .int a3, .int a4])).length) Slot.unset).toArray) []) (by rw [hav]; exact lg_entry_eq _ _ _) ?_
  generalize (lg_sl ([.ref (ow_ad Z 0), .int a1, .int a2, .int a3, .int a4]) ++ List.replicate (7 - (lg_sl ([.ref (ow_ad Z 0), .int a1, .int a2, .int a3, .int a4])).length) Slot.unset).toArray = ls at hl ⊢
  have hl : lv_has ls 7 [(0, .ref (ow_ad Z 0)), (1, .int a1), (2, .int a2), (3, .int a3), (4, .int a4)] := hl
  unfold f_X8_asks at hf
  refine lv_iload hx hb dX8_asks_0 (lv_at hl 4 rfl) ?_
  refine lv_sipush (v := 1000) hx hb dX8_asks_2 (by decide) ?_
  refine lv_idiv hx hb dX8_asks_5 (by decide) ?_
  refine ow_topi hf (fun x5_6 hf => ?_)
  refine lv_istore (lv' := [(5, .int x5_6), (0, .ref (ow_ad Z 0)), (1, .int a1), (2, .int a2), (3, .int a3), (4, .int a4)]) hx hb dX8_asks_6 hl (by decide) rfl (fun ls hl => ?_)
  refine lv_iload hx hb dX8_asks_8 (lv_at hl 5 rfl) ?_
  refine lv_bipush (v := 10) hx hb dX8_asks_10 (by decide) ?_
  refine lv_idiv hx hb dX8_asks_12 (by decide) ?_
  refine lv_bipush (v := 100) hx hb dX8_asks_13 (by decide) ?_
  refine ow_r_irem hx hb dX8_asks_15 (by decide) ?_
  refine ow_topi hf (fun x6_16 hf => ?_)
  refine lv_istore (lv' := [(6, .int x6_16), (5, .int x5_6), (0, .ref (ow_ad Z 0)), (1, .int a1), (2, .int a2), (3, .int a3), (4, .int a4)]) hx hb dX8_asks_16 hl (by decide) rfl (fun ls hl => ?_)
  refine lv_iload_n hx hb dX8_asks_18 rfl (lv_at hl 3 rfl) ?_
  refine lv_if_lt (tgt := 60) hx hb dX8_asks_19 (by decide) (fun c19 => ?_) (fun c19 => ?_)
  · replace hf := ow_if_t c19 hf
    refine lv_bipush (v := -2) hx hb dX8_asks_60 (by decide) ?_
    exact ow_iret hx hb hr hW hf dX8_asks_62 hlocks
  · replace hf := ow_if_f c19 hf
    refine lv_iload_n hx hb dX8_asks_22 rfl (lv_at hl 3 rfl) ?_
    refine lv_iconst (v := 3) hx hb dX8_asks_23 (by decide) ?_
    refine lv_icmp_ge (tgt := 60) hx hb dX8_asks_24 (by decide) (fun c24 => ?_) (fun c24 => ?_)
    · replace hf := ow_if_t c24 hf
      refine lv_bipush (v := -2) hx hb dX8_asks_60 (by decide) ?_
      exact ow_iret hx hb hr hW hf dX8_asks_62 hlocks
    · replace hf := ow_if_f c24 hf
      refine lv_iload_n hx hb dX8_asks_27 rfl (lv_at hl 4 rfl) ?_
      obtain ⟨r_28, σ_28, hc28, hf⟩ := ow_cl_i hf
      refine ow_callz (va_runS (As := [.int a2]) (rest := []) ⟨hx, hb, hml, hown, hts⟩ (c_X8_isNumber l Z fu a2 σ r_28 σ_28 hc28) (va_cwS 1 hts gX8_asks_X8_isNumber rfl rfl rfl (by decide +kernel) ⟨Nat.le_of_ble_eq_true rfl, Nat.le_of_ble_eq_true rfl⟩) (ow_preS hG hW) rfl rfl hl.1 rfl (lv_room (Nat.le_of_ble_eq_true rfl)) dX8_asks_28 ⟨Nat.zero_le _, Nat.zero_le _⟩) hW (fun b28 H locs hW => ?_)
      refine lv_if_eq (tgt := 60) hx hb dX8_asks_31 (by decide) (fun c31 => ?_) (fun c31 => ?_)
      · replace hf := ow_if_t c31 hf
        refine lv_bipush (v := -2) hx hb dX8_asks_60 (by decide) ?_
        exact ow_iret hx hb hr hW hf dX8_asks_62 hlocks
      · replace hf := ow_if_f c31 hf
        refine lv_iload_n hx hb dX8_asks_34 rfl (lv_at hl 5 rfl) ?_
        obtain ⟨r_35, σ_35, hc35, hf⟩ := ow_cl_i hf
        refine ow_callz (va_runS (As := [.int a3]) (rest := []) ⟨hx, hb, hml, hown, hts⟩ (c_X8_isNumber l Z fu a3 σ_28 r_35 σ_35 hc35) (va_cwS 1 hts gX8_asks_X8_isNumber rfl rfl rfl (by decide +kernel) ⟨Nat.le_of_ble_eq_true rfl, Nat.le_of_ble_eq_true rfl⟩) (ow_preS hG hW) rfl rfl hl.1 rfl (lv_room (Nat.le_of_ble_eq_true rfl)) dX8_asks_35 ⟨Nat.zero_le _, Nat.zero_le _⟩) hW (fun b35 H locs hW => ?_)
        refine lv_if_eq (tgt := 60) hx hb dX8_asks_38 (by decide) (fun c38 => ?_) (fun c38 => ?_)
        · replace hf := ow_if_t c38 hf
          refine lv_bipush (v := -2) hx hb dX8_asks_60 (by decide) ?_
          exact ow_iret hx hb hr hW hf dX8_asks_62 hlocks
        · replace hf := ow_if_f c38 hf
          refine lv_iload hx hb dX8_asks_41 (lv_at hl 6 rfl) ?_
          refine lv_if_lt (tgt := 60) hx hb dX8_asks_43 (by decide) (fun c43 => ?_) (fun c43 => ?_)
          · replace hf := ow_if_t c43 hf
            refine lv_bipush (v := -2) hx hb dX8_asks_60 (by decide) ?_
            exact ow_iret hx hb hr hW hf dX8_asks_62 hlocks
          · replace hf := ow_if_f c43 hf
            refine lv_iload hx hb dX8_asks_46 (lv_at hl 1 rfl) ?_
            refine lv_bipush (v := 52) hx hb dX8_asks_48 (by decide) ?_
            refine lv_icmp_gt (tgt := 60) hx hb dX8_asks_50 (by decide) (fun c50 => ?_) (fun c50 => ?_)
            · replace hf := ow_if_t c50 hf
              refine lv_bipush (v := -2) hx hb dX8_asks_60 (by decide) ?_
              exact ow_iret hx hb hr hW hf dX8_asks_62 hlocks
            · replace hf := ow_if_f c50 hf
              refine lv_iload hx hb dX8_asks_53 (lv_at hl 0 rfl) ?_
              refine lv_bipush (v := 60) hx hb dX8_asks_55 (by decide) ?_
              refine lv_icmp_lt (tgt := 63) hx hb dX8_asks_57 (by decide) (fun c57 => ?_) (fun c57 => ?_)
              · replace hf := ow_if_t c57 hf
                refine lv_aload_n hx hb dX8_asks_63 rfl (lv_at hl 2 rfl) ?_
                refine ow_getV (ci := 8) (C := RX8) (T := TX8) (N := 15) hx hb hts hown hG hW ow_i0 (by decide) rfl hinX8 6 (by decide) (fk := 2) rfl (hts (.fieldLink RX8 46 "FiftyOneCards" "walk" "LFiftyOneCards$Walk;") (by decide +kernel)) (v := .ref (ow_ad Z 10)) (ow_vR hW ow_i0.1 ow_i0.2.1 rfl) dX8_asks_64 ?_
                refine lv_aload_n hx hb dX8_asks_67 rfl (lv_at hl 2 rfl) ?_
                obtain ⟨r_68, σ_68, hc68, hf⟩ := ow_cl_i hf
                refine ow_callr (va_runV (As := []) (rest := [.ref (ow_ad Z 10)]) ⟨hx, hb, hml, hown, hts⟩ (c_X8_lawText l Z fu σ_35 r_68 σ_68 hc68) (cwV 0 hts gX8_asks_X8_lawText rfl rfl rfl (by decide +kernel) ⟨Nat.le_of_ble_eq_true rfl, Nat.le_of_ble_eq_true rfl⟩) (ow_preV hG hW ow_i0 (by decide) rfl) rfl rfl hl.1 rfl (lv_room (Nat.le_of_ble_eq_true rfl)) dX8_asks_68 ⟨Nat.zero_le _, Nat.zero_le _⟩) hW (fun b68 H locs hW => ?_)
                refine lv_aload_n hx hb dX8_asks_71 rfl (lv_at hl 2 rfl) ?_
                refine ow_getV (ci := 8) (C := RX8) (T := TX8) (N := 15) hx hb hts hown hG hW ow_i0 (by decide) rfl hinX8 11 (by decide) (fk := 0) rfl (hts (.fieldLink RX8 74 "FiftyOneCards" "pack" "I") (by decide +kernel)) (v := .int (σ_68.1 0 11)) rfl dX8_asks_72 ?_
                refine lv_iload hx hb dX8_asks_75 (lv_at hl 6 rfl) ?_
                refine lv_bipush (v := 10) hx hb dX8_asks_77 (by decide) ?_
                refine ow_r_irem hx hb dX8_asks_79 (by decide) ?_
                obtain ⟨σ_80, hc80, hf⟩ := ow_cv_i hf
                refine ow_callv (va_runVN (As := [.ref (ow_ad Z r_68), .int (σ_68.1 0 11), .int (ow_irem a4 (10 : Int32))]) (rest := []) ⟨hx, hb, hml, hown, hts⟩ (c_X7_setOut l Z fu r_68 b68 (σ_68.1 0 11) (ow_irem a4 (10 : Int32)) σ_68 σ_80  hc80) ⟨va_cnB (host := "FiftyOneCards") 3 hts ggX8_asks_X7_setOut rfl rfl rfl (ow_nwp hG (.methodLinkNest RX8 174 yX7_setOut "FiftyOneCards") (by decide +kernel)) (hts (.initialized RX7) (by decide +kernel)) (by decide +kernel) ⟨Nat.le_of_ble_eq_true rfl, Nat.le_of_ble_eq_true rfl⟩, hts (.instanceMethod yX7_setOut) (by decide +kernel), hts (.selects RX7 yX7_setOut yX7_setOut) (by decide +kernel)⟩ (ow_preV hG hW ow_i10 (by decide) rfl) rfl rfl hl.1 rfl (lv_room (Nat.le_of_ble_eq_true rfl)) dX8_asks_80 ⟨Nat.zero_le _, Nat.zero_le _⟩) hW (fun H locs hW => ?_)
                refine lv_aload_n hx hb dX8_asks_83 rfl (lv_at hl 2 rfl) ?_
                refine ow_getV (ci := 8) (C := RX8) (T := TX8) (N := 15) hx hb hts hown hG hW ow_i0 (by decide) rfl hinX8 6 (by decide) (fk := 2) rfl (hts (.fieldLink RX8 46 "FiftyOneCards" "walk" "LFiftyOneCards$Walk;") (by decide +kernel)) (v := .ref (ow_ad Z 10)) (ow_vR hW ow_i0.1 ow_i0.2.1 rfl) dX8_asks_84 ?_
                refine lv_iload_n hx hb dX8_asks_87 rfl (lv_at hl 4 rfl) ?_
                refine lv_iload_n hx hb dX8_asks_88 rfl (lv_at hl 5 rfl) ?_
                obtain ⟨σ_89, hc89, hf⟩ := ow_cv_i hf
                refine ow_callv (va_runVN (As := [.int a2, .int a3]) (rest := []) ⟨hx, hb, hml, hown, hts⟩ (c_X7_keepBoth l Z fu a2 a3 σ_80 σ_89  hc89) ⟨va_cnB (host := "FiftyOneCards") 2 hts ggX8_asks_X7_keepBoth rfl rfl rfl (ow_nwp hG (.methodLinkNest RX8 178 yX7_keepBoth "FiftyOneCards") (by decide +kernel)) (hts (.initialized RX7) (by decide +kernel)) (by decide +kernel) ⟨Nat.le_of_ble_eq_true rfl, Nat.le_of_ble_eq_true rfl⟩, hts (.instanceMethod yX7_keepBoth) (by decide +kernel), hts (.selects RX7 yX7_keepBoth yX7_keepBoth) (by decide +kernel)⟩ (ow_preV hG hW ow_i10 (by decide) rfl) rfl rfl hl.1 rfl (lv_room (Nat.le_of_ble_eq_true rfl)) dX8_asks_89 ⟨Nat.zero_le _, Nat.zero_le _⟩) hW (fun H locs hW => ?_)
                refine lv_aload_n hx hb dX8_asks_92 rfl (lv_at hl 2 rfl) ?_
                refine ow_getV (ci := 8) (C := RX8) (T := TX8) (N := 15) hx hb hts hown hG hW ow_i0 (by decide) rfl hinX8 6 (by decide) (fk := 2) rfl (hts (.fieldLink RX8 46 "FiftyOneCards" "walk" "LFiftyOneCards$Walk;") (by decide +kernel)) (v := .ref (ow_ad Z 10)) (ow_vR hW ow_i0.1 ow_i0.2.1 rfl) dX8_asks_93 ?_
                refine lv_iload hx hb dX8_asks_96 (lv_at hl 1 rfl) ?_
                refine lv_iload hx hb dX8_asks_98 (lv_at hl 0 rfl) ?_
                obtain ⟨σ_100, hc100, hf⟩ := ow_cv_i hf
                refine ow_callv (va_runVN (As := [.int x5_6, .int x6_16]) (rest := []) ⟨hx, hb, hml, hown, hts⟩ (c_X7_meet l Z fu x5_6 x6_16 σ_89 σ_100  hc100) ⟨va_cnB (host := "FiftyOneCards") 2 hts ggX8_asks_X7_meet rfl rfl rfl (ow_nwp hG (.methodLinkNest RX8 182 yX7_meet "FiftyOneCards") (by decide +kernel)) (hts (.initialized RX7) (by decide +kernel)) (by decide +kernel) ⟨Nat.le_of_ble_eq_true rfl, Nat.le_of_ble_eq_true rfl⟩, hts (.instanceMethod yX7_meet) (by decide +kernel), hts (.selects RX7 yX7_meet yX7_meet) (by decide +kernel)⟩ (ow_preV hG hW ow_i10 (by decide) rfl) rfl rfl hl.1 rfl (lv_room (Nat.le_of_ble_eq_true rfl)) dX8_asks_100 ⟨Nat.zero_le _, Nat.zero_le _⟩) hW (fun H locs hW => ?_)
                refine lv_aload_n hx hb dX8_asks_103 rfl (lv_at hl 2 rfl) ?_
                refine ow_getV (ci := 8) (C := RX8) (T := TX8) (N := 15) hx hb hts hown hG hW ow_i0 (by decide) rfl hinX8 6 (by decide) (fk := 2) rfl (hts (.fieldLink RX8 46 "FiftyOneCards" "walk" "LFiftyOneCards$Walk;") (by decide +kernel)) (v := .ref (ow_ad Z 10)) (ow_vR hW ow_i0.1 ow_i0.2.1 rfl) dX8_asks_104 ?_
                refine lv_iload_n hx hb dX8_asks_107 rfl (lv_at hl 3 rfl) ?_
                obtain ⟨r_108, σ_108, hc108, hf⟩ := ow_cl_i hf
                refine ow_calli (va_runVN (As := [.int a1]) (rest := []) ⟨hx, hb, hml, hown, hts⟩ (c_X7_tellsBounded l Z fu a1 σ_100 r_108 σ_108 hc108) ⟨va_cnB (host := "FiftyOneCards") 1 hts ggX8_asks_X7_tellsBounded rfl rfl rfl (ow_nwp hG (.methodLinkNest RX8 185 yX7_tellsBounded "FiftyOneCards") (by decide +kernel)) (hts (.initialized RX7) (by decide +kernel)) (by decide +kernel) ⟨Nat.le_of_ble_eq_true rfl, Nat.le_of_ble_eq_true rfl⟩, hts (.instanceMethod yX7_tellsBounded) (by decide +kernel), hts (.selects RX7 yX7_tellsBounded yX7_tellsBounded) (by decide +kernel)⟩ (ow_preV hG hW ow_i10 (by decide) rfl) rfl rfl hl.1 rfl (lv_room (Nat.le_of_ble_eq_true rfl)) dX8_asks_108 ⟨Nat.zero_le _, Nat.zero_le _⟩) hW (fun H locs hW => ?_)
                exact ow_iret hx hb hr hW hf dX8_asks_111 hlocks
              · replace hf := ow_if_f c57 hf
                refine lv_bipush (v := -2) hx hb dX8_asks_60 (by decide) ?_
                exact ow_iret hx hb hr hW hf dX8_asks_62 hlocks
set_option maxHeartbeats 40000000 in
set_option maxRecDepth 100000 in
theorem c_X8_isBits (l : Launch) (Z : ow_Z) (fu : Nat) (a1 : Int32) (σ : ow_S) (rr : Int32) (σr : ow_S) (hf : f_X8_isBits fu a1 σ = some (rr, σr)) : Met l yX8_isBits wsX8_isBits { frames := 1, cells := 0, slots := 0, locals := 60 } (ow_Pc Z 0 56 [.int a1] σ) (ow_Qz Z 0 56 rr σr) 0 0 (ow_A Z 0 56) := by
  refine Met.ofW (cc := cX8_isBits) (maxL := 1) (ret := (some .boolean)) (by decide) rfl ?_
  intro p e s m args below meth c s₁ B hml hv
  obtain ⟨hav, hB⟩ := hv
  obtain ⟨hG, hW⟩ := ow_begin hB
  have hx := B.exec
  have hb := B.bytes
  have hr := B.returns
  have hts := atoms_spec (ws := wsX8_isBits) B.pre
  have hown : s.vm.findClass RX8 = some m.cls := findClass_of_methodNamed B.named
  have hlocks := B.notSynchronized
  have hl := lv_entry ([.int a1]) (n := 1) (Nat.le_of_ble_eq_true rfl)
  refine W.eq (g2 := F0 m 0 ((lg_sl ([.int a1]) ++ List.replicate (1 - (lg_sl ([.int a1])).length) Slot.unset).toArray) []) (by rw [hav]; exact lg_entry_eq _ _ _) ?_
  generalize (lg_sl ([.int a1]) ++ List.replicate (1 - (lg_sl ([.int a1])).length) Slot.unset).toArray = ls at hl ⊢
  have hl : lv_has ls 1 [(0, .int a1)] := hl
  unfold f_X8_isBits at hf
  refine lv_iload_n hx hb dX8_isBits_0 rfl (lv_at hl 0 rfl) ?_
  refine lv_iconst (v := 1) hx hb dX8_isBits_1 (by decide) ?_
  refine lv_icmp_lt (tgt := 15) hx hb dX8_isBits_2 (by decide) (fun c2 => ?_) (fun c2 => ?_)
  · replace hf := ow_if_t c2 hf
    refine lv_iconst (v := 0) hx hb dX8_isBits_15 (by decide) ?_
    exact ow_zret hx hb hr (Or.inl rfl) hW hf dX8_isBits_16 hlocks
  · replace hf := ow_if_f c2 hf
    refine lv_iload_n hx hb dX8_isBits_5 rfl (lv_at hl 0 rfl) ?_
    refine lv_bipush (v := 16) hx hb dX8_isBits_6 (by decide) ?_
    refine lv_icmp_gt (tgt := 15) hx hb dX8_isBits_8 (by decide) (fun c8 => ?_) (fun c8 => ?_)
    · replace hf := ow_if_t c8 hf
      refine lv_iconst (v := 0) hx hb dX8_isBits_15 (by decide) ?_
      exact ow_zret hx hb hr (Or.inl rfl) hW hf dX8_isBits_16 hlocks
    · replace hf := ow_if_f c8 hf
      refine lv_iconst (v := 1) hx hb dX8_isBits_11 (by decide) ?_
      refine lv_goto (tgt := 16) hx hb dX8_isBits_12 (by decide) ?_
      exact ow_zret hx hb hr (Or.inr rfl) hW hf dX8_isBits_16 hlocks
