set_option maxHeartbeats 40000000 in
set_option maxRecDepth 100000 in
theorem c_X0_become (l : Launch) (Z : ow_Z) (fu : Nat) (h : Nat) (hh : ow_in 0 56 h 0) (a1 : Nat) (ha1 : ow_in 0 56 a1 0) (σ : ow_S) (σr : ow_S) (hf : f_X0_become fu h a1 σ = some σr) : Met l yX0_become wsX0_become { frames := 1, cells := 0, slots := 0, locals := 60 } (ow_Pc Z 0 56 [.ref (ow_ad Z h), .ref (ow_ad Z a1)] σ) (ow_Qv Z 0 56 σr) 0 0 (ow_A Z 0 56) := by
  refine Met.ofW (cc := cX0_become) (maxL := 2) (ret := none) (by decide) rfl ?_
  intro p e s m args below meth c s₁ B hml hv
  obtain ⟨hav, hB⟩ := hv
  obtain ⟨hG, hW⟩ := ow_begin hB
  have hx := B.exec
  have hb := B.bytes
  have hr := B.returns
  have hts := atoms_spec (ws := wsX0_become) B.pre
  have hown : s.vm.findClass RX0 = some m.cls := findClass_of_methodNamed B.named
  have hlocks := B.notSynchronized
  have hinX0 : ∀ w ∈ wsX00, w ∈ wsX0_become := by decide +kernel
  have hl := lv_entry ([.ref (ow_ad Z h), .ref (ow_ad Z a1)]) (n := 2) (Nat.le_of_ble_eq_true rfl)
  refine W.eq (g2 := F0 m 0 ((lg_sl ([.ref (ow_ad Z h), .ref (ow_ad Z a1)]) ++ List.replicate (2 - (lg_sl ([.ref (ow_ad Z h), .ref (ow_ad Z a1)])).length) Slot.unset).toArray) []) (by rw [hav]; exact lg_entry_eq _ _ _) ?_
  generalize (lg_sl ([.ref (ow_ad Z h), .ref (ow_ad Z a1)]) ++ List.replicate (2 - (lg_sl ([.ref (ow_ad Z h), .ref (ow_ad Z a1)])).length) Slot.unset).toArray = ls at hl ⊢
  have hl : lv_has ls 2 [(0, .ref (ow_ad Z h)), (1, .ref (ow_ad Z a1))] := hl
  unfold f_X0_become at hf
  refine lv_aload_n hx hb dX0_become_0 rfl (lv_at hl 0 rfl) ?_
  refine lv_aload_n hx hb dX0_become_1 rfl (lv_at hl 1 rfl) ?_
  refine ow_getV (ci := 0) (C := RX0) (T := TX0) (N := 5) hx hb hts hown hG hW ha1 (by decide) rfl hinX0 0 (by decide) (fk := 0) rfl (hts (.fieldLink RX0 9 "FiftyOneCards$Head" "kind" "I") (by decide +kernel)) (v := .int (σ.1 a1 0)) rfl dX0_become_2 ?_
  refine ow_putI (ci := 0) (C := RX0) (T := TX0) (N := 5) hx hb hts hown hG hW hh (by decide) rfl hinX0 tyX0 tyX0_ok nmX0 0 (by decide) rfl (hts (.fieldLink RX0 9 "FiftyOneCards$Head" "kind" "I") (by decide +kernel)) rfl rfl rfl hf dX0_become_5 (fun σ_5 H locs hf hW => ?_)
  refine lv_aload_n hx hb dX0_become_8 rfl (lv_at hl 0 rfl) ?_
  refine lv_aload_n hx hb dX0_become_9 rfl (lv_at hl 1 rfl) ?_
  refine ow_getV (ci := 0) (C := RX0) (T := TX0) (N := 5) hx hb hts hown hG hW ha1 (by decide) rfl hinX0 1 (by decide) (fk := 0) rfl (hts (.fieldLink RX0 15 "FiftyOneCards$Head" "more" "I") (by decide +kernel)) (v := .int (σ_5.1 a1 1)) rfl dX0_become_10 ?_
  refine ow_putI (ci := 0) (C := RX0) (T := TX0) (N := 5) hx hb hts hown hG hW hh (by decide) rfl hinX0 tyX0 tyX0_ok nmX0 1 (by decide) rfl (hts (.fieldLink RX0 15 "FiftyOneCards$Head" "more" "I") (by decide +kernel)) rfl rfl rfl hf dX0_become_13 (fun σ_13 H locs hf hW => ?_)
  refine lv_aload_n hx hb dX0_become_16 rfl (lv_at hl 0 rfl) ?_
  refine lv_aload_n hx hb dX0_become_17 rfl (lv_at hl 1 rfl) ?_
  refine ow_getV (ci := 0) (C := RX0) (T := TX0) (N := 5) hx hb hts hown hG hW ha1 (by decide) rfl hinX0 2 (by decide) (fk := 0) rfl (hts (.fieldLink RX0 18 "FiftyOneCards$Head" "bits" "I") (by decide +kernel)) (v := .int (σ_13.1 a1 2)) rfl dX0_become_18 ?_
  refine ow_putI (ci := 0) (C := RX0) (T := TX0) (N := 5) hx hb hts hown hG hW hh (by decide) rfl hinX0 tyX0 tyX0_ok nmX0 2 (by decide) rfl (hts (.fieldLink RX0 18 "FiftyOneCards$Head" "bits" "I") (by decide +kernel)) rfl rfl rfl hf dX0_become_21 (fun σ_21 H locs hf hW => ?_)
  refine lv_aload_n hx hb dX0_become_24 rfl (lv_at hl 0 rfl) ?_
  refine lv_aload_n hx hb dX0_become_25 rfl (lv_at hl 1 rfl) ?_
  refine ow_getV (ci := 0) (C := RX0) (T := TX0) (N := 5) hx hb hts hown hG hW ha1 (by decide) rfl hinX0 3 (by decide) (fk := 0) rfl (hts (.fieldLink RX0 21 "FiftyOneCards$Head" "first" "I") (by decide +kernel)) (v := .int (σ_21.1 a1 3)) rfl dX0_become_26 ?_
  refine ow_putI (ci := 0) (C := RX0) (T := TX0) (N := 5) hx hb hts hown hG hW hh (by decide) rfl hinX0 tyX0 tyX0_ok nmX0 3 (by decide) rfl (hts (.fieldLink RX0 21 "FiftyOneCards$Head" "first" "I") (by decide +kernel)) rfl rfl rfl hf dX0_become_29 (fun σ_29 H locs hf hW => ?_)
  refine lv_aload_n hx hb dX0_become_32 rfl (lv_at hl 0 rfl) ?_
  refine lv_aload_n hx hb dX0_become_33 rfl (lv_at hl 1 rfl) ?_
  refine ow_getV (ci := 0) (C := RX0) (T := TX0) (N := 5) hx hb hts hown hG hW ha1 (by decide) rfl hinX0 4 (by decide) (fk := 0) rfl (hts (.fieldLink RX0 24 "FiftyOneCards$Head" "second" "I") (by decide +kernel)) (v := .int (σ_29.1 a1 4)) rfl dX0_become_34 ?_
  refine ow_putI (ci := 0) (C := RX0) (T := TX0) (N := 5) hx hb hts hown hG hW hh (by decide) rfl hinX0 tyX0 tyX0_ok nmX0 4 (by decide) rfl (hts (.fieldLink RX0 24 "FiftyOneCards$Head" "second" "I") (by decide +kernel)) rfl rfl rfl hf dX0_become_37 (fun σ_37 H locs hf hW => ?_)
  exact ow_vret hx hb hr hW hf dX0_become_40 hlocks
set_option maxHeartbeats 40000000 in
set_option maxRecDepth 100000 in
theorem c_X0_sees (l : Launch) (Z : ow_Z) (fu : Nat) (h : Nat) (hh : ow_in 0 56 h 0) (a1 : Int32) (σ : ow_S) (rr : Int32) (σr : ow_S) (hf : f_X0_sees fu h a1 σ = some (rr, σr)) : Met l yX0_sees wsX0_sees { frames := 1, cells := 0, slots := 0, locals := 60 } (ow_Pc Z 0 56 [.ref (ow_ad Z h), .int a1] σ) (ow_Qz Z 0 56 rr σr) 0 0 (ow_A Z 0 56) := by
  refine Met.ofW (cc := cX0_sees) (maxL := 2) (ret := (some .boolean)) (by decide) rfl ?_
  intro p e s m args below meth c s₁ B hml hv
  obtain ⟨hav, hB⟩ := hv
  obtain ⟨hG, hW⟩ := ow_begin hB
  have hx := B.exec
  have hb := B.bytes
  have hr := B.returns
  have hts := atoms_spec (ws := wsX0_sees) B.pre
  have hown : s.vm.findClass RX0 = some m.cls := findClass_of_methodNamed B.named
  have hlocks := B.notSynchronized
  have hinX0 : ∀ w ∈ wsX00, w ∈ wsX0_sees := by decide +kernel
  have hJ53 : ∀ (σ : ow_S) (H : Heap) (locs : List Loc) (ls : Array Slot), L_X0_sees_53 fu σ = some (rr, σr) → ow_Wd Z 0 56 σ s H locs → lv_has ls 2 [] → W p l e (headSpec wsX0_sees { frames := 1, cells := 0, slots := 0, locals := 60 }).room s m args below meth c H locs 0 0 (MQ below (ow_Qz Z 0 56 rr σr) args s 0 0 (ow_A Z 0 56)) (F0 m 53 ls []) := by
    intro σ H locs ls hf hW hl
    unfold L_X0_sees_53 at hf
    refine lv_iconst (v := 1) hx hb dX0_sees_53 (by decide) ?_
    refine lv_goto (tgt := 58) hx hb dX0_sees_54 (by decide) ?_
    exact ow_zret hx hb hr (Or.inr rfl) hW hf dX0_sees_58 hlocks
  have hJ36 : ∀ (r0 : Nat) (hr0 : ow_in 0 56 r0 0) (x1 : Int32) (σ : ow_S) (H : Heap) (locs : List Loc) (ls : Array Slot), L_X0_sees_36 fu r0 x1 σ = some (rr, σr) → ow_Wd Z 0 56 σ s H locs → lv_has ls 2 [(0, .ref (ow_ad Z r0)), (1, .int x1)] → W p l e (headSpec wsX0_sees { frames := 1, cells := 0, slots := 0, locals := 60 }).room s m args below meth c H locs 0 0 (MQ below (ow_Qz Z 0 56 rr σr) args s 0 0 (ow_A Z 0 56)) (F0 m 36 ls []) := by
    intro r0 hr0 x1 σ H locs ls hf hW hl
    unfold L_X0_sees_36 at hf
    refine lv_iload_n hx hb dX0_sees_36 rfl (lv_at hl 1 rfl) ?_
    refine lv_aload_n hx hb dX0_sees_37 rfl (lv_at hl 0 rfl) ?_
    refine ow_getV (ci := 0) (C := RX0) (T := TX0) (N := 5) hx hb hts hown hG hW hr0 (by decide) rfl hinX0 1 (by decide) (fk := 0) rfl (hts (.fieldLink RX0 15 "FiftyOneCards$Head" "more" "I") (by decide +kernel)) (v := .int (σ.1 r0 1)) rfl dX0_sees_38 ?_
    refine lv_iconst (v := 2) hx hb dX0_sees_41 (by decide) ?_
    refine lv_iadd hx hb dX0_sees_42 ?_
    obtain ⟨q43, hf⟩ := ow_ck_i hf
    refine ow_r_irem hx hb dX0_sees_43 q43 ?_
    refine lv_aload_n hx hb dX0_sees_44 rfl (lv_at hl 0 rfl) ?_
    refine ow_getV (ci := 0) (C := RX0) (T := TX0) (N := 5) hx hb hts hown hG hW hr0 (by decide) rfl hinX0 1 (by decide) (fk := 0) rfl (hts (.fieldLink RX0 15 "FiftyOneCards$Head" "more" "I") (by decide +kernel)) (v := .int (σ.1 r0 1)) rfl dX0_sees_45 ?_
    refine lv_iconst (v := 1) hx hb dX0_sees_48 (by decide) ?_
    refine lv_iadd hx hb dX0_sees_49 ?_
    refine lv_icmp_eq (tgt := 57) hx hb dX0_sees_50 (by decide) (fun c50 => ?_) (fun c50 => ?_)
    · replace hf := ow_if_t c50 hf
      refine lv_iconst (v := 0) hx hb dX0_sees_57 (by decide) ?_
      exact ow_zret hx hb hr (Or.inl rfl) hW hf dX0_sees_58 hlocks
    · replace hf := ow_if_f c50 hf
      exact hJ53 σ _ _ _ hf hW (lv_sub hl [] rfl)
  have hJ20 : ∀ (r0 : Nat) (hr0 : ow_in 0 56 r0 0) (x1 : Int32) (σ : ow_S) (H : Heap) (locs : List Loc) (ls : Array Slot), L_X0_sees_20 fu r0 x1 σ = some (rr, σr) → ow_Wd Z 0 56 σ s H locs → lv_has ls 2 [(0, .ref (ow_ad Z r0)), (1, .int x1)] → W p l e (headSpec wsX0_sees { frames := 1, cells := 0, slots := 0, locals := 60 }).room s m args below meth c H locs 0 0 (MQ below (ow_Qz Z 0 56 rr σr) args s 0 0 (ow_A Z 0 56)) (F0 m 20 ls []) := by
    intro r0 hr0 x1 σ H locs ls hf hW hl
    unfold L_X0_sees_20 at hf
    refine lv_aload_n hx hb dX0_sees_20 rfl (lv_at hl 0 rfl) ?_
    refine ow_getV (ci := 0) (C := RX0) (T := TX0) (N := 5) hx hb hts hown hG hW hr0 (by decide) rfl hinX0 0 (by decide) (fk := 0) rfl (hts (.fieldLink RX0 9 "FiftyOneCards$Head" "kind" "I") (by decide +kernel)) (v := .int (σ.1 r0 0)) rfl dX0_sees_21 ?_
    refine lv_iconst (v := 1) hx hb dX0_sees_24 (by decide) ?_
    refine lv_icmp_eq (tgt := 36) hx hb dX0_sees_25 (by decide) (fun c25 => ?_) (fun c25 => ?_)
    · replace hf := ow_if_t c25 hf
      exact hJ36 r0 hr0 x1 σ _ _ _ hf hW (lv_sub hl [0, 1] rfl)
    · replace hf := ow_if_f c25 hf
      refine lv_aload_n hx hb dX0_sees_28 rfl (lv_at hl 0 rfl) ?_
      refine ow_getV (ci := 0) (C := RX0) (T := TX0) (N := 5) hx hb hts hown hG hW hr0 (by decide) rfl hinX0 0 (by decide) (fk := 0) rfl (hts (.fieldLink RX0 9 "FiftyOneCards$Head" "kind" "I") (by decide +kernel)) (v := .int (σ.1 r0 0)) rfl dX0_sees_29 ?_
      refine lv_iconst (v := 3) hx hb dX0_sees_32 (by decide) ?_
      refine lv_icmp_ne (tgt := 53) hx hb dX0_sees_33 (by decide) (fun c33 => ?_) (fun c33 => ?_)
      · replace hf := ow_if_f c33 hf
        exact hJ53 σ _ _ _ hf hW (lv_sub hl [] rfl)
      · replace hf := ow_if_t c33 hf
        exact hJ36 r0 hr0 x1 σ _ _ _ hf hW (lv_sub hl [0, 1] rfl)
  have hl := lv_entry ([.ref (ow_ad Z h), .int a1]) (n := 2) (Nat.le_of_ble_eq_true rfl)
  refine W.eq (g2 := F0 m 0 ((lg_sl ([.ref (ow_ad Z h), .int a1]) ++ List.replicate (2 - (lg_sl ([.ref (ow_ad Z h), .int a1])).length) Slot.unset).toArray) []) (by rw [hav]; exact lg_entry_eq _ _ _) ?_
  generalize (lg_sl ([.ref (ow_ad Z h), .int a1]) ++ List.replicate (2 - (lg_sl ([.ref (ow_ad Z h), .int a1])).length) Slot.unset).toArray = ls at hl ⊢
  have hl : lv_has ls 2 [(0, .ref (ow_ad Z h)), (1, .int a1)] := hl
  unfold f_X0_sees at hf
  refine lv_aload_n hx hb dX0_sees_0 rfl (lv_at hl 0 rfl) ?_
  refine ow_getV (ci := 0) (C := RX0) (T := TX0) (N := 5) hx hb hts hown hG hW hh (by decide) rfl hinX0 0 (by decide) (fk := 0) rfl (hts (.fieldLink RX0 9 "FiftyOneCards$Head" "kind" "I") (by decide +kernel)) (v := .int (σ.1 h 0)) rfl dX0_sees_1 ?_
  refine lv_iconst (v := 3) hx hb dX0_sees_4 (by decide) ?_
  refine lv_icmp_ne (tgt := 20) hx hb dX0_sees_5 (by decide) (fun c5 => ?_) (fun c5 => ?_)
  · replace hf := ow_if_f c5 hf
    exact hJ20 h hh a1 σ _ _ _ hf hW (lv_sub hl [0, 1] rfl)
  · replace hf := ow_if_t c5 hf
    refine lv_iload_n hx hb dX0_sees_8 rfl (lv_at hl 1 rfl) ?_
    refine lv_aload_n hx hb dX0_sees_9 rfl (lv_at hl 0 rfl) ?_
    refine ow_getV (ci := 0) (C := RX0) (T := TX0) (N := 5) hx hb hts hown hG hW hh (by decide) rfl hinX0 1 (by decide) (fk := 0) rfl (hts (.fieldLink RX0 15 "FiftyOneCards$Head" "more" "I") (by decide +kernel)) (v := .int (σ.1 h 1)) rfl dX0_sees_10 ?_
    refine lv_iconst (v := 3) hx hb dX0_sees_13 (by decide) ?_
    refine lv_idiv hx hb dX0_sees_14 (by decide) ?_
    refine lv_icmp_ge (tgt := 20) hx hb dX0_sees_15 (by decide) (fun c15 => ?_) (fun c15 => ?_)
    · replace hf := ow_if_t c15 hf
      exact hJ20 h hh a1 σ _ _ _ hf hW (lv_sub hl [0, 1] rfl)
    · replace hf := ow_if_f c15 hf
      refine lv_iconst (v := 0) hx hb dX0_sees_18 (by decide) ?_
      exact ow_zret hx hb hr (Or.inl rfl) hW hf dX0_sees_19 hlocks
set_option maxHeartbeats 40000000 in
set_option maxRecDepth 100000 in
theorem c_X0_keepsFirst (l : Launch) (Z : ow_Z) (fu : Nat) (h : Nat) (hh : ow_in 0 56 h 0) (a1 : Int32) (a2 : Int32) (σ : ow_S) (rr : Int32) (σr : ow_S) (hf : f_X0_keepsFirst fu h a1 a2 σ = some (rr, σr)) : Met l yX0_keepsFirst wsX0_keepsFirst { frames := 1, cells := 0, slots := 0, locals := 60 } (ow_Pc Z 0 56 [.ref (ow_ad Z h), .int a1, .int a2] σ) (ow_Qi Z 0 56 rr σr) 0 0 (ow_A Z 0 56) := by
  refine Met.ofW (cc := cX0_keepsFirst) (maxL := 4) (ret := (some .int)) (by decide) rfl ?_
  intro p e s m args below meth c s₁ B hml hv
  obtain ⟨hav, hB⟩ := hv
  obtain ⟨hG, hW⟩ := ow_begin hB
  have hx := B.exec
  have hb := B.bytes
  have hr := B.returns
  have hts := atoms_spec (ws := wsX0_keepsFirst) B.pre
  have hown : s.vm.findClass RX0 = some m.cls := findClass_of_methodNamed B.named
  have hlocks := B.notSynchronized
  have hinX0 : ∀ w ∈ wsX00, w ∈ wsX0_keepsFirst := by decide +kernel
  have hJ42 : ∀ (r0 : Nat) (hr0 : ow_in 0 56 r0 0) (s0 : Int32) (σ : ow_S) (H : Heap) (locs : List Loc) (ls : Array Slot), L_X0_keepsFirst_42 fu r0 s0 σ = some (rr, σr) → ow_Wd Z 0 56 σ s H locs → lv_has ls 4 [(0, .ref (ow_ad Z r0))] → W p l e (headSpec wsX0_keepsFirst { frames := 1, cells := 0, slots := 0, locals := 60 }).room s m args below meth c H locs 0 0 (MQ below (ow_Qi Z 0 56 rr σr) args s 0 0 (ow_A Z 0 56)) (F0 m 42 ls [.int s0]) := by
    intro r0 hr0 s0 σ H locs ls hf hW hl
    unfold L_X0_keepsFirst_42 at hf
    refine lv_istore_n (lv' := [(3, .int s0), (0, .ref (ow_ad Z r0))]) hx hb dX0_keepsFirst_42 rfl hl (by decide) rfl (fun ls hl => ?_)
    refine lv_aload_n hx hb dX0_keepsFirst_43 rfl (lv_at hl 1 rfl) ?_
    refine ow_getV (ci := 0) (C := RX0) (T := TX0) (N := 5) hx hb hts hown hG hW hr0 (by decide) rfl hinX0 0 (by decide) (fk := 0) rfl (hts (.fieldLink RX0 9 "FiftyOneCards$Head" "kind" "I") (by decide +kernel)) (v := .int (σ.1 r0 0)) rfl dX0_keepsFirst_44 ?_
    refine lv_iconst (v := 4) hx hb dX0_keepsFirst_47 (by decide) ?_
    refine lv_icmp_ne (tgt := 64) hx hb dX0_keepsFirst_48 (by decide) (fun c48 => ?_) (fun c48 => ?_)
    · replace hf := ow_if_f c48 hf
      refine lv_iload_n hx hb dX0_keepsFirst_64 rfl (lv_at hl 0 rfl) ?_
      exact ow_iret hx hb hr hW hf dX0_keepsFirst_65 hlocks
    · replace hf := ow_if_t c48 hf
      refine lv_iload_n hx hb dX0_keepsFirst_51 rfl (lv_at hl 0 rfl) ?_
      refine lv_iconst (v := 1) hx hb dX0_keepsFirst_52 (by decide) ?_
      refine lv_iand hx hb dX0_keepsFirst_53 ?_
      refine lv_iconst (v := 1) hx hb dX0_keepsFirst_54 (by decide) ?_
      refine lv_icmp_ne (tgt := 64) hx hb dX0_keepsFirst_55 (by decide) (fun c55 => ?_) (fun c55 => ?_)
      · replace hf := ow_if_f c55 hf
        refine lv_iload_n hx hb dX0_keepsFirst_64 rfl (lv_at hl 0 rfl) ?_
        exact ow_iret hx hb hr hW hf dX0_keepsFirst_65 hlocks
      · replace hf := ow_if_t c55 hf
        refine lv_iload_n hx hb dX0_keepsFirst_58 rfl (lv_at hl 0 rfl) ?_
        refine lv_iconst (v := 1) hx hb dX0_keepsFirst_59 (by decide) ?_
        refine lv_isub hx hb dX0_keepsFirst_60 ?_
        refine lv_goto (tgt := 65) hx hb dX0_keepsFirst_61 (by decide) ?_
        exact ow_iret hx hb hr hW hf dX0_keepsFirst_65 hlocks
  have hJ18 : ∀ (r0 : Nat) (hr0 : ow_in 0 56 r0 0) (x1 : Int32) (x2 : Int32) (σ : ow_S) (H : Heap) (locs : List Loc) (ls : Array Slot), L_X0_keepsFirst_18 fu r0 x1 x2 σ = some (rr, σr) → ow_Wd Z 0 56 σ s H locs → lv_has ls 4 [(0, .ref (ow_ad Z r0)), (1, .int x1), (2, .int x2)] → W p l e (headSpec wsX0_keepsFirst { frames := 1, cells := 0, slots := 0, locals := 60 }).room s m args below meth c H locs 0 0 (MQ below (ow_Qi Z 0 56 rr σr) args s 0 0 (ow_A Z 0 56)) (F0 m 18 ls []) := by
    intro r0 hr0 x1 x2 σ H locs ls hf hW hl
    unfold L_X0_keepsFirst_18 at hf
    refine lv_iload_n hx hb dX0_keepsFirst_18 rfl (lv_at hl 2 rfl) ?_
    refine lv_aload_n hx hb dX0_keepsFirst_19 rfl (lv_at hl 0 rfl) ?_
    refine ow_getV (ci := 0) (C := RX0) (T := TX0) (N := 5) hx hb hts hown hG hW hr0 (by decide) rfl hinX0 1 (by decide) (fk := 0) rfl (hts (.fieldLink RX0 15 "FiftyOneCards$Head" "more" "I") (by decide +kernel)) (v := .int (σ.1 r0 1)) rfl dX0_keepsFirst_20 ?_
    refine lv_iconst (v := 3) hx hb dX0_keepsFirst_23 (by decide) ?_
    refine lv_iadd hx hb dX0_keepsFirst_24 ?_
    obtain ⟨q25, hf⟩ := ow_ck_i hf
    refine ow_r_irem hx hb dX0_keepsFirst_25 q25 ?_
    refine lv_aload_n hx hb dX0_keepsFirst_26 rfl (lv_at hl 0 rfl) ?_
    refine ow_getV (ci := 0) (C := RX0) (T := TX0) (N := 5) hx hb hts hown hG hW hr0 (by decide) rfl hinX0 1 (by decide) (fk := 0) rfl (hts (.fieldLink RX0 15 "FiftyOneCards$Head" "more" "I") (by decide +kernel)) (v := .int (σ.1 r0 1)) rfl dX0_keepsFirst_27 ?_
    refine lv_iconst (v := 2) hx hb dX0_keepsFirst_30 (by decide) ?_
    refine lv_iadd hx hb dX0_keepsFirst_31 ?_
    refine lv_icmp_ne (tgt := 41) hx hb dX0_keepsFirst_32 (by decide) (fun c32 => ?_) (fun c32 => ?_)
    · replace hf := ow_if_f c32 hf
      refine lv_iload_n hx hb dX0_keepsFirst_41 rfl (lv_at hl 1 rfl) ?_
      exact hJ42 r0 hr0 x1 σ _ _ _ hf hW (lv_sub hl [0] rfl)
    · replace hf := ow_if_t c32 hf
      refine lv_iload_n hx hb dX0_keepsFirst_35 rfl (lv_at hl 1 rfl) ?_
      refine lv_iconst (v := 1) hx hb dX0_keepsFirst_36 (by decide) ?_
      refine lv_iadd hx hb dX0_keepsFirst_37 ?_
      refine lv_goto (tgt := 42) hx hb dX0_keepsFirst_38 (by decide) ?_
      exact hJ42 r0 hr0 (x1 + (1 : Int32)) σ _ _ _ hf hW (lv_sub hl [0] rfl)
  have hl := lv_entry ([.ref (ow_ad Z h), .int a1, .int a2]) (n := 4) (Nat.le_of_ble_eq_true rfl)
  refine W.eq (g2 := F0 m 0 ((lg_sl ([.ref (ow_ad Z h), .int a1, .int a2]) ++ List.replicate (4 - (lg_sl ([.ref (ow_ad Z h), .int a1, .int a2])).length) Slot.unset).toArray) []) (by rw [hav]; exact lg_entry_eq _ _ _) ?_
  generalize (lg_sl ([.ref (ow_ad Z h), .int a1, .int a2]) ++ List.replicate (4 - (lg_sl ([.ref (ow_ad Z h), .int a1, .int a2])).length) Slot.unset).toArray = ls at hl ⊢
  have hl : lv_has ls 4 [(0, .ref (ow_ad Z h)), (1, .int a1), (2, .int a2)] := hl
  unfold f_X0_keepsFirst at hf
  refine lv_aload_n hx hb dX0_keepsFirst_0 rfl (lv_at hl 0 rfl) ?_
  refine ow_getV (ci := 0) (C := RX0) (T := TX0) (N := 5) hx hb hts hown hG hW hh (by decide) rfl hinX0 0 (by decide) (fk := 0) rfl (hts (.fieldLink RX0 9 "FiftyOneCards$Head" "kind" "I") (by decide +kernel)) (v := .int (σ.1 h 0)) rfl dX0_keepsFirst_1 ?_
  refine lv_iconst (v := 2) hx hb dX0_keepsFirst_4 (by decide) ?_
  refine lv_icmp_eq (tgt := 18) hx hb dX0_keepsFirst_5 (by decide) (fun c5 => ?_) (fun c5 => ?_)
  · replace hf := ow_if_t c5 hf
    exact hJ18 h hh a1 a2 σ _ _ _ hf hW (lv_sub hl [0, 1, 2] rfl)
  · replace hf := ow_if_f c5 hf
    refine lv_aload_n hx hb dX0_keepsFirst_8 rfl (lv_at hl 0 rfl) ?_
    refine ow_getV (ci := 0) (C := RX0) (T := TX0) (N := 5) hx hb hts hown hG hW hh (by decide) rfl hinX0 0 (by decide) (fk := 0) rfl (hts (.fieldLink RX0 9 "FiftyOneCards$Head" "kind" "I") (by decide +kernel)) (v := .int (σ.1 h 0)) rfl dX0_keepsFirst_9 ?_
    refine lv_iconst (v := 4) hx hb dX0_keepsFirst_12 (by decide) ?_
    refine lv_icmp_eq (tgt := 18) hx hb dX0_keepsFirst_13 (by decide) (fun c13 => ?_) (fun c13 => ?_)
    · replace hf := ow_if_t c13 hf
      exact hJ18 h hh a1 a2 σ _ _ _ hf hW (lv_sub hl [0, 1, 2] rfl)
    · replace hf := ow_if_f c13 hf
      refine lv_iload_n hx hb dX0_keepsFirst_16 rfl (lv_at hl 1 rfl) ?_
      exact ow_iret hx hb hr hW hf dX0_keepsFirst_17 hlocks
set_option maxHeartbeats 40000000 in
set_option maxRecDepth 100000 in
theorem c_X0_goings (l : Launch) (Z : ow_Z) (fu : Nat) (h : Nat) (hh : ow_in 0 56 h 0) (σ : ow_S) (rr : Int32) (σr : ow_S) (hf : f_X0_goings fu h σ = some (rr, σr)) : Met l yX0_goings wsX0_goings { frames := 1, cells := 0, slots := 0, locals := 60 } (ow_Pc Z 0 56 [.ref (ow_ad Z h)] σ) (ow_Qi Z 0 56 rr σr) 0 0 (ow_A Z 0 56) := by
  refine Met.ofW (cc := cX0_goings) (maxL := 1) (ret := (some .int)) (by decide) rfl ?_
  intro p e s m args below meth c s₁ B hml hv
  obtain ⟨hav, hB⟩ := hv
  obtain ⟨hG, hW⟩ := ow_begin hB
  have hx := B.exec
  have hb := B.bytes
  have hr := B.returns
  have hts := atoms_spec (ws := wsX0_goings) B.pre
  have hown : s.vm.findClass RX0 = some m.cls := findClass_of_methodNamed B.named
  have hlocks := B.notSynchronized
  have hinX0 : ∀ w ∈ wsX00, w ∈ wsX0_goings := by decide +kernel
  have hl := lv_entry ([.ref (ow_ad Z h)]) (n := 1) (Nat.le_of_ble_eq_true rfl)
  refine W.eq (g2 := F0 m 0 ((lg_sl ([.ref (ow_ad Z h)]) ++ List.replicate (1 - (lg_sl ([.ref (ow_ad Z h)])).length) Slot.unset).toArray) []) (by rw [hav]; exact lg_entry_eq _ _ _) ?_
  generalize (lg_sl ([.ref (ow_ad Z h)]) ++ List.replicate (1 - (lg_sl ([.ref (ow_ad Z h)])).length) Slot.unset).toArray = ls at hl ⊢
  have hl : lv_has ls 1 [(0, .ref (ow_ad Z h))] := hl
  unfold f_X0_goings at hf
  refine lv_aload_n hx hb dX0_goings_0 rfl (lv_at hl 0 rfl) ?_
  refine ow_getV (ci := 0) (C := RX0) (T := TX0) (N := 5) hx hb hts hown hG hW hh (by decide) rfl hinX0 0 (by decide) (fk := 0) rfl (hts (.fieldLink RX0 9 "FiftyOneCards$Head" "kind" "I") (by decide +kernel)) (v := .int (σ.1 h 0)) rfl dX0_goings_1 ?_
  refine lv_iconst (v := 5) hx hb dX0_goings_4 (by decide) ?_
  refine lv_icmp_ne (tgt := 19) hx hb dX0_goings_5 (by decide) (fun c5 => ?_) (fun c5 => ?_)
  · replace hf := ow_if_f c5 hf
    refine lv_iconst (v := 1) hx hb dX0_goings_19 (by decide) ?_
    exact ow_iret hx hb hr hW hf dX0_goings_20 hlocks
  · replace hf := ow_if_t c5 hf
    refine lv_iconst (v := 2) hx hb dX0_goings_8 (by decide) ?_
    refine lv_aload_n hx hb dX0_goings_9 rfl (lv_at hl 0 rfl) ?_
    refine ow_getV (ci := 0) (C := RX0) (T := TX0) (N := 5) hx hb hts hown hG hW hh (by decide) rfl hinX0 1 (by decide) (fk := 0) rfl (hts (.fieldLink RX0 15 "FiftyOneCards$Head" "more" "I") (by decide +kernel)) (v := .int (σ.1 h 1)) rfl dX0_goings_10 ?_
    refine lv_iconst (v := 5) hx hb dX0_goings_13 (by decide) ?_
    refine lv_idiv hx hb dX0_goings_14 (by decide) ?_
    refine lv_iadd hx hb dX0_goings_15 ?_
    refine lv_goto (tgt := 20) hx hb dX0_goings_16 (by decide) ?_
    exact ow_iret hx hb hr hW hf dX0_goings_20 hlocks
set_option maxHeartbeats 40000000 in
set_option maxRecDepth 100000 in
theorem c_X0_lowest (l : Launch) (Z : ow_Z) (fu : Nat) (h : Nat) (hh : ow_in 0 56 h 0) (a1 : Int32) (σ : ow_S) (rr : Int32) (σr : ow_S) (hf : f_X0_lowest fu h a1 σ = some (rr, σr)) : Met l yX0_lowest wsX0_lowest { frames := 1, cells := 0, slots := 0, locals := 60 } (ow_Pc Z 0 56 [.ref (ow_ad Z h), .int a1] σ) (ow_Qi Z 0 56 rr σr) 0 0 (ow_A Z 0 56) := by
  refine Met.ofW (cc := cX0_lowest) (maxL := 2) (ret := (some .int)) (by decide) rfl ?_
  intro p e s m args below meth c s₁ B hml hv
  obtain ⟨hav, hB⟩ := hv
  obtain ⟨hG, hW⟩ := ow_begin hB
  have hx := B.exec
  have hb := B.bytes
  have hr := B.returns
  have hts := atoms_spec (ws := wsX0_lowest) B.pre
  have hown : s.vm.findClass RX0 = some m.cls := findClass_of_methodNamed B.named
  have hlocks := B.notSynchronized
  have hinX0 : ∀ w ∈ wsX00, w ∈ wsX0_lowest := by decide +kernel
  have hl := lv_entry ([.ref (ow_ad Z h), .int a1]) (n := 2) (Nat.le_of_ble_eq_true rfl)
  refine W.eq (g2 := F0 m 0 ((lg_sl ([.ref (ow_ad Z h), .int a1]) ++ List.replicate (2 - (lg_sl ([.ref (ow_ad Z h), .int a1])).length) Slot.unset).toArray) []) (by rw [hav]; exact lg_entry_eq _ _ _) ?_
  generalize (lg_sl ([.ref (ow_ad Z h), .int a1]) ++ List.replicate (2 - (lg_sl ([.ref (ow_ad Z h), .int a1])).length) Slot.unset).toArray = ls at hl ⊢
  have hl : lv_has ls 2 [(0, .ref (ow_ad Z h)), (1, .int a1)] := hl
  unfold f_X0_lowest at hf
  refine lv_iload_n hx hb dX0_lowest_0 rfl (lv_at hl 1 rfl) ?_
  refine lv_iconst (v := 1) hx hb dX0_lowest_1 (by decide) ?_
  refine lv_aload_n hx hb dX0_lowest_2 rfl (lv_at hl 0 rfl) ?_
  refine ow_getV (ci := 0) (C := RX0) (T := TX0) (N := 5) hx hb hts hown hG hW hh (by decide) rfl hinX0 2 (by decide) (fk := 0) rfl (hts (.fieldLink RX0 18 "FiftyOneCards$Head" "bits" "I") (by decide +kernel)) (v := .int (σ.1 h 2)) rfl dX0_lowest_3 ?_
  refine lv_ishl hx hb dX0_lowest_6 ?_
  refine lv_iconst (v := 1) hx hb dX0_lowest_7 (by decide) ?_
  refine lv_isub hx hb dX0_lowest_8 ?_
  refine lv_iand hx hb dX0_lowest_9 ?_
  exact ow_iret hx hb hr hW hf dX0_lowest_10 hlocks
set_option maxHeartbeats 40000000 in
set_option maxRecDepth 100000 in
theorem c_X2_start (l : Launch) (Z : ow_Z) (fu : Nat) (a1 : Int32) (σ : ow_S) (σr : ow_S) (hf : f_X2_start fu a1 σ = some σr) : Met l yX2_start wsX2_start { frames := 1, cells := 0, slots := 0, locals := 60 } (ow_Pc Z 0 56 [.ref (ow_ad Z 13), .int a1] σ) (ow_Qv Z 0 56 σr) 0 0 (ow_A Z 0 56) := by
  refine Met.ofW (cc := cX2_start) (maxL := 2) (ret := none) (by decide) rfl ?_
  intro p e s m args below meth c s₁ B hml hv
  obtain ⟨hav, hB⟩ := hv
  obtain ⟨hG, hW⟩ := ow_begin hB
  have hx := B.exec
  have hb := B.bytes
  have hr := B.returns
  have hts := atoms_spec (ws := wsX2_start) B.pre
  have hown : s.vm.findClass RX2 = some m.cls := findClass_of_methodNamed B.named
  have hlocks := B.notSynchronized
  have hinX2 : ∀ w ∈ wsX20, w ∈ wsX2_start := by decide +kernel
  have hl := lv_entry ([.ref (ow_ad Z 13), .int a1]) (n := 2) (Nat.le_of_ble_eq_true rfl)
  refine W.eq (g2 := F0 m 0 ((lg_sl ([.ref (ow_ad Z 13), .int a1]) ++ List.replicate (2 - (lg_sl ([.ref (ow_ad Z 13), .int a1])).length) Slot.unset).toArray) []) (by rw [hav]; exact lg_entry_eq _ _ _) ?_
  generalize (lg_sl ([.ref (ow_ad Z 13), .int a1]) ++ List.replicate (2 - (lg_sl ([.ref (ow_ad Z 13), .int a1])).length) Slot.unset).toArray = ls at hl ⊢
  have hl : lv_has ls 2 [(0, .ref (ow_ad Z 13)), (1, .int a1)] := hl
  unfold f_X2_start at hf
  refine lv_aload_n hx hb dX2_start_0 rfl (lv_at hl 0 rfl) ?_
  refine lv_iload_n hx hb dX2_start_1 rfl (lv_at hl 1 rfl) ?_
  refine lv_i2l (v := (a1.toInt64)) hx hb dX2_start_2 rfl ?_
  refine lv_lconst (v := 1) hx hb dX2_start_3 (by decide) ?_
  refine lv_ladd hx hb dX2_start_4 ?_
  refine ow_putL (C := RX2) (T := TX2) (N := 1) hx hb hts hown hG hW ow_i13 rfl hinX2 tyX2 tyX2_ok nmX2 (by decide) (hts (.fieldLink RX2 7 "FiftyOneCards$Lots" "last" "J") (by decide +kernel)) rfl rfl rfl hf dX2_start_5 (fun σ_5 H locs hf hW => ?_)
  exact ow_vret hx hb hr hW hf dX2_start_8 hlocks
set_option maxHeartbeats 40000000 in
set_option maxRecDepth 100000 in
theorem c_X2_below (l : Launch) (Z : ow_Z) (fu : Nat) (a1 : Int32) (σ : ow_S) (rr : Int32) (σr : ow_S) (hf : f_X2_below fu a1 σ = some (rr, σr)) : Met l yX2_below wsX2_below { frames := 1, cells := 0, slots := 0, locals := 60 } (ow_Pc Z 0 56 [.ref (ow_ad Z 13), .int a1] σ) (ow_Qi Z 0 56 rr σr) 0 0 (ow_A Z 0 56) := by
  refine Met.ofW (cc := cX2_below) (maxL := 2) (ret := (some .int)) (by decide) rfl ?_
  intro p e s m args below meth c s₁ B hml hv
  obtain ⟨hav, hB⟩ := hv
  obtain ⟨hG, hW⟩ := ow_begin hB
  have hx := B.exec
  have hb := B.bytes
  have hr := B.returns
  have hts := atoms_spec (ws := wsX2_below) B.pre
  have hown : s.vm.findClass RX2 = some m.cls := findClass_of_methodNamed B.named
  have hlocks := B.notSynchronized
  have hinX2 : ∀ w ∈ wsX20, w ∈ wsX2_below := by decide +kernel
  have hl := lv_entry ([.ref (ow_ad Z 13), .int a1]) (n := 2) (Nat.le_of_ble_eq_true rfl)
  refine W.eq (g2 := F0 m 0 ((lg_sl ([.ref (ow_ad Z 13), .int a1]) ++ List.replicate (2 - (lg_sl ([.ref (ow_ad Z 13), .int a1])).length) Slot.unset).toArray) []) (by rw [hav]; exact lg_entry_eq _ _ _) ?_
  generalize (lg_sl ([.ref (ow_ad Z 13), .int a1]) ++ List.replicate (2 - (lg_sl ([.ref (ow_ad Z 13), .int a1])).length) Slot.unset).toArray = ls at hl ⊢
  have hl : lv_has ls 2 [(0, .ref (ow_ad Z 13)), (1, .int a1)] := hl
  unfold f_X2_below at hf
  refine lv_aload_n hx hb dX2_below_0 rfl (lv_at hl 0 rfl) ?_
  refine lv_aload_n hx hb dX2_below_1 rfl (lv_at hl 0 rfl) ?_
  refine ow_getV (ci := 2) (C := RX2) (T := TX2) (N := 1) hx hb hts hown hG hW ow_i13 (by decide) rfl hinX2 0 (by decide) (fk := 1) rfl (hts (.fieldLink RX2 7 "FiftyOneCards$Lots" "last" "J") (by decide +kernel)) (v := .long (σ.2.1 13)) rfl dX2_below_2 ?_
  refine lv_ldc2 (v := 48271) hx hb hown (hts (.constantLong RX2 13 (48271)) (by decide +kernel)) dX2_below_5 ?_
  refine lv_lmul hx hb dX2_below_8 ?_
  refine lv_ldc2 (v := 2147483647) hx hb hown (hts (.constantLong RX2 15 (2147483647)) (by decide +kernel)) dX2_below_9 ?_
  refine ow_r_lrem hx hb dX2_below_12 (by decide) ?_
  refine ow_putL (C := RX2) (T := TX2) (N := 1) hx hb hts hown hG hW ow_i13 rfl hinX2 tyX2 tyX2_ok nmX2 (by decide) (hts (.fieldLink RX2 7 "FiftyOneCards$Lots" "last" "J") (by decide +kernel)) rfl rfl rfl hf dX2_below_13 (fun σ_13 H locs hf hW => ?_)
  refine lv_iload_n hx hb dX2_below_16 rfl (lv_at hl 1 rfl) ?_
  refine lv_if_le (tgt := 31) hx hb dX2_below_17 (by decide) (fun c17 => ?_) (fun c17 => ?_)
  · replace hf := ow_if_t c17 hf
    refine lv_iconst (v := 0) hx hb dX2_below_31 (by decide) ?_
    exact ow_iret hx hb hr hW hf dX2_below_32 hlocks
  · replace hf := ow_if_f c17 hf
    refine lv_aload_n hx hb dX2_below_20 rfl (lv_at hl 0 rfl) ?_
    refine ow_getV (ci := 2) (C := RX2) (T := TX2) (N := 1) hx hb hts hown hG hW ow_i13 (by decide) rfl hinX2 0 (by decide) (fk := 1) rfl (hts (.fieldLink RX2 7 "FiftyOneCards$Lots" "last" "J") (by decide +kernel)) (v := .long (σ_13.2.1 13)) rfl dX2_below_21 ?_
    refine lv_iload_n hx hb dX2_below_24 rfl (lv_at hl 1 rfl) ?_
    refine lv_i2l (v := (a1.toInt64)) hx hb dX2_below_25 rfl ?_
    obtain ⟨q26, hf⟩ := ow_ck_i hf
    refine ow_r_lrem hx hb dX2_below_26 q26 ?_
    refine lv_l2i (v := ((ow_lrem (σ_13.2.1 13) (a1.toInt64)).toInt32)) hx hb dX2_below_27 rfl ?_
    refine lv_goto (tgt := 32) hx hb dX2_below_28 (by decide) ?_
    exact ow_iret hx hb hr hW hf dX2_below_32 hlocks
set_option maxHeartbeats 40000000 in
set_option maxRecDepth 100000 in
theorem c_X3_take (l : Launch) (Z : ow_Z) (fu : Nat) (a1 : Int32) (σ : ow_S) (σr : ow_S) (hf : f_X3_take fu a1 σ = some σr) : Met l yX3_take wsX3_take { frames := 1, cells := 0, slots := 0, locals := 60 } (ow_Pc Z 0 56 [.ref (ow_ad Z 7), .int a1] σ) (ow_Qv Z 0 56 σr) 0 0 (ow_A Z 0 56) := by
  refine Met.ofW (cc := cX3_take) (maxL := 2) (ret := none) (by decide) rfl ?_
  intro p e s m args below meth c s₁ B hml hv
  obtain ⟨hav, hB⟩ := hv
  obtain ⟨hG, hW⟩ := ow_begin hB
  have hx := B.exec
  have hb := B.bytes
  have hr := B.returns
  have hts := atoms_spec (ws := wsX3_take) B.pre
  have hown : s.vm.findClass RX3 = some m.cls := findClass_of_methodNamed B.named
  have hlocks := B.notSynchronized
  have hinX3 : ∀ w ∈ wsX30, w ∈ wsX3_take := by decide +kernel
  have hl := lv_entry ([.ref (ow_ad Z 7), .int a1]) (n := 2) (Nat.le_of_ble_eq_true rfl)
  refine W.eq (g2 := F0 m 0 ((lg_sl ([.ref (ow_ad Z 7), .int a1]) ++ List.replicate (2 - (lg_sl ([.ref (ow_ad Z 7), .int a1])).length) Slot.unset).toArray) []) (by rw [hav]; exact lg_entry_eq _ _ _) ?_
  generalize (lg_sl ([.ref (ow_ad Z 7), .int a1]) ++ List.replicate (2 - (lg_sl ([.ref (ow_ad Z 7), .int a1])).length) Slot.unset).toArray = ls at hl ⊢
  have hl : lv_has ls 2 [(0, .ref (ow_ad Z 7)), (1, .int a1)] := hl
  unfold f_X3_take at hf
  refine lv_aload_n hx hb dX3_take_0 rfl (lv_at hl 0 rfl) ?_
  refine ow_getV (ci := 3) (C := RX3) (T := TX3) (N := 7) hx hb hts hown hG hW ow_i7 (by decide) rfl hinX3 1 (by decide) (fk := 0) rfl (hts (.fieldLink RX3 15 "FiftyOneCards$Reader" "size" "I") (by decide +kernel)) (v := .int (σ.1 7 1)) rfl dX3_take_1 ?_
  refine lv_sipush (v := 160) hx hb dX3_take_4 (by decide) ?_
  refine lv_icmp_ge (tgt := 30) hx hb dX3_take_7 (by decide) (fun c7 => ?_) (fun c7 => ?_)
  · replace hf := ow_if_t c7 hf
    exact ow_vret hx hb hr hW hf dX3_take_30 hlocks
  · replace hf := ow_if_f c7 hf
    refine lv_aload_n hx hb dX3_take_10 rfl (lv_at hl 0 rfl) ?_
    refine ow_getV (ci := 3) (C := RX3) (T := TX3) (N := 7) hx hb hts hown hG hW ow_i7 (by decide) rfl hinX3 0 (by decide) (fk := 2) rfl (hts (.fieldLink RX3 9 "FiftyOneCards$Reader" "tape" "[I") (by decide +kernel)) (v := .ref (ow_ad Z 8)) (ow_vR hW ow_i7.1 ow_i7.2.1 rfl) dX3_take_11 ?_
    refine lv_aload_n hx hb dX3_take_14 rfl (lv_at hl 0 rfl) ?_
    refine ow_getV (ci := 3) (C := RX3) (T := TX3) (N := 7) hx hb hts hown hG hW ow_i7 (by decide) rfl hinX3 1 (by decide) (fk := 0) rfl (hts (.fieldLink RX3 15 "FiftyOneCards$Reader" "size" "I") (by decide +kernel)) (v := .int (σ.1 7 1)) rfl dX3_take_15 ?_
    refine lv_iload_n hx hb dX3_take_18 rfl (lv_at hl 1 rfl) ?_
    obtain ⟨q19, hf⟩ := ow_ck_i hf
    refine ow_ist (q := (σ.1 7 1).toNatClampNeg) hx hb hG hW ow_i8 rfl q19 rfl hf dX3_take_19 (fun σ_19 H locs hf hW => ?_)
    refine lv_aload_n hx hb dX3_take_20 rfl (lv_at hl 0 rfl) ?_
    refine lv_dup hx hb dX3_take_21 rfl ?_
    refine ow_getV (ci := 3) (C := RX3) (T := TX3) (N := 7) hx hb hts hown hG hW ow_i7 (by decide) rfl hinX3 1 (by decide) (fk := 0) rfl (hts (.fieldLink RX3 15 "FiftyOneCards$Reader" "size" "I") (by decide +kernel)) (v := .int (σ_19.1 7 1)) rfl dX3_take_22 ?_
    refine lv_iconst (v := 1) hx hb dX3_take_25 (by decide) ?_
    refine lv_iadd hx hb dX3_take_26 ?_
    refine ow_putI (ci := 3) (C := RX3) (T := TX3) (N := 7) hx hb hts hown hG hW ow_i7 (by decide) rfl hinX3 tyX3 tyX3_ok nmX3 1 (by decide) rfl (hts (.fieldLink RX3 15 "FiftyOneCards$Reader" "size" "I") (by decide +kernel)) rfl rfl rfl hf dX3_take_27 (fun σ_27 H locs hf hW => ?_)
    exact ow_vret hx hb hr hW hf dX3_take_30 hlocks
set_option maxHeartbeats 40000000 in
set_option maxRecDepth 100000 in
theorem c_X6_clear (l : Launch) (Z : ow_Z) (fu : Nat) (h : Nat) (hh : ow_in 0 56 h 6) (σ : ow_S) (σr : ow_S) (hf : f_X6_clear fu h σ = some σr) : Met l yX6_clear wsX6_clear { frames := 1, cells := 0, slots := 0, locals := 60 } (ow_Pc Z 0 56 [.ref (ow_ad Z h)] σ) (ow_Qv Z 0 56 σr) 0 0 (ow_A Z 0 56) := by
  refine Met.ofW (cc := cX6_clear) (maxL := 1) (ret := none) (by decide) rfl ?_
  intro p e s m args below meth c s₁ B hml hv
  obtain ⟨hav, hB⟩ := hv
  obtain ⟨hG, hW⟩ := ow_begin hB
  have hx := B.exec
  have hb := B.bytes
  have hr := B.returns
  have hts := atoms_spec (ws := wsX6_clear) B.pre
  have hown : s.vm.findClass RX6 = some m.cls := findClass_of_methodNamed B.named
  have hlocks := B.notSynchronized
  have hinX6 : ∀ w ∈ wsX60, w ∈ wsX6_clear := by decide +kernel
  have hl := lv_entry ([.ref (ow_ad Z h)]) (n := 1) (Nat.le_of_ble_eq_true rfl)
  refine W.eq (g2 := F0 m 0 ((lg_sl ([.ref (ow_ad Z h)]) ++ List.replicate (1 - (lg_sl ([.ref (ow_ad Z h)])).length) Slot.unset).toArray) []) (by rw [hav]; exact lg_entry_eq _ _ _) ?_
  generalize (lg_sl ([.ref (ow_ad Z h)]) ++ List.replicate (1 - (lg_sl ([.ref (ow_ad Z h)])).length) Slot.unset).toArray = ls at hl ⊢
  have hl : lv_has ls 1 [(0, .ref (ow_ad Z h))] := hl
  unfold f_X6_clear at hf
  refine lv_aload_n hx hb dX6_clear_0 rfl (lv_at hl 0 rfl) ?_
  refine lv_iconst (v := 0) hx hb dX6_clear_1 (by decide) ?_
  refine ow_putI (ci := 6) (C := RX6) (T := TX6) (N := 4) hx hb hts hown hG hW hh (by decide) rfl hinX6 tyX6 tyX6_ok nmX6 2 (by decide) rfl (hts (.fieldLink RX6 18 "FiftyOneCards$Text" "size" "I") (by decide +kernel)) rfl rfl rfl hf dX6_clear_2 (fun σ_2 H locs hf hW => ?_)
  refine lv_aload_n hx hb dX6_clear_5 rfl (lv_at hl 0 rfl) ?_
  refine lv_iconst (v := 0) hx hb dX6_clear_6 (by decide) ?_
  refine ow_putI (ci := 6) (C := RX6) (T := TX6) (N := 4) hx hb hts hown hG hW hh (by decide) rfl hinX6 tyX6 tyX6_ok nmX6 3 (by decide) rfl (hts (.fieldLink RX6 22 "FiftyOneCards$Text" "parts" "I") (by decide +kernel)) rfl rfl rfl hf dX6_clear_7 (fun σ_7 H locs hf hW => ?_)
  exact ow_vret hx hb hr hW hf dX6_clear_10 hlocks
set_option maxHeartbeats 40000000 in
set_option maxRecDepth 100000 in
theorem c_X3_isBlank (l : Launch) (Z : ow_Z) (fu : Nat) (a1 : Int32) (σ : ow_S) (rr : Int32) (σr : ow_S) (hf : f_X3_isBlank fu a1 σ = some (rr, σr)) : Met l yX3_isBlank wsX3_isBlank { frames := 1, cells := 0, slots := 0, locals := 60 } (ow_Pc Z 0 56 [.int a1] σ) (ow_Qz Z 0 56 rr σr) 0 0 (ow_A Z 0 56) := by
  refine Met.ofW (cc := cX3_isBlank) (maxL := 1) (ret := (some .boolean)) (by decide) rfl ?_
  intro p e s m args below meth c s₁ B hml hv
  obtain ⟨hav, hB⟩ := hv
  obtain ⟨hG, hW⟩ := ow_begin hB
  have hx := B.exec
  have hb := B.bytes
  have hr := B.returns
  have hts := atoms_spec (ws := wsX3_isBlank) B.pre
  have hown : s.vm.findClass RX3 = some m.cls := findClass_of_methodNamed B.named
  have hlocks := B.notSynchronized
  have hJ12 : ∀ (σ : ow_S) (H : Heap) (locs : List Loc) (ls : Array Slot), L_X3_isBlank_12 fu σ = some (rr, σr) → ow_Wd Z 0 56 σ s H locs → lv_has ls 1 [] → W p l e (headSpec wsX3_isBlank { frames := 1, cells := 0, slots := 0, locals := 60 }).room s m args below meth c H locs 0 0 (MQ below (ow_Qz Z 0 56 rr σr) args s 0 0 (ow_A Z 0 56)) (F0 m 12 ls []) := by
    intro σ H locs ls hf hW hl
    unfold L_X3_isBlank_12 at hf
    refine lv_iconst (v := 1) hx hb dX3_isBlank_12 (by decide) ?_
    refine lv_goto (tgt := 17) hx hb dX3_isBlank_13 (by decide) ?_
    exact ow_zret hx hb hr (Or.inr rfl) hW hf dX3_isBlank_17 hlocks
  have hl := lv_entry ([.int a1]) (n := 1) (Nat.le_of_ble_eq_true rfl)
  refine W.eq (g2 := F0 m 0 ((lg_sl ([.int a1]) ++ List.replicate (1 - (lg_sl ([.int a1])).length) Slot.unset).toArray) []) (by rw [hav]; exact lg_entry_eq _ _ _) ?_
  generalize (lg_sl ([.int a1]) ++ List.replicate (1 - (lg_sl ([.int a1])).length) Slot.unset).toArray = ls at hl ⊢
  have hl : lv_has ls 1 [(0, .int a1)] := hl
  unfold f_X3_isBlank at hf
  refine lv_iload_n hx hb dX3_isBlank_0 rfl (lv_at hl 0 rfl) ?_
  refine lv_bipush (v := 32) hx hb dX3_isBlank_1 (by decide) ?_
  refine lv_icmp_eq (tgt := 12) hx hb dX3_isBlank_3 (by decide) (fun c3 => ?_) (fun c3 => ?_)
  · replace hf := ow_if_t c3 hf
    exact hJ12 σ _ _ _ hf hW (lv_sub hl [] rfl)
  · replace hf := ow_if_f c3 hf
    refine lv_iload_n hx hb dX3_isBlank_6 rfl (lv_at hl 0 rfl) ?_
    refine lv_bipush (v := 10) hx hb dX3_isBlank_7 (by decide) ?_
    refine lv_icmp_ne (tgt := 16) hx hb dX3_isBlank_9 (by decide) (fun c9 => ?_) (fun c9 => ?_)
    · replace hf := ow_if_f c9 hf
      refine lv_iconst (v := 0) hx hb dX3_isBlank_16 (by decide) ?_
      exact ow_zret hx hb hr (Or.inl rfl) hW hf dX3_isBlank_17 hlocks
    · replace hf := ow_if_t c9 hf
      exact hJ12 σ _ _ _ hf hW (lv_sub hl [] rfl)
set_option maxHeartbeats 40000000 in
set_option maxRecDepth 100000 in
theorem c_X3_isLetter (l : Launch) (Z : ow_Z) (fu : Nat) (a1 : Int32) (σ : ow_S) (rr : Int32) (σr : ow_S) (hf : f_X3_isLetter fu a1 σ = some (rr, σr)) : Met l yX3_isLetter wsX3_isLetter { frames := 1, cells := 0, slots := 0, locals := 60 } (ow_Pc Z 0 56 [.int a1] σ) (ow_Qz Z 0 56 rr σr) 0 0 (ow_A Z 0 56) := by
  refine Met.ofW (cc := cX3_isLetter) (maxL := 1) (ret := (some .boolean)) (by decide) rfl ?_
  intro p e s m args below meth c s₁ B hml hv
  obtain ⟨hav, hB⟩ := hv
  obtain ⟨hG, hW⟩ := ow_begin hB
  have hx := B.exec
  have hb := B.bytes
  have hr := B.returns
  have hts := atoms_spec (ws := wsX3_isLetter) B.pre
  have hown : s.vm.findClass RX3 = some m.cls := findClass_of_methodNamed B.named
  have hlocks := B.notSynchronized
  have hl := lv_entry ([.int a1]) (n := 1) (Nat.le_of_ble_eq_true rfl)
  refine W.eq (g2 := F0 m 0 ((lg_sl ([.int a1]) ++ List.replicate (1 - (lg_sl ([.int a1])).length) Slot.unset).toArray) []) (by rw [hav]; exact lg_entry_eq _ _ _) ?_
  generalize (lg_sl ([.int a1]) ++ List.replicate (1 - (lg_sl ([.int a1])).length) Slot.unset).toArray = ls at hl ⊢
  have hl : lv_has ls 1 [(0, .int a1)] := hl
  unfold f_X3_isLetter at hf
  refine lv_iload_n hx hb dX3_isLetter_0 rfl (lv_at hl 0 rfl) ?_
  refine lv_bipush (v := 97) hx hb dX3_isLetter_1 (by decide) ?_
  refine lv_icmp_lt (tgt := 16) hx hb dX3_isLetter_3 (by decide) (fun c3 => ?_) (fun c3 => ?_)
  · replace hf := ow_if_t c3 hf
    refine lv_iconst (v := 0) hx hb dX3_isLetter_16 (by decide) ?_
    exact ow_zret hx hb hr (Or.inl rfl) hW hf dX3_isLetter_17 hlocks
  · replace hf := ow_if_f c3 hf
    refine lv_iload_n hx hb dX3_isLetter_6 rfl (lv_at hl 0 rfl) ?_
    refine lv_bipush (v := 122) hx hb dX3_isLetter_7 (by decide) ?_
    refine lv_icmp_gt (tgt := 16) hx hb dX3_isLetter_9 (by decide) (fun c9 => ?_) (fun c9 => ?_)
    · replace hf := ow_if_t c9 hf
      refine lv_iconst (v := 0) hx hb dX3_isLetter_16 (by decide) ?_
      exact ow_zret hx hb hr (Or.inl rfl) hW hf dX3_isLetter_17 hlocks
    · replace hf := ow_if_f c9 hf
      refine lv_iconst (v := 1) hx hb dX3_isLetter_12 (by decide) ?_
      refine lv_goto (tgt := 17) hx hb dX3_isLetter_13 (by decide) ?_
      exact ow_zret hx hb hr (Or.inr rfl) hW hf dX3_isLetter_17 hlocks
set_option maxHeartbeats 40000000 in
set_option maxRecDepth 100000 in
theorem c_X3_endOfLetters (l : Launch) (Z : ow_Z) (fu : Nat) (σ : ow_S) (rr : Int32) (σr : ow_S) (hf : f_X3_endOfLetters fu σ = some (rr, σr)) : Met l yX3_endOfLetters wsX3_endOfLetters { frames := 2, cells := 0, slots := 0, locals := 80 } (ow_Pc Z 0 56 [.ref (ow_ad Z 7)] σ) (ow_Qi Z 0 56 rr σr) 0 0 (ow_A Z 0 56) := by
  refine Met.ofW (cc := cX3_endOfLetters) (maxL := 3) (ret := (some .int)) (by decide) rfl ?_
  intro p e s m args below meth c s₁ B hml hv
  obtain ⟨hav, hB⟩ := hv
  obtain ⟨hG, hW⟩ := ow_begin hB
  have hx := B.exec
  have hb := B.bytes
  have hr := B.returns
  have hts := atoms_spec (ws := wsX3_endOfLetters) B.pre
  have hown : s.vm.findClass RX3 = some m.cls := findClass_of_methodNamed B.named
  have hlocks := B.notSynchronized
  have hinX3 : ∀ w ∈ wsX30, w ∈ wsX3_endOfLetters := by decide +kernel
  have hJ10 : ∀ (fn : Nat), ∀ (x1 : Int32) (x2 : Int32) (σ : ow_S) (H : Heap) (locs : List Loc) (ls : Array Slot), L_X3_endOfLetters_10 fu fn x1 x2 σ = some (rr, σr) → ow_Wd Z 0 56 σ s H locs → lv_has ls 3 [(0, .ref (ow_ad Z 7)), (1, .int x1), (2, .int x2)] → W p l e (headSpec wsX3_endOfLetters { frames := 2, cells := 0, slots := 0, locals := 80 }).room s m args below meth c H locs 0 0 (MQ below (ow_Qi Z 0 56 rr σr) args s 0 0 (ow_A Z 0 56)) (F0 m 10 ls []) := by
    intro fn
    induction fn with
    | zero => intro x1 x2 σ H locs ls hf hW hl; simp [L_X3_endOfLetters_10] at hf
    | succ fn ih =>
      intro x1 x2 σ H locs ls hf hW hl
      rw [L_X3_endOfLetters_10] at hf
      refine lv_iload_n hx hb dX3_endOfLetters_10 rfl (lv_at hl 2 rfl) ?_
      refine lv_aload_n hx hb dX3_endOfLetters_11 rfl (lv_at hl 0 rfl) ?_
      refine ow_getV (ci := 3) (C := RX3) (T := TX3) (N := 7) hx hb hts hown hG hW ow_i7 (by decide) rfl hinX3 1 (by decide) (fk := 0) rfl (hts (.fieldLink RX3 15 "FiftyOneCards$Reader" "size" "I") (by decide +kernel)) (v := .int (σ.1 7 1)) rfl dX3_endOfLetters_12 ?_
      refine lv_icmp_ge (tgt := 40) hx hb dX3_endOfLetters_15 (by decide) (fun c15 => ?_) (fun c15 => ?_)
      · replace hf := ow_if_t c15 hf
        refine lv_iload_n hx hb dX3_endOfLetters_40 rfl (lv_at hl 1 rfl) ?_
        exact ow_iret hx hb hr hW hf dX3_endOfLetters_41 hlocks
      · replace hf := ow_if_f c15 hf
        refine lv_aload_n hx hb dX3_endOfLetters_18 rfl (lv_at hl 0 rfl) ?_
        refine ow_getV (ci := 3) (C := RX3) (T := TX3) (N := 7) hx hb hts hown hG hW ow_i7 (by decide) rfl hinX3 0 (by decide) (fk := 2) rfl (hts (.fieldLink RX3 9 "FiftyOneCards$Reader" "tape" "[I") (by decide +kernel)) (v := .ref (ow_ad Z 8)) (ow_vR hW ow_i7.1 ow_i7.2.1 rfl) dX3_endOfLetters_19 ?_
        refine lv_iload_n hx hb dX3_endOfLetters_22 rfl (lv_at hl 2 rfl) ?_
        obtain ⟨q23, hf⟩ := ow_ck_i hf
        refine ow_ild (q := x2.toNatClampNeg) hx hb hG hW ow_i8 rfl q23 rfl dX3_endOfLetters_23 ?_
        obtain ⟨r_24, σ_24, hc24, hf⟩ := ow_cl_i hf
        refine ow_callz (va_runS (As := [.int (σ.1 8 x2.toNatClampNeg)]) (rest := []) ⟨hx, hb, hml, hown, hts⟩ (c_X3_isLetter l Z fu (σ.1 8 x2.toNatClampNeg) σ r_24 σ_24 hc24) (va_cwS 1 hts gX3_endOfLetters_X3_isLetter rfl rfl rfl (by decide +kernel) ⟨Nat.le_of_ble_eq_true rfl, Nat.le_of_ble_eq_true rfl⟩) (ow_preS hG hW) rfl rfl hl.1 rfl (lv_room (Nat.le_of_ble_eq_true rfl)) dX3_endOfLetters_24 ⟨Nat.zero_le _, Nat.zero_le _⟩) hW (fun b24 H locs hW => ?_)
        refine lv_if_eq (tgt := 40) hx hb dX3_endOfLetters_27 (by decide) (fun c27 => ?_) (fun c27 => ?_)
        · replace hf := ow_if_t c27 hf
          refine lv_iload_n hx hb dX3_endOfLetters_40 rfl (lv_at hl 1 rfl) ?_
          exact ow_iret hx hb hr hW hf dX3_endOfLetters_41 hlocks
        · replace hf := ow_if_f c27 hf
          refine lv_iload_n hx hb dX3_endOfLetters_30 rfl (lv_at hl 2 rfl) ?_
          refine lv_iconst (v := 1) hx hb dX3_endOfLetters_31 (by decide) ?_
          refine lv_iadd hx hb dX3_endOfLetters_32 ?_
          refine ow_topi hf (fun x1_33 hf => ?_)
          refine lv_istore_n (lv' := [(1, .int x1_33), (0, .ref (ow_ad Z 7)), (2, .int x2)]) hx hb dX3_endOfLetters_33 rfl hl (by decide) rfl (fun ls hl => ?_)
          refine ow_iinc (d := 1) (lv' := fun z => [(2, .int z), (1, .int x1_33), (0, .ref (ow_ad Z 7))]) hx hb hf dX3_endOfLetters_34 hl (k := 2) rfl (by decide) (by decide) (fun z => rfl) (fun x2_34 hf ls hl => ?_)
          refine lv_goto (tgt := 10) hx hb dX3_endOfLetters_37 (by decide) ?_
          exact ih x1_33 x2_34 σ_24 _ _ _ hf hW (lv_sub hl [2, 1, 0] rfl)
  have hl := lv_entry ([.ref (ow_ad Z 7)]) (n := 3) (Nat.le_of_ble_eq_true rfl)
  refine W.eq (g2 := F0 m 0 ((lg_sl ([.ref (ow_ad Z 7)]) ++ List.replicate (3 - (lg_sl ([.ref (ow_ad Z 7)])).length) Slot.unset).toArray) []) (by rw [hav]; exact lg_entry_eq _ _ _) ?_
  generalize (lg_sl ([.ref (ow_ad Z 7)]) ++ List.replicate (3 - (lg_sl ([.ref (ow_ad Z 7)])).length) Slot.unset).toArray = ls at hl ⊢
  have hl : lv_has ls 3 [(0, .ref (ow_ad Z 7))] := hl
  unfold f_X3_endOfLetters at hf
  refine lv_aload_n hx hb dX3_endOfLetters_0 rfl (lv_at hl 0 rfl) ?_
  refine ow_getV (ci := 3) (C := RX3) (T := TX3) (N := 7) hx hb hts hown hG hW ow_i7 (by decide) rfl hinX3 2 (by decide) (fk := 0) rfl (hts (.fieldLink RX3 19 "FiftyOneCards$Reader" "next" "I") (by decide +kernel)) (v := .int (σ.1 7 2)) rfl dX3_endOfLetters_1 ?_
  refine ow_topi hf (fun x1_4 hf => ?_)
  refine lv_istore_n (lv' := [(1, .int x1_4), (0, .ref (ow_ad Z 7))]) hx hb dX3_endOfLetters_4 rfl hl (by decide) rfl (fun ls hl => ?_)
  refine lv_aload_n hx hb dX3_endOfLetters_5 rfl (lv_at hl 1 rfl) ?_
  refine ow_getV (ci := 3) (C := RX3) (T := TX3) (N := 7) hx hb hts hown hG hW ow_i7 (by decide) rfl hinX3 2 (by decide) (fk := 0) rfl (hts (.fieldLink RX3 19 "FiftyOneCards$Reader" "next" "I") (by decide +kernel)) (v := .int (σ.1 7 2)) rfl dX3_endOfLetters_6 ?_
  refine ow_topi hf (fun x2_9 hf => ?_)
  refine lv_istore_n (lv' := [(2, .int x2_9), (1, .int x1_4), (0, .ref (ow_ad Z 7))]) hx hb dX3_endOfLetters_9 rfl hl (by decide) rfl (fun ls hl => ?_)
  exact hJ10 fu x1_4 x2_9 σ _ _ _ hf hW (lv_sub hl [2, 1, 0] rfl)
set_option maxHeartbeats 40000000 in
set_option maxRecDepth 100000 in
theorem c_X3_isWord (l : Launch) (Z : ow_Z) (fu : Nat) (a1 : Int32) (a2 : Int32) (a3 : Nat) (ha3 : a3 < 13) (σ : ow_S) (rr : Int32) (σr : ow_S) (hf : f_X3_isWord fu a1 a2 a3 σ = some (rr, σr)) : Met l yX3_isWord wsX3_isWord { frames := 6, cells := 0, slots := 0, locals := 400 } (ow_Pc Z 0 56 [.ref (ow_ad Z 7), .int a1, .int a2, .ref (ow_adK Z a3)] σ) (ow_Qz Z 0 56 rr σr) 0 0 (ow_A Z 0 56) := by
  refine Met.ofW (cc := cX3_isWord) (maxL := 5) (ret := (some .boolean)) (by decide) rfl ?_
  intro p e s m args below meth c s₁ B hml hv
  obtain ⟨hav, hB⟩ := hv
  obtain ⟨hG, hW⟩ := ow_begin hB
  have hx := B.exec
  have hb := B.bytes
  have hr := B.returns
  have hts := atoms_spec (ws := wsX3_isWord) B.pre
  have hown : s.vm.findClass RX3 = some m.cls := findClass_of_methodNamed B.named
  have hlocks := B.notSynchronized
  have hinX3 : ∀ w ∈ wsX30, w ∈ wsX3_isWord := by decide +kernel
  have hJ26 : ∀ (fn : Nat), ∀ (x1 : Int32) (x2 : Int32) (w3 : Nat) (hw3 : w3 < 13) (x4 : Int32) (σ : ow_S) (H : Heap) (locs : List Loc) (ls : Array Slot), L_X3_isWord_26 fu fn x1 x2 w3 x4 σ = some (rr, σr) → ow_Wd Z 0 56 σ s H locs → lv_has ls 5 [(0, .ref (ow_ad Z 7)), (1, .int x1), (2, .int x2), (3, .ref (ow_adK Z w3)), (4, .int x4)] → W p l e (headSpec wsX3_isWord { frames := 6, cells := 0, slots := 0, locals := 400 }).room s m args below meth c H locs 0 0 (MQ below (ow_Qz Z 0 56 rr σr) args s 0 0 (ow_A Z 0 56)) (F0 m 26 ls []) := by
    intro fn
    induction fn with
    | zero => intro x1 x2 w3 hw3 x4 σ H locs ls hf hW hl; simp [L_X3_isWord_26] at hf
    | succ fn ih =>
      intro x1 x2 w3 hw3 x4 σ H locs ls hf hW hl
      rw [L_X3_isWord_26] at hf
      refine lv_iload hx hb dX3_isWord_26 (lv_at hl 4 rfl) ?_
      refine lv_iload_n hx hb dX3_isWord_28 rfl (lv_at hl 2 rfl) ?_
      refine lv_icmp_ge (tgt := 58) hx hb dX3_isWord_29 (by decide) (fun c29 => ?_) (fun c29 => ?_)
      · replace hf := ow_if_t c29 hf
        refine lv_iconst (v := 1) hx hb dX3_isWord_58 (by decide) ?_
        exact ow_zret hx hb hr (Or.inr rfl) hW hf dX3_isWord_59 hlocks
      · replace hf := ow_if_f c29 hf
        refine lv_aload_n hx hb dX3_isWord_32 rfl (lv_at hl 0 rfl) ?_
        refine ow_getV (ci := 3) (C := RX3) (T := TX3) (N := 7) hx hb hts hown hG hW ow_i7 (by decide) rfl hinX3 0 (by decide) (fk := 2) rfl (hts (.fieldLink RX3 9 "FiftyOneCards$Reader" "tape" "[I") (by decide +kernel)) (v := .ref (ow_ad Z 8)) (ow_vR hW ow_i7.1 ow_i7.2.1 rfl) dX3_isWord_33 ?_
        refine lv_iload_n hx hb dX3_isWord_36 rfl (lv_at hl 1 rfl) ?_
        refine lv_iload hx hb dX3_isWord_37 (lv_at hl 4 rfl) ?_
        refine lv_iadd hx hb dX3_isWord_39 ?_
        obtain ⟨q40, hf⟩ := ow_ck_i hf
        refine ow_ild (q := (x1 + x4).toNatClampNeg) hx hb hG hW ow_i8 rfl q40 rfl dX3_isWord_40 ?_
        refine lv_aload_n hx hb dX3_isWord_41 rfl (lv_at hl 3 rfl) ?_
        refine lv_iload hx hb dX3_isWord_42 (lv_at hl 4 rfl) ?_
        obtain ⟨q44, hf⟩ := ow_ck_i hf
        refine ow_calli (va_runV (As := [.int x4]) (rest := [.int (σ.1 8 (x1 + x4).toNatClampNeg)]) ⟨hx, hb, hml, hown, hts⟩ (c_J0_charAt l Z 0 56 w3 hw3 x4 q44 σ) (cwV 1 hts gX3_isWord_J0_charAt_5068e rfl rfl rfl (by decide +kernel) ⟨Nat.le_of_ble_eq_true rfl, Nat.le_of_ble_eq_true rfl⟩) (ow_preK hG hW hw3) rfl rfl hl.1 rfl (lv_room (Nat.le_of_ble_eq_true rfl)) dX3_isWord_44 ⟨Nat.zero_le _, Nat.zero_le _⟩) hW (fun H locs hW => ?_)
        refine lv_icmp_eq (tgt := 52) hx hb dX3_isWord_47 (by decide) (fun c47 => ?_) (fun c47 => ?_)
        · replace hf := ow_if_t c47 hf
          refine ow_iinc (d := 1) (lv' := fun z => [(4, .int z), (0, .ref (ow_ad Z 7)), (1, .int x1), (2, .int x2), (3, .ref (ow_adK Z w3))]) hx hb hf dX3_isWord_52 hl (k := 4) rfl (by decide) (by decide) (fun z => rfl) (fun x4_52 hf ls hl => ?_)
          refine lv_goto (tgt := 26) hx hb dX3_isWord_55 (by decide) ?_
          exact ih x1 x2 w3 hw3 x4_52 σ _ _ _ hf hW (lv_sub hl [1, 2, 3, 4, 0] rfl)
        · replace hf := ow_if_f c47 hf
          refine lv_iconst (v := 0) hx hb dX3_isWord_50 (by decide) ?_
          exact ow_zret hx hb hr (Or.inl rfl) hW hf dX3_isWord_51 hlocks
  have hl := lv_entry ([.ref (ow_ad Z 7), .int a1, .int a2, .ref (ow_adK Z a3)]) (n := 5) (Nat.le_of_ble_eq_true rfl)
  refine W.eq (g2 := F0 m 0 ((lg_sl ([.ref (ow_ad Z 7), .int a1, .int a2, .ref (ow_adK Z a3)]) ++ List.replicate (5 - (lg_sl ([.ref (ow_ad Z 7), .int a1, .int a2, .ref (ow_adK Z a3)])).length) Slot.unset).toArray) []) (by rw [hav]; exact lg_entry_eq _ _ _) ?_
  generalize (lg_sl ([.ref (ow_ad Z 7), .int a1, .int a2, .ref (ow_adK Z a3)]) ++ List.replicate (5 - (lg_sl ([.ref (ow_ad Z 7), .int a1, .int a2, .ref (ow_adK Z a3)])).length) Slot.unset).toArray = ls at hl ⊢
  have hl : lv_has ls 5 [(0, .ref (ow_ad Z 7)), (1, .int a1), (2, .int a2), (3, .ref (ow_adK Z a3))] := hl
  unfold f_X3_isWord at hf
  refine lv_iload_n hx hb dX3_isWord_0 rfl (lv_at hl 2 rfl) ?_
  refine lv_aload_n hx hb dX3_isWord_1 rfl (lv_at hl 3 rfl) ?_
  refine ow_calli (va_runV (As := []) (rest := [.int a2]) ⟨hx, hb, hml, hown, hts⟩ (c_J0_length l Z 0 56 a3 ha3 σ) (cwV 0 hts gX3_isWord_J0_length_8abf5 rfl rfl rfl (by decide +kernel) ⟨Nat.le_of_ble_eq_true rfl, Nat.le_of_ble_eq_true rfl⟩) (ow_preK hG hW ha3) rfl rfl hl.1 rfl (lv_room (Nat.le_of_ble_eq_true rfl)) dX3_isWord_2 ⟨Nat.zero_le _, Nat.zero_le _⟩) hW (fun H locs hW => ?_)
  refine lv_icmp_ne (tgt := 21) hx hb dX3_isWord_5 (by decide) (fun c5 => ?_) (fun c5 => ?_)
  · replace hf := ow_if_f c5 hf
    refine lv_iconst (v := 0) hx hb dX3_isWord_21 (by decide) ?_
    exact ow_zret hx hb hr (Or.inl rfl) hW hf dX3_isWord_22 hlocks
  · replace hf := ow_if_t c5 hf
    refine lv_iload_n hx hb dX3_isWord_8 rfl (lv_at hl 1 rfl) ?_
    refine lv_if_lt (tgt := 21) hx hb dX3_isWord_9 (by decide) (fun c9 => ?_) (fun c9 => ?_)
    · replace hf := ow_if_t c9 hf
      refine lv_iconst (v := 0) hx hb dX3_isWord_21 (by decide) ?_
      exact ow_zret hx hb hr (Or.inl rfl) hW hf dX3_isWord_22 hlocks
    · replace hf := ow_if_f c9 hf
      refine lv_iload_n hx hb dX3_isWord_12 rfl (lv_at hl 1 rfl) ?_
      refine lv_iload_n hx hb dX3_isWord_13 rfl (lv_at hl 2 rfl) ?_
      refine lv_iadd hx hb dX3_isWord_14 ?_
      refine lv_sipush (v := 160) hx hb dX3_isWord_15 (by decide) ?_
      refine lv_icmp_le (tgt := 23) hx hb dX3_isWord_18 (by decide) (fun c18 => ?_) (fun c18 => ?_)
      · replace hf := ow_if_t c18 hf
        refine lv_iconst (v := 0) hx hb dX3_isWord_23 (by decide) ?_
        refine lv_istore (lv' := [(4, .int (0 : Int32)), (0, .ref (ow_ad Z 7)), (1, .int a1), (2, .int a2), (3, .ref (ow_adK Z a3))]) hx hb dX3_isWord_24 hl (by decide) rfl (fun ls hl => ?_)
        exact hJ26 fu a1 a2 a3 ha3 (0 : Int32) σ _ _ _ hf hW (lv_sub hl [1, 2, 3, 4, 0] rfl)
      · replace hf := ow_if_f c18 hf
        refine lv_iconst (v := 0) hx hb dX3_isWord_21 (by decide) ?_
        exact ow_zret hx hb hr (Or.inl rfl) hW hf dX3_isWord_22 hlocks
set_option maxHeartbeats 40000000 in
set_option maxRecDepth 100000 in
theorem c_X3_wordToken (l : Launch) (Z : ow_Z) (fu : Nat) (a1 : Int32) (σ : ow_S) (rr : Int32) (σr : ow_S) (hf : f_X3_wordToken fu a1 σ = some (rr, σr)) : Met l yX3_wordToken wsX3_wordToken { frames := 7, cells := 0, slots := 0, locals := 424 } (ow_Pc Z 0 56 [.ref (ow_ad Z 7), .int a1] σ) (ow_Qi Z 0 56 rr σr) 0 0 (ow_A Z 0 56) := by
  refine Met.ofW (cc := cX3_wordToken) (maxL := 3) (ret := (some .int)) (by decide) rfl ?_
  intro p e s m args below meth c s₁ B hml hv
  obtain ⟨hav, hB⟩ := hv
  obtain ⟨hG, hW⟩ := ow_begin hB
  have hx := B.exec
  have hb := B.bytes
  have hr := B.returns
  have hts := atoms_spec (ws := wsX3_wordToken) B.pre
  have hown : s.vm.findClass RX3 = some m.cls := findClass_of_methodNamed B.named
  have hlocks := B.notSynchronized
  have hinX3 : ∀ w ∈ wsX30, w ∈ wsX3_wordToken := by decide +kernel
  have hl := lv_entry ([.ref (ow_ad Z 7), .int a1]) (n := 3) (Nat.le_of_ble_eq_true rfl)
  refine W.eq (g2 := F0 m 0 ((lg_sl ([.ref (ow_ad Z 7), .int a1]) ++ List.replicate (3 - (lg_sl ([.ref (ow_ad Z 7), .int a1])).length) Slot.unset).toArray) []) (by rw [hav]; exact lg_entry_eq _ _ _) ?_
  generalize (lg_sl ([.ref (ow_ad Z 7), .int a1]) ++ List.replicate (3 - (lg_sl ([.ref (ow_ad Z 7), .int a1])).length) Slot.unset).toArray = ls at hl ⊢
  have hl : lv_has ls 3 [(0, .ref (ow_ad Z 7)), (1, .int a1)] := hl
  unfold f_X3_wordToken at hf
  refine lv_aload_n hx hb dX3_wordToken_0 rfl (lv_at hl 0 rfl) ?_
  refine ow_getV (ci := 3) (C := RX3) (T := TX3) (N := 7) hx hb hts hown hG hW ow_i7 (by decide) rfl hinX3 2 (by decide) (fk := 0) rfl (hts (.fieldLink RX3 19 "FiftyOneCards$Reader" "next" "I") (by decide +kernel)) (v := .int (σ.1 7 2)) rfl dX3_wordToken_1 ?_
  refine ow_topi hf (fun x2_4 hf => ?_)
  refine lv_istore_n (lv' := [(2, .int x2_4), (0, .ref (ow_ad Z 7)), (1, .int a1)]) hx hb dX3_wordToken_4 rfl hl (by decide) rfl (fun ls hl => ?_)
  refine lv_aload_n hx hb dX3_wordToken_5 rfl (lv_at hl 1 rfl) ?_
  refine lv_iload_n hx hb dX3_wordToken_6 rfl (lv_at hl 0 rfl) ?_
  refine lv_iload_n hx hb dX3_wordToken_7 rfl (lv_at hl 2 rfl) ?_
  refine lv_iadd hx hb dX3_wordToken_8 ?_
  refine ow_putI (ci := 3) (C := RX3) (T := TX3) (N := 7) hx hb hts hown hG hW ow_i7 (by decide) rfl hinX3 tyX3 tyX3_ok nmX3 2 (by decide) rfl (hts (.fieldLink RX3 19 "FiftyOneCards$Reader" "next" "I") (by decide +kernel)) rfl rfl rfl hf dX3_wordToken_9 (fun σ_9 H locs hf hW => ?_)
  refine lv_aload_n hx hb dX3_wordToken_12 rfl (lv_at hl 1 rfl) ?_
  refine lv_iload_n hx hb dX3_wordToken_13 rfl (lv_at hl 0 rfl) ?_
  refine lv_iload_n hx hb dX3_wordToken_14 rfl (lv_at hl 2 rfl) ?_
  refine va_ldcS (own := RX3) (tx := "a") (q := ow_adK Z 1) hx hb hown (hG.1.2.2.1 1 (by decide)) dX3_wordToken_15 ?_
  obtain ⟨r_17, σ_17, hc17, hf⟩ := ow_cl_i hf
  refine ow_callz (va_runV (As := [.int x2_4, .int a1, .ref (ow_adK Z 1)]) (rest := []) ⟨hx, hb, hml, hown, hts⟩ (c_X3_isWord l Z fu x2_4 a1 1 (by decide) σ_9 r_17 σ_17 hc17) (cwV 3 hts gX3_wordToken_X3_isWord rfl rfl rfl (by decide +kernel) ⟨Nat.le_of_ble_eq_true rfl, Nat.le_of_ble_eq_true rfl⟩) (ow_preV hG hW ow_i7 (by decide) rfl) rfl rfl hl.1 rfl (lv_room (Nat.le_of_ble_eq_true rfl)) dX3_wordToken_17 ⟨Nat.zero_le _, Nat.zero_le _⟩) hW (fun b17 H locs hW => ?_)
  refine lv_if_eq (tgt := 25) hx hb dX3_wordToken_20 (by decide) (fun c20 => ?_) (fun c20 => ?_)
  · replace hf := ow_if_t c20 hf
    refine lv_aload_n hx hb dX3_wordToken_25 rfl (lv_at hl 1 rfl) ?_
    refine lv_iload_n hx hb dX3_wordToken_26 rfl (lv_at hl 0 rfl) ?_
    refine lv_iload_n hx hb dX3_wordToken_27 rfl (lv_at hl 2 rfl) ?_
    refine va_ldcS (own := RX3) (tx := "b") (q := ow_adK Z 2) hx hb hown (hG.1.2.2.1 2 (by decide)) dX3_wordToken_28 ?_
    obtain ⟨r_30, σ_30, hc30, hf⟩ := ow_cl_i hf
    refine ow_callz (va_runV (As := [.int x2_4, .int a1, .ref (ow_adK Z 2)]) (rest := []) ⟨hx, hb, hml, hown, hts⟩ (c_X3_isWord l Z fu x2_4 a1 2 (by decide) σ_17 r_30 σ_30 hc30) (cwV 3 hts gX3_wordToken_X3_isWord rfl rfl rfl (by decide +kernel) ⟨Nat.le_of_ble_eq_true rfl, Nat.le_of_ble_eq_true rfl⟩) (ow_preV hG hW ow_i7 (by decide) rfl) rfl rfl hl.1 rfl (lv_room (Nat.le_of_ble_eq_true rfl)) dX3_wordToken_30 ⟨Nat.zero_le _, Nat.zero_le _⟩) hW (fun b30 H locs hW => ?_)
    refine lv_if_eq (tgt := 38) hx hb dX3_wordToken_33 (by decide) (fun c33 => ?_) (fun c33 => ?_)
    · replace hf := ow_if_t c33 hf
      refine lv_aload_n hx hb dX3_wordToken_38 rfl (lv_at hl 1 rfl) ?_
      refine lv_iload_n hx hb dX3_wordToken_39 rfl (lv_at hl 0 rfl) ?_
      refine lv_iload_n hx hb dX3_wordToken_40 rfl (lv_at hl 2 rfl) ?_
      refine va_ldcS (own := RX3) (tx := "item") (q := ow_adK Z 3) hx hb hown (hG.1.2.2.1 3 (by decide)) dX3_wordToken_41 ?_
      obtain ⟨r_43, σ_43, hc43, hf⟩ := ow_cl_i hf
      refine ow_callz (va_runV (As := [.int x2_4, .int a1, .ref (ow_adK Z 3)]) (rest := []) ⟨hx, hb, hml, hown, hts⟩ (c_X3_isWord l Z fu x2_4 a1 3 (by decide) σ_30 r_43 σ_43 hc43) (cwV 3 hts gX3_wordToken_X3_isWord rfl rfl rfl (by decide +kernel) ⟨Nat.le_of_ble_eq_true rfl, Nat.le_of_ble_eq_true rfl⟩) (ow_preV hG hW ow_i7 (by decide) rfl) rfl rfl hl.1 rfl (lv_room (Nat.le_of_ble_eq_true rfl)) dX3_wordToken_43 ⟨Nat.zero_le _, Nat.zero_le _⟩) hW (fun b43 H locs hW => ?_)
      refine lv_if_eq (tgt := 51) hx hb dX3_wordToken_46 (by decide) (fun c46 => ?_) (fun c46 => ?_)
      · replace hf := ow_if_t c46 hf
        refine lv_aload_n hx hb dX3_wordToken_51 rfl (lv_at hl 1 rfl) ?_
        refine lv_iload_n hx hb dX3_wordToken_52 rfl (lv_at hl 0 rfl) ?_
        refine lv_iload_n hx hb dX3_wordToken_53 rfl (lv_at hl 2 rfl) ?_
        refine va_ldcS (own := RX3) (tx := "place") (q := ow_adK Z 4) hx hb hown (hG.1.2.2.1 4 (by decide)) dX3_wordToken_54 ?_
        obtain ⟨r_56, σ_56, hc56, hf⟩ := ow_cl_i hf
        refine ow_callz (va_runV (As := [.int x2_4, .int a1, .ref (ow_adK Z 4)]) (rest := []) ⟨hx, hb, hml, hown, hts⟩ (c_X3_isWord l Z fu x2_4 a1 4 (by decide) σ_43 r_56 σ_56 hc56) (cwV 3 hts gX3_wordToken_X3_isWord rfl rfl rfl (by decide +kernel) ⟨Nat.le_of_ble_eq_true rfl, Nat.le_of_ble_eq_true rfl⟩) (ow_preV hG hW ow_i7 (by decide) rfl) rfl rfl hl.1 rfl (lv_room (Nat.le_of_ble_eq_true rfl)) dX3_wordToken_56 ⟨Nat.zero_le _, Nat.zero_le _⟩) hW (fun b56 H locs hW => ?_)
        refine lv_if_eq (tgt := 64) hx hb dX3_wordToken_59 (by decide) (fun c59 => ?_) (fun c59 => ?_)
        · replace hf := ow_if_t c59 hf
          refine lv_aload_n hx hb dX3_wordToken_64 rfl (lv_at hl 1 rfl) ?_
          refine lv_iload_n hx hb dX3_wordToken_65 rfl (lv_at hl 0 rfl) ?_
          refine lv_iload_n hx hb dX3_wordToken_66 rfl (lv_at hl 2 rfl) ?_
          refine va_ldcS (own := RX3) (tx := "n") (q := ow_adK Z 5) hx hb hown (hG.1.2.2.1 5 (by decide)) dX3_wordToken_67 ?_
          obtain ⟨r_69, σ_69, hc69, hf⟩ := ow_cl_i hf
          refine ow_callz (va_runV (As := [.int x2_4, .int a1, .ref (ow_adK Z 5)]) (rest := []) ⟨hx, hb, hml, hown, hts⟩ (c_X3_isWord l Z fu x2_4 a1 5 (by decide) σ_56 r_69 σ_69 hc69) (cwV 3 hts gX3_wordToken_X3_isWord rfl rfl rfl (by decide +kernel) ⟨Nat.le_of_ble_eq_true rfl, Nat.le_of_ble_eq_true rfl⟩) (ow_preV hG hW ow_i7 (by decide) rfl) rfl rfl hl.1 rfl (lv_room (Nat.le_of_ble_eq_true rfl)) dX3_wordToken_69 ⟨Nat.zero_le _, Nat.zero_le _⟩) hW (fun b69 H locs hW => ?_)
          refine lv_if_eq (tgt := 77) hx hb dX3_wordToken_72 (by decide) (fun c72 => ?_) (fun c72 => ?_)
          · replace hf := ow_if_t c72 hf
            refine lv_aload_n hx hb dX3_wordToken_77 rfl (lv_at hl 1 rfl) ?_
            refine lv_iload_n hx hb dX3_wordToken_78 rfl (lv_at hl 0 rfl) ?_
            refine lv_iload_n hx hb dX3_wordToken_79 rfl (lv_at hl 2 rfl) ?_
            refine va_ldcS (own := RX3) (tx := "more") (q := ow_adK Z 6) hx hb hown (hG.1.2.2.1 6 (by decide)) dX3_wordToken_80 ?_
            obtain ⟨r_82, σ_82, hc82, hf⟩ := ow_cl_i hf
            refine ow_callz (va_runV (As := [.int x2_4, .int a1, .ref (ow_adK Z 6)]) (rest := []) ⟨hx, hb, hml, hown, hts⟩ (c_X3_isWord l Z fu x2_4 a1 6 (by decide) σ_69 r_82 σ_82 hc82) (cwV 3 hts gX3_wordToken_X3_isWord rfl rfl rfl (by decide +kernel) ⟨Nat.le_of_ble_eq_true rfl, Nat.le_of_ble_eq_true rfl⟩) (ow_preV hG hW ow_i7 (by decide) rfl) rfl rfl hl.1 rfl (lv_room (Nat.le_of_ble_eq_true rfl)) dX3_wordToken_82 ⟨Nat.zero_le _, Nat.zero_le _⟩) hW (fun b82 H locs hW => ?_)
            refine lv_if_eq (tgt := 90) hx hb dX3_wordToken_85 (by decide) (fun c85 => ?_) (fun c85 => ?_)
            · replace hf := ow_if_t c85 hf
              refine lv_aload_n hx hb dX3_wordToken_90 rfl (lv_at hl 1 rfl) ?_
              refine lv_iload_n hx hb dX3_wordToken_91 rfl (lv_at hl 0 rfl) ?_
              refine lv_iload_n hx hb dX3_wordToken_92 rfl (lv_at hl 2 rfl) ?_
              refine va_ldcS (own := RX3) (tx := "or") (q := ow_adK Z 7) hx hb hown (hG.1.2.2.1 7 (by decide)) dX3_wordToken_93 ?_
              obtain ⟨r_95, σ_95, hc95, hf⟩ := ow_cl_i hf
              refine ow_callz (va_runV (As := [.int x2_4, .int a1, .ref (ow_adK Z 7)]) (rest := []) ⟨hx, hb, hml, hown, hts⟩ (c_X3_isWord l Z fu x2_4 a1 7 (by decide) σ_82 r_95 σ_95 hc95) (cwV 3 hts gX3_wordToken_X3_isWord rfl rfl rfl (by decide +kernel) ⟨Nat.le_of_ble_eq_true rfl, Nat.le_of_ble_eq_true rfl⟩) (ow_preV hG hW ow_i7 (by decide) rfl) rfl rfl hl.1 rfl (lv_room (Nat.le_of_ble_eq_true rfl)) dX3_wordToken_95 ⟨Nat.zero_le _, Nat.zero_le _⟩) hW (fun b95 H locs hW => ?_)
              refine lv_if_eq (tgt := 104) hx hb dX3_wordToken_98 (by decide) (fun c98 => ?_) (fun c98 => ?_)
              · replace hf := ow_if_t c98 hf
                refine lv_aload_n hx hb dX3_wordToken_104 rfl (lv_at hl 1 rfl) ?_
                refine lv_iload_n hx hb dX3_wordToken_105 rfl (lv_at hl 0 rfl) ?_
                refine lv_iload_n hx hb dX3_wordToken_106 rfl (lv_at hl 2 rfl) ?_
                refine va_ldcS (own := RX3) (tx := "and") (q := ow_adK Z 8) hx hb hown (hG.1.2.2.1 8 (by decide)) dX3_wordToken_107 ?_
                obtain ⟨r_109, σ_109, hc109, hf⟩ := ow_cl_i hf
                refine ow_callz (va_runV (As := [.int x2_4, .int a1, .ref (ow_adK Z 8)]) (rest := []) ⟨hx, hb, hml, hown, hts⟩ (c_X3_isWord l Z fu x2_4 a1 8 (by decide) σ_95 r_109 σ_109 hc109) (cwV 3 hts gX3_wordToken_X3_isWord rfl rfl rfl (by decide +kernel) ⟨Nat.le_of_ble_eq_true rfl, Nat.le_of_ble_eq_true rfl⟩) (ow_preV hG hW ow_i7 (by decide) rfl) rfl rfl hl.1 rfl (lv_room (Nat.le_of_ble_eq_true rfl)) dX3_wordToken_109 ⟨Nat.zero_le _, Nat.zero_le _⟩) hW (fun b109 H locs hW => ?_)
                refine lv_if_eq (tgt := 118) hx hb dX3_wordToken_112 (by decide) (fun c112 => ?_) (fun c112 => ?_)
                · replace hf := ow_if_t c112 hf
                  refine lv_aload_n hx hb dX3_wordToken_118 rfl (lv_at hl 1 rfl) ?_
                  refine lv_iload_n hx hb dX3_wordToken_119 rfl (lv_at hl 0 rfl) ?_
                  refine lv_iload_n hx hb dX3_wordToken_120 rfl (lv_at hl 2 rfl) ?_
                  refine va_ldcS (own := RX3) (tx := "not") (q := ow_adK Z 9) hx hb hown (hG.1.2.2.1 9 (by decide)) dX3_wordToken_121 ?_
                  obtain ⟨r_123, σ_123, hc123, hf⟩ := ow_cl_i hf
                  refine ow_callz (va_runV (As := [.int x2_4, .int a1, .ref (ow_adK Z 9)]) (rest := []) ⟨hx, hb, hml, hown, hts⟩ (c_X3_isWord l Z fu x2_4 a1 9 (by decide) σ_109 r_123 σ_123 hc123) (cwV 3 hts gX3_wordToken_X3_isWord rfl rfl rfl (by decide +kernel) ⟨Nat.le_of_ble_eq_true rfl, Nat.le_of_ble_eq_true rfl⟩) (ow_preV hG hW ow_i7 (by decide) rfl) rfl rfl hl.1 rfl (lv_room (Nat.le_of_ble_eq_true rfl)) dX3_wordToken_123 ⟨Nat.zero_le _, Nat.zero_le _⟩) hW (fun b123 H locs hW => ?_)
                  refine lv_if_eq (tgt := 132) hx hb dX3_wordToken_126 (by decide) (fun c126 => ?_) (fun c126 => ?_)
                  · replace hf := ow_if_t c126 hf
                    refine lv_aload_n hx hb dX3_wordToken_132 rfl (lv_at hl 1 rfl) ?_
                    refine lv_iload_n hx hb dX3_wordToken_133 rfl (lv_at hl 0 rfl) ?_
                    refine lv_iload_n hx hb dX3_wordToken_134 rfl (lv_at hl 2 rfl) ?_
                    refine va_ldcS (own := RX3) (tx := "first") (q := ow_adK Z 10) hx hb hown (hG.1.2.2.1 10 (by decide)) dX3_wordToken_135 ?_
                    obtain ⟨r_137, σ_137, hc137, hf⟩ := ow_cl_i hf
                    refine ow_callz (va_runV (As := [.int x2_4, .int a1, .ref (ow_adK Z 10)]) (rest := []) ⟨hx, hb, hml, hown, hts⟩ (c_X3_isWord l Z fu x2_4 a1 10 (by decide) σ_123 r_137 σ_137 hc137) (cwV 3 hts gX3_wordToken_X3_isWord rfl rfl rfl (by decide +kernel) ⟨Nat.le_of_ble_eq_true rfl, Nat.le_of_ble_eq_true rfl⟩) (ow_preV hG hW ow_i7 (by decide) rfl) rfl rfl hl.1 rfl (lv_room (Nat.le_of_ble_eq_true rfl)) dX3_wordToken_137 ⟨Nat.zero_le _, Nat.zero_le _⟩) hW (fun b137 H locs hW => ?_)
                    refine lv_if_eq (tgt := 146) hx hb dX3_wordToken_140 (by decide) (fun c140 => ?_) (fun c140 => ?_)
                    · replace hf := ow_if_t c140 hf
                      refine lv_aload_n hx hb dX3_wordToken_146 rfl (lv_at hl 1 rfl) ?_
                      refine lv_iload_n hx hb dX3_wordToken_147 rfl (lv_at hl 0 rfl) ?_
                      refine lv_iload_n hx hb dX3_wordToken_148 rfl (lv_at hl 2 rfl) ?_
                      refine va_ldcS (own := RX3) (tx := "second") (q := ow_adK Z 11) hx hb hown (hG.1.2.2.1 11 (by decide)) dX3_wordToken_149 ?_
                      obtain ⟨r_151, σ_151, hc151, hf⟩ := ow_cl_i hf
                      refine ow_callz (va_runV (As := [.int x2_4, .int a1, .ref (ow_adK Z 11)]) (rest := []) ⟨hx, hb, hml, hown, hts⟩ (c_X3_isWord l Z fu x2_4 a1 11 (by decide) σ_137 r_151 σ_151 hc151) (cwV 3 hts gX3_wordToken_X3_isWord rfl rfl rfl (by decide +kernel) ⟨Nat.le_of_ble_eq_true rfl, Nat.le_of_ble_eq_true rfl⟩) (ow_preV hG hW ow_i7 (by decide) rfl) rfl rfl hl.1 rfl (lv_room (Nat.le_of_ble_eq_true rfl)) dX3_wordToken_151 ⟨Nat.zero_le _, Nat.zero_le _⟩) hW (fun b151 H locs hW => ?_)
                      refine lv_if_eq (tgt := 160) hx hb dX3_wordToken_154 (by decide) (fun c154 => ?_) (fun c154 => ?_)
                      · replace hf := ow_if_t c154 hf
                        refine lv_aload_n hx hb dX3_wordToken_160 rfl (lv_at hl 1 rfl) ?_
                        refine lv_iload_n hx hb dX3_wordToken_161 rfl (lv_at hl 0 rfl) ?_
                        refine lv_iload_n hx hb dX3_wordToken_162 rfl (lv_at hl 2 rfl) ?_
                        refine va_ldcS (own := RX3) (tx := "says") (q := ow_adK Z 12) hx hb hown (hG.1.2.2.1 12 (by decide)) dX3_wordToken_163 ?_
                        obtain ⟨r_165, σ_165, hc165, hf⟩ := ow_cl_i hf
                        refine ow_callz (va_runV (As := [.int x2_4, .int a1, .ref (ow_adK Z 12)]) (rest := []) ⟨hx, hb, hml, hown, hts⟩ (c_X3_isWord l Z fu x2_4 a1 12 (by decide) σ_151 r_165 σ_165 hc165) (cwV 3 hts gX3_wordToken_X3_isWord rfl rfl rfl (by decide +kernel) ⟨Nat.le_of_ble_eq_true rfl, Nat.le_of_ble_eq_true rfl⟩) (ow_preV hG hW ow_i7 (by decide) rfl) rfl rfl hl.1 rfl (lv_room (Nat.le_of_ble_eq_true rfl)) dX3_wordToken_165 ⟨Nat.zero_le _, Nat.zero_le _⟩) hW (fun b165 H locs hW => ?_)
                        refine lv_if_eq (tgt := 176) hx hb dX3_wordToken_168 (by decide) (fun c168 => ?_) (fun c168 => ?_)
                        · replace hf := ow_if_t c168 hf
                          refine lv_bipush (v := 22) hx hb dX3_wordToken_176 (by decide) ?_
                          exact ow_iret hx hb hr hW hf dX3_wordToken_178 hlocks
                        · replace hf := ow_if_f c168 hf
                          refine lv_bipush (v := 20) hx hb dX3_wordToken_171 (by decide) ?_
                          refine lv_goto (tgt := 178) hx hb dX3_wordToken_173 (by decide) ?_
                          exact ow_iret hx hb hr hW hf dX3_wordToken_178 hlocks
                      · replace hf := ow_if_f c154 hf
                        refine lv_bipush (v := 19) hx hb dX3_wordToken_157 (by decide) ?_
                        exact ow_iret hx hb hr hW hf dX3_wordToken_159 hlocks
                    · replace hf := ow_if_f c140 hf
                      refine lv_bipush (v := 18) hx hb dX3_wordToken_143 (by decide) ?_
                      exact ow_iret hx hb hr hW hf dX3_wordToken_145 hlocks
                  · replace hf := ow_if_f c126 hf
                    refine lv_bipush (v := 8) hx hb dX3_wordToken_129 (by decide) ?_
                    exact ow_iret hx hb hr hW hf dX3_wordToken_131 hlocks
                · replace hf := ow_if_f c112 hf
                  refine lv_bipush (v := 7) hx hb dX3_wordToken_115 (by decide) ?_
                  exact ow_iret hx hb hr hW hf dX3_wordToken_117 hlocks
              · replace hf := ow_if_f c98 hf
                refine lv_bipush (v := 6) hx hb dX3_wordToken_101 (by decide) ?_
                exact ow_iret hx hb hr hW hf dX3_wordToken_103 hlocks
            · replace hf := ow_if_f c85 hf
              refine lv_iconst (v := 5) hx hb dX3_wordToken_88 (by decide) ?_
              exact ow_iret hx hb hr hW hf dX3_wordToken_89 hlocks
          · replace hf := ow_if_f c72 hf
            refine lv_iconst (v := 4) hx hb dX3_wordToken_75 (by decide) ?_
            exact ow_iret hx hb hr hW hf dX3_wordToken_76 hlocks
        · replace hf := ow_if_f c59 hf
          refine lv_iconst (v := 3) hx hb dX3_wordToken_62 (by decide) ?_
          exact ow_iret hx hb hr hW hf dX3_wordToken_63 hlocks
      · replace hf := ow_if_f c46 hf
        refine lv_iconst (v := 2) hx hb dX3_wordToken_49 (by decide) ?_
        exact ow_iret hx hb hr hW hf dX3_wordToken_50 hlocks
    · replace hf := ow_if_f c33 hf
      refine lv_iconst (v := 1) hx hb dX3_wordToken_36 (by decide) ?_
      exact ow_iret hx hb hr hW hf dX3_wordToken_37 hlocks
  · replace hf := ow_if_f c20 hf
    refine lv_iconst (v := 0) hx hb dX3_wordToken_23 (by decide) ?_
    exact ow_iret hx hb hr hW hf dX3_wordToken_24 hlocks
set_option maxHeartbeats 40000000 in
set_option maxRecDepth 100000 in
theorem c_X3_isDigit (l : Launch) (Z : ow_Z) (fu : Nat) (a1 : Int32) (σ : ow_S) (rr : Int32) (σr : ow_S) (hf : f_X3_isDigit fu a1 σ = some (rr, σr)) : Met l yX3_isDigit wsX3_isDigit { frames := 1, cells := 0, slots := 0, locals := 60 } (ow_Pc Z 0 56 [.int a1] σ) (ow_Qz Z 0 56 rr σr) 0 0 (ow_A Z 0 56) := by
  refine Met.ofW (cc := cX3_isDigit) (maxL := 1) (ret := (some .boolean)) (by decide) rfl ?_
  intro p e s m args below meth c s₁ B hml hv
  obtain ⟨hav, hB⟩ := hv
  obtain ⟨hG, hW⟩ := ow_begin hB
  have hx := B.exec
  have hb := B.bytes
  have hr := B.returns
  have hts := atoms_spec (ws := wsX3_isDigit) B.pre
  have hown : s.vm.findClass RX3 = some m.cls := findClass_of_methodNamed B.named
  have hlocks := B.notSynchronized
  have hl := lv_entry ([.int a1]) (n := 1) (Nat.le_of_ble_eq_true rfl)
  refine W.eq (g2 := F0 m 0 ((lg_sl ([.int a1]) ++ List.replicate (1 - (lg_sl ([.int a1])).length) Slot.unset).toArray) []) (by rw [hav]; exact lg_entry_eq _ _ _) ?_
  generalize (lg_sl ([.int a1]) ++ List.replicate (1 - (lg_sl ([.int a1])).length) Slot.unset).toArray = ls at hl ⊢
  have hl : lv_has ls 1 [(0, .int a1)] := hl
  unfold f_X3_isDigit at hf
  refine lv_iload_n hx hb dX3_isDigit_0 rfl (lv_at hl 0 rfl) ?_
  refine lv_bipush (v := 48) hx hb dX3_isDigit_1 (by decide) ?_
  refine lv_icmp_lt (tgt := 16) hx hb dX3_isDigit_3 (by decide) (fun c3 => ?_) (fun c3 => ?_)
  · replace hf := ow_if_t c3 hf
    refine lv_iconst (v := 0) hx hb dX3_isDigit_16 (by decide) ?_
    exact ow_zret hx hb hr (Or.inl rfl) hW hf dX3_isDigit_17 hlocks
  · replace hf := ow_if_f c3 hf
    refine lv_iload_n hx hb dX3_isDigit_6 rfl (lv_at hl 0 rfl) ?_
    refine lv_bipush (v := 57) hx hb dX3_isDigit_7 (by decide) ?_
    refine lv_icmp_gt (tgt := 16) hx hb dX3_isDigit_9 (by decide) (fun c9 => ?_) (fun c9 => ?_)
    · replace hf := ow_if_t c9 hf
      refine lv_iconst (v := 0) hx hb dX3_isDigit_16 (by decide) ?_
      exact ow_zret hx hb hr (Or.inl rfl) hW hf dX3_isDigit_17 hlocks
    · replace hf := ow_if_f c9 hf
      refine lv_iconst (v := 1) hx hb dX3_isDigit_12 (by decide) ?_
      refine lv_goto (tgt := 17) hx hb dX3_isDigit_13 (by decide) ?_
      exact ow_zret hx hb hr (Or.inr rfl) hW hf dX3_isDigit_17 hlocks
set_option maxHeartbeats 40000000 in
set_option maxRecDepth 100000 in
theorem c_X3_numberToken (l : Launch) (Z : ow_Z) (fu : Nat) (σ : ow_S) (rr : Int32) (σr : ow_S) (hf : f_X3_numberToken fu σ = some (rr, σr)) : Met l yX3_numberToken wsX3_numberToken { frames := 2, cells := 0, slots := 0, locals := 80 } (ow_Pc Z 0 56 [.ref (ow_ad Z 7)] σ) (ow_Qi Z 0 56 rr σr) 0 0 (ow_A Z 0 56) := by
  refine Met.ofW (cc := cX3_numberToken) (maxL := 4) (ret := (some .int)) (by decide) rfl ?_
  intro p e s m args below meth c s₁ B hml hv
  obtain ⟨hav, hB⟩ := hv
  obtain ⟨hG, hW⟩ := ow_begin hB
  have hx := B.exec
  have hb := B.bytes
  have hr := B.returns
  have hts := atoms_spec (ws := wsX3_numberToken) B.pre
  have hown : s.vm.findClass RX3 = some m.cls := findClass_of_methodNamed B.named
  have hlocks := B.notSynchronized
  have hinX3 : ∀ w ∈ wsX30, w ∈ wsX3_numberToken := by decide +kernel
  have hJ65 : ∀ (x1 : Int32) (x2 : Int32) (σ : ow_S) (H : Heap) (locs : List Loc) (ls : Array Slot), L_X3_numberToken_65 fu x1 x2 σ = some (rr, σr) → ow_Wd Z 0 56 σ s H locs → lv_has ls 4 [(1, .int x1), (2, .int x2)] → W p l e (headSpec wsX3_numberToken { frames := 2, cells := 0, slots := 0, locals := 80 }).room s m args below meth c H locs 0 0 (MQ below (ow_Qi Z 0 56 rr σr) args s 0 0 (ow_A Z 0 56)) (F0 m 65 ls []) := by
    intro x1 x2 σ H locs ls hf hW hl
    unfold L_X3_numberToken_65 at hf
    refine lv_iload_n hx hb dX3_numberToken_65 rfl (lv_at hl 0 rfl) ?_
    refine lv_iconst (v := 4) hx hb dX3_numberToken_66 (by decide) ?_
    refine lv_icmp_gt (tgt := 77) hx hb dX3_numberToken_67 (by decide) (fun c67 => ?_) (fun c67 => ?_)
    · replace hf := ow_if_t c67 hf
      refine lv_bipush (v := 22) hx hb dX3_numberToken_77 (by decide) ?_
      exact ow_iret hx hb hr hW hf dX3_numberToken_79 hlocks
    · replace hf := ow_if_f c67 hf
      refine lv_bipush (v := 100) hx hb dX3_numberToken_70 (by decide) ?_
      refine lv_iload_n hx hb dX3_numberToken_72 rfl (lv_at hl 1 rfl) ?_
      refine lv_iadd hx hb dX3_numberToken_73 ?_
      refine lv_goto (tgt := 79) hx hb dX3_numberToken_74 (by decide) ?_
      exact ow_iret hx hb hr hW hf dX3_numberToken_79 hlocks
  have hJ59 : ∀ (k9 : Int32 → Int32 → Int32 → ow_S → Option (Int32 × ow_S)) (hk9 : ∀ (x1 : Int32) (x2 : Int32) (x3 : Int32) (σ : ow_S) (H : Heap) (locs : List Loc) (ls : Array Slot), k9 x1 x2 x3 σ = some (rr, σr) → ow_Wd Z 0 56 σ s H locs → lv_has ls 4 [(0, .ref (ow_ad Z 7)), (1, .int x1), (2, .int x2), (3, .int x3)] → W p l e (headSpec wsX3_numberToken { frames := 2, cells := 0, slots := 0, locals := 80 }).room s m args below meth c H locs 0 0 (MQ below (ow_Qi Z 0 56 rr σr) args s 0 0 (ow_A Z 0 56)) (F0 m 9 ls [])), ∀ (x1 : Int32) (x2 : Int32) (x3 : Int32) (σ : ow_S) (H : Heap) (locs : List Loc) (ls : Array Slot), L_X3_numberToken_59 fu k9 x1 x2 x3 σ = some (rr, σr) → ow_Wd Z 0 56 σ s H locs → lv_has ls 4 [(0, .ref (ow_ad Z 7)), (1, .int x1), (2, .int x2), (3, .int x3)] → W p l e (headSpec wsX3_numberToken { frames := 2, cells := 0, slots := 0, locals := 80 }).room s m args below meth c H locs 0 0 (MQ below (ow_Qi Z 0 56 rr σr) args s 0 0 (ow_A Z 0 56)) (F0 m 59 ls []) := by
    intro k9 hk9 x1 x2 x3 σ H locs ls hf hW hl
    unfold L_X3_numberToken_59 at hf
    refine ow_iinc (d := 1) (lv' := fun z => [(3, .int z), (0, .ref (ow_ad Z 7)), (1, .int x1), (2, .int x2)]) hx hb hf dX3_numberToken_59 hl (k := 3) rfl (by decide) (by decide) (fun z => rfl) (fun x3_59 hf ls hl => ?_)
    refine lv_goto (tgt := 9) hx hb dX3_numberToken_62 (by decide) ?_
    exact hk9 x1 x2 x3_59 σ _ _ _ hf hW (lv_sub hl [1, 2, 3, 0] rfl)
  have hJ9 : ∀ (fn : Nat), ∀ (x1 : Int32) (x2 : Int32) (x3 : Int32) (σ : ow_S) (H : Heap) (locs : List Loc) (ls : Array Slot), L_X3_numberToken_9 fu fn x1 x2 x3 σ = some (rr, σr) → ow_Wd Z 0 56 σ s H locs → lv_has ls 4 [(0, .ref (ow_ad Z 7)), (1, .int x1), (2, .int x2), (3, .int x3)] → W p l e (headSpec wsX3_numberToken { frames := 2, cells := 0, slots := 0, locals := 80 }).room s m args below meth c H locs 0 0 (MQ below (ow_Qi Z 0 56 rr σr) args s 0 0 (ow_A Z 0 56)) (F0 m 9 ls []) := by
    intro fn
    induction fn with
    | zero => intro x1 x2 x3 σ H locs ls hf hW hl; simp [L_X3_numberToken_9] at hf
    | succ fn ih =>
      intro x1 x2 x3 σ H locs ls hf hW hl
      rw [L_X3_numberToken_9] at hf
      refine lv_iload_n hx hb dX3_numberToken_9 rfl (lv_at hl 3 rfl) ?_
      refine lv_aload_n hx hb dX3_numberToken_10 rfl (lv_at hl 0 rfl) ?_
      refine ow_getV (ci := 3) (C := RX3) (T := TX3) (N := 7) hx hb hts hown hG hW ow_i7 (by decide) rfl hinX3 1 (by decide) (fk := 0) rfl (hts (.fieldLink RX3 15 "FiftyOneCards$Reader" "size" "I") (by decide +kernel)) (v := .int (σ.1 7 1)) rfl dX3_numberToken_11 ?_
      refine lv_icmp_ge (tgt := 65) hx hb dX3_numberToken_14 (by decide) (fun c14 => ?_) (fun c14 => ?_)
      · replace hf := ow_if_t c14 hf
        exact hJ65 x1 x2 σ _ _ _ hf hW (lv_sub hl [1, 2] rfl)
      · replace hf := ow_if_f c14 hf
        refine lv_aload_n hx hb dX3_numberToken_17 rfl (lv_at hl 0 rfl) ?_
        refine ow_getV (ci := 3) (C := RX3) (T := TX3) (N := 7) hx hb hts hown hG hW ow_i7 (by decide) rfl hinX3 0 (by decide) (fk := 2) rfl (hts (.fieldLink RX3 9 "FiftyOneCards$Reader" "tape" "[I") (by decide +kernel)) (v := .ref (ow_ad Z 8)) (ow_vR hW ow_i7.1 ow_i7.2.1 rfl) dX3_numberToken_18 ?_
        refine lv_iload_n hx hb dX3_numberToken_21 rfl (lv_at hl 3 rfl) ?_
        obtain ⟨q22, hf⟩ := ow_ck_i hf
        refine ow_ild (q := x3.toNatClampNeg) hx hb hG hW ow_i8 rfl q22 rfl dX3_numberToken_22 ?_
        obtain ⟨r_23, σ_23, hc23, hf⟩ := ow_cl_i hf
        refine ow_callz (va_runS (As := [.int (σ.1 8 x3.toNatClampNeg)]) (rest := []) ⟨hx, hb, hml, hown, hts⟩ (c_X3_isDigit l Z fu (σ.1 8 x3.toNatClampNeg) σ r_23 σ_23 hc23) (va_cwS 1 hts gX3_numberToken_X3_isDigit rfl rfl rfl (by decide +kernel) ⟨Nat.le_of_ble_eq_true rfl, Nat.le_of_ble_eq_true rfl⟩) (ow_preS hG hW) rfl rfl hl.1 rfl (lv_room (Nat.le_of_ble_eq_true rfl)) dX3_numberToken_23 ⟨Nat.zero_le _, Nat.zero_le _⟩) hW (fun b23 H locs hW => ?_)
        refine lv_if_eq (tgt := 65) hx hb dX3_numberToken_26 (by decide) (fun c26 => ?_) (fun c26 => ?_)
        · replace hf := ow_if_t c26 hf
          exact hJ65 x1 x2 σ_23 _ _ _ hf hW (lv_sub hl [1, 2] rfl)
        · replace hf := ow_if_f c26 hf
          refine lv_aload_n hx hb dX3_numberToken_29 rfl (lv_at hl 0 rfl) ?_
          refine lv_iload_n hx hb dX3_numberToken_30 rfl (lv_at hl 3 rfl) ?_
          refine lv_iconst (v := 1) hx hb dX3_numberToken_31 (by decide) ?_
          refine lv_iadd hx hb dX3_numberToken_32 ?_
          refine ow_putI (ci := 3) (C := RX3) (T := TX3) (N := 7) hx hb hts hown hG hW ow_i7 (by decide) rfl hinX3 tyX3 tyX3_ok nmX3 2 (by decide) rfl (hts (.fieldLink RX3 19 "FiftyOneCards$Reader" "next" "I") (by decide +kernel)) rfl rfl rfl hf dX3_numberToken_33 (fun σ_33 H locs hf hW => ?_)
          refine ow_iinc (d := 1) (lv' := fun z => [(1, .int z), (0, .ref (ow_ad Z 7)), (2, .int x2), (3, .int x3)]) hx hb hf dX3_numberToken_36 hl (k := 1) rfl (by decide) (by decide) (fun z => rfl) (fun x1_36 hf ls hl => ?_)
          refine lv_iload_n hx hb dX3_numberToken_39 rfl (lv_at hl 0 rfl) ?_
          refine lv_iconst (v := 4) hx hb dX3_numberToken_40 (by decide) ?_
          refine lv_icmp_gt (tgt := 59) hx hb dX3_numberToken_41 (by decide) (fun c41 => ?_) (fun c41 => ?_)
          · replace hf := ow_if_t c41 hf
            exact hJ59 (L_X3_numberToken_9 fu fn) ih x1_36 x2 x3 σ_33 _ _ _ hf hW (lv_sub hl [1, 0, 2, 3] rfl)
          · replace hf := ow_if_f c41 hf
            refine lv_iload_n hx hb dX3_numberToken_44 rfl (lv_at hl 2 rfl) ?_
            refine lv_bipush (v := 10) hx hb dX3_numberToken_45 (by decide) ?_
            refine lv_imul hx hb dX3_numberToken_47 ?_
            refine lv_aload_n hx hb dX3_numberToken_48 rfl (lv_at hl 1 rfl) ?_
            refine ow_getV (ci := 3) (C := RX3) (T := TX3) (N := 7) hx hb hts hown hG hW ow_i7 (by decide) rfl hinX3 0 (by decide) (fk := 2) rfl (hts (.fieldLink RX3 9 "FiftyOneCards$Reader" "tape" "[I") (by decide +kernel)) (v := .ref (ow_ad Z 8)) (ow_vR hW ow_i7.1 ow_i7.2.1 rfl) dX3_numberToken_49 ?_
            refine lv_iload_n hx hb dX3_numberToken_52 rfl (lv_at hl 3 rfl) ?_
            obtain ⟨q53, hf⟩ := ow_ck_i hf
            refine ow_ild (q := x3.toNatClampNeg) hx hb hG hW ow_i8 rfl q53 rfl dX3_numberToken_53 ?_
            refine lv_iadd hx hb dX3_numberToken_54 ?_
            refine lv_bipush (v := 48) hx hb dX3_numberToken_55 (by decide) ?_
            refine lv_isub hx hb dX3_numberToken_57 ?_
            refine ow_topi hf (fun x2_58 hf => ?_)
            refine lv_istore_n (lv' := [(2, .int x2_58), (1, .int x1_36), (0, .ref (ow_ad Z 7)), (3, .int x3)]) hx hb dX3_numberToken_58 rfl hl (by decide) rfl (fun ls hl => ?_)
            exact hJ59 (L_X3_numberToken_9 fu fn) ih x1_36 x2_58 x3 σ_33 _ _ _ hf hW (lv_sub hl [2, 1, 0, 3] rfl)
  have hl := lv_entry ([.ref (ow_ad Z 7)]) (n := 4) (Nat.le_of_ble_eq_true rfl)
  refine W.eq (g2 := F0 m 0 ((lg_sl ([.ref (ow_ad Z 7)]) ++ List.replicate (4 - (lg_sl ([.ref (ow_ad Z 7)])).length) Slot.unset).toArray) []) (by rw [hav]; exact lg_entry_eq _ _ _) ?_
  generalize (lg_sl ([.ref (ow_ad Z 7)]) ++ List.replicate (4 - (lg_sl ([.ref (ow_ad Z 7)])).length) Slot.unset).toArray = ls at hl ⊢
  have hl : lv_has ls 4 [(0, .ref (ow_ad Z 7))] := hl
  unfold f_X3_numberToken at hf
  refine lv_iconst (v := 0) hx hb dX3_numberToken_0 (by decide) ?_
  refine lv_istore_n (lv' := [(1, .int (0 : Int32)), (0, .ref (ow_ad Z 7))]) hx hb dX3_numberToken_1 rfl hl (by decide) rfl (fun ls hl => ?_)
  refine lv_iconst (v := 0) hx hb dX3_numberToken_2 (by decide) ?_
  refine lv_istore_n (lv' := [(2, .int (0 : Int32)), (1, .int (0 : Int32)), (0, .ref (ow_ad Z 7))]) hx hb dX3_numberToken_3 rfl hl (by decide) rfl (fun ls hl => ?_)
  refine lv_aload_n hx hb dX3_numberToken_4 rfl (lv_at hl 2 rfl) ?_
  refine ow_getV (ci := 3) (C := RX3) (T := TX3) (N := 7) hx hb hts hown hG hW ow_i7 (by decide) rfl hinX3 2 (by decide) (fk := 0) rfl (hts (.fieldLink RX3 19 "FiftyOneCards$Reader" "next" "I") (by decide +kernel)) (v := .int (σ.1 7 2)) rfl dX3_numberToken_5 ?_
  refine ow_topi hf (fun x3_8 hf => ?_)
  refine lv_istore_n (lv' := [(3, .int x3_8), (2, .int (0 : Int32)), (1, .int (0 : Int32)), (0, .ref (ow_ad Z 7))]) hx hb dX3_numberToken_8 rfl hl (by decide) rfl (fun ls hl => ?_)
  exact hJ9 fu (0 : Int32) (0 : Int32) x3_8 σ _ _ _ hf hW (lv_sub hl [3, 2, 1, 0] rfl)
set_option maxHeartbeats 40000000 in
set_option maxRecDepth 100000 in
theorem c_X3_signToken (l : Launch) (Z : ow_Z) (fu : Nat) (a1 : Int32) (σ : ow_S) (rr : Int32) (σr : ow_S) (hf : f_X3_signToken fu a1 σ = some (rr, σr)) : Met l yX3_signToken wsX3_signToken { frames := 1, cells := 0, slots := 0, locals := 60 } (ow_Pc Z 0 56 [.int a1] σ) (ow_Qi Z 0 56 rr σr) 0 0 (ow_A Z 0 56) := by
  refine Met.ofW (cc := cX3_signToken) (maxL := 1) (ret := (some .int)) (by decide) rfl ?_
  intro p e s m args below meth c s₁ B hml hv
  obtain ⟨hav, hB⟩ := hv
  obtain ⟨hG, hW⟩ := ow_begin hB
  have hx := B.exec
  have hb := B.bytes
  have hr := B.returns
  have hts := atoms_spec (ws := wsX3_signToken) B.pre
  have hown : s.vm.findClass RX3 = some m.cls := findClass_of_methodNamed B.named
  have hlocks := B.notSynchronized
  have hl := lv_entry ([.int a1]) (n := 1) (Nat.le_of_ble_eq_true rfl)
  refine W.eq (g2 := F0 m 0 ((lg_sl ([.int a1]) ++ List.replicate (1 - (lg_sl ([.int a1])).length) Slot.unset).toArray) []) (by rw [hav]; exact lg_entry_eq _ _ _) ?_
  generalize (lg_sl ([.int a1]) ++ List.replicate (1 - (lg_sl ([.int a1])).length) Slot.unset).toArray = ls at hl ⊢
  have hl : lv_has ls 1 [(0, .int a1)] := hl
  unfold f_X3_signToken at hf
  refine lv_iload_n hx hb dX3_signToken_0 rfl (lv_at hl 0 rfl) ?_
  by_cases c1_40 : a1 = (40 : Int32)
  · replace hf := ow_if_t c1_40 hf
    refine lv_tableIn (off := 103) (tgt := 104) hx hb dX3_signToken_1 (by rw [c1_40]; decide) (by rw [c1_40]; decide) (by rw [c1_40]; rfl) (by decide) ?_
    refine lv_bipush (v := 15) hx hb dX3_signToken_104 (by decide) ?_
    exact ow_iret hx hb hr hW hf dX3_signToken_106 hlocks
  · replace hf := ow_if_f c1_40 hf
    by_cases c1_41 : a1 = (41 : Int32)
    · replace hf := ow_if_t c1_41 hf
      refine lv_tableIn (off := 106) (tgt := 107) hx hb dX3_signToken_1 (by rw [c1_41]; decide) (by rw [c1_41]; decide) (by rw [c1_41]; rfl) (by decide) ?_
      refine lv_bipush (v := 16) hx hb dX3_signToken_107 (by decide) ?_
      exact ow_iret hx hb hr hW hf dX3_signToken_109 hlocks
    · replace hf := ow_if_f c1_41 hf
      by_cases c1_42 : a1 = (42 : Int32)
      · replace hf := ow_if_t c1_42 hf
        refine lv_tableIn (off := 118) (tgt := 119) hx hb dX3_signToken_1 (by rw [c1_42]; decide) (by rw [c1_42]; decide) (by rw [c1_42]; rfl) (by decide) ?_
        refine lv_bipush (v := 13) hx hb dX3_signToken_119 (by decide) ?_
        exact ow_iret hx hb hr hW hf dX3_signToken_121 hlocks
      · replace hf := ow_if_f c1_42 hf
        by_cases c1_43 : a1 = (43 : Int32)
        · replace hf := ow_if_t c1_43 hf
          refine lv_tableIn (off := 112) (tgt := 113) hx hb dX3_signToken_1 (by rw [c1_43]; decide) (by rw [c1_43]; decide) (by rw [c1_43]; rfl) (by decide) ?_
          refine lv_bipush (v := 11) hx hb dX3_signToken_113 (by decide) ?_
          exact ow_iret hx hb hr hW hf dX3_signToken_115 hlocks
        · replace hf := ow_if_f c1_43 hf
          by_cases c1_44 : a1 = (44 : Int32)
          · replace hf := ow_if_t c1_44 hf
            refine lv_tableIn (off := 127) (tgt := 128) hx hb dX3_signToken_1 (by rw [c1_44]; decide) (by rw [c1_44]; decide) (by rw [c1_44]; rfl) (by decide) ?_
            refine lv_bipush (v := 22) hx hb dX3_signToken_128 (by decide) ?_
            exact ow_iret hx hb hr hW hf dX3_signToken_130 hlocks
          · replace hf := ow_if_f c1_44 hf
            by_cases c1_45 : a1 = (45 : Int32)
            · replace hf := ow_if_t c1_45 hf
              refine lv_tableIn (off := 115) (tgt := 116) hx hb dX3_signToken_1 (by rw [c1_45]; decide) (by rw [c1_45]; decide) (by rw [c1_45]; rfl) (by decide) ?_
              refine lv_bipush (v := 12) hx hb dX3_signToken_116 (by decide) ?_
              exact ow_iret hx hb hr hW hf dX3_signToken_118 hlocks
            · replace hf := ow_if_f c1_45 hf
              by_cases c1_46 : a1 = (46 : Int32)
              · replace hf := ow_if_t c1_46 hf
                refine lv_tableIn (off := 127) (tgt := 128) hx hb dX3_signToken_1 (by rw [c1_46]; decide) (by rw [c1_46]; decide) (by rw [c1_46]; rfl) (by decide) ?_
                refine lv_bipush (v := 22) hx hb dX3_signToken_128 (by decide) ?_
                exact ow_iret hx hb hr hW hf dX3_signToken_130 hlocks
              · replace hf := ow_if_f c1_46 hf
                by_cases c1_47 : a1 = (47 : Int32)
                · replace hf := ow_if_t c1_47 hf
                  refine lv_tableIn (off := 127) (tgt := 128) hx hb dX3_signToken_1 (by rw [c1_47]; decide) (by rw [c1_47]; decide) (by rw [c1_47]; rfl) (by decide) ?_
                  refine lv_bipush (v := 22) hx hb dX3_signToken_128 (by decide) ?_
                  exact ow_iret hx hb hr hW hf dX3_signToken_130 hlocks
                · replace hf := ow_if_f c1_47 hf
                  by_cases c1_48 : a1 = (48 : Int32)
                  · replace hf := ow_if_t c1_48 hf
                    refine lv_tableIn (off := 127) (tgt := 128) hx hb dX3_signToken_1 (by rw [c1_48]; decide) (by rw [c1_48]; decide) (by rw [c1_48]; rfl) (by decide) ?_
                    refine lv_bipush (v := 22) hx hb dX3_signToken_128 (by decide) ?_
                    exact ow_iret hx hb hr hW hf dX3_signToken_130 hlocks
                  · replace hf := ow_if_f c1_48 hf
                    by_cases c1_49 : a1 = (49 : Int32)
                    · replace hf := ow_if_t c1_49 hf
                      refine lv_tableIn (off := 127) (tgt := 128) hx hb dX3_signToken_1 (by rw [c1_49]; decide) (by rw [c1_49]; decide) (by rw [c1_49]; rfl) (by decide) ?_
                      refine lv_bipush (v := 22) hx hb dX3_signToken_128 (by decide) ?_
                      exact ow_iret hx hb hr hW hf dX3_signToken_130 hlocks
                    · replace hf := ow_if_f c1_49 hf
                      by_cases c1_50 : a1 = (50 : Int32)
                      · replace hf := ow_if_t c1_50 hf
                        refine lv_tableIn (off := 127) (tgt := 128) hx hb dX3_signToken_1 (by rw [c1_50]; decide) (by rw [c1_50]; decide) (by rw [c1_50]; rfl) (by decide) ?_
                        refine lv_bipush (v := 22) hx hb dX3_signToken_128 (by decide) ?_
                        exact ow_iret hx hb hr hW hf dX3_signToken_130 hlocks
                      · replace hf := ow_if_f c1_50 hf
                        by_cases c1_51 : a1 = (51 : Int32)
                        · replace hf := ow_if_t c1_51 hf
                          refine lv_tableIn (off := 127) (tgt := 128) hx hb dX3_signToken_1 (by rw [c1_51]; decide) (by rw [c1_51]; decide) (by rw [c1_51]; rfl) (by decide) ?_
                          refine lv_bipush (v := 22) hx hb dX3_signToken_128 (by decide) ?_
                          exact ow_iret hx hb hr hW hf dX3_signToken_130 hlocks
                        · replace hf := ow_if_f c1_51 hf
                          by_cases c1_52 : a1 = (52 : Int32)
                          · replace hf := ow_if_t c1_52 hf
                            refine lv_tableIn (off := 127) (tgt := 128) hx hb dX3_signToken_1 (by rw [c1_52]; decide) (by rw [c1_52]; decide) (by rw [c1_52]; rfl) (by decide) ?_
                            refine lv_bipush (v := 22) hx hb dX3_signToken_128 (by decide) ?_
                            exact ow_iret hx hb hr hW hf dX3_signToken_130 hlocks
                          · replace hf := ow_if_f c1_52 hf
                            by_cases c1_53 : a1 = (53 : Int32)
                            · replace hf := ow_if_t c1_53 hf
                              refine lv_tableIn (off := 127) (tgt := 128) hx hb dX3_signToken_1 (by rw [c1_53]; decide) (by rw [c1_53]; decide) (by rw [c1_53]; rfl) (by decide) ?_
                              refine lv_bipush (v := 22) hx hb dX3_signToken_128 (by decide) ?_
                              exact ow_iret hx hb hr hW hf dX3_signToken_130 hlocks
                            · replace hf := ow_if_f c1_53 hf
                              by_cases c1_54 : a1 = (54 : Int32)
                              · replace hf := ow_if_t c1_54 hf
                                refine lv_tableIn (off := 127) (tgt := 128) hx hb dX3_signToken_1 (by rw [c1_54]; decide) (by rw [c1_54]; decide) (by rw [c1_54]; rfl) (by decide) ?_
                                refine lv_bipush (v := 22) hx hb dX3_signToken_128 (by decide) ?_
                                exact ow_iret hx hb hr hW hf dX3_signToken_130 hlocks
                              · replace hf := ow_if_f c1_54 hf
                                by_cases c1_55 : a1 = (55 : Int32)
                                · replace hf := ow_if_t c1_55 hf
                                  refine lv_tableIn (off := 127) (tgt := 128) hx hb dX3_signToken_1 (by rw [c1_55]; decide) (by rw [c1_55]; decide) (by rw [c1_55]; rfl) (by decide) ?_
                                  refine lv_bipush (v := 22) hx hb dX3_signToken_128 (by decide) ?_
                                  exact ow_iret hx hb hr hW hf dX3_signToken_130 hlocks
                                · replace hf := ow_if_f c1_55 hf
                                  by_cases c1_56 : a1 = (56 : Int32)
                                  · replace hf := ow_if_t c1_56 hf
                                    refine lv_tableIn (off := 127) (tgt := 128) hx hb dX3_signToken_1 (by rw [c1_56]; decide) (by rw [c1_56]; decide) (by rw [c1_56]; rfl) (by decide) ?_
                                    refine lv_bipush (v := 22) hx hb dX3_signToken_128 (by decide) ?_
                                    exact ow_iret hx hb hr hW hf dX3_signToken_130 hlocks
                                  · replace hf := ow_if_f c1_56 hf
                                    by_cases c1_57 : a1 = (57 : Int32)
                                    · replace hf := ow_if_t c1_57 hf
                                      refine lv_tableIn (off := 127) (tgt := 128) hx hb dX3_signToken_1 (by rw [c1_57]; decide) (by rw [c1_57]; decide) (by rw [c1_57]; rfl) (by decide) ?_
                                      refine lv_bipush (v := 22) hx hb dX3_signToken_128 (by decide) ?_
                                      exact ow_iret hx hb hr hW hf dX3_signToken_130 hlocks
                                    · replace hf := ow_if_f c1_57 hf
                                      by_cases c1_58 : a1 = (58 : Int32)
                                      · replace hf := ow_if_t c1_58 hf
                                        refine lv_tableIn (off := 127) (tgt := 128) hx hb dX3_signToken_1 (by rw [c1_58]; decide) (by rw [c1_58]; decide) (by rw [c1_58]; rfl) (by decide) ?_
                                        refine lv_bipush (v := 22) hx hb dX3_signToken_128 (by decide) ?_
                                        exact ow_iret hx hb hr hW hf dX3_signToken_130 hlocks
                                      · replace hf := ow_if_f c1_58 hf
                                        by_cases c1_59 : a1 = (59 : Int32)
                                        · replace hf := ow_if_t c1_59 hf
                                          refine lv_tableIn (off := 109) (tgt := 110) hx hb dX3_signToken_1 (by rw [c1_59]; decide) (by rw [c1_59]; decide) (by rw [c1_59]; rfl) (by decide) ?_
                                          refine lv_bipush (v := 17) hx hb dX3_signToken_110 (by decide) ?_
                                          exact ow_iret hx hb hr hW hf dX3_signToken_112 hlocks
                                        · replace hf := ow_if_f c1_59 hf
                                          by_cases c1_60 : a1 = (60 : Int32)
                                          · replace hf := ow_if_t c1_60 hf
                                            refine lv_tableIn (off := 121) (tgt := 122) hx hb dX3_signToken_1 (by rw [c1_60]; decide) (by rw [c1_60]; decide) (by rw [c1_60]; rfl) (by decide) ?_
                                            refine lv_bipush (v := 9) hx hb dX3_signToken_122 (by decide) ?_
                                            exact ow_iret hx hb hr hW hf dX3_signToken_124 hlocks
                                          · replace hf := ow_if_f c1_60 hf
                                            by_cases c1_61 : a1 = (61 : Int32)
                                            · replace hf := ow_if_t c1_61 hf
                                              refine lv_tableIn (off := 124) (tgt := 125) hx hb dX3_signToken_1 (by rw [c1_61]; decide) (by rw [c1_61]; decide) (by rw [c1_61]; rfl) (by decide) ?_
                                              refine lv_bipush (v := 10) hx hb dX3_signToken_125 (by decide) ?_
                                              exact ow_iret hx hb hr hW hf dX3_signToken_127 hlocks
                                            · replace hf := ow_if_f c1_61 hf
                                              have e1_40 := lv_neT c1_40 (a := 40) (by decide)
                                              have e1_41 := lv_neT c1_41 (a := 41) (by decide)
                                              have e1_42 := lv_neT c1_42 (a := 42) (by decide)
                                              have e1_43 := lv_neT c1_43 (a := 43) (by decide)
                                              have e1_44 := lv_neT c1_44 (a := 44) (by decide)
                                              have e1_45 := lv_neT c1_45 (a := 45) (by decide)
                                              have e1_46 := lv_neT c1_46 (a := 46) (by decide)
                                              have e1_47 := lv_neT c1_47 (a := 47) (by decide)
                                              have e1_48 := lv_neT c1_48 (a := 48) (by decide)
                                              have e1_49 := lv_neT c1_49 (a := 49) (by decide)
                                              have e1_50 := lv_neT c1_50 (a := 50) (by decide)
                                              have e1_51 := lv_neT c1_51 (a := 51) (by decide)
                                              have e1_52 := lv_neT c1_52 (a := 52) (by decide)
                                              have e1_53 := lv_neT c1_53 (a := 53) (by decide)
                                              have e1_54 := lv_neT c1_54 (a := 54) (by decide)
                                              have e1_55 := lv_neT c1_55 (a := 55) (by decide)
                                              have e1_56 := lv_neT c1_56 (a := 56) (by decide)
                                              have e1_57 := lv_neT c1_57 (a := 57) (by decide)
                                              have e1_58 := lv_neT c1_58 (a := 58) (by decide)
                                              have e1_59 := lv_neT c1_59 (a := 59) (by decide)
                                              have e1_60 := lv_neT c1_60 (a := 60) (by decide)
                                              have e1_61 := lv_neT c1_61 (a := 61) (by decide)
                                              refine lv_tableOut (tgt := 128) hx hb dX3_signToken_1 (by omega) (by decide) ?_
                                              refine lv_bipush (v := 22) hx hb dX3_signToken_128 (by decide) ?_
                                              exact ow_iret hx hb hr hW hf dX3_signToken_130 hlocks
set_option maxHeartbeats 40000000 in
set_option maxRecDepth 100000 in
theorem c_X3_advance (l : Launch) (Z : ow_Z) (fu : Nat) (σ : ow_S) (σr : ow_S) (hf : f_X3_advance fu σ = some σr) : Met l yX3_advance wsX3_advance { frames := 8, cells := 0, slots := 0, locals := 446 } (ow_Pc Z 0 56 [.ref (ow_ad Z 7)] σ) (ow_Qv Z 0 56 σr) 0 0 (ow_A Z 0 56) := by
  refine Met.ofW (cc := cX3_advance) (maxL := 2) (ret := none) (by decide) rfl ?_
  intro p e s m args below meth c s₁ B hml hv
  obtain ⟨hav, hB⟩ := hv
  obtain ⟨hG, hW⟩ := ow_begin hB
  have hx := B.exec
  have hb := B.bytes
  have hr := B.returns
  have hts := atoms_spec (ws := wsX3_advance) B.pre
  have hown : s.vm.findClass RX3 = some m.cls := findClass_of_methodNamed B.named
  have hlocks := B.notSynchronized
  have hinX3 : ∀ w ∈ wsX30, w ∈ wsX3_advance := by decide +kernel
  have hJ38 : ∀ (σ : ow_S) (H : Heap) (locs : List Loc) (ls : Array Slot), L_X3_advance_38 fu σ = some σr → ow_Wd Z 0 56 σ s H locs → lv_has ls 2 [(0, .ref (ow_ad Z 7))] → W p l e (headSpec wsX3_advance { frames := 8, cells := 0, slots := 0, locals := 446 }).room s m args below meth c H locs 0 0 (MQ below (ow_Qv Z 0 56 σr) args s 0 0 (ow_A Z 0 56)) (F0 m 38 ls []) := by
    intro σ H locs ls hf hW hl
    unfold L_X3_advance_38 at hf
    refine lv_aload_n hx hb dX3_advance_38 rfl (lv_at hl 0 rfl) ?_
    refine lv_aload_n hx hb dX3_advance_39 rfl (lv_at hl 0 rfl) ?_
    refine ow_getV (ci := 3) (C := RX3) (T := TX3) (N := 7) hx hb hts hown hG hW ow_i7 (by decide) rfl hinX3 2 (by decide) (fk := 0) rfl (hts (.fieldLink RX3 19 "FiftyOneCards$Reader" "next" "I") (by decide +kernel)) (v := .int (σ.1 7 2)) rfl dX3_advance_40 ?_
    refine ow_putI (ci := 3) (C := RX3) (T := TX3) (N := 7) hx hb hts hown hG hW ow_i7 (by decide) rfl hinX3 tyX3 tyX3_ok nmX3 4 (by decide) rfl (hts (.fieldLink RX3 25 "FiftyOneCards$Reader" "tokenPlace" "I") (by decide +kernel)) rfl rfl rfl hf dX3_advance_43 (fun σ_43 H locs hf hW => ?_)
    refine lv_aload_n hx hb dX3_advance_46 rfl (lv_at hl 0 rfl) ?_
    refine ow_getV (ci := 3) (C := RX3) (T := TX3) (N := 7) hx hb hts hown hG hW ow_i7 (by decide) rfl hinX3 2 (by decide) (fk := 0) rfl (hts (.fieldLink RX3 19 "FiftyOneCards$Reader" "next" "I") (by decide +kernel)) (v := .int (σ_43.1 7 2)) rfl dX3_advance_47 ?_
    refine lv_aload_n hx hb dX3_advance_50 rfl (lv_at hl 0 rfl) ?_
    refine ow_getV (ci := 3) (C := RX3) (T := TX3) (N := 7) hx hb hts hown hG hW ow_i7 (by decide) rfl hinX3 1 (by decide) (fk := 0) rfl (hts (.fieldLink RX3 15 "FiftyOneCards$Reader" "size" "I") (by decide +kernel)) (v := .int (σ_43.1 7 1)) rfl dX3_advance_51 ?_
    refine lv_icmp_lt (tgt := 66) hx hb dX3_advance_54 (by decide) (fun c54 => ?_) (fun c54 => ?_)
    · replace hf := ow_if_t c54 hf
      refine lv_aload_n hx hb dX3_advance_66 rfl (lv_at hl 0 rfl) ?_
      refine ow_getV (ci := 3) (C := RX3) (T := TX3) (N := 7) hx hb hts hown hG hW ow_i7 (by decide) rfl hinX3 0 (by decide) (fk := 2) rfl (hts (.fieldLink RX3 9 "FiftyOneCards$Reader" "tape" "[I") (by decide +kernel)) (v := .ref (ow_ad Z 8)) (ow_vR hW ow_i7.1 ow_i7.2.1 rfl) dX3_advance_67 ?_
      refine lv_aload_n hx hb dX3_advance_70 rfl (lv_at hl 0 rfl) ?_
      refine ow_getV (ci := 3) (C := RX3) (T := TX3) (N := 7) hx hb hts hown hG hW ow_i7 (by decide) rfl hinX3 2 (by decide) (fk := 0) rfl (hts (.fieldLink RX3 19 "FiftyOneCards$Reader" "next" "I") (by decide +kernel)) (v := .int (σ_43.1 7 2)) rfl dX3_advance_71 ?_
      obtain ⟨q74, hf⟩ := ow_ck_i hf
      refine ow_ild (q := (σ_43.1 7 2).toNatClampNeg) hx hb hG hW ow_i8 rfl q74 rfl dX3_advance_74 ?_
      obtain ⟨r_75, σ_75, hc75, hf⟩ := ow_cl_i hf
      refine ow_callz (va_runS (As := [.int (σ_43.1 8 (σ_43.1 7 2).toNatClampNeg)]) (rest := []) ⟨hx, hb, hml, hown, hts⟩ (c_X3_isLetter l Z fu (σ_43.1 8 (σ_43.1 7 2).toNatClampNeg) σ_43 r_75 σ_75 hc75) (va_cwS 1 hts gX3_advance_X3_isLetter rfl rfl rfl (by decide +kernel) ⟨Nat.le_of_ble_eq_true rfl, Nat.le_of_ble_eq_true rfl⟩) (ow_preS hG hW) rfl rfl hl.1 rfl (lv_room (Nat.le_of_ble_eq_true rfl)) dX3_advance_75 ⟨Nat.zero_le _, Nat.zero_le _⟩) hW (fun b75 H locs hW => ?_)
      refine lv_if_eq (tgt := 101) hx hb dX3_advance_78 (by decide) (fun c78 => ?_) (fun c78 => ?_)
      · replace hf := ow_if_t c78 hf
        refine lv_aload_n hx hb dX3_advance_101 rfl (lv_at hl 0 rfl) ?_
        refine ow_getV (ci := 3) (C := RX3) (T := TX3) (N := 7) hx hb hts hown hG hW ow_i7 (by decide) rfl hinX3 0 (by decide) (fk := 2) rfl (hts (.fieldLink RX3 9 "FiftyOneCards$Reader" "tape" "[I") (by decide +kernel)) (v := .ref (ow_ad Z 8)) (ow_vR hW ow_i7.1 ow_i7.2.1 rfl) dX3_advance_102 ?_
        refine lv_aload_n hx hb dX3_advance_105 rfl (lv_at hl 0 rfl) ?_
        refine ow_getV (ci := 3) (C := RX3) (T := TX3) (N := 7) hx hb hts hown hG hW ow_i7 (by decide) rfl hinX3 2 (by decide) (fk := 0) rfl (hts (.fieldLink RX3 19 "FiftyOneCards$Reader" "next" "I") (by decide +kernel)) (v := .int (σ_75.1 7 2)) rfl dX3_advance_106 ?_
        obtain ⟨q109, hf⟩ := ow_ck_i hf
        refine ow_ild (q := (σ_75.1 7 2).toNatClampNeg) hx hb hG hW ow_i8 rfl q109 rfl dX3_advance_109 ?_
        obtain ⟨r_110, σ_110, hc110, hf⟩ := ow_cl_i hf
        refine ow_callz (va_runS (As := [.int (σ_75.1 8 (σ_75.1 7 2).toNatClampNeg)]) (rest := []) ⟨hx, hb, hml, hown, hts⟩ (c_X3_isDigit l Z fu (σ_75.1 8 (σ_75.1 7 2).toNatClampNeg) σ_75 r_110 σ_110 hc110) (va_cwS 1 hts gX3_advance_X3_isDigit rfl rfl rfl (by decide +kernel) ⟨Nat.le_of_ble_eq_true rfl, Nat.le_of_ble_eq_true rfl⟩) (ow_preS hG hW) rfl rfl hl.1 rfl (lv_room (Nat.le_of_ble_eq_true rfl)) dX3_advance_110 ⟨Nat.zero_le _, Nat.zero_le _⟩) hW (fun b110 H locs hW => ?_)
        refine lv_if_eq (tgt := 127) hx hb dX3_advance_113 (by decide) (fun c113 => ?_) (fun c113 => ?_)
        · replace hf := ow_if_t c113 hf
          refine lv_aload_n hx hb dX3_advance_127 rfl (lv_at hl 0 rfl) ?_
          refine lv_aload_n hx hb dX3_advance_128 rfl (lv_at hl 0 rfl) ?_
          refine ow_getV (ci := 3) (C := RX3) (T := TX3) (N := 7) hx hb hts hown hG hW ow_i7 (by decide) rfl hinX3 0 (by decide) (fk := 2) rfl (hts (.fieldLink RX3 9 "FiftyOneCards$Reader" "tape" "[I") (by decide +kernel)) (v := .ref (ow_ad Z 8)) (ow_vR hW ow_i7.1 ow_i7.2.1 rfl) dX3_advance_129 ?_
          refine lv_aload_n hx hb dX3_advance_132 rfl (lv_at hl 0 rfl) ?_
          refine ow_getV (ci := 3) (C := RX3) (T := TX3) (N := 7) hx hb hts hown hG hW ow_i7 (by decide) rfl hinX3 2 (by decide) (fk := 0) rfl (hts (.fieldLink RX3 19 "FiftyOneCards$Reader" "next" "I") (by decide +kernel)) (v := .int (σ_110.1 7 2)) rfl dX3_advance_133 ?_
          obtain ⟨q136, hf⟩ := ow_ck_i hf
          refine ow_ild (q := (σ_110.1 7 2).toNatClampNeg) hx hb hG hW ow_i8 rfl q136 rfl dX3_advance_136 ?_
          obtain ⟨r_137, σ_137, hc137, hf⟩ := ow_cl_i hf
          refine ow_calli (va_runS (As := [.int (σ_110.1 8 (σ_110.1 7 2).toNatClampNeg)]) (rest := [.ref (ow_ad Z 7)]) ⟨hx, hb, hml, hown, hts⟩ (c_X3_signToken l Z fu (σ_110.1 8 (σ_110.1 7 2).toNatClampNeg) σ_110 r_137 σ_137 hc137) (va_cwS 1 hts gX3_advance_X3_signToken rfl rfl rfl (by decide +kernel) ⟨Nat.le_of_ble_eq_true rfl, Nat.le_of_ble_eq_true rfl⟩) (ow_preS hG hW) rfl rfl hl.1 rfl (lv_room (Nat.le_of_ble_eq_true rfl)) dX3_advance_137 ⟨Nat.zero_le _, Nat.zero_le _⟩) hW (fun H locs hW => ?_)
          refine ow_putI (ci := 3) (C := RX3) (T := TX3) (N := 7) hx hb hts hown hG hW ow_i7 (by decide) rfl hinX3 tyX3 tyX3_ok nmX3 3 (by decide) rfl (hts (.fieldLink RX3 22 "FiftyOneCards$Reader" "token" "I") (by decide +kernel)) rfl rfl rfl hf dX3_advance_140 (fun σ_140 H locs hf hW => ?_)
          refine lv_aload_n hx hb dX3_advance_143 rfl (lv_at hl 0 rfl) ?_
          refine lv_dup hx hb dX3_advance_144 rfl ?_
          refine ow_getV (ci := 3) (C := RX3) (T := TX3) (N := 7) hx hb hts hown hG hW ow_i7 (by decide) rfl hinX3 2 (by decide) (fk := 0) rfl (hts (.fieldLink RX3 19 "FiftyOneCards$Reader" "next" "I") (by decide +kernel)) (v := .int (σ_140.1 7 2)) rfl dX3_advance_145 ?_
          refine lv_iconst (v := 1) hx hb dX3_advance_148 (by decide) ?_
          refine lv_iadd hx hb dX3_advance_149 ?_
          refine ow_putI (ci := 3) (C := RX3) (T := TX3) (N := 7) hx hb hts hown hG hW ow_i7 (by decide) rfl hinX3 tyX3 tyX3_ok nmX3 2 (by decide) rfl (hts (.fieldLink RX3 19 "FiftyOneCards$Reader" "next" "I") (by decide +kernel)) rfl rfl rfl hf dX3_advance_150 (fun σ_150 H locs hf hW => ?_)
          exact ow_vret hx hb hr hW hf dX3_advance_153 hlocks
        · replace hf := ow_if_f c113 hf
          refine lv_aload_n hx hb dX3_advance_116 rfl (lv_at hl 0 rfl) ?_
          refine lv_aload_n hx hb dX3_advance_117 rfl (lv_at hl 0 rfl) ?_
          obtain ⟨r_118, σ_118, hc118, hf⟩ := ow_cl_i hf
          refine ow_calli (va_runV (As := []) (rest := [.ref (ow_ad Z 7)]) ⟨hx, hb, hml, hown, hts⟩ (c_X3_numberToken l Z fu σ_110 r_118 σ_118 hc118) (cwV 0 hts gX3_advance_X3_numberToken rfl rfl rfl (by decide +kernel) ⟨Nat.le_of_ble_eq_true rfl, Nat.le_of_ble_eq_true rfl⟩) (ow_preV hG hW ow_i7 (by decide) rfl) rfl rfl hl.1 rfl (lv_room (Nat.le_of_ble_eq_true rfl)) dX3_advance_118 ⟨Nat.zero_le _, Nat.zero_le _⟩) hW (fun H locs hW => ?_)
          refine ow_putI (ci := 3) (C := RX3) (T := TX3) (N := 7) hx hb hts hown hG hW ow_i7 (by decide) rfl hinX3 tyX3 tyX3_ok nmX3 3 (by decide) rfl (hts (.fieldLink RX3 22 "FiftyOneCards$Reader" "token" "I") (by decide +kernel)) rfl rfl rfl hf dX3_advance_121 (fun σ_121 H locs hf hW => ?_)
          refine lv_goto (tgt := 153) hx hb dX3_advance_124 (by decide) ?_
          exact ow_vret hx hb hr hW hf dX3_advance_153 hlocks
      · replace hf := ow_if_f c78 hf
        refine lv_aload_n hx hb dX3_advance_81 rfl (lv_at hl 0 rfl) ?_
        refine lv_aload_n hx hb dX3_advance_82 rfl (lv_at hl 0 rfl) ?_
        refine lv_aload_n hx hb dX3_advance_83 rfl (lv_at hl 0 rfl) ?_
        obtain ⟨r_84, σ_84, hc84, hf⟩ := ow_cl_i hf
        refine ow_calli (va_runV (As := []) (rest := [.ref (ow_ad Z 7), .ref (ow_ad Z 7)]) ⟨hx, hb, hml, hown, hts⟩ (c_X3_endOfLetters l Z fu σ_75 r_84 σ_84 hc84) (cwV 0 hts gX3_advance_X3_endOfLetters rfl rfl rfl (by decide +kernel) ⟨Nat.le_of_ble_eq_true rfl, Nat.le_of_ble_eq_true rfl⟩) (ow_preV hG hW ow_i7 (by decide) rfl) rfl rfl hl.1 rfl (lv_room (Nat.le_of_ble_eq_true rfl)) dX3_advance_84 ⟨Nat.zero_le _, Nat.zero_le _⟩) hW (fun H locs hW => ?_)
        refine lv_aload_n hx hb dX3_advance_87 rfl (lv_at hl 0 rfl) ?_
        refine ow_getV (ci := 3) (C := RX3) (T := TX3) (N := 7) hx hb hts hown hG hW ow_i7 (by decide) rfl hinX3 2 (by decide) (fk := 0) rfl (hts (.fieldLink RX3 19 "FiftyOneCards$Reader" "next" "I") (by decide +kernel)) (v := .int (σ_84.1 7 2)) rfl dX3_advance_88 ?_
        refine lv_isub hx hb dX3_advance_91 ?_
        obtain ⟨r_92, σ_92, hc92, hf⟩ := ow_cl_i hf
        refine ow_calli (va_runV (As := [.int (r_84 - (σ_84.1 7 2))]) (rest := [.ref (ow_ad Z 7)]) ⟨hx, hb, hml, hown, hts⟩ (c_X3_wordToken l Z fu (r_84 - (σ_84.1 7 2)) σ_84 r_92 σ_92 hc92) (cwV 1 hts gX3_advance_X3_wordToken rfl rfl rfl (by decide +kernel) ⟨Nat.le_of_ble_eq_true rfl, Nat.le_of_ble_eq_true rfl⟩) (ow_preV hG hW ow_i7 (by decide) rfl) rfl rfl hl.1 rfl (lv_room (Nat.le_of_ble_eq_true rfl)) dX3_advance_92 ⟨Nat.zero_le _, Nat.zero_le _⟩) hW (fun H locs hW => ?_)
        refine ow_putI (ci := 3) (C := RX3) (T := TX3) (N := 7) hx hb hts hown hG hW ow_i7 (by decide) rfl hinX3 tyX3 tyX3_ok nmX3 3 (by decide) rfl (hts (.fieldLink RX3 22 "FiftyOneCards$Reader" "token" "I") (by decide +kernel)) rfl rfl rfl hf dX3_advance_95 (fun σ_95 H locs hf hW => ?_)
        refine lv_goto (tgt := 153) hx hb dX3_advance_98 (by decide) ?_
        exact ow_vret hx hb hr hW hf dX3_advance_153 hlocks
    · replace hf := ow_if_f c54 hf
      refine lv_aload_n hx hb dX3_advance_57 rfl (lv_at hl 0 rfl) ?_
      refine lv_bipush (v := 21) hx hb dX3_advance_58 (by decide) ?_
      refine ow_putI (ci := 3) (C := RX3) (T := TX3) (N := 7) hx hb hts hown hG hW ow_i7 (by decide) rfl hinX3 tyX3 tyX3_ok nmX3 3 (by decide) rfl (hts (.fieldLink RX3 22 "FiftyOneCards$Reader" "token" "I") (by decide +kernel)) rfl rfl rfl hf dX3_advance_60 (fun σ_60 H locs hf hW => ?_)
      refine lv_goto (tgt := 153) hx hb dX3_advance_63 (by decide) ?_
      exact ow_vret hx hb hr hW hf dX3_advance_153 hlocks
  have hJ5 : ∀ (fn : Nat), ∀ (x1 : Int32) (σ : ow_S) (H : Heap) (locs : List Loc) (ls : Array Slot), L_X3_advance_5 fu fn x1 σ = some σr → ow_Wd Z 0 56 σ s H locs → lv_has ls 2 [(0, .ref (ow_ad Z 7)), (1, .int x1)] → W p l e (headSpec wsX3_advance { frames := 8, cells := 0, slots := 0, locals := 446 }).room s m args below meth c H locs 0 0 (MQ below (ow_Qv Z 0 56 σr) args s 0 0 (ow_A Z 0 56)) (F0 m 5 ls []) := by
    intro fn
    induction fn with
    | zero => intro x1 σ H locs ls hf hW hl; simp [L_X3_advance_5] at hf
    | succ fn ih =>
      intro x1 σ H locs ls hf hW hl
      rw [L_X3_advance_5] at hf
      refine lv_iload_n hx hb dX3_advance_5 rfl (lv_at hl 1 rfl) ?_
      refine lv_aload_n hx hb dX3_advance_6 rfl (lv_at hl 0 rfl) ?_
      refine ow_getV (ci := 3) (C := RX3) (T := TX3) (N := 7) hx hb hts hown hG hW ow_i7 (by decide) rfl hinX3 1 (by decide) (fk := 0) rfl (hts (.fieldLink RX3 15 "FiftyOneCards$Reader" "size" "I") (by decide +kernel)) (v := .int (σ.1 7 1)) rfl dX3_advance_7 ?_
      refine lv_icmp_ge (tgt := 38) hx hb dX3_advance_10 (by decide) (fun c10 => ?_) (fun c10 => ?_)
      · replace hf := ow_if_t c10 hf
        exact hJ38 σ _ _ _ hf hW (lv_sub hl [0] rfl)
      · replace hf := ow_if_f c10 hf
        refine lv_aload_n hx hb dX3_advance_13 rfl (lv_at hl 0 rfl) ?_
        refine ow_getV (ci := 3) (C := RX3) (T := TX3) (N := 7) hx hb hts hown hG hW ow_i7 (by decide) rfl hinX3 0 (by decide) (fk := 2) rfl (hts (.fieldLink RX3 9 "FiftyOneCards$Reader" "tape" "[I") (by decide +kernel)) (v := .ref (ow_ad Z 8)) (ow_vR hW ow_i7.1 ow_i7.2.1 rfl) dX3_advance_14 ?_
        refine lv_iload_n hx hb dX3_advance_17 rfl (lv_at hl 1 rfl) ?_
        obtain ⟨q18, hf⟩ := ow_ck_i hf
        refine ow_ild (q := x1.toNatClampNeg) hx hb hG hW ow_i8 rfl q18 rfl dX3_advance_18 ?_
        obtain ⟨r_19, σ_19, hc19, hf⟩ := ow_cl_i hf
        refine ow_callz (va_runS (As := [.int (σ.1 8 x1.toNatClampNeg)]) (rest := []) ⟨hx, hb, hml, hown, hts⟩ (c_X3_isBlank l Z fu (σ.1 8 x1.toNatClampNeg) σ r_19 σ_19 hc19) (va_cwS 1 hts gX3_advance_X3_isBlank rfl rfl rfl (by decide +kernel) ⟨Nat.le_of_ble_eq_true rfl, Nat.le_of_ble_eq_true rfl⟩) (ow_preS hG hW) rfl rfl hl.1 rfl (lv_room (Nat.le_of_ble_eq_true rfl)) dX3_advance_19 ⟨Nat.zero_le _, Nat.zero_le _⟩) hW (fun b19 H locs hW => ?_)
        refine lv_if_eq (tgt := 38) hx hb dX3_advance_22 (by decide) (fun c22 => ?_) (fun c22 => ?_)
        · replace hf := ow_if_t c22 hf
          exact hJ38 σ_19 _ _ _ hf hW (lv_sub hl [0] rfl)
        · replace hf := ow_if_f c22 hf
          refine lv_aload_n hx hb dX3_advance_25 rfl (lv_at hl 0 rfl) ?_
          refine lv_iload_n hx hb dX3_advance_26 rfl (lv_at hl 1 rfl) ?_
          refine lv_iconst (v := 1) hx hb dX3_advance_27 (by decide) ?_
          refine lv_iadd hx hb dX3_advance_28 ?_
          refine ow_putI (ci := 3) (C := RX3) (T := TX3) (N := 7) hx hb hts hown hG hW ow_i7 (by decide) rfl hinX3 tyX3 tyX3_ok nmX3 2 (by decide) rfl (hts (.fieldLink RX3 19 "FiftyOneCards$Reader" "next" "I") (by decide +kernel)) rfl rfl rfl hf dX3_advance_29 (fun σ_29 H locs hf hW => ?_)
          refine ow_iinc (d := 1) (lv' := fun z => [(1, .int z), (0, .ref (ow_ad Z 7))]) hx hb hf dX3_advance_32 hl (k := 1) rfl (by decide) (by decide) (fun z => rfl) (fun x1_32 hf ls hl => ?_)
          refine lv_goto (tgt := 5) hx hb dX3_advance_35 (by decide) ?_
          exact ih x1_32 σ_29 _ _ _ hf hW (lv_sub hl [1, 0] rfl)
  have hl := lv_entry ([.ref (ow_ad Z 7)]) (n := 2) (Nat.le_of_ble_eq_true rfl)
  refine W.eq (g2 := F0 m 0 ((lg_sl ([.ref (ow_ad Z 7)]) ++ List.replicate (2 - (lg_sl ([.ref (ow_ad Z 7)])).length) Slot.unset).toArray) []) (by rw [hav]; exact lg_entry_eq _ _ _) ?_
  generalize (lg_sl ([.ref (ow_ad Z 7)]) ++ List.replicate (2 - (lg_sl ([.ref (ow_ad Z 7)])).length) Slot.unset).toArray = ls at hl ⊢
  have hl : lv_has ls 2 [(0, .ref (ow_ad Z 7))] := hl
  unfold f_X3_advance at hf
  refine lv_aload_n hx hb dX3_advance_0 rfl (lv_at hl 0 rfl) ?_
  refine ow_getV (ci := 3) (C := RX3) (T := TX3) (N := 7) hx hb hts hown hG hW ow_i7 (by decide) rfl hinX3 2 (by decide) (fk := 0) rfl (hts (.fieldLink RX3 19 "FiftyOneCards$Reader" "next" "I") (by decide +kernel)) (v := .int (σ.1 7 2)) rfl dX3_advance_1 ?_
  refine ow_topi hf (fun x1_4 hf => ?_)
  refine lv_istore_n (lv' := [(1, .int x1_4), (0, .ref (ow_ad Z 7))]) hx hb dX3_advance_4 rfl hl (by decide) rfl (fun ls hl => ?_)
  exact hJ5 fu x1_4 σ _ _ _ hf hW (lv_sub hl [1, 0] rfl)
set_option maxHeartbeats 40000000 in
set_option maxRecDepth 100000 in
theorem c_X3_refuse (l : Launch) (Z : ow_Z) (fu : Nat) (σ : ow_S) (σr : ow_S) (hf : f_X3_refuse fu σ = some σr) : Met l yX3_refuse wsX3_refuse { frames := 1, cells := 0, slots := 0, locals := 60 } (ow_Pc Z 0 56 [.ref (ow_ad Z 7)] σ) (ow_Qv Z 0 56 σr) 0 0 (ow_A Z 0 56) := by
  refine Met.ofW (cc := cX3_refuse) (maxL := 1) (ret := none) (by decide) rfl ?_
  intro p e s m args below meth c s₁ B hml hv
  obtain ⟨hav, hB⟩ := hv
  obtain ⟨hG, hW⟩ := ow_begin hB
  have hx := B.exec
  have hb := B.bytes
  have hr := B.returns
  have hts := atoms_spec (ws := wsX3_refuse) B.pre
  have hown : s.vm.findClass RX3 = some m.cls := findClass_of_methodNamed B.named
  have hlocks := B.notSynchronized
  have hinX3 : ∀ w ∈ wsX30, w ∈ wsX3_refuse := by decide +kernel
  have hJ16 : ∀ (σ : ow_S) (H : Heap) (locs : List Loc) (ls : Array Slot), L_X3_refuse_16 fu σ = some σr → ow_Wd Z 0 56 σ s H locs → lv_has ls 1 [(0, .ref (ow_ad Z 7))] → W p l e (headSpec wsX3_refuse { frames := 1, cells := 0, slots := 0, locals := 60 }).room s m args below meth c H locs 0 0 (MQ below (ow_Qv Z 0 56 σr) args s 0 0 (ow_A Z 0 56)) (F0 m 16 ls []) := by
    intro σ H locs ls hf hW hl
    unfold L_X3_refuse_16 at hf
    refine lv_aload_n hx hb dX3_refuse_16 rfl (lv_at hl 0 rfl) ?_
    refine lv_bipush (v := 22) hx hb dX3_refuse_17 (by decide) ?_
    refine ow_putI (ci := 3) (C := RX3) (T := TX3) (N := 7) hx hb hts hown hG hW ow_i7 (by decide) rfl hinX3 tyX3 tyX3_ok nmX3 3 (by decide) rfl (hts (.fieldLink RX3 22 "FiftyOneCards$Reader" "token" "I") (by decide +kernel)) rfl rfl rfl hf dX3_refuse_19 (fun σ_19 H locs hf hW => ?_)
    exact ow_vret hx hb hr hW hf dX3_refuse_22 hlocks
  have hl := lv_entry ([.ref (ow_ad Z 7)]) (n := 1) (Nat.le_of_ble_eq_true rfl)
  refine W.eq (g2 := F0 m 0 ((lg_sl ([.ref (ow_ad Z 7)]) ++ List.replicate (1 - (lg_sl ([.ref (ow_ad Z 7)])).length) Slot.unset).toArray) []) (by rw [hav]; exact lg_entry_eq _ _ _) ?_
  generalize (lg_sl ([.ref (ow_ad Z 7)]) ++ List.replicate (1 - (lg_sl ([.ref (ow_ad Z 7)])).length) Slot.unset).toArray = ls at hl ⊢
  have hl : lv_has ls 1 [(0, .ref (ow_ad Z 7))] := hl
  unfold f_X3_refuse at hf
  refine lv_aload_n hx hb dX3_refuse_0 rfl (lv_at hl 0 rfl) ?_
  refine ow_getV (ci := 3) (C := RX3) (T := TX3) (N := 7) hx hb hts hown hG hW ow_i7 (by decide) rfl hinX3 5 (by decide) (fk := 0) rfl (hts (.fieldLink RX3 28 "FiftyOneCards$Reader" "fault" "I") (by decide +kernel)) (v := .int (σ.1 7 5)) rfl dX3_refuse_1 ?_
  refine lv_iconst (v := -1) hx hb dX3_refuse_4 (by decide) ?_
  refine lv_icmp_ne (tgt := 16) hx hb dX3_refuse_5 (by decide) (fun c5 => ?_) (fun c5 => ?_)
  · replace hf := ow_if_f c5 hf
    exact hJ16 σ _ _ _ hf hW (lv_sub hl [0] rfl)
  · replace hf := ow_if_t c5 hf
    refine lv_aload_n hx hb dX3_refuse_8 rfl (lv_at hl 0 rfl) ?_
    refine lv_aload_n hx hb dX3_refuse_9 rfl (lv_at hl 0 rfl) ?_
    refine ow_getV (ci := 3) (C := RX3) (T := TX3) (N := 7) hx hb hts hown hG hW ow_i7 (by decide) rfl hinX3 4 (by decide) (fk := 0) rfl (hts (.fieldLink RX3 25 "FiftyOneCards$Reader" "tokenPlace" "I") (by decide +kernel)) (v := .int (σ.1 7 4)) rfl dX3_refuse_10 ?_
    refine ow_putI (ci := 3) (C := RX3) (T := TX3) (N := 7) hx hb hts hown hG hW ow_i7 (by decide) rfl hinX3 tyX3 tyX3_ok nmX3 5 (by decide) rfl (hts (.fieldLink RX3 28 "FiftyOneCards$Reader" "fault" "I") (by decide +kernel)) rfl rfl rfl hf dX3_refuse_13 (fun σ_13 H locs hf hW => ?_)
    exact hJ16 σ_13 _ _ _ hf hW (lv_sub hl [0] rfl)
set_option maxHeartbeats 40000000 in
set_option maxRecDepth 100000 in
theorem c_X3_expect (l : Launch) (Z : ow_Z) (fu : Nat) (a1 : Int32) (σ : ow_S) (σr : ow_S) (hf : f_X3_expect fu a1 σ = some σr) : Met l yX3_expect wsX3_expect { frames := 9, cells := 0, slots := 0, locals := 467 } (ow_Pc Z 0 56 [.ref (ow_ad Z 7), .int a1] σ) (ow_Qv Z 0 56 σr) 0 0 (ow_A Z 0 56) := by
  refine Met.ofW (cc := cX3_expect) (maxL := 2) (ret := none) (by decide) rfl ?_
  intro p e s m args below meth c s₁ B hml hv
  obtain ⟨hav, hB⟩ := hv
  obtain ⟨hG, hW⟩ := ow_begin hB
  have hx := B.exec
  have hb := B.bytes
  have hr := B.returns
  have hts := atoms_spec (ws := wsX3_expect) B.pre
  have hown : s.vm.findClass RX3 = some m.cls := findClass_of_methodNamed B.named
  have hlocks := B.notSynchronized
  have hinX3 : ∀ w ∈ wsX30, w ∈ wsX3_expect := by decide +kernel
  have hl := lv_entry ([.ref (ow_ad Z 7), .int a1]) (n := 2) (Nat.le_of_ble_eq_true rfl)
  refine W.eq (g2 := F0 m 0 ((lg_sl ([.ref (ow_ad Z 7), .int a1]) ++ List.replicate (2 - (lg_sl ([.ref (ow_ad Z 7), .int a1])).length) Slot.unset).toArray) []) (by rw [hav]; exact lg_entry_eq _ _ _) ?_
  generalize (lg_sl ([.ref (ow_ad Z 7), .int a1]) ++ List.replicate (2 - (lg_sl ([.ref (ow_ad Z 7), .int a1])).length) Slot.unset).toArray = ls at hl ⊢
  have hl : lv_has ls 2 [(0, .ref (ow_ad Z 7)), (1, .int a1)] := hl
  unfold f_X3_expect at hf
  refine lv_aload_n hx hb dX3_expect_0 rfl (lv_at hl 0 rfl) ?_
  refine ow_getV (ci := 3) (C := RX3) (T := TX3) (N := 7) hx hb hts hown hG hW ow_i7 (by decide) rfl hinX3 3 (by decide) (fk := 0) rfl (hts (.fieldLink RX3 22 "FiftyOneCards$Reader" "token" "I") (by decide +kernel)) (v := .int (σ.1 7 3)) rfl dX3_expect_1 ?_
  refine lv_iload_n hx hb dX3_expect_4 rfl (lv_at hl 1 rfl) ?_
  refine lv_icmp_ne (tgt := 15) hx hb dX3_expect_5 (by decide) (fun c5 => ?_) (fun c5 => ?_)
  · replace hf := ow_if_f c5 hf
    refine lv_aload_n hx hb dX3_expect_15 rfl (lv_at hl 0 rfl) ?_
    obtain ⟨σ_16, hc16, hf⟩ := ow_cv_i hf
    refine ow_callv (va_runV (As := []) (rest := []) ⟨hx, hb, hml, hown, hts⟩ (c_X3_refuse l Z fu σ σ_16  hc16) (cwV 0 hts gX3_expect_X3_refuse rfl rfl rfl (by decide +kernel) ⟨Nat.le_of_ble_eq_true rfl, Nat.le_of_ble_eq_true rfl⟩) (ow_preV hG hW ow_i7 (by decide) rfl) rfl rfl hl.1 rfl (lv_room (Nat.le_of_ble_eq_true rfl)) dX3_expect_16 ⟨Nat.zero_le _, Nat.zero_le _⟩) hW (fun H locs hW => ?_)
    exact ow_vret hx hb hr hW hf dX3_expect_19 hlocks
  · replace hf := ow_if_t c5 hf
    refine lv_aload_n hx hb dX3_expect_8 rfl (lv_at hl 0 rfl) ?_
    obtain ⟨σ_9, hc9, hf⟩ := ow_cv_i hf
    refine ow_callv (va_runV (As := []) (rest := []) ⟨hx, hb, hml, hown, hts⟩ (c_X3_advance l Z fu σ σ_9  hc9) (cwV 0 hts gX3_expect_X3_advance rfl rfl rfl (by decide +kernel) ⟨Nat.le_of_ble_eq_true rfl, Nat.le_of_ble_eq_true rfl⟩) (ow_preV hG hW ow_i7 (by decide) rfl) rfl rfl hl.1 rfl (lv_room (Nat.le_of_ble_eq_true rfl)) dX3_expect_9 ⟨Nat.zero_le _, Nat.zero_le _⟩) hW (fun H locs hW => ?_)
    refine lv_goto (tgt := 19) hx hb dX3_expect_12 (by decide) ?_
    exact ow_vret hx hb hr hW hf dX3_expect_19 hlocks
set_option maxHeartbeats 40000000 in
set_option maxRecDepth 100000 in
theorem c_X6_add (l : Launch) (Z : ow_Z) (fu : Nat) (h : Nat) (hh : ow_in 0 56 h 6) (a1 : Int32) (σ : ow_S) (σr : ow_S) (hf : f_X6_add fu h a1 σ = some σr) : Met l yX6_add wsX6_add { frames := 1, cells := 0, slots := 0, locals := 60 } (ow_Pc Z 0 56 [.ref (ow_ad Z h), .int a1] σ) (ow_Qv Z 0 56 σr) 0 0 (ow_A Z 0 56) := by
  refine Met.ofW (cc := cX6_add) (maxL := 2) (ret := none) (by decide) rfl ?_
  intro p e s m args below meth c s₁ B hml hv
  obtain ⟨hav, hB⟩ := hv
  obtain ⟨hG, hW⟩ := ow_begin hB
  have hx := B.exec
  have hb := B.bytes
  have hr := B.returns
  have hts := atoms_spec (ws := wsX6_add) B.pre
  have hown : s.vm.findClass RX6 = some m.cls := findClass_of_methodNamed B.named
  have hlocks := B.notSynchronized
  have hinX6 : ∀ w ∈ wsX60, w ∈ wsX6_add := by decide +kernel
  have hl := lv_entry ([.ref (ow_ad Z h), .int a1]) (n := 2) (Nat.le_of_ble_eq_true rfl)
  refine W.eq (g2 := F0 m 0 ((lg_sl ([.ref (ow_ad Z h), .int a1]) ++ List.replicate (2 - (lg_sl ([.ref (ow_ad Z h), .int a1])).length) Slot.unset).toArray) []) (by rw [hav]; exact lg_entry_eq _ _ _) ?_
  generalize (lg_sl ([.ref (ow_ad Z h), .int a1]) ++ List.replicate (2 - (lg_sl ([.ref (ow_ad Z h), .int a1])).length) Slot.unset).toArray = ls at hl ⊢
  have hl : lv_has ls 2 [(0, .ref (ow_ad Z h)), (1, .int a1)] := hl
  unfold f_X6_add at hf
  refine lv_aload_n hx hb dX6_add_0 rfl (lv_at hl 0 rfl) ?_
  refine ow_getV (ci := 6) (C := RX6) (T := TX6) (N := 4) hx hb hts hown hG hW hh (by decide) rfl hinX6 2 (by decide) (fk := 0) rfl (hts (.fieldLink RX6 18 "FiftyOneCards$Text" "size" "I") (by decide +kernel)) (v := .int (σ.1 h 2)) rfl dX6_add_1 ?_
  refine lv_sipush (v := 160) hx hb dX6_add_4 (by decide) ?_
  refine lv_icmp_ge (tgt := 30) hx hb dX6_add_7 (by decide) (fun c7 => ?_) (fun c7 => ?_)
  · replace hf := ow_if_t c7 hf
    exact ow_vret hx hb hr hW hf dX6_add_30 hlocks
  · replace hf := ow_if_f c7 hf
    refine lv_aload_n hx hb dX6_add_10 rfl (lv_at hl 0 rfl) ?_
    refine ow_getV (ci := 6) (C := RX6) (T := TX6) (N := 4) hx hb hts hown hG hW hh (by decide) rfl hinX6 0 (by decide) (fk := 2) rfl (hts (.fieldLink RX6 9 "FiftyOneCards$Text" "codes" "[I") (by decide +kernel)) (v := .ref (ow_ad Z (h + 1))) (ow_vR hW hh.1 hh.2.1 (ow_tx0 hh).1) dX6_add_11 ?_
    refine lv_aload_n hx hb dX6_add_14 rfl (lv_at hl 0 rfl) ?_
    refine ow_getV (ci := 6) (C := RX6) (T := TX6) (N := 4) hx hb hts hown hG hW hh (by decide) rfl hinX6 2 (by decide) (fk := 0) rfl (hts (.fieldLink RX6 18 "FiftyOneCards$Text" "size" "I") (by decide +kernel)) (v := .int (σ.1 h 2)) rfl dX6_add_15 ?_
    refine lv_iload_n hx hb dX6_add_18 rfl (lv_at hl 1 rfl) ?_
    obtain ⟨q19, hf⟩ := ow_ck_i hf
    refine ow_ist (q := (σ.1 h 2).toNatClampNeg) hx hb hG hW (ow_tx0 hh).2.1 (ow_tx0 hh).2.2 q19 rfl hf dX6_add_19 (fun σ_19 H locs hf hW => ?_)
    refine lv_aload_n hx hb dX6_add_20 rfl (lv_at hl 0 rfl) ?_
    refine lv_dup hx hb dX6_add_21 rfl ?_
    refine ow_getV (ci := 6) (C := RX6) (T := TX6) (N := 4) hx hb hts hown hG hW hh (by decide) rfl hinX6 2 (by decide) (fk := 0) rfl (hts (.fieldLink RX6 18 "FiftyOneCards$Text" "size" "I") (by decide +kernel)) (v := .int (σ_19.1 h 2)) rfl dX6_add_22 ?_
    refine lv_iconst (v := 1) hx hb dX6_add_25 (by decide) ?_
    refine lv_iadd hx hb dX6_add_26 ?_
    refine ow_putI (ci := 6) (C := RX6) (T := TX6) (N := 4) hx hb hts hown hG hW hh (by decide) rfl hinX6 tyX6 tyX6_ok nmX6 2 (by decide) rfl (hts (.fieldLink RX6 18 "FiftyOneCards$Text" "size" "I") (by decide +kernel)) rfl rfl rfl hf dX6_add_27 (fun σ_27 H locs hf hW => ?_)
    exact ow_vret hx hb hr hW hf dX6_add_30 hlocks
set_option maxHeartbeats 40000000 in
set_option maxRecDepth 100000 in
theorem c_X3_put (l : Launch) (Z : ow_Z) (fu : Nat) (a1 : Int32) (σ : ow_S) (σr : ow_S) (hf : f_X3_put fu a1 σ = some σr) : Met l yX3_put wsX3_put { frames := 2, cells := 0, slots := 0, locals := 81 } (ow_Pc Z 0 56 [.ref (ow_ad Z 7), .int a1] σ) (ow_Qv Z 0 56 σr) 0 0 (ow_A Z 0 56) := by
  refine Met.ofW (cc := cX3_put) (maxL := 2) (ret := none) (by decide) rfl ?_
  intro p e s m args below meth c s₁ B hml hv
  obtain ⟨hav, hB⟩ := hv
  obtain ⟨hG, hW⟩ := ow_begin hB
  have hx := B.exec
  have hb := B.bytes
  have hr := B.returns
  have hts := atoms_spec (ws := wsX3_put) B.pre
  have hown : s.vm.findClass RX3 = some m.cls := findClass_of_methodNamed B.named
  have hlocks := B.notSynchronized
  have hinX3 : ∀ w ∈ wsX30, w ∈ wsX3_put := by decide +kernel
  have hl := lv_entry ([.ref (ow_ad Z 7), .int a1]) (n := 2) (Nat.le_of_ble_eq_true rfl)
  refine W.eq (g2 := F0 m 0 ((lg_sl ([.ref (ow_ad Z 7), .int a1]) ++ List.replicate (2 - (lg_sl ([.ref (ow_ad Z 7), .int a1])).length) Slot.unset).toArray) []) (by rw [hav]; exact lg_entry_eq _ _ _) ?_
  generalize (lg_sl ([.ref (ow_ad Z 7), .int a1]) ++ List.replicate (2 - (lg_sl ([.ref (ow_ad Z 7), .int a1])).length) Slot.unset).toArray = ls at hl ⊢
  have hl : lv_has ls 2 [(0, .ref (ow_ad Z 7)), (1, .int a1)] := hl
  unfold f_X3_put at hf
  refine lv_aload_n hx hb dX3_put_0 rfl (lv_at hl 0 rfl) ?_
  refine ow_getV (ci := 3) (C := RX3) (T := TX3) (N := 7) hx hb hts hown hG hW ow_i7 (by decide) rfl hinX3 6 (by decide) (fk := 2) rfl (hts (.fieldLink RX3 31 "FiftyOneCards$Reader" "target" "LFiftyOneCards$Text;") (by decide +kernel)) (v := va_rf ((σ.2.2 7 6).map (ow_ad Z))) rfl dX3_put_1 ?_
  refine ow_ifnull (o := σ.2.2 7 6) (tgt := 15) hx hb dX3_put_4 (by decide) (fun c4 => ?_) (fun t4 c4 => ?_)
  · replace hf := ow_op_n hf c4
    exact ow_vret hx hb hr hW hf dX3_put_15 hlocks
  · replace hf := ow_op_s hf c4
    refine lv_aload_n hx hb dX3_put_7 rfl (lv_at hl 0 rfl) ?_
    have g8 := ow_tgt3 hW c4
    refine ow_getV (ci := 3) (C := RX3) (T := TX3) (N := 7) hx hb hts hown hG hW ow_i7 (by decide) rfl hinX3 6 (by decide) (fk := 2) rfl (hts (.fieldLink RX3 31 "FiftyOneCards$Reader" "target" "LFiftyOneCards$Text;") (by decide +kernel)) (v := .ref (ow_ad Z t4)) (ow_vS c4) dX3_put_8 ?_
    refine lv_iload_n hx hb dX3_put_11 rfl (lv_at hl 1 rfl) ?_
    obtain ⟨σ_12, hc12, hf⟩ := ow_cv_i hf
    refine ow_callv (va_runVN (As := [.int a1]) (rest := []) ⟨hx, hb, hml, hown, hts⟩ (c_X6_add l Z fu t4 g8 a1 σ σ_12  hc12) ⟨va_cnB (host := "FiftyOneCards") 1 hts ggX3_put_X6_add rfl rfl rfl (ow_nwp hG (.methodLinkNest RX3 53 yX6_add "FiftyOneCards") (by decide +kernel)) (hts (.initialized RX6) (by decide +kernel)) (by decide +kernel) ⟨Nat.le_of_ble_eq_true rfl, Nat.le_of_ble_eq_true rfl⟩, hts (.instanceMethod yX6_add) (by decide +kernel), hts (.selects RX6 yX6_add yX6_add) (by decide +kernel)⟩ (ow_preV hG hW g8 (by decide) rfl) rfl rfl hl.1 rfl (lv_room (Nat.le_of_ble_eq_true rfl)) dX3_put_12 ⟨Nat.zero_le _, Nat.zero_le _⟩) hW (fun H locs hW => ?_)
    exact ow_vret hx hb hr hW hf dX3_put_15 hlocks
