set_option maxHeartbeats 40000000 in
set_option maxRecDepth 100000 in
theorem c_X9_sees (l : Launch) (Z : ow_Z) (fu : Nat) (a1 : Int32) (a2 : Int32) (σ : ow_S) (rr : Int32) (σr : ow_S) (hf : f_X9_sees fu a1 a2 σ = some (rr, σr)) : Met l yX9_sees wsX9_sees { frames := 1, cells := 0, slots := 0, locals := 60 } (ow_Pc Z 56 20 [.ref (ow_ad Z 56), .int a1, .int a2] σ) (ow_Qz Z 56 20 rr σr) 0 0 (ow_A Z 56 20) := by
  refine Met.ofW (cc := cX9_sees) (maxL := 5) (ret := (some .boolean)) (by decide) rfl ?_
  intro p e s m args below meth c s₁ B hml hv
  obtain ⟨hav, hB⟩ := hv
  obtain ⟨hG, hW⟩ := ow_begin hB
  have hx := B.exec
  have hb := B.bytes
  have hr := B.returns
  have hts := atoms_spec (ws := wsX9_sees) B.pre
  have hown : s.vm.findClass RX9 = some m.cls := findClass_of_methodNamed B.named
  have hlocks := B.notSynchronized
  have hinX9 : ∀ w ∈ wsX90, w ∈ wsX9_sees := by decide +kernel
  have hJ67 : ∀ (σ : ow_S) (H : Heap) (locs : List Loc) (ls : Array Slot), L_X9_sees_67 fu σ = some (rr, σr) → ow_Wd Z 56 20 σ s H locs → lv_has ls 5 [] → W p l e (headSpec wsX9_sees { frames := 1, cells := 0, slots := 0, locals := 60 }).room s m args below meth c H locs 0 0 (MQ below (ow_Qz Z 56 20 rr σr) args s 0 0 (ow_A Z 56 20)) (F0 m 67 ls []) := by
    intro σ H locs ls hf hW hl
    unfold L_X9_sees_67 at hf
    refine lv_iconst (v := 1) hx hb dX9_sees_67 (by decide) ?_
    refine lv_goto (tgt := 72) hx hb dX9_sees_68 (by decide) ?_
    exact ow_zret hx hb hr (Or.inr rfl) hW hf dX9_sees_72 hlocks
  have hJ50 : ∀ (x1 : Int32) (x2 : Int32) (x3 : Int32) (σ : ow_S) (H : Heap) (locs : List Loc) (ls : Array Slot), L_X9_sees_50 fu x1 x2 x3 σ = some (rr, σr) → ow_Wd Z 56 20 σ s H locs → lv_has ls 5 [(0, .ref (ow_ad Z 56)), (1, .int x1), (2, .int x2), (3, .int x3)] → W p l e (headSpec wsX9_sees { frames := 1, cells := 0, slots := 0, locals := 60 }).room s m args below meth c H locs 0 0 (MQ below (ow_Qz Z 56 20 rr σr) args s 0 0 (ow_A Z 56 20)) (F0 m 50 ls []) := by
    intro x1 x2 x3 σ H locs ls hf hW hl
    unfold L_X9_sees_50 at hf
    refine lv_aload_n hx hb dX9_sees_50 rfl (lv_at hl 0 rfl) ?_
    refine ow_getV (ci := 9) (C := RX9) (T := TX9) (N := 41) hx hb hts hown hG hW ow_i56 (by decide) rfl hinX9 4 (by decide) (fk := 2) rfl (hts (.fieldLink RX9 17 "FiftyOneCardsModel" "kind" "[I") (by decide +kernel)) (v := .ref (ow_ad Z 58)) (ow_vR hW ow_i56.1 ow_i56.2.1 rfl) dX9_sees_51 ?_
    refine lv_iload_n hx hb dX9_sees_54 rfl (lv_at hl 1 rfl) ?_
    obtain ⟨q55, hf⟩ := ow_ck_i hf
    refine ow_ild (q := x1.toNatClampNeg) hx hb hG hW ow_i58 rfl q55 rfl dX9_sees_55 ?_
    refine lv_iconst (v := 3) hx hb dX9_sees_56 (by decide) ?_
    refine lv_icmp_ne (tgt := 67) hx hb dX9_sees_57 (by decide) (fun c57 => ?_) (fun c57 => ?_)
    · replace hf := ow_if_f c57 hf
      exact hJ67 σ _ _ _ hf hW (lv_sub hl [] rfl)
    · replace hf := ow_if_t c57 hf
      refine lv_iload_n hx hb dX9_sees_60 rfl (lv_at hl 2 rfl) ?_
      refine lv_iload_n hx hb dX9_sees_61 rfl (lv_at hl 3 rfl) ?_
      refine lv_iconst (v := 3) hx hb dX9_sees_62 (by decide) ?_
      refine lv_idiv hx hb dX9_sees_63 (by decide) ?_
      refine lv_icmp_lt (tgt := 71) hx hb dX9_sees_64 (by decide) (fun c64 => ?_) (fun c64 => ?_)
      · replace hf := ow_if_t c64 hf
        refine lv_iconst (v := 0) hx hb dX9_sees_71 (by decide) ?_
        exact ow_zret hx hb hr (Or.inl rfl) hW hf dX9_sees_72 hlocks
      · replace hf := ow_if_f c64 hf
        exact hJ67 σ _ _ _ hf hW (lv_sub hl [] rfl)
  have hJ32 : ∀ (x1 : Int32) (x2 : Int32) (x3 : Int32) (s0 : Int32) (σ : ow_S) (H : Heap) (locs : List Loc) (ls : Array Slot), L_X9_sees_32 fu x1 x2 x3 s0 σ = some (rr, σr) → ow_Wd Z 56 20 σ s H locs → lv_has ls 5 [(0, .ref (ow_ad Z 56)), (1, .int x1), (2, .int x2), (3, .int x3)] → W p l e (headSpec wsX9_sees { frames := 1, cells := 0, slots := 0, locals := 60 }).room s m args below meth c H locs 0 0 (MQ below (ow_Qz Z 56 20 rr σr) args s 0 0 (ow_A Z 56 20)) (F0 m 32 ls [.int s0]) := by
    intro x1 x2 x3 s0 σ H locs ls hf hW hl
    unfold L_X9_sees_32 at hf
    refine lv_istore (lv' := [(4, .int s0), (0, .ref (ow_ad Z 56)), (1, .int x1), (2, .int x2), (3, .int x3)]) hx hb dX9_sees_32 hl (by decide) rfl (fun ls hl => ?_)
    refine lv_iload hx hb dX9_sees_34 (lv_at hl 0 rfl) ?_
    refine lv_if_eq (tgt := 50) hx hb dX9_sees_36 (by decide) (fun c36 => ?_) (fun c36 => ?_)
    · replace hf := ow_if_t c36 hf
      exact hJ50 x1 x2 x3 σ _ _ _ hf hW (lv_sub hl [1, 2, 3, 4] rfl)
    · replace hf := ow_if_f c36 hf
      refine lv_iload_n hx hb dX9_sees_39 rfl (lv_at hl 3 rfl) ?_
      refine lv_iload_n hx hb dX9_sees_40 rfl (lv_at hl 4 rfl) ?_
      refine lv_iconst (v := 2) hx hb dX9_sees_41 (by decide) ?_
      refine lv_iadd hx hb dX9_sees_42 ?_
      obtain ⟨q43, hf⟩ := ow_ck_i hf
      refine ow_r_irem hx hb dX9_sees_43 q43 ?_
      refine lv_iload_n hx hb dX9_sees_44 rfl (lv_at hl 4 rfl) ?_
      refine lv_iconst (v := 1) hx hb dX9_sees_45 (by decide) ?_
      refine lv_iadd hx hb dX9_sees_46 ?_
      refine lv_icmp_eq (tgt := 71) hx hb dX9_sees_47 (by decide) (fun c47 => ?_) (fun c47 => ?_)
      · replace hf := ow_if_t c47 hf
        refine lv_iconst (v := 0) hx hb dX9_sees_71 (by decide) ?_
        exact ow_zret hx hb hr (Or.inl rfl) hW hf dX9_sees_72 hlocks
      · replace hf := ow_if_f c47 hf
        exact hJ50 x1 x2 x3 σ _ _ _ hf hW (lv_sub hl [1, 2, 3, 4] rfl)
  have hJ27 : ∀ (x1 : Int32) (x2 : Int32) (x3 : Int32) (σ : ow_S) (H : Heap) (locs : List Loc) (ls : Array Slot), L_X9_sees_27 fu x1 x2 x3 σ = some (rr, σr) → ow_Wd Z 56 20 σ s H locs → lv_has ls 5 [(0, .ref (ow_ad Z 56)), (1, .int x1), (2, .int x2), (3, .int x3)] → W p l e (headSpec wsX9_sees { frames := 1, cells := 0, slots := 0, locals := 60 }).room s m args below meth c H locs 0 0 (MQ below (ow_Qz Z 56 20 rr σr) args s 0 0 (ow_A Z 56 20)) (F0 m 27 ls []) := by
    intro x1 x2 x3 σ H locs ls hf hW hl
    unfold L_X9_sees_27 at hf
    refine lv_iconst (v := 1) hx hb dX9_sees_27 (by decide) ?_
    refine lv_goto (tgt := 32) hx hb dX9_sees_28 (by decide) ?_
    exact hJ32 x1 x2 x3 (1 : Int32) σ _ _ _ hf hW (lv_sub hl [0, 1, 2, 3] rfl)
  have hl := lv_entry ([.ref (ow_ad Z 56), .int a1, .int a2]) (n := 5) (Nat.le_of_ble_eq_true rfl)
  refine W.eq (g2 := F0 m 0 ((lg_sl ([.ref (ow_ad Z 56), .int a1, .int a2]) ++ List.replicate (5 - (lg_sl ([.ref (ow_ad Z 56), .int a1, .int a2])).length) Slot.unset).toArray) []) (by rw [hav]; exact lg_entry_eq _ _ _) ?_
  generalize (lg_sl ([.ref (ow_ad Z 56), .int a1, .int a2]) ++ List.replicate (5 - (lg_sl ([.ref (ow_ad Z 56), .int a1, .int a2])).length) Slot.unset).toArray = ls at hl ⊢
  have hl : lv_has ls 5 [(0, .ref (ow_ad Z 56)), (1, .int a1), (2, .int a2)] := hl
  unfold f_X9_sees at hf
  refine lv_aload_n hx hb dX9_sees_0 rfl (lv_at hl 0 rfl) ?_
  refine ow_getV (ci := 9) (C := RX9) (T := TX9) (N := 41) hx hb hts hown hG hW ow_i56 (by decide) rfl hinX9 5 (by decide) (fk := 2) rfl (hts (.fieldLink RX9 20 "FiftyOneCardsModel" "moreOf" "[I") (by decide +kernel)) (v := .ref (ow_ad Z 59)) (ow_vR hW ow_i56.1 ow_i56.2.1 rfl) dX9_sees_1 ?_
  refine lv_iload_n hx hb dX9_sees_4 rfl (lv_at hl 1 rfl) ?_
  obtain ⟨q5, hf⟩ := ow_ck_i hf
  refine ow_ild (q := a1.toNatClampNeg) hx hb hG hW ow_i59 rfl q5 rfl dX9_sees_5 ?_
  refine ow_topi hf (fun x3_6 hf => ?_)
  refine lv_istore_n (lv' := [(3, .int x3_6), (0, .ref (ow_ad Z 56)), (1, .int a1), (2, .int a2)]) hx hb dX9_sees_6 rfl hl (by decide) rfl (fun ls hl => ?_)
  refine lv_aload_n hx hb dX9_sees_7 rfl (lv_at hl 1 rfl) ?_
  refine ow_getV (ci := 9) (C := RX9) (T := TX9) (N := 41) hx hb hts hown hG hW ow_i56 (by decide) rfl hinX9 4 (by decide) (fk := 2) rfl (hts (.fieldLink RX9 17 "FiftyOneCardsModel" "kind" "[I") (by decide +kernel)) (v := .ref (ow_ad Z 58)) (ow_vR hW ow_i56.1 ow_i56.2.1 rfl) dX9_sees_8 ?_
  refine lv_iload_n hx hb dX9_sees_11 rfl (lv_at hl 2 rfl) ?_
  obtain ⟨q12, hf⟩ := ow_ck_i hf
  refine ow_ild (q := a1.toNatClampNeg) hx hb hG hW ow_i58 rfl q12 rfl dX9_sees_12 ?_
  refine lv_iconst (v := 1) hx hb dX9_sees_13 (by decide) ?_
  refine lv_icmp_eq (tgt := 27) hx hb dX9_sees_14 (by decide) (fun c14 => ?_) (fun c14 => ?_)
  · replace hf := ow_if_t c14 hf
    exact hJ27 a1 a2 x3_6 σ _ _ _ hf hW (lv_sub hl [1, 2, 3, 0] rfl)
  · replace hf := ow_if_f c14 hf
    refine lv_aload_n hx hb dX9_sees_17 rfl (lv_at hl 1 rfl) ?_
    refine ow_getV (ci := 9) (C := RX9) (T := TX9) (N := 41) hx hb hts hown hG hW ow_i56 (by decide) rfl hinX9 4 (by decide) (fk := 2) rfl (hts (.fieldLink RX9 17 "FiftyOneCardsModel" "kind" "[I") (by decide +kernel)) (v := .ref (ow_ad Z 58)) (ow_vR hW ow_i56.1 ow_i56.2.1 rfl) dX9_sees_18 ?_
    refine lv_iload_n hx hb dX9_sees_21 rfl (lv_at hl 2 rfl) ?_
    obtain ⟨q22, hf⟩ := ow_ck_i hf
    refine ow_ild (q := a1.toNatClampNeg) hx hb hG hW ow_i58 rfl q22 rfl dX9_sees_22 ?_
    refine lv_iconst (v := 3) hx hb dX9_sees_23 (by decide) ?_
    refine lv_icmp_ne (tgt := 31) hx hb dX9_sees_24 (by decide) (fun c24 => ?_) (fun c24 => ?_)
    · replace hf := ow_if_f c24 hf
      refine lv_iconst (v := 0) hx hb dX9_sees_31 (by decide) ?_
      exact hJ32 a1 a2 x3_6 (0 : Int32) σ _ _ _ hf hW (lv_sub hl [1, 2, 3, 0] rfl)
    · replace hf := ow_if_t c24 hf
      exact hJ27 a1 a2 x3_6 σ _ _ _ hf hW (lv_sub hl [1, 2, 3, 0] rfl)
set_option maxHeartbeats 40000000 in
set_option maxRecDepth 100000 in
theorem c_X9_keepsOf (l : Launch) (Z : ow_Z) (fu : Nat) (a1 : Int32) (a2 : Int32) (a3 : Int32) (σ : ow_S) (rr : Int32) (σr : ow_S) (hf : f_X9_keepsOf fu a1 a2 a3 σ = some (rr, σr)) : Met l yX9_keepsOf wsX9_keepsOf { frames := 1, cells := 0, slots := 0, locals := 60 } (ow_Pc Z 56 20 [.ref (ow_ad Z 56), .int a1, .int a2, .int a3] σ) (ow_Qi Z 56 20 rr σr) 0 0 (ow_A Z 56 20) := by
  refine Met.ofW (cc := cX9_keepsOf) (maxL := 6) (ret := (some .int)) (by decide) rfl ?_
  intro p e s m args below meth c s₁ B hml hv
  obtain ⟨hav, hB⟩ := hv
  obtain ⟨hG, hW⟩ := ow_begin hB
  have hx := B.exec
  have hb := B.bytes
  have hr := B.returns
  have hts := atoms_spec (ws := wsX9_keepsOf) B.pre
  have hown : s.vm.findClass RX9 = some m.cls := findClass_of_methodNamed B.named
  have hlocks := B.notSynchronized
  have hinX9 : ∀ w ∈ wsX90, w ∈ wsX9_keepsOf := by decide +kernel
  have hJ28 : ∀ (x1 : Int32) (x2 : Int32) (s0 : Int32) (σ : ow_S) (H : Heap) (locs : List Loc) (ls : Array Slot), L_X9_keepsOf_28 fu x1 x2 s0 σ = some (rr, σr) → ow_Wd Z 56 20 σ s H locs → lv_has ls 6 [(0, .ref (ow_ad Z 56)), (1, .int x1), (2, .int x2)] → W p l e (headSpec wsX9_keepsOf { frames := 1, cells := 0, slots := 0, locals := 60 }).room s m args below meth c H locs 0 0 (MQ below (ow_Qi Z 56 20 rr σr) args s 0 0 (ow_A Z 56 20)) (F0 m 28 ls [.int s0]) := by
    intro x1 x2 s0 σ H locs ls hf hW hl
    unfold L_X9_keepsOf_28 at hf
    refine lv_istore (lv' := [(5, .int s0), (0, .ref (ow_ad Z 56)), (1, .int x1), (2, .int x2)]) hx hb dX9_keepsOf_28 hl (by decide) rfl (fun ls hl => ?_)
    refine lv_aload_n hx hb dX9_keepsOf_30 rfl (lv_at hl 1 rfl) ?_
    refine ow_getV (ci := 9) (C := RX9) (T := TX9) (N := 41) hx hb hts hown hG hW ow_i56 (by decide) rfl hinX9 4 (by decide) (fk := 2) rfl (hts (.fieldLink RX9 17 "FiftyOneCardsModel" "kind" "[I") (by decide +kernel)) (v := .ref (ow_ad Z 58)) (ow_vR hW ow_i56.1 ow_i56.2.1 rfl) dX9_keepsOf_31 ?_
    refine lv_iload_n hx hb dX9_keepsOf_34 rfl (lv_at hl 2 rfl) ?_
    obtain ⟨q35, hf⟩ := ow_ck_i hf
    refine ow_ild (q := x1.toNatClampNeg) hx hb hG hW ow_i58 rfl q35 rfl dX9_keepsOf_35 ?_
    refine lv_iconst (v := 2) hx hb dX9_keepsOf_36 (by decide) ?_
    refine lv_icmp_ne (tgt := 45) hx hb dX9_keepsOf_37 (by decide) (fun c37 => ?_) (fun c37 => ?_)
    · replace hf := ow_if_f c37 hf
      refine lv_aload_n hx hb dX9_keepsOf_45 rfl (lv_at hl 1 rfl) ?_
      refine ow_getV (ci := 9) (C := RX9) (T := TX9) (N := 41) hx hb hts hown hG hW ow_i56 (by decide) rfl hinX9 4 (by decide) (fk := 2) rfl (hts (.fieldLink RX9 17 "FiftyOneCardsModel" "kind" "[I") (by decide +kernel)) (v := .ref (ow_ad Z 58)) (ow_vR hW ow_i56.1 ow_i56.2.1 rfl) dX9_keepsOf_46 ?_
      refine lv_iload_n hx hb dX9_keepsOf_49 rfl (lv_at hl 2 rfl) ?_
      obtain ⟨q50, hf⟩ := ow_ck_i hf
      refine ow_ild (q := x1.toNatClampNeg) hx hb hG hW ow_i58 rfl q50 rfl dX9_keepsOf_50 ?_
      refine lv_iconst (v := 4) hx hb dX9_keepsOf_51 (by decide) ?_
      refine lv_icmp_ne (tgt := 65) hx hb dX9_keepsOf_52 (by decide) (fun c52 => ?_) (fun c52 => ?_)
      · replace hf := ow_if_f c52 hf
        refine lv_iload_n hx hb dX9_keepsOf_65 rfl (lv_at hl 3 rfl) ?_
        exact ow_iret hx hb hr hW hf dX9_keepsOf_66 hlocks
      · replace hf := ow_if_t c52 hf
        refine lv_iload hx hb dX9_keepsOf_55 (lv_at hl 0 rfl) ?_
        refine lv_iload hx hb dX9_keepsOf_57 (lv_at hl 0 rfl) ?_
        refine lv_iconst (v := 1) hx hb dX9_keepsOf_59 (by decide) ?_
        refine lv_iand hx hb dX9_keepsOf_60 ?_
        refine lv_isub hx hb dX9_keepsOf_61 ?_
        refine lv_goto (tgt := 66) hx hb dX9_keepsOf_62 (by decide) ?_
        exact ow_iret hx hb hr hW hf dX9_keepsOf_66 hlocks
    · replace hf := ow_if_t c37 hf
      refine lv_iload hx hb dX9_keepsOf_40 (lv_at hl 0 rfl) ?_
      refine lv_goto (tgt := 66) hx hb dX9_keepsOf_42 (by decide) ?_
      exact ow_iret hx hb hr hW hf dX9_keepsOf_66 hlocks
  have hl := lv_entry ([.ref (ow_ad Z 56), .int a1, .int a2, .int a3]) (n := 6) (Nat.le_of_ble_eq_true rfl)
  refine W.eq (g2 := F0 m 0 ((lg_sl ([.ref (ow_ad Z 56), .int a1, .int a2, .int a3]) ++ List.replicate (6 - (lg_sl ([.ref (ow_ad Z 56), .int a1, .int a2, .int a3])).length) Slot.unset).toArray) []) (by rw [hav]; exact lg_entry_eq _ _ _) ?_
  generalize (lg_sl ([.ref (ow_ad Z 56), .int a1, .int a2, .int a3]) ++ List.replicate (6 - (lg_sl ([.ref (ow_ad Z 56), .int a1, .int a2, .int a3])).length) Slot.unset).toArray = ls at hl ⊢
  have hl : lv_has ls 6 [(0, .ref (ow_ad Z 56)), (1, .int a1), (2, .int a2), (3, .int a3)] := hl
  unfold f_X9_keepsOf at hf
  refine lv_aload_n hx hb dX9_keepsOf_0 rfl (lv_at hl 0 rfl) ?_
  refine ow_getV (ci := 9) (C := RX9) (T := TX9) (N := 41) hx hb hts hown hG hW ow_i56 (by decide) rfl hinX9 5 (by decide) (fk := 2) rfl (hts (.fieldLink RX9 20 "FiftyOneCardsModel" "moreOf" "[I") (by decide +kernel)) (v := .ref (ow_ad Z 59)) (ow_vR hW ow_i56.1 ow_i56.2.1 rfl) dX9_keepsOf_1 ?_
  refine lv_iload_n hx hb dX9_keepsOf_4 rfl (lv_at hl 1 rfl) ?_
  obtain ⟨q5, hf⟩ := ow_ck_i hf
  refine ow_ild (q := a1.toNatClampNeg) hx hb hG hW ow_i59 rfl q5 rfl dX9_keepsOf_5 ?_
  refine ow_topi hf (fun x4_6 hf => ?_)
  refine lv_istore (lv' := [(4, .int x4_6), (0, .ref (ow_ad Z 56)), (1, .int a1), (2, .int a2), (3, .int a3)]) hx hb dX9_keepsOf_6 hl (by decide) rfl (fun ls hl => ?_)
  refine lv_iload_n hx hb dX9_keepsOf_8 rfl (lv_at hl 4 rfl) ?_
  refine lv_iload hx hb dX9_keepsOf_9 (lv_at hl 0 rfl) ?_
  refine lv_iconst (v := 3) hx hb dX9_keepsOf_11 (by decide) ?_
  refine lv_iadd hx hb dX9_keepsOf_12 ?_
  obtain ⟨q13, hf⟩ := ow_ck_i hf
  refine ow_r_irem hx hb dX9_keepsOf_13 q13 ?_
  refine lv_iload hx hb dX9_keepsOf_14 (lv_at hl 0 rfl) ?_
  refine lv_iconst (v := 2) hx hb dX9_keepsOf_16 (by decide) ?_
  refine lv_iadd hx hb dX9_keepsOf_17 ?_
  refine lv_icmp_ne (tgt := 27) hx hb dX9_keepsOf_18 (by decide) (fun c18 => ?_) (fun c18 => ?_)
  · replace hf := ow_if_f c18 hf
    refine lv_iload_n hx hb dX9_keepsOf_27 rfl (lv_at hl 3 rfl) ?_
    exact hJ28 a1 a2 a2 σ _ _ _ hf hW (lv_sub hl [1, 2, 3] rfl)
  · replace hf := ow_if_t c18 hf
    refine lv_iload_n hx hb dX9_keepsOf_21 rfl (lv_at hl 3 rfl) ?_
    refine lv_iconst (v := 1) hx hb dX9_keepsOf_22 (by decide) ?_
    refine lv_iadd hx hb dX9_keepsOf_23 ?_
    refine lv_goto (tgt := 28) hx hb dX9_keepsOf_24 (by decide) ?_
    exact hJ28 a1 a2 (a2 + (1 : Int32)) σ _ _ _ hf hW (lv_sub hl [1, 2, 3] rfl)
set_option maxHeartbeats 40000000 in
set_option maxRecDepth 100000 in
theorem c_X9_maskOf (l : Launch) (Z : ow_Z) (fu : Nat) (a1 : Int32) (σ : ow_S) (rr : Int32) (σr : ow_S) (hf : f_X9_maskOf fu a1 σ = some (rr, σr)) : Met l yX9_maskOf wsX9_maskOf { frames := 1, cells := 0, slots := 0, locals := 60 } (ow_Pc Z 56 20 [.ref (ow_ad Z 56), .int a1] σ) (ow_Qi Z 56 20 rr σr) 0 0 (ow_A Z 56 20) := by
  refine Met.ofW (cc := cX9_maskOf) (maxL := 2) (ret := (some .int)) (by decide) rfl ?_
  intro p e s m args below meth c s₁ B hml hv
  obtain ⟨hav, hB⟩ := hv
  obtain ⟨hG, hW⟩ := ow_begin hB
  have hx := B.exec
  have hb := B.bytes
  have hr := B.returns
  have hts := atoms_spec (ws := wsX9_maskOf) B.pre
  have hown : s.vm.findClass RX9 = some m.cls := findClass_of_methodNamed B.named
  have hlocks := B.notSynchronized
  have hinX9 : ∀ w ∈ wsX90, w ∈ wsX9_maskOf := by decide +kernel
  have hl := lv_entry ([.ref (ow_ad Z 56), .int a1]) (n := 2) (Nat.le_of_ble_eq_true rfl)
  refine W.eq (g2 := F0 m 0 ((lg_sl ([.ref (ow_ad Z 56), .int a1]) ++ List.replicate (2 - (lg_sl ([.ref (ow_ad Z 56), .int a1])).length) Slot.unset).toArray) []) (by rw [hav]; exact lg_entry_eq _ _ _) ?_
  generalize (lg_sl ([.ref (ow_ad Z 56), .int a1]) ++ List.replicate (2 - (lg_sl ([.ref (ow_ad Z 56), .int a1])).length) Slot.unset).toArray = ls at hl ⊢
  have hl : lv_has ls 2 [(0, .ref (ow_ad Z 56)), (1, .int a1)] := hl
  unfold f_X9_maskOf at hf
  refine lv_iconst (v := 1) hx hb dX9_maskOf_0 (by decide) ?_
  refine lv_aload_n hx hb dX9_maskOf_1 rfl (lv_at hl 0 rfl) ?_
  refine ow_getV (ci := 9) (C := RX9) (T := TX9) (N := 41) hx hb hts hown hG hW ow_i56 (by decide) rfl hinX9 6 (by decide) (fk := 2) rfl (hts (.fieldLink RX9 23 "FiftyOneCardsModel" "kept" "[I") (by decide +kernel)) (v := .ref (ow_ad Z 60)) (ow_vR hW ow_i56.1 ow_i56.2.1 rfl) dX9_maskOf_2 ?_
  refine lv_iconst (v := 3) hx hb dX9_maskOf_5 (by decide) ?_
  refine lv_iload_n hx hb dX9_maskOf_6 rfl (lv_at hl 1 rfl) ?_
  refine lv_imul hx hb dX9_maskOf_7 ?_
  obtain ⟨q8, hf⟩ := ow_ck_i hf
  refine ow_ild (q := ((3 : Int32) * a1).toNatClampNeg) hx hb hG hW ow_i60 rfl q8 rfl dX9_maskOf_8 ?_
  refine lv_ishl hx hb dX9_maskOf_9 ?_
  refine lv_iconst (v := 1) hx hb dX9_maskOf_10 (by decide) ?_
  refine lv_isub hx hb dX9_maskOf_11 ?_
  exact ow_iret hx hb hr hW hf dX9_maskOf_12 hlocks
set_option maxHeartbeats 40000000 in
set_option maxRecDepth 100000 in
theorem c_X9_beginsOn (l : Launch) (Z : ow_Z) (fu : Nat) (a1 : Int32) (σ : ow_S) (σr : ow_S) (hf : f_X9_beginsOn fu a1 σ = some σr) : Met l yX9_beginsOn wsX9_beginsOn { frames := 2, cells := 0, slots := 0, locals := 81 } (ow_Pc Z 56 20 [.ref (ow_ad Z 56), .int a1] σ) (ow_Qv Z 56 20 σr) 0 0 (ow_A Z 56 20) := by
  refine Met.ofW (cc := cX9_beginsOn) (maxL := 2) (ret := none) (by decide) rfl ?_
  intro p e s m args below meth c s₁ B hml hv
  obtain ⟨hav, hB⟩ := hv
  obtain ⟨hG, hW⟩ := ow_begin hB
  have hx := B.exec
  have hb := B.bytes
  have hr := B.returns
  have hts := atoms_spec (ws := wsX9_beginsOn) B.pre
  have hown : s.vm.findClass RX9 = some m.cls := findClass_of_methodNamed B.named
  have hlocks := B.notSynchronized
  have hinX9 : ∀ w ∈ wsX90, w ∈ wsX9_beginsOn := by decide +kernel
  have hl := lv_entry ([.ref (ow_ad Z 56), .int a1]) (n := 2) (Nat.le_of_ble_eq_true rfl)
  refine W.eq (g2 := F0 m 0 ((lg_sl ([.ref (ow_ad Z 56), .int a1]) ++ List.replicate (2 - (lg_sl ([.ref (ow_ad Z 56), .int a1])).length) Slot.unset).toArray) []) (by rw [hav]; exact lg_entry_eq _ _ _) ?_
  generalize (lg_sl ([.ref (ow_ad Z 56), .int a1]) ++ List.replicate (2 - (lg_sl ([.ref (ow_ad Z 56), .int a1])).length) Slot.unset).toArray = ls at hl ⊢
  have hl : lv_has ls 2 [(0, .ref (ow_ad Z 56)), (1, .int a1)] := hl
  unfold f_X9_beginsOn at hf
  refine lv_aload_n hx hb dX9_beginsOn_0 rfl (lv_at hl 0 rfl) ?_
  refine lv_aload_n hx hb dX9_beginsOn_1 rfl (lv_at hl 0 rfl) ?_
  refine ow_getV (ci := 9) (C := RX9) (T := TX9) (N := 41) hx hb hts hown hG hW ow_i56 (by decide) rfl hinX9 6 (by decide) (fk := 2) rfl (hts (.fieldLink RX9 23 "FiftyOneCardsModel" "kept" "[I") (by decide +kernel)) (v := .ref (ow_ad Z 60)) (ow_vR hW ow_i56.1 ow_i56.2.1 rfl) dX9_beginsOn_2 ?_
  refine lv_iconst (v := 3) hx hb dX9_beginsOn_5 (by decide) ?_
  refine lv_iload_n hx hb dX9_beginsOn_6 rfl (lv_at hl 1 rfl) ?_
  refine lv_imul hx hb dX9_beginsOn_7 ?_
  refine lv_iconst (v := 1) hx hb dX9_beginsOn_8 (by decide) ?_
  refine lv_iadd hx hb dX9_beginsOn_9 ?_
  obtain ⟨q10, hf⟩ := ow_ck_i hf
  refine ow_ild (q := (((3 : Int32) * a1) + (1 : Int32)).toNatClampNeg) hx hb hG hW ow_i60 rfl q10 rfl dX9_beginsOn_10 ?_
  refine lv_aload_n hx hb dX9_beginsOn_11 rfl (lv_at hl 0 rfl) ?_
  refine lv_iload_n hx hb dX9_beginsOn_12 rfl (lv_at hl 1 rfl) ?_
  obtain ⟨r_13, σ_13, hc13, hf⟩ := ow_cl_i hf
  refine ow_calli (va_runV (As := [.int a1]) (rest := [.int (σ.1 60 (((3 : Int32) * a1) + (1 : Int32)).toNatClampNeg), .ref (ow_ad Z 56)]) ⟨hx, hb, hml, hown, hts⟩ (c_X9_maskOf l Z fu a1 σ r_13 σ_13 hc13) (cwV 1 hts gX9_beginsOn_X9_maskOf rfl rfl rfl (by decide +kernel) ⟨Nat.le_of_ble_eq_true rfl, Nat.le_of_ble_eq_true rfl⟩) (ow_preV hG hW ow_i56 (by decide) rfl) rfl rfl hl.1 rfl (lv_room (Nat.le_of_ble_eq_true rfl)) dX9_beginsOn_13 ⟨Nat.zero_le _, Nat.zero_le _⟩) hW (fun H locs hW => ?_)
  refine lv_iand hx hb dX9_beginsOn_16 ?_
  refine ow_putI (ci := 9) (C := RX9) (T := TX9) (N := 41) hx hb hts hown hG hW ow_i56 (by decide) rfl hinX9 tyX9 tyX9_ok nmX9 37 (by decide) rfl (hts (.fieldLink RX9 213 "FiftyOneCardsModel" "keepsFirst" "I") (by decide +kernel)) rfl rfl rfl hf dX9_beginsOn_17 (fun σ_17 H locs hf hW => ?_)
  refine lv_aload_n hx hb dX9_beginsOn_20 rfl (lv_at hl 0 rfl) ?_
  refine lv_aload_n hx hb dX9_beginsOn_21 rfl (lv_at hl 0 rfl) ?_
  refine ow_getV (ci := 9) (C := RX9) (T := TX9) (N := 41) hx hb hts hown hG hW ow_i56 (by decide) rfl hinX9 6 (by decide) (fk := 2) rfl (hts (.fieldLink RX9 23 "FiftyOneCardsModel" "kept" "[I") (by decide +kernel)) (v := .ref (ow_ad Z 60)) (ow_vR hW ow_i56.1 ow_i56.2.1 rfl) dX9_beginsOn_22 ?_
  refine lv_iconst (v := 3) hx hb dX9_beginsOn_25 (by decide) ?_
  refine lv_iload_n hx hb dX9_beginsOn_26 rfl (lv_at hl 1 rfl) ?_
  refine lv_imul hx hb dX9_beginsOn_27 ?_
  refine lv_iconst (v := 2) hx hb dX9_beginsOn_28 (by decide) ?_
  refine lv_iadd hx hb dX9_beginsOn_29 ?_
  obtain ⟨q30, hf⟩ := ow_ck_i hf
  refine ow_ild (q := (((3 : Int32) * a1) + (2 : Int32)).toNatClampNeg) hx hb hG hW ow_i60 rfl q30 rfl dX9_beginsOn_30 ?_
  refine lv_aload_n hx hb dX9_beginsOn_31 rfl (lv_at hl 0 rfl) ?_
  refine lv_iload_n hx hb dX9_beginsOn_32 rfl (lv_at hl 1 rfl) ?_
  obtain ⟨r_33, σ_33, hc33, hf⟩ := ow_cl_i hf
  refine ow_calli (va_runV (As := [.int a1]) (rest := [.int (σ_17.1 60 (((3 : Int32) * a1) + (2 : Int32)).toNatClampNeg), .ref (ow_ad Z 56)]) ⟨hx, hb, hml, hown, hts⟩ (c_X9_maskOf l Z fu a1 σ_17 r_33 σ_33 hc33) (cwV 1 hts gX9_beginsOn_X9_maskOf rfl rfl rfl (by decide +kernel) ⟨Nat.le_of_ble_eq_true rfl, Nat.le_of_ble_eq_true rfl⟩) (ow_preV hG hW ow_i56 (by decide) rfl) rfl rfl hl.1 rfl (lv_room (Nat.le_of_ble_eq_true rfl)) dX9_beginsOn_33 ⟨Nat.zero_le _, Nat.zero_le _⟩) hW (fun H locs hW => ?_)
  refine lv_iand hx hb dX9_beginsOn_36 ?_
  refine ow_putI (ci := 9) (C := RX9) (T := TX9) (N := 41) hx hb hts hown hG hW ow_i56 (by decide) rfl hinX9 tyX9 tyX9_ok nmX9 38 (by decide) rfl (hts (.fieldLink RX9 216 "FiftyOneCardsModel" "keepsSecond" "I") (by decide +kernel)) rfl rfl rfl hf dX9_beginsOn_37 (fun σ_37 H locs hf hW => ?_)
  exact ow_vret hx hb hr hW hf dX9_beginsOn_40 hlocks
set_option maxHeartbeats 40000000 in
set_option maxRecDepth 100000 in
theorem c_X9_comes (l : Launch) (Z : ow_Z) (fu : Nat) (a1 : Int32) (a2 : Int32) (a3 : Int32) (σ : ow_S) (σr : ow_S) (hf : f_X9_comes fu a1 a2 a3 σ = some σr) : Met l yX9_comes wsX9_comes { frames := 4, cells := 0, slots := 0, locals := 132 } (ow_Pc Z 56 20 [.ref (ow_ad Z 56), .int a1, .int a2, .int a3] σ) (ow_Qv Z 56 20 σr) 0 0 (ow_A Z 56 20) := by
  refine Met.ofW (cc := cX9_comes) (maxL := 6) (ret := none) (by decide) rfl ?_
  intro p e s m args below meth c s₁ B hml hv
  obtain ⟨hav, hB⟩ := hv
  obtain ⟨hG, hW⟩ := ow_begin hB
  have hx := B.exec
  have hb := B.bytes
  have hr := B.returns
  have hts := atoms_spec (ws := wsX9_comes) B.pre
  have hown : s.vm.findClass RX9 = some m.cls := findClass_of_methodNamed B.named
  have hlocks := B.notSynchronized
  have hinX9 : ∀ w ∈ wsX90, w ∈ wsX9_comes := by decide +kernel
  have hl := lv_entry ([.ref (ow_ad Z 56), .int a1, .int a2, .int a3]) (n := 6) (Nat.le_of_ble_eq_true rfl)
  refine W.eq (g2 := F0 m 0 ((lg_sl ([.ref (ow_ad Z 56), .int a1, .int a2, .int a3]) ++ List.replicate (6 - (lg_sl ([.ref (ow_ad Z 56), .int a1, .int a2, .int a3])).length) Slot.unset).toArray) []) (by rw [hav]; exact lg_entry_eq _ _ _) ?_
  generalize (lg_sl ([.ref (ow_ad Z 56), .int a1, .int a2, .int a3]) ++ List.replicate (6 - (lg_sl ([.ref (ow_ad Z 56), .int a1, .int a2, .int a3])).length) Slot.unset).toArray = ls at hl ⊢
  have hl : lv_has ls 6 [(0, .ref (ow_ad Z 56)), (1, .int a1), (2, .int a2), (3, .int a3)] := hl
  unfold f_X9_comes at hf
  refine lv_aload_n hx hb dX9_comes_0 rfl (lv_at hl 0 rfl) ?_
  refine lv_iload_n hx hb dX9_comes_1 rfl (lv_at hl 1 rfl) ?_
  refine lv_iload_n hx hb dX9_comes_2 rfl (lv_at hl 3 rfl) ?_
  obtain ⟨r_3, σ_3, hc3, hf⟩ := ow_cl_i hf
  refine ow_callz (va_runV (As := [.int a1, .int a3]) (rest := []) ⟨hx, hb, hml, hown, hts⟩ (c_X9_sees l Z fu a1 a3 σ r_3 σ_3 hc3) (cwV 2 hts gX9_comes_X9_sees rfl rfl rfl (by decide +kernel) ⟨Nat.le_of_ble_eq_true rfl, Nat.le_of_ble_eq_true rfl⟩) (ow_preV hG hW ow_i56 (by decide) rfl) rfl rfl hl.1 rfl (lv_room (Nat.le_of_ble_eq_true rfl)) dX9_comes_3 ⟨Nat.zero_le _, Nat.zero_le _⟩) hW (fun b3 H locs hW => ?_)
  refine lv_if_eq (tgt := 85) hx hb dX9_comes_6 (by decide) (fun c6 => ?_) (fun c6 => ?_)
  · replace hf := ow_if_t c6 hf
    exact ow_vret hx hb hr hW hf dX9_comes_85 hlocks
  · replace hf := ow_if_f c6 hf
    refine lv_aload_n hx hb dX9_comes_9 rfl (lv_at hl 0 rfl) ?_
    refine lv_iload_n hx hb dX9_comes_10 rfl (lv_at hl 1 rfl) ?_
    refine lv_aload_n hx hb dX9_comes_11 rfl (lv_at hl 0 rfl) ?_
    refine lv_iconst (v := 0) hx hb dX9_comes_12 (by decide) ?_
    refine lv_aload_n hx hb dX9_comes_13 rfl (lv_at hl 0 rfl) ?_
    refine ow_getV (ci := 9) (C := RX9) (T := TX9) (N := 41) hx hb hts hown hG hW ow_i56 (by decide) rfl hinX9 37 (by decide) (fk := 0) rfl (hts (.fieldLink RX9 213 "FiftyOneCardsModel" "keepsFirst" "I") (by decide +kernel)) (v := .int (σ_3.1 56 37)) rfl dX9_comes_14 ?_
    refine lv_aload_n hx hb dX9_comes_17 rfl (lv_at hl 0 rfl) ?_
    refine ow_getV (ci := 9) (C := RX9) (T := TX9) (N := 41) hx hb hts hown hG hW ow_i56 (by decide) rfl hinX9 38 (by decide) (fk := 0) rfl (hts (.fieldLink RX9 216 "FiftyOneCardsModel" "keepsSecond" "I") (by decide +kernel)) (v := .int (σ_3.1 56 38)) rfl dX9_comes_18 ?_
    refine lv_iload_n hx hb dX9_comes_21 rfl (lv_at hl 2 rfl) ?_
    refine lv_iload_n hx hb dX9_comes_22 rfl (lv_at hl 3 rfl) ?_
    refine lv_aload_n hx hb dX9_comes_23 rfl (lv_at hl 0 rfl) ?_
    refine ow_getV (ci := 9) (C := RX9) (T := TX9) (N := 41) hx hb hts hown hG hW ow_i56 (by decide) rfl hinX9 5 (by decide) (fk := 2) rfl (hts (.fieldLink RX9 20 "FiftyOneCardsModel" "moreOf" "[I") (by decide +kernel)) (v := .ref (ow_ad Z 59)) (ow_vR hW ow_i56.1 ow_i56.2.1 rfl) dX9_comes_24 ?_
    refine lv_iload_n hx hb dX9_comes_27 rfl (lv_at hl 1 rfl) ?_
    obtain ⟨q28, hf⟩ := ow_ck_i hf
    refine ow_ild (q := a1.toNatClampNeg) hx hb hG hW ow_i59 rfl q28 rfl dX9_comes_28 ?_
    obtain ⟨r_29, σ_29, hc29, hf⟩ := ow_cl_i hf
    refine ow_calli (va_runV (As := [.int (0 : Int32), .int (σ_3.1 56 37), .int (σ_3.1 56 38), .int a2, .int a3, .int (σ_3.1 59 a1.toNatClampNeg)]) (rest := [.int a1, .ref (ow_ad Z 56)]) ⟨hx, hb, hml, hown, hts⟩ (c_X9_asksOf l Z fu (0 : Int32) (σ_3.1 56 37) (σ_3.1 56 38) a2 a3 (σ_3.1 59 a1.toNatClampNeg) σ_3 r_29 σ_29 hc29) (cwV 6 hts gX9_comes_X9_asksOf rfl rfl rfl (by decide +kernel) ⟨Nat.le_of_ble_eq_true rfl, Nat.le_of_ble_eq_true rfl⟩) (ow_preV hG hW ow_i56 (by decide) rfl) rfl rfl hl.1 rfl (lv_room (Nat.le_of_ble_eq_true rfl)) dX9_comes_29 ⟨Nat.zero_le _, Nat.zero_le _⟩) hW (fun H locs hW => ?_)
    refine lv_iload_n hx hb dX9_comes_32 rfl (lv_at hl 3 rfl) ?_
    obtain ⟨r_33, σ_33, hc33, hf⟩ := ow_cl_i hf
    refine ow_calli (va_runV (As := [.int a1, .int r_29, .int a3]) (rest := []) ⟨hx, hb, hml, hown, hts⟩ (c_X9_keepsOf l Z fu a1 r_29 a3 σ_29 r_33 σ_33 hc33) (cwV 3 hts gX9_comes_X9_keepsOf rfl rfl rfl (by decide +kernel) ⟨Nat.le_of_ble_eq_true rfl, Nat.le_of_ble_eq_true rfl⟩) (ow_preV hG hW ow_i56 (by decide) rfl) rfl rfl hl.1 rfl (lv_room (Nat.le_of_ble_eq_true rfl)) dX9_comes_33 ⟨Nat.zero_le _, Nat.zero_le _⟩) hW (fun H locs hW => ?_)
    refine lv_istore (lv' := [(4, .int r_33), (0, .ref (ow_ad Z 56)), (1, .int a1), (2, .int a2), (3, .int a3)]) hx hb dX9_comes_36 hl (by decide) rfl (fun ls hl => ?_)
    refine lv_aload_n hx hb dX9_comes_38 rfl (lv_at hl 1 rfl) ?_
    refine lv_iconst (v := 1) hx hb dX9_comes_39 (by decide) ?_
    refine lv_aload_n hx hb dX9_comes_40 rfl (lv_at hl 1 rfl) ?_
    refine ow_getV (ci := 9) (C := RX9) (T := TX9) (N := 41) hx hb hts hown hG hW ow_i56 (by decide) rfl hinX9 37 (by decide) (fk := 0) rfl (hts (.fieldLink RX9 213 "FiftyOneCardsModel" "keepsFirst" "I") (by decide +kernel)) (v := .int (σ_33.1 56 37)) rfl dX9_comes_41 ?_
    refine lv_aload_n hx hb dX9_comes_44 rfl (lv_at hl 1 rfl) ?_
    refine ow_getV (ci := 9) (C := RX9) (T := TX9) (N := 41) hx hb hts hown hG hW ow_i56 (by decide) rfl hinX9 38 (by decide) (fk := 0) rfl (hts (.fieldLink RX9 216 "FiftyOneCardsModel" "keepsSecond" "I") (by decide +kernel)) (v := .int (σ_33.1 56 38)) rfl dX9_comes_45 ?_
    refine lv_iload_n hx hb dX9_comes_48 rfl (lv_at hl 3 rfl) ?_
    refine lv_iload_n hx hb dX9_comes_49 rfl (lv_at hl 4 rfl) ?_
    refine lv_aload_n hx hb dX9_comes_50 rfl (lv_at hl 1 rfl) ?_
    refine ow_getV (ci := 9) (C := RX9) (T := TX9) (N := 41) hx hb hts hown hG hW ow_i56 (by decide) rfl hinX9 5 (by decide) (fk := 2) rfl (hts (.fieldLink RX9 20 "FiftyOneCardsModel" "moreOf" "[I") (by decide +kernel)) (v := .ref (ow_ad Z 59)) (ow_vR hW ow_i56.1 ow_i56.2.1 rfl) dX9_comes_51 ?_
    refine lv_iload_n hx hb dX9_comes_54 rfl (lv_at hl 2 rfl) ?_
    obtain ⟨q55, hf⟩ := ow_ck_i hf
    refine ow_ild (q := a1.toNatClampNeg) hx hb hG hW ow_i59 rfl q55 rfl dX9_comes_55 ?_
    obtain ⟨r_56, σ_56, hc56, hf⟩ := ow_cl_i hf
    refine ow_calli (va_runV (As := [.int (1 : Int32), .int (σ_33.1 56 37), .int (σ_33.1 56 38), .int a2, .int a3, .int (σ_33.1 59 a1.toNatClampNeg)]) (rest := []) ⟨hx, hb, hml, hown, hts⟩ (c_X9_asksOf l Z fu (1 : Int32) (σ_33.1 56 37) (σ_33.1 56 38) a2 a3 (σ_33.1 59 a1.toNatClampNeg) σ_33 r_56 σ_56 hc56) (cwV 6 hts gX9_comes_X9_asksOf rfl rfl rfl (by decide +kernel) ⟨Nat.le_of_ble_eq_true rfl, Nat.le_of_ble_eq_true rfl⟩) (ow_preV hG hW ow_i56 (by decide) rfl) rfl rfl hl.1 rfl (lv_room (Nat.le_of_ble_eq_true rfl)) dX9_comes_56 ⟨Nat.zero_le _, Nat.zero_le _⟩) hW (fun H locs hW => ?_)
    refine lv_istore (lv' := [(5, .int r_56), (4, .int r_33), (0, .ref (ow_ad Z 56)), (1, .int a1), (2, .int a2), (3, .int a3)]) hx hb dX9_comes_59 hl (by decide) rfl (fun ls hl => ?_)
    refine lv_aload_n hx hb dX9_comes_61 rfl (lv_at hl 2 rfl) ?_
    refine lv_iload hx hb dX9_comes_62 (lv_at hl 1 rfl) ?_
    refine lv_aload_n hx hb dX9_comes_64 rfl (lv_at hl 2 rfl) ?_
    refine lv_iload_n hx hb dX9_comes_65 rfl (lv_at hl 3 rfl) ?_
    obtain ⟨r_66, σ_66, hc66, hf⟩ := ow_cl_i hf
    refine ow_calli (va_runV (As := [.int a1]) (rest := [.int r_33, .ref (ow_ad Z 56)]) ⟨hx, hb, hml, hown, hts⟩ (c_X9_maskOf l Z fu a1 σ_56 r_66 σ_66 hc66) (cwV 1 hts gX9_comes_X9_maskOf rfl rfl rfl (by decide +kernel) ⟨Nat.le_of_ble_eq_true rfl, Nat.le_of_ble_eq_true rfl⟩) (ow_preV hG hW ow_i56 (by decide) rfl) rfl rfl hl.1 rfl (lv_room (Nat.le_of_ble_eq_true rfl)) dX9_comes_66 ⟨Nat.zero_le _, Nat.zero_le _⟩) hW (fun H locs hW => ?_)
    refine lv_iand hx hb dX9_comes_69 ?_
    refine ow_putI (ci := 9) (C := RX9) (T := TX9) (N := 41) hx hb hts hown hG hW ow_i56 (by decide) rfl hinX9 tyX9 tyX9_ok nmX9 37 (by decide) rfl (hts (.fieldLink RX9 213 "FiftyOneCardsModel" "keepsFirst" "I") (by decide +kernel)) rfl rfl rfl hf dX9_comes_70 (fun σ_70 H locs hf hW => ?_)
    refine lv_aload_n hx hb dX9_comes_73 rfl (lv_at hl 2 rfl) ?_
    refine lv_iload hx hb dX9_comes_74 (lv_at hl 0 rfl) ?_
    refine lv_aload_n hx hb dX9_comes_76 rfl (lv_at hl 2 rfl) ?_
    refine lv_iload_n hx hb dX9_comes_77 rfl (lv_at hl 3 rfl) ?_
    obtain ⟨r_78, σ_78, hc78, hf⟩ := ow_cl_i hf
    refine ow_calli (va_runV (As := [.int a1]) (rest := [.int r_56, .ref (ow_ad Z 56)]) ⟨hx, hb, hml, hown, hts⟩ (c_X9_maskOf l Z fu a1 σ_70 r_78 σ_78 hc78) (cwV 1 hts gX9_comes_X9_maskOf rfl rfl rfl (by decide +kernel) ⟨Nat.le_of_ble_eq_true rfl, Nat.le_of_ble_eq_true rfl⟩) (ow_preV hG hW ow_i56 (by decide) rfl) rfl rfl hl.1 rfl (lv_room (Nat.le_of_ble_eq_true rfl)) dX9_comes_78 ⟨Nat.zero_le _, Nat.zero_le _⟩) hW (fun H locs hW => ?_)
    refine lv_iand hx hb dX9_comes_81 ?_
    refine ow_putI (ci := 9) (C := RX9) (T := TX9) (N := 41) hx hb hts hown hG hW ow_i56 (by decide) rfl hinX9 tyX9 tyX9_ok nmX9 38 (by decide) rfl (hts (.fieldLink RX9 216 "FiftyOneCardsModel" "keepsSecond" "I") (by decide +kernel)) rfl rfl rfl hf dX9_comes_82 (fun σ_82 H locs hf hW => ?_)
    exact ow_vret hx hb hr hW hf dX9_comes_85 hlocks
set_option maxHeartbeats 40000000 in
set_option maxRecDepth 100000 in
theorem c_X9_timesOf (l : Launch) (Z : ow_Z) (fu : Nat) (a1 : Int32) (σ : ow_S) (rr : Int32) (σr : ow_S) (hf : f_X9_timesOf fu a1 σ = some (rr, σr)) : Met l yX9_timesOf wsX9_timesOf { frames := 1, cells := 0, slots := 0, locals := 60 } (ow_Pc Z 56 20 [.ref (ow_ad Z 56), .int a1] σ) (ow_Qi Z 56 20 rr σr) 0 0 (ow_A Z 56 20) := by
  refine Met.ofW (cc := cX9_timesOf) (maxL := 2) (ret := (some .int)) (by decide) rfl ?_
  intro p e s m args below meth c s₁ B hml hv
  obtain ⟨hav, hB⟩ := hv
  obtain ⟨hG, hW⟩ := ow_begin hB
  have hx := B.exec
  have hb := B.bytes
  have hr := B.returns
  have hts := atoms_spec (ws := wsX9_timesOf) B.pre
  have hown : s.vm.findClass RX9 = some m.cls := findClass_of_methodNamed B.named
  have hlocks := B.notSynchronized
  have hinX9 : ∀ w ∈ wsX90, w ∈ wsX9_timesOf := by decide +kernel
  have hl := lv_entry ([.ref (ow_ad Z 56), .int a1]) (n := 2) (Nat.le_of_ble_eq_true rfl)
  refine W.eq (g2 := F0 m 0 ((lg_sl ([.ref (ow_ad Z 56), .int a1]) ++ List.replicate (2 - (lg_sl ([.ref (ow_ad Z 56), .int a1])).length) Slot.unset).toArray) []) (by rw [hav]; exact lg_entry_eq _ _ _) ?_
  generalize (lg_sl ([.ref (ow_ad Z 56), .int a1]) ++ List.replicate (2 - (lg_sl ([.ref (ow_ad Z 56), .int a1])).length) Slot.unset).toArray = ls at hl ⊢
  have hl : lv_has ls 2 [(0, .ref (ow_ad Z 56)), (1, .int a1)] := hl
  unfold f_X9_timesOf at hf
  refine lv_aload_n hx hb dX9_timesOf_0 rfl (lv_at hl 0 rfl) ?_
  refine ow_getV (ci := 9) (C := RX9) (T := TX9) (N := 41) hx hb hts hown hG hW ow_i56 (by decide) rfl hinX9 4 (by decide) (fk := 2) rfl (hts (.fieldLink RX9 17 "FiftyOneCardsModel" "kind" "[I") (by decide +kernel)) (v := .ref (ow_ad Z 58)) (ow_vR hW ow_i56.1 ow_i56.2.1 rfl) dX9_timesOf_1 ?_
  refine lv_iload_n hx hb dX9_timesOf_4 rfl (lv_at hl 1 rfl) ?_
  obtain ⟨q5, hf⟩ := ow_ck_i hf
  refine ow_ild (q := a1.toNatClampNeg) hx hb hG hW ow_i58 rfl q5 rfl dX9_timesOf_5 ?_
  refine lv_iconst (v := 5) hx hb dX9_timesOf_6 (by decide) ?_
  refine lv_icmp_ne (tgt := 23) hx hb dX9_timesOf_7 (by decide) (fun c7 => ?_) (fun c7 => ?_)
  · replace hf := ow_if_f c7 hf
    refine lv_iconst (v := 1) hx hb dX9_timesOf_23 (by decide) ?_
    exact ow_iret hx hb hr hW hf dX9_timesOf_24 hlocks
  · replace hf := ow_if_t c7 hf
    refine lv_iconst (v := 2) hx hb dX9_timesOf_10 (by decide) ?_
    refine lv_aload_n hx hb dX9_timesOf_11 rfl (lv_at hl 0 rfl) ?_
    refine ow_getV (ci := 9) (C := RX9) (T := TX9) (N := 41) hx hb hts hown hG hW ow_i56 (by decide) rfl hinX9 5 (by decide) (fk := 2) rfl (hts (.fieldLink RX9 20 "FiftyOneCardsModel" "moreOf" "[I") (by decide +kernel)) (v := .ref (ow_ad Z 59)) (ow_vR hW ow_i56.1 ow_i56.2.1 rfl) dX9_timesOf_12 ?_
    refine lv_iload_n hx hb dX9_timesOf_15 rfl (lv_at hl 1 rfl) ?_
    obtain ⟨q16, hf⟩ := ow_ck_i hf
    refine ow_ild (q := a1.toNatClampNeg) hx hb hG hW ow_i59 rfl q16 rfl dX9_timesOf_16 ?_
    refine lv_iconst (v := 5) hx hb dX9_timesOf_17 (by decide) ?_
    refine lv_idiv hx hb dX9_timesOf_18 (by decide) ?_
    refine lv_iadd hx hb dX9_timesOf_19 ?_
    refine lv_goto (tgt := 24) hx hb dX9_timesOf_20 (by decide) ?_
    exact ow_iret hx hb hr hW hf dX9_timesOf_24 hlocks
set_option maxHeartbeats 40000000 in
set_option maxRecDepth 100000 in
theorem c_X9_goesBy (l : Launch) (Z : ow_Z) (fu : Nat) (a1 : Int32) (a2 : Int32) (σ : ow_S) (σr : ow_S) (hf : f_X9_goesBy fu a1 a2 σ = some σr) : Met l yX9_goesBy wsX9_goesBy { frames := 5, cells := 0, slots := 0, locals := 157 } (ow_Pc Z 56 20 [.ref (ow_ad Z 56), .int a1, .int a2] σ) (ow_Qv Z 56 20 σr) 0 0 (ow_A Z 56 20) := by
  refine Met.ofW (cc := cX9_goesBy) (maxL := 5) (ret := none) (by decide) rfl ?_
  intro p e s m args below meth c s₁ B hml hv
  obtain ⟨hav, hB⟩ := hv
  obtain ⟨hG, hW⟩ := ow_begin hB
  have hx := B.exec
  have hb := B.bytes
  have hr := B.returns
  have hts := atoms_spec (ws := wsX9_goesBy) B.pre
  have hown : s.vm.findClass RX9 = some m.cls := findClass_of_methodNamed B.named
  have hlocks := B.notSynchronized
  have hinX9 : ∀ w ∈ wsX90, w ∈ wsX9_goesBy := by decide +kernel
  have hJ38 : ∀ (k7 : Int32 → Int32 → Int32 → ow_S → Option (ow_S)) (hk7 : ∀ (x1 : Int32) (x2 : Int32) (x3 : Int32) (σ : ow_S) (H : Heap) (locs : List Loc) (ls : Array Slot), k7 x1 x2 x3 σ = some σr → ow_Wd Z 56 20 σ s H locs → lv_has ls 5 [(0, .ref (ow_ad Z 56)), (1, .int x1), (2, .int x2), (3, .int x3)] → W p l e (headSpec wsX9_goesBy { frames := 5, cells := 0, slots := 0, locals := 157 }).room s m args below meth c H locs 0 0 (MQ below (ow_Qv Z 56 20 σr) args s 0 0 (ow_A Z 56 20)) (F0 m 7 ls [])) (k19 : Int32 → Int32 → Int32 → Int32 → ow_S → Option (ow_S)) (hk19 : ∀ (x1 : Int32) (x2 : Int32) (x3 : Int32) (x4 : Int32) (σ : ow_S) (H : Heap) (locs : List Loc) (ls : Array Slot), k19 x1 x2 x3 x4 σ = some σr → ow_Wd Z 56 20 σ s H locs → lv_has ls 5 [(0, .ref (ow_ad Z 56)), (1, .int x1), (2, .int x2), (3, .int x3), (4, .int x4)] → W p l e (headSpec wsX9_goesBy { frames := 5, cells := 0, slots := 0, locals := 157 }).room s m args below meth c H locs 0 0 (MQ below (ow_Qv Z 56 20 σr) args s 0 0 (ow_A Z 56 20)) (F0 m 19 ls [])), ∀ (x1 : Int32) (x2 : Int32) (x3 : Int32) (x4 : Int32) (s0 : Int32) (s1 : Int32) (σ : ow_S) (H : Heap) (locs : List Loc) (ls : Array Slot), L_X9_goesBy_38 fu k7 k19 x1 x2 x3 x4 s0 s1 σ = some σr → ow_Wd Z 56 20 σ s H locs → lv_has ls 5 [(0, .ref (ow_ad Z 56)), (1, .int x1), (2, .int x2), (3, .int x3), (4, .int x4)] → W p l e (headSpec wsX9_goesBy { frames := 5, cells := 0, slots := 0, locals := 157 }).room s m args below meth c H locs 0 0 (MQ below (ow_Qv Z 56 20 σr) args s 0 0 (ow_A Z 56 20)) (F0 m 38 ls [.int s1, .int s0]) := by
    intro k7 hk7 k19 hk19 x1 x2 x3 x4 s0 s1 σ H locs ls hf hW hl
    unfold L_X9_goesBy_38 at hf
    refine lv_icmp_ge (tgt := 61) hx hb dX9_goesBy_38 (by decide) (fun c38 => ?_) (fun c38 => ?_)
    · replace hf := ow_if_t c38 hf
      refine ow_iinc (d := 1) (lv' := fun z => [(3, .int z), (0, .ref (ow_ad Z 56)), (1, .int x1), (2, .int x2), (4, .int x4)]) hx hb hf dX9_goesBy_61 hl (k := 3) rfl (by decide) (by decide) (fun z => rfl) (fun x3_61 hf ls hl => ?_)
      refine lv_goto (tgt := 7) hx hb dX9_goesBy_64 (by decide) ?_
      exact hk7 x1 x2 x3_61 σ _ _ _ hf hW (lv_sub hl [1, 2, 3, 0] rfl)
    · replace hf := ow_if_f c38 hf
      refine lv_aload_n hx hb dX9_goesBy_41 rfl (lv_at hl 0 rfl) ?_
      refine lv_iload_n hx hb dX9_goesBy_42 rfl (lv_at hl 1 rfl) ?_
      refine lv_aload_n hx hb dX9_goesBy_43 rfl (lv_at hl 0 rfl) ?_
      refine ow_getV (ci := 9) (C := RX9) (T := TX9) (N := 41) hx hb hts hown hG hW ow_i56 (by decide) rfl hinX9 35 (by decide) (fk := 2) rfl (hts (.fieldLink RX9 65 "FiftyOneCardsModel" "goes" "[I") (by decide +kernel)) (v := .ref (ow_ad Z 74)) (ow_vR hW ow_i56.1 ow_i56.2.1 rfl) dX9_goesBy_44 ?_
      refine lv_iload hx hb dX9_goesBy_47 (lv_at hl 4 rfl) ?_
      obtain ⟨q49, hf⟩ := ow_ck_i hf
      refine ow_ild (q := x4.toNatClampNeg) hx hb hG hW ow_i74 rfl q49 rfl dX9_goesBy_49 ?_
      refine lv_iload hx hb dX9_goesBy_50 (lv_at hl 4 rfl) ?_
      obtain ⟨σ_52, hc52, hf⟩ := ow_cv_i hf
      refine ow_callv (va_runV (As := [.int x1, .int (σ.1 74 x4.toNatClampNeg), .int x4]) (rest := []) ⟨hx, hb, hml, hown, hts⟩ (c_X9_comes l Z fu x1 (σ.1 74 x4.toNatClampNeg) x4 σ σ_52  hc52) (cwV 3 hts gX9_goesBy_X9_comes rfl rfl rfl (by decide +kernel) ⟨Nat.le_of_ble_eq_true rfl, Nat.le_of_ble_eq_true rfl⟩) (ow_preV hG hW ow_i56 (by decide) rfl) rfl rfl hl.1 rfl (lv_room (Nat.le_of_ble_eq_true rfl)) dX9_goesBy_52 ⟨Nat.zero_le _, Nat.zero_le _⟩) hW (fun H locs hW => ?_)
      refine ow_iinc (d := 1) (lv' := fun z => [(4, .int z), (0, .ref (ow_ad Z 56)), (1, .int x1), (2, .int x2), (3, .int x3)]) hx hb hf dX9_goesBy_55 hl (k := 4) rfl (by decide) (by decide) (fun z => rfl) (fun x4_55 hf ls hl => ?_)
      refine lv_goto (tgt := 19) hx hb dX9_goesBy_58 (by decide) ?_
      exact hk19 x1 x2 x3 x4_55 σ_52 _ _ _ hf hW (lv_sub hl [1, 2, 3, 4, 0] rfl)
  have hJ19 : ∀ (k7 : Int32 → Int32 → Int32 → ow_S → Option (ow_S)) (hk7 : ∀ (x1 : Int32) (x2 : Int32) (x3 : Int32) (σ : ow_S) (H : Heap) (locs : List Loc) (ls : Array Slot), k7 x1 x2 x3 σ = some σr → ow_Wd Z 56 20 σ s H locs → lv_has ls 5 [(0, .ref (ow_ad Z 56)), (1, .int x1), (2, .int x2), (3, .int x3)] → W p l e (headSpec wsX9_goesBy { frames := 5, cells := 0, slots := 0, locals := 157 }).room s m args below meth c H locs 0 0 (MQ below (ow_Qv Z 56 20 σr) args s 0 0 (ow_A Z 56 20)) (F0 m 7 ls [])), ∀ (fn : Nat), ∀ (x1 : Int32) (x2 : Int32) (x3 : Int32) (x4 : Int32) (σ : ow_S) (H : Heap) (locs : List Loc) (ls : Array Slot), L_X9_goesBy_19 fu k7 fn x1 x2 x3 x4 σ = some σr → ow_Wd Z 56 20 σ s H locs → lv_has ls 5 [(0, .ref (ow_ad Z 56)), (1, .int x1), (2, .int x2), (3, .int x3), (4, .int x4)] → W p l e (headSpec wsX9_goesBy { frames := 5, cells := 0, slots := 0, locals := 157 }).room s m args below meth c H locs 0 0 (MQ below (ow_Qv Z 56 20 σr) args s 0 0 (ow_A Z 56 20)) (F0 m 19 ls []) := by
    intro k7 hk7 fn
    induction fn with
    | zero => intro x1 x2 x3 x4 σ H locs ls hf hW hl; simp [L_X9_goesBy_19] at hf
    | succ fn ih =>
      intro x1 x2 x3 x4 σ H locs ls hf hW hl
      rw [L_X9_goesBy_19] at hf
      refine lv_iload hx hb dX9_goesBy_19 (lv_at hl 4 rfl) ?_
      refine lv_iload_n hx hb dX9_goesBy_21 rfl (lv_at hl 3 rfl) ?_
      refine lv_aload_n hx hb dX9_goesBy_22 rfl (lv_at hl 0 rfl) ?_
      refine lv_iload_n hx hb dX9_goesBy_23 rfl (lv_at hl 1 rfl) ?_
      obtain ⟨r_24, σ_24, hc24, hf⟩ := ow_cl_i hf
      refine ow_calli (va_runV (As := [.int x1]) (rest := [.int x3, .int x4]) ⟨hx, hb, hml, hown, hts⟩ (c_X9_timesOf l Z fu x1 σ r_24 σ_24 hc24) (cwV 1 hts gX9_goesBy_X9_timesOf rfl rfl rfl (by decide +kernel) ⟨Nat.le_of_ble_eq_true rfl, Nat.le_of_ble_eq_true rfl⟩) (ow_preV hG hW ow_i56 (by decide) rfl) rfl rfl hl.1 rfl (lv_room (Nat.le_of_ble_eq_true rfl)) dX9_goesBy_24 ⟨Nat.zero_le _, Nat.zero_le _⟩) hW (fun H locs hW => ?_)
      refine lv_icmp_ge (tgt := 37) hx hb dX9_goesBy_27 (by decide) (fun c27 => ?_) (fun c27 => ?_)
      · replace hf := ow_if_t c27 hf
        refine lv_iload_n hx hb dX9_goesBy_37 rfl (lv_at hl 2 rfl) ?_
        exact hJ38 k7 hk7 (L_X9_goesBy_19 fu k7 fn) ih x1 x2 x3 x4 x4 x2 σ_24 _ _ _ hf hW (lv_sub hl [0, 1, 2, 3, 4] rfl)
      · replace hf := ow_if_f c27 hf
        refine lv_aload_n hx hb dX9_goesBy_30 rfl (lv_at hl 0 rfl) ?_
        refine ow_getV (ci := 9) (C := RX9) (T := TX9) (N := 41) hx hb hts hown hG hW ow_i56 (by decide) rfl hinX9 36 (by decide) (fk := 0) rfl (hts (.fieldLink RX9 102 "FiftyOneCardsModel" "goesMany" "I") (by decide +kernel)) (v := .int (σ_24.1 56 36)) rfl dX9_goesBy_31 ?_
        refine lv_goto (tgt := 38) hx hb dX9_goesBy_34 (by decide) ?_
        exact hJ38 k7 hk7 (L_X9_goesBy_19 fu k7 fn) ih x1 x2 x3 x4 x4 (σ_24.1 56 36) σ_24 _ _ _ hf hW (lv_sub hl [0, 1, 2, 3, 4] rfl)
  have hJ7 : ∀ (fn : Nat), ∀ (x1 : Int32) (x2 : Int32) (x3 : Int32) (σ : ow_S) (H : Heap) (locs : List Loc) (ls : Array Slot), L_X9_goesBy_7 fu fn x1 x2 x3 σ = some σr → ow_Wd Z 56 20 σ s H locs → lv_has ls 5 [(0, .ref (ow_ad Z 56)), (1, .int x1), (2, .int x2), (3, .int x3)] → W p l e (headSpec wsX9_goesBy { frames := 5, cells := 0, slots := 0, locals := 157 }).room s m args below meth c H locs 0 0 (MQ below (ow_Qv Z 56 20 σr) args s 0 0 (ow_A Z 56 20)) (F0 m 7 ls []) := by
    intro fn
    induction fn with
    | zero => intro x1 x2 x3 σ H locs ls hf hW hl; simp [L_X9_goesBy_7] at hf
    | succ fn ih =>
      intro x1 x2 x3 σ H locs ls hf hW hl
      rw [L_X9_goesBy_7] at hf
      refine lv_iload_n hx hb dX9_goesBy_7 rfl (lv_at hl 3 rfl) ?_
      refine lv_aload_n hx hb dX9_goesBy_8 rfl (lv_at hl 0 rfl) ?_
      refine lv_iload_n hx hb dX9_goesBy_9 rfl (lv_at hl 1 rfl) ?_
      obtain ⟨r_10, σ_10, hc10, hf⟩ := ow_cl_i hf
      refine ow_calli (va_runV (As := [.int x1]) (rest := [.int x3]) ⟨hx, hb, hml, hown, hts⟩ (c_X9_timesOf l Z fu x1 σ r_10 σ_10 hc10) (cwV 1 hts gX9_goesBy_X9_timesOf rfl rfl rfl (by decide +kernel) ⟨Nat.le_of_ble_eq_true rfl, Nat.le_of_ble_eq_true rfl⟩) (ow_preV hG hW ow_i56 (by decide) rfl) rfl rfl hl.1 rfl (lv_room (Nat.le_of_ble_eq_true rfl)) dX9_goesBy_10 ⟨Nat.zero_le _, Nat.zero_le _⟩) hW (fun H locs hW => ?_)
      refine lv_icmp_gt (tgt := 67) hx hb dX9_goesBy_13 (by decide) (fun c13 => ?_) (fun c13 => ?_)
      · replace hf := ow_if_t c13 hf
        exact ow_vret hx hb hr hW hf dX9_goesBy_67 hlocks
      · replace hf := ow_if_f c13 hf
        refine lv_iconst (v := 0) hx hb dX9_goesBy_16 (by decide) ?_
        refine lv_istore (lv' := [(4, .int (0 : Int32)), (0, .ref (ow_ad Z 56)), (1, .int x1), (2, .int x2), (3, .int x3)]) hx hb dX9_goesBy_17 hl (by decide) rfl (fun ls hl => ?_)
        exact hJ19 (L_X9_goesBy_7 fu fn) ih fu x1 x2 x3 (0 : Int32) σ_10 _ _ _ hf hW (lv_sub hl [1, 2, 3, 4, 0] rfl)
  have hl := lv_entry ([.ref (ow_ad Z 56), .int a1, .int a2]) (n := 5) (Nat.le_of_ble_eq_true rfl)
  refine W.eq (g2 := F0 m 0 ((lg_sl ([.ref (ow_ad Z 56), .int a1, .int a2]) ++ List.replicate (5 - (lg_sl ([.ref (ow_ad Z 56), .int a1, .int a2])).length) Slot.unset).toArray) []) (by rw [hav]; exact lg_entry_eq _ _ _) ?_
  generalize (lg_sl ([.ref (ow_ad Z 56), .int a1, .int a2]) ++ List.replicate (5 - (lg_sl ([.ref (ow_ad Z 56), .int a1, .int a2])).length) Slot.unset).toArray = ls at hl ⊢
  have hl : lv_has ls 5 [(0, .ref (ow_ad Z 56)), (1, .int a1), (2, .int a2)] := hl
  unfold f_X9_goesBy at hf
  refine lv_aload_n hx hb dX9_goesBy_0 rfl (lv_at hl 0 rfl) ?_
  refine lv_iload_n hx hb dX9_goesBy_1 rfl (lv_at hl 1 rfl) ?_
  obtain ⟨σ_2, hc2, hf⟩ := ow_cv_i hf
  refine ow_callv (va_runV (As := [.int a1]) (rest := []) ⟨hx, hb, hml, hown, hts⟩ (c_X9_beginsOn l Z fu a1 σ σ_2  hc2) (cwV 1 hts gX9_goesBy_X9_beginsOn rfl rfl rfl (by decide +kernel) ⟨Nat.le_of_ble_eq_true rfl, Nat.le_of_ble_eq_true rfl⟩) (ow_preV hG hW ow_i56 (by decide) rfl) rfl rfl hl.1 rfl (lv_room (Nat.le_of_ble_eq_true rfl)) dX9_goesBy_2 ⟨Nat.zero_le _, Nat.zero_le _⟩) hW (fun H locs hW => ?_)
  refine lv_iconst (v := 1) hx hb dX9_goesBy_5 (by decide) ?_
  refine lv_istore_n (lv' := [(3, .int (1 : Int32)), (0, .ref (ow_ad Z 56)), (1, .int a1), (2, .int a2)]) hx hb dX9_goesBy_6 rfl hl (by decide) rfl (fun ls hl => ?_)
  exact hJ7 fu a1 a2 (1 : Int32) σ_2 _ _ _ hf hW (lv_sub hl [1, 2, 3, 0] rfl)
set_option maxHeartbeats 40000000 in
set_option maxRecDepth 100000 in
theorem c_X9_saysOf (l : Launch) (Z : ow_Z) (fu : Nat) (a1 : Int32) (σ : ow_S) (rr : Int32) (σr : ow_S) (hf : f_X9_saysOf fu a1 σ = some (rr, σr)) : Met l yX9_saysOf wsX9_saysOf { frames := 6, cells := 0, slots := 0, locals := 181 } (ow_Pc Z 56 20 [.ref (ow_ad Z 56), .int a1] σ) (ow_Qi Z 56 20 rr σr) 0 0 (ow_A Z 56 20) := by
  refine Met.ofW (cc := cX9_saysOf) (maxL := 2) (ret := (some .int)) (by decide) rfl ?_
  intro p e s m args below meth c s₁ B hml hv
  obtain ⟨hav, hB⟩ := hv
  obtain ⟨hG, hW⟩ := ow_begin hB
  have hx := B.exec
  have hb := B.bytes
  have hr := B.returns
  have hts := atoms_spec (ws := wsX9_saysOf) B.pre
  have hown : s.vm.findClass RX9 = some m.cls := findClass_of_methodNamed B.named
  have hlocks := B.notSynchronized
  have hinX9 : ∀ w ∈ wsX90, w ∈ wsX9_saysOf := by decide +kernel
  have hl := lv_entry ([.ref (ow_ad Z 56), .int a1]) (n := 2) (Nat.le_of_ble_eq_true rfl)
  refine W.eq (g2 := F0 m 0 ((lg_sl ([.ref (ow_ad Z 56), .int a1]) ++ List.replicate (2 - (lg_sl ([.ref (ow_ad Z 56), .int a1])).length) Slot.unset).toArray) []) (by rw [hav]; exact lg_entry_eq _ _ _) ?_
  generalize (lg_sl ([.ref (ow_ad Z 56), .int a1]) ++ List.replicate (2 - (lg_sl ([.ref (ow_ad Z 56), .int a1])).length) Slot.unset).toArray = ls at hl ⊢
  have hl : lv_has ls 2 [(0, .ref (ow_ad Z 56)), (1, .int a1)] := hl
  unfold f_X9_saysOf at hf
  refine lv_aload_n hx hb dX9_saysOf_0 rfl (lv_at hl 0 rfl) ?_
  refine lv_iload_n hx hb dX9_saysOf_1 rfl (lv_at hl 1 rfl) ?_
  refine lv_aload_n hx hb dX9_saysOf_2 rfl (lv_at hl 0 rfl) ?_
  refine ow_getV (ci := 9) (C := RX9) (T := TX9) (N := 41) hx hb hts hown hG hW ow_i56 (by decide) rfl hinX9 36 (by decide) (fk := 0) rfl (hts (.fieldLink RX9 102 "FiftyOneCardsModel" "goesMany" "I") (by decide +kernel)) (v := .int (σ.1 56 36)) rfl dX9_saysOf_3 ?_
  obtain ⟨σ_6, hc6, hf⟩ := ow_cv_i hf
  refine ow_callv (va_runV (As := [.int a1, .int (σ.1 56 36)]) (rest := []) ⟨hx, hb, hml, hown, hts⟩ (c_X9_goesBy l Z fu a1 (σ.1 56 36) σ σ_6  hc6) (cwV 2 hts gX9_saysOf_X9_goesBy rfl rfl rfl (by decide +kernel) ⟨Nat.le_of_ble_eq_true rfl, Nat.le_of_ble_eq_true rfl⟩) (ow_preV hG hW ow_i56 (by decide) rfl) rfl rfl hl.1 rfl (lv_room (Nat.le_of_ble_eq_true rfl)) dX9_saysOf_6 ⟨Nat.zero_le _, Nat.zero_le _⟩) hW (fun H locs hW => ?_)
  refine lv_aload_n hx hb dX9_saysOf_9 rfl (lv_at hl 0 rfl) ?_
  refine lv_iconst (v := 2) hx hb dX9_saysOf_10 (by decide) ?_
  refine lv_aload_n hx hb dX9_saysOf_11 rfl (lv_at hl 0 rfl) ?_
  refine ow_getV (ci := 9) (C := RX9) (T := TX9) (N := 41) hx hb hts hown hG hW ow_i56 (by decide) rfl hinX9 37 (by decide) (fk := 0) rfl (hts (.fieldLink RX9 213 "FiftyOneCardsModel" "keepsFirst" "I") (by decide +kernel)) (v := .int (σ_6.1 56 37)) rfl dX9_saysOf_12 ?_
  refine lv_aload_n hx hb dX9_saysOf_15 rfl (lv_at hl 0 rfl) ?_
  refine ow_getV (ci := 9) (C := RX9) (T := TX9) (N := 41) hx hb hts hown hG hW ow_i56 (by decide) rfl hinX9 38 (by decide) (fk := 0) rfl (hts (.fieldLink RX9 216 "FiftyOneCardsModel" "keepsSecond" "I") (by decide +kernel)) (v := .int (σ_6.1 56 38)) rfl dX9_saysOf_16 ?_
  refine lv_iconst (v := 0) hx hb dX9_saysOf_19 (by decide) ?_
  refine lv_aload_n hx hb dX9_saysOf_20 rfl (lv_at hl 0 rfl) ?_
  refine ow_getV (ci := 9) (C := RX9) (T := TX9) (N := 41) hx hb hts hown hG hW ow_i56 (by decide) rfl hinX9 36 (by decide) (fk := 0) rfl (hts (.fieldLink RX9 102 "FiftyOneCardsModel" "goesMany" "I") (by decide +kernel)) (v := .int (σ_6.1 56 36)) rfl dX9_saysOf_21 ?_
  refine lv_aload_n hx hb dX9_saysOf_24 rfl (lv_at hl 0 rfl) ?_
  refine ow_getV (ci := 9) (C := RX9) (T := TX9) (N := 41) hx hb hts hown hG hW ow_i56 (by decide) rfl hinX9 5 (by decide) (fk := 2) rfl (hts (.fieldLink RX9 20 "FiftyOneCardsModel" "moreOf" "[I") (by decide +kernel)) (v := .ref (ow_ad Z 59)) (ow_vR hW ow_i56.1 ow_i56.2.1 rfl) dX9_saysOf_25 ?_
  refine lv_iload_n hx hb dX9_saysOf_28 rfl (lv_at hl 1 rfl) ?_
  obtain ⟨q29, hf⟩ := ow_ck_i hf
  refine ow_ild (q := a1.toNatClampNeg) hx hb hG hW ow_i59 rfl q29 rfl dX9_saysOf_29 ?_
  obtain ⟨r_30, σ_30, hc30, hf⟩ := ow_cl_i hf
  refine ow_calli (va_runV (As := [.int (2 : Int32), .int (σ_6.1 56 37), .int (σ_6.1 56 38), .int (0 : Int32), .int (σ_6.1 56 36), .int (σ_6.1 59 a1.toNatClampNeg)]) (rest := []) ⟨hx, hb, hml, hown, hts⟩ (c_X9_asksOf l Z fu (2 : Int32) (σ_6.1 56 37) (σ_6.1 56 38) (0 : Int32) (σ_6.1 56 36) (σ_6.1 59 a1.toNatClampNeg) σ_6 r_30 σ_30 hc30) (cwV 6 hts gX9_saysOf_X9_asksOf rfl rfl rfl (by decide +kernel) ⟨Nat.le_of_ble_eq_true rfl, Nat.le_of_ble_eq_true rfl⟩) (ow_preV hG hW ow_i56 (by decide) rfl) rfl rfl hl.1 rfl (lv_room (Nat.le_of_ble_eq_true rfl)) dX9_saysOf_30 ⟨Nat.zero_le _, Nat.zero_le _⟩) hW (fun H locs hW => ?_)
  refine lv_ldc (v := -1000000) hx hb hown (hts (.constant RX9 202 (-1000000)) (by decide +kernel)) dX9_saysOf_33 ?_
  refine lv_ldc (v := 1000000) hx hb hown (hts (.constant RX9 203 (1000000)) (by decide +kernel)) dX9_saysOf_35 ?_
  obtain ⟨r_37, σ_37, hc37, hf⟩ := ow_cl_i hf
  refine ow_calli (va_runS (As := [.int r_30, .int (-1000000 : Int32), .int (1000000 : Int32)]) (rest := []) ⟨hx, hb, hml, hown, hts⟩ (c_X9_within l Z fu r_30 (-1000000 : Int32) (1000000 : Int32) σ_30 r_37 σ_37 hc37) (va_cwS 3 hts gX9_saysOf_X9_within rfl rfl rfl (by decide +kernel) ⟨Nat.le_of_ble_eq_true rfl, Nat.le_of_ble_eq_true rfl⟩) (ow_preS hG hW) rfl rfl hl.1 rfl (lv_room (Nat.le_of_ble_eq_true rfl)) dX9_saysOf_37 ⟨Nat.zero_le _, Nat.zero_le _⟩) hW (fun H locs hW => ?_)
  exact ow_iret hx hb hr hW hf dX9_saysOf_40 hlocks
set_option maxHeartbeats 40000000 in
set_option maxRecDepth 100000 in
theorem c_X9_say (l : Launch) (Z : ow_Z) (fu : Nat) (a1 : Int32) (σ : ow_S) (rr : Int32) (σr : ow_S) (hf : f_X9_say fu a1 σ = some (rr, σr)) : Met l yX9_say wsX9_say { frames := 7, cells := 0, slots := 0, locals := 202 } (ow_Pc Z 56 20 [.ref (ow_ad Z 56), .int a1] σ) (ow_Qi Z 56 20 rr σr) 0 0 (ow_A Z 56 20) := by
  refine Met.ofW (cc := cX9_say) (maxL := 2) (ret := (some .int)) (by decide) rfl ?_
  intro p e s m args below meth c s₁ B hml hv
  obtain ⟨hav, hB⟩ := hv
  obtain ⟨hG, hW⟩ := ow_begin hB
  have hx := B.exec
  have hb := B.bytes
  have hr := B.returns
  have hts := atoms_spec (ws := wsX9_say) B.pre
  have hown : s.vm.findClass RX9 = some m.cls := findClass_of_methodNamed B.named
  have hlocks := B.notSynchronized
  have hl := lv_entry ([.ref (ow_ad Z 56), .int a1]) (n := 2) (Nat.le_of_ble_eq_true rfl)
  refine W.eq (g2 := F0 m 0 ((lg_sl ([.ref (ow_ad Z 56), .int a1]) ++ List.replicate (2 - (lg_sl ([.ref (ow_ad Z 56), .int a1])).length) Slot.unset).toArray) []) (by rw [hav]; exact lg_entry_eq _ _ _) ?_
  generalize (lg_sl ([.ref (ow_ad Z 56), .int a1]) ++ List.replicate (2 - (lg_sl ([.ref (ow_ad Z 56), .int a1])).length) Slot.unset).toArray = ls at hl ⊢
  have hl : lv_has ls 2 [(0, .ref (ow_ad Z 56)), (1, .int a1)] := hl
  unfold f_X9_say at hf
  refine lv_aload_n hx hb dX9_say_0 rfl (lv_at hl 0 rfl) ?_
  refine lv_iload_n hx hb dX9_say_1 rfl (lv_at hl 1 rfl) ?_
  obtain ⟨r_2, σ_2, hc2, hf⟩ := ow_cl_i hf
  refine ow_callz (va_runV (As := [.int a1]) (rest := []) ⟨hx, hb, hml, hown, hts⟩ (c_X9_isHead l Z fu a1 σ r_2 σ_2 hc2) (cwV 1 hts gX9_say_X9_isHead rfl rfl rfl (by decide +kernel) ⟨Nat.le_of_ble_eq_true rfl, Nat.le_of_ble_eq_true rfl⟩) (ow_preV hG hW ow_i56 (by decide) rfl) rfl rfl hl.1 rfl (lv_room (Nat.le_of_ble_eq_true rfl)) dX9_say_2 ⟨Nat.zero_le _, Nat.zero_le _⟩) hW (fun b2 H locs hW => ?_)
  refine lv_if_ne (tgt := 11) hx hb dX9_say_5 (by decide) (fun c5 => ?_) (fun c5 => ?_)
  · replace hf := ow_if_f c5 hf
    refine lv_aload_n hx hb dX9_say_11 rfl (lv_at hl 0 rfl) ?_
    obtain ⟨σ_12, hc12, hf⟩ := ow_cv_i hf
    refine ow_callv (va_runV (As := []) (rest := []) ⟨hx, hb, hml, hown, hts⟩ (c_X9_laysRow l Z fu σ_2 σ_12  hc12) (cwV 0 hts gX9_say_X9_laysRow rfl rfl rfl (by decide +kernel) ⟨Nat.le_of_ble_eq_true rfl, Nat.le_of_ble_eq_true rfl⟩) (ow_preV hG hW ow_i56 (by decide) rfl) rfl rfl hl.1 rfl (lv_room (Nat.le_of_ble_eq_true rfl)) dX9_say_12 ⟨Nat.zero_le _, Nat.zero_le _⟩) hW (fun H locs hW => ?_)
    refine lv_aload_n hx hb dX9_say_15 rfl (lv_at hl 0 rfl) ?_
    refine lv_iload_n hx hb dX9_say_16 rfl (lv_at hl 1 rfl) ?_
    obtain ⟨r_17, σ_17, hc17, hf⟩ := ow_cl_i hf
    refine ow_calli (va_runV (As := [.int a1]) (rest := []) ⟨hx, hb, hml, hown, hts⟩ (c_X9_saysOf l Z fu a1 σ_12 r_17 σ_17 hc17) (cwV 1 hts gX9_say_X9_saysOf rfl rfl rfl (by decide +kernel) ⟨Nat.le_of_ble_eq_true rfl, Nat.le_of_ble_eq_true rfl⟩) (ow_preV hG hW ow_i56 (by decide) rfl) rfl rfl hl.1 rfl (lv_room (Nat.le_of_ble_eq_true rfl)) dX9_say_17 ⟨Nat.zero_le _, Nat.zero_le _⟩) hW (fun H locs hW => ?_)
    exact ow_iret hx hb hr hW hf dX9_say_20 hlocks
  · replace hf := ow_if_t c5 hf
    refine lv_ldc (v := -1000005) hx hb hown (hts (.constant RX9 239 (-1000005)) (by decide +kernel)) dX9_say_8 ?_
    exact ow_iret hx hb hr hW hf dX9_say_10 hlocks
set_option maxHeartbeats 40000000 in
set_option maxRecDepth 100000 in
theorem c_X9_keep (l : Launch) (Z : ow_Z) (fu : Nat) (a1 : Int32) (a2 : Int32) (a3 : Int32) (σ : ow_S) (rr : Int32) (σr : ow_S) (hf : f_X9_keep fu a1 a2 a3 σ = some (rr, σr)) : Met l yX9_keep wsX9_keep { frames := 6, cells := 0, slots := 0, locals := 181 } (ow_Pc Z 56 20 [.ref (ow_ad Z 56), .int a1, .int a2, .int a3] σ) (ow_Qi Z 56 20 rr σr) 0 0 (ow_A Z 56 20) := by
  refine Met.ofW (cc := cX9_keep) (maxL := 4) (ret := (some .int)) (by decide) rfl ?_
  intro p e s m args below meth c s₁ B hml hv
  obtain ⟨hav, hB⟩ := hv
  obtain ⟨hG, hW⟩ := ow_begin hB
  have hx := B.exec
  have hb := B.bytes
  have hr := B.returns
  have hts := atoms_spec (ws := wsX9_keep) B.pre
  have hown : s.vm.findClass RX9 = some m.cls := findClass_of_methodNamed B.named
  have hlocks := B.notSynchronized
  have hinX9 : ∀ w ∈ wsX90, w ∈ wsX9_keep := by decide +kernel
  have hl := lv_entry ([.ref (ow_ad Z 56), .int a1, .int a2, .int a3]) (n := 4) (Nat.le_of_ble_eq_true rfl)
  refine W.eq (g2 := F0 m 0 ((lg_sl ([.ref (ow_ad Z 56), .int a1, .int a2, .int a3]) ++ List.replicate (4 - (lg_sl ([.ref (ow_ad Z 56), .int a1, .int a2, .int a3])).length) Slot.unset).toArray) []) (by rw [hav]; exact lg_entry_eq _ _ _) ?_
  generalize (lg_sl ([.ref (ow_ad Z 56), .int a1, .int a2, .int a3]) ++ List.replicate (4 - (lg_sl ([.ref (ow_ad Z 56), .int a1, .int a2, .int a3])).length) Slot.unset).toArray = ls at hl ⊢
  have hl : lv_has ls 4 [(0, .ref (ow_ad Z 56)), (1, .int a1), (2, .int a2), (3, .int a3)] := hl
  unfold f_X9_keep at hf
  refine lv_aload_n hx hb dX9_keep_0 rfl (lv_at hl 0 rfl) ?_
  refine lv_iload_n hx hb dX9_keep_1 rfl (lv_at hl 1 rfl) ?_
  obtain ⟨r_2, σ_2, hc2, hf⟩ := ow_cl_i hf
  refine ow_callz (va_runV (As := [.int a1]) (rest := []) ⟨hx, hb, hml, hown, hts⟩ (c_X9_isHead l Z fu a1 σ r_2 σ_2 hc2) (cwV 1 hts gX9_keep_X9_isHead rfl rfl rfl (by decide +kernel) ⟨Nat.le_of_ble_eq_true rfl, Nat.le_of_ble_eq_true rfl⟩) (ow_preV hG hW ow_i56 (by decide) rfl) rfl rfl hl.1 rfl (lv_room (Nat.le_of_ble_eq_true rfl)) dX9_keep_2 ⟨Nat.zero_le _, Nat.zero_le _⟩) hW (fun b2 H locs hW => ?_)
  refine lv_if_ne (tgt := 11) hx hb dX9_keep_5 (by decide) (fun c5 => ?_) (fun c5 => ?_)
  · replace hf := ow_if_f c5 hf
    refine lv_iload_n hx hb dX9_keep_11 rfl (lv_at hl 2 rfl) ?_
    refine lv_iconst (v := 0) hx hb dX9_keep_12 (by decide) ?_
    refine lv_aload_n hx hb dX9_keep_13 rfl (lv_at hl 0 rfl) ?_
    refine ow_getV (ci := 9) (C := RX9) (T := TX9) (N := 41) hx hb hts hown hG hW ow_i56 (by decide) rfl hinX9 2 (by decide) (fk := 0) rfl (hts (.fieldLink RX9 85 "FiftyOneCardsModel" "rowMany" "I") (by decide +kernel)) (v := .int (σ_2.1 56 2)) rfl dX9_keep_14 ?_
    obtain ⟨r_17, σ_17, hc17, hf⟩ := ow_cl_i hf
    refine ow_callz (va_runS (As := [.int a2, .int (0 : Int32), .int (σ_2.1 56 2)]) (rest := []) ⟨hx, hb, hml, hown, hts⟩ (c_X9_in l Z fu a2 (0 : Int32) (σ_2.1 56 2) σ_2 r_17 σ_17 hc17) (va_cwS 3 hts gX9_keep_X9_in rfl rfl rfl (by decide +kernel) ⟨Nat.le_of_ble_eq_true rfl, Nat.le_of_ble_eq_true rfl⟩) (ow_preS hG hW) rfl rfl hl.1 rfl (lv_room (Nat.le_of_ble_eq_true rfl)) dX9_keep_17 ⟨Nat.zero_le _, Nat.zero_le _⟩) hW (fun b17 H locs hW => ?_)
    refine lv_if_eq (tgt := 32) hx hb dX9_keep_20 (by decide) (fun c20 => ?_) (fun c20 => ?_)
    · replace hf := ow_if_t c20 hf
      refine lv_bipush (v := -7) hx hb dX9_keep_32 (by decide) ?_
      exact ow_iret hx hb hr hW hf dX9_keep_34 hlocks
    · replace hf := ow_if_f c20 hf
      refine lv_iload_n hx hb dX9_keep_23 rfl (lv_at hl 3 rfl) ?_
      refine lv_iconst (v := 0) hx hb dX9_keep_24 (by decide) ?_
      refine lv_iconst (v := 1) hx hb dX9_keep_25 (by decide) ?_
      obtain ⟨r_26, σ_26, hc26, hf⟩ := ow_cl_i hf
      refine ow_callz (va_runS (As := [.int a3, .int (0 : Int32), .int (1 : Int32)]) (rest := []) ⟨hx, hb, hml, hown, hts⟩ (c_X9_in l Z fu a3 (0 : Int32) (1 : Int32) σ_17 r_26 σ_26 hc26) (va_cwS 3 hts gX9_keep_X9_in rfl rfl rfl (by decide +kernel) ⟨Nat.le_of_ble_eq_true rfl, Nat.le_of_ble_eq_true rfl⟩) (ow_preS hG hW) rfl rfl hl.1 rfl (lv_room (Nat.le_of_ble_eq_true rfl)) dX9_keep_26 ⟨Nat.zero_le _, Nat.zero_le _⟩) hW (fun b26 H locs hW => ?_)
      refine lv_if_ne (tgt := 35) hx hb dX9_keep_29 (by decide) (fun c29 => ?_) (fun c29 => ?_)
      · replace hf := ow_if_f c29 hf
        refine lv_aload_n hx hb dX9_keep_35 rfl (lv_at hl 0 rfl) ?_
        obtain ⟨σ_36, hc36, hf⟩ := ow_cv_i hf
        refine ow_callv (va_runV (As := []) (rest := []) ⟨hx, hb, hml, hown, hts⟩ (c_X9_laysRow l Z fu σ_26 σ_36  hc36) (cwV 0 hts gX9_keep_X9_laysRow rfl rfl rfl (by decide +kernel) ⟨Nat.le_of_ble_eq_true rfl, Nat.le_of_ble_eq_true rfl⟩) (ow_preV hG hW ow_i56 (by decide) rfl) rfl rfl hl.1 rfl (lv_room (Nat.le_of_ble_eq_true rfl)) dX9_keep_36 ⟨Nat.zero_le _, Nat.zero_le _⟩) hW (fun H locs hW => ?_)
        refine lv_aload_n hx hb dX9_keep_39 rfl (lv_at hl 0 rfl) ?_
        refine lv_iload_n hx hb dX9_keep_40 rfl (lv_at hl 1 rfl) ?_
        refine lv_iload_n hx hb dX9_keep_41 rfl (lv_at hl 2 rfl) ?_
        obtain ⟨σ_42, hc42, hf⟩ := ow_cv_i hf
        refine ow_callv (va_runV (As := [.int a1, .int a2]) (rest := []) ⟨hx, hb, hml, hown, hts⟩ (c_X9_goesBy l Z fu a1 a2 σ_36 σ_42  hc42) (cwV 2 hts gX9_keep_X9_goesBy rfl rfl rfl (by decide +kernel) ⟨Nat.le_of_ble_eq_true rfl, Nat.le_of_ble_eq_true rfl⟩) (ow_preV hG hW ow_i56 (by decide) rfl) rfl rfl hl.1 rfl (lv_room (Nat.le_of_ble_eq_true rfl)) dX9_keep_42 ⟨Nat.zero_le _, Nat.zero_le _⟩) hW (fun H locs hW => ?_)
        refine lv_iload_n hx hb dX9_keep_45 rfl (lv_at hl 3 rfl) ?_
        refine lv_if_ne (tgt := 56) hx hb dX9_keep_46 (by decide) (fun c46 => ?_) (fun c46 => ?_)
        · replace hf := ow_if_f c46 hf
          refine lv_aload_n hx hb dX9_keep_56 rfl (lv_at hl 0 rfl) ?_
          refine ow_getV (ci := 9) (C := RX9) (T := TX9) (N := 41) hx hb hts hown hG hW ow_i56 (by decide) rfl hinX9 38 (by decide) (fk := 0) rfl (hts (.fieldLink RX9 216 "FiftyOneCardsModel" "keepsSecond" "I") (by decide +kernel)) (v := .int (σ_42.1 56 38)) rfl dX9_keep_57 ?_
          exact ow_iret hx hb hr hW hf dX9_keep_60 hlocks
        · replace hf := ow_if_t c46 hf
          refine lv_aload_n hx hb dX9_keep_49 rfl (lv_at hl 0 rfl) ?_
          refine ow_getV (ci := 9) (C := RX9) (T := TX9) (N := 41) hx hb hts hown hG hW ow_i56 (by decide) rfl hinX9 37 (by decide) (fk := 0) rfl (hts (.fieldLink RX9 213 "FiftyOneCardsModel" "keepsFirst" "I") (by decide +kernel)) (v := .int (σ_42.1 56 37)) rfl dX9_keep_50 ?_
          refine lv_goto (tgt := 60) hx hb dX9_keep_53 (by decide) ?_
          exact ow_iret hx hb hr hW hf dX9_keep_60 hlocks
      · replace hf := ow_if_t c29 hf
        refine lv_bipush (v := -7) hx hb dX9_keep_32 (by decide) ?_
        exact ow_iret hx hb hr hW hf dX9_keep_34 hlocks
  · replace hf := ow_if_t c5 hf
    refine lv_bipush (v := -5) hx hb dX9_keep_8 (by decide) ?_
    exact ow_iret hx hb hr hW hf dX9_keep_10 hlocks
set_option maxHeartbeats 40000000 in
set_option maxRecDepth 100000 in
theorem c_X9_rightOf (l : Launch) (Z : ow_Z) (fu : Nat) (a1 : Int32) (a2 : Int32) (σ : ow_S) (rr : Int64) (σr : ow_S) (hf : f_X9_rightOf fu a1 a2 σ = some (rr, σr)) : Met l yX9_rightOf wsX9_rightOf { frames := 7, cells := 0, slots := 0, locals := 202 } (ow_Pc Z 56 20 [.ref (ow_ad Z 56), .int a1, .int a2] σ) (ow_Ql Z 56 20 rr σr) 0 0 (ow_A Z 56 20) := by
  refine Met.ofW (cc := cX9_rightOf) (maxL := 6) (ret := (some .long)) (by decide) rfl ?_
  intro p e s m args below meth c s₁ B hml hv
  obtain ⟨hav, hB⟩ := hv
  obtain ⟨hG, hW⟩ := ow_begin hB
  have hx := B.exec
  have hb := B.bytes
  have hr := B.returns
  have hts := atoms_spec (ws := wsX9_rightOf) B.pre
  have hown : s.vm.findClass RX9 = some m.cls := findClass_of_methodNamed B.named
  have hlocks := B.notSynchronized
  have hinX9 : ∀ w ∈ wsX90, w ∈ wsX9_rightOf := by decide +kernel
  have hJ42 : ∀ (k5 : Int32 → Int32 → Int64 → Int32 → ow_S → Option (Int64 × ow_S)) (hk5 : ∀ (x1 : Int32) (x2 : Int32) (x3 : Int64) (x5 : Int32) (σ : ow_S) (H : Heap) (locs : List Loc) (ls : Array Slot), k5 x1 x2 x3 x5 σ = some (rr, σr) → ow_Wd Z 56 20 σ s H locs → lv_has ls 6 [(0, .ref (ow_ad Z 56)), (1, .int x1), (2, .int x2), (3, .long x3), (5, .int x5)] → W p l e (headSpec wsX9_rightOf { frames := 7, cells := 0, slots := 0, locals := 202 }).room s m args below meth c H locs 0 0 (MQ below (ow_Ql Z 56 20 rr σr) args s 0 0 (ow_A Z 56 20)) (F0 m 5 ls [])), ∀ (x1 : Int32) (x2 : Int32) (x5 : Int32) (s0 : Int64) (s1 : Int64) (σ : ow_S) (H : Heap) (locs : List Loc) (ls : Array Slot), L_X9_rightOf_42 fu k5 x1 x2 x5 s0 s1 σ = some (rr, σr) → ow_Wd Z 56 20 σ s H locs → lv_has ls 6 [(0, .ref (ow_ad Z 56)), (1, .int x1), (2, .int x2), (5, .int x5)] → W p l e (headSpec wsX9_rightOf { frames := 7, cells := 0, slots := 0, locals := 202 }).room s m args below meth c H locs 0 0 (MQ below (ow_Ql Z 56 20 rr σr) args s 0 0 (ow_A Z 56 20)) (F0 m 42 ls [.long s1, .long s0]) := by
    intro k5 hk5 x1 x2 x5 s0 s1 σ H locs ls hf hW hl
    unfold L_X9_rightOf_42 at hf
    refine lv_lor hx hb dX9_rightOf_42 ?_
    refine ow_topl hf (fun x3_43 hf => ?_)
    refine lv_lstore_n (lv' := [(3, .long x3_43), (0, .ref (ow_ad Z 56)), (1, .int x1), (2, .int x2), (5, .int x5)]) hx hb dX9_rightOf_43 rfl hl (by decide) rfl (fun ls hl => ?_)
    refine ow_iinc (d := 1) (lv' := fun z => [(5, .int z), (3, .long x3_43), (0, .ref (ow_ad Z 56)), (1, .int x1), (2, .int x2)]) hx hb hf dX9_rightOf_44 hl (k := 4) rfl (by decide) (by decide) (fun z => rfl) (fun x5_44 hf ls hl => ?_)
    refine lv_goto (tgt := 5) hx hb dX9_rightOf_47 (by decide) ?_
    exact hk5 x1 x2 x3_43 x5_44 σ _ _ _ hf hW (lv_sub hl [2, 3, 4, 1, 0] rfl)
  have hJ5 : ∀ (fn : Nat), ∀ (x1 : Int32) (x2 : Int32) (x3 : Int64) (x5 : Int32) (σ : ow_S) (H : Heap) (locs : List Loc) (ls : Array Slot), L_X9_rightOf_5 fu fn x1 x2 x3 x5 σ = some (rr, σr) → ow_Wd Z 56 20 σ s H locs → lv_has ls 6 [(0, .ref (ow_ad Z 56)), (1, .int x1), (2, .int x2), (3, .long x3), (5, .int x5)] → W p l e (headSpec wsX9_rightOf { frames := 7, cells := 0, slots := 0, locals := 202 }).room s m args below meth c H locs 0 0 (MQ below (ow_Ql Z 56 20 rr σr) args s 0 0 (ow_A Z 56 20)) (F0 m 5 ls []) := by
    intro fn
    induction fn with
    | zero => intro x1 x2 x3 x5 σ H locs ls hf hW hl; simp [L_X9_rightOf_5] at hf
    | succ fn ih =>
      intro x1 x2 x3 x5 σ H locs ls hf hW hl
      rw [L_X9_rightOf_5] at hf
      refine lv_iload hx hb dX9_rightOf_5 (lv_at hl 4 rfl) ?_
      refine lv_aload_n hx hb dX9_rightOf_7 rfl (lv_at hl 0 rfl) ?_
      refine ow_getV (ci := 9) (C := RX9) (T := TX9) (N := 41) hx hb hts hown hG hW ow_i56 (by decide) rfl hinX9 0 (by decide) (fk := 0) rfl (hts (.fieldLink RX9 7 "FiftyOneCardsModel" "pack" "I") (by decide +kernel)) (v := .int (σ.1 56 0)) rfl dX9_rightOf_8 ?_
      refine lv_icmp_gt (tgt := 50) hx hb dX9_rightOf_11 (by decide) (fun c11 => ?_) (fun c11 => ?_)
      · replace hf := ow_if_t c11 hf
        refine lv_lload_n hx hb dX9_rightOf_50 rfl (lv_at hl 3 rfl) ?_
        exact ow_lret hx hb hr hW hf dX9_rightOf_51 hlocks
      · replace hf := ow_if_f c11 hf
        refine lv_aload_n hx hb dX9_rightOf_14 rfl (lv_at hl 0 rfl) ?_
        refine lv_iload hx hb dX9_rightOf_15 (lv_at hl 4 rfl) ?_
        refine lv_iload_n hx hb dX9_rightOf_17 rfl (lv_at hl 2 rfl) ?_
        obtain ⟨σ_18, hc18, hf⟩ := ow_cv_i hf
        refine ow_callv (va_runV (As := [.int x5, .int x2]) (rest := []) ⟨hx, hb, hml, hown, hts⟩ (c_X9_laysBut l Z fu x5 x2 σ σ_18  hc18) (cwV 2 hts gX9_rightOf_X9_laysBut rfl rfl rfl (by decide +kernel) ⟨Nat.le_of_ble_eq_true rfl, Nat.le_of_ble_eq_true rfl⟩) (ow_preV hG hW ow_i56 (by decide) rfl) rfl rfl hl.1 rfl (lv_room (Nat.le_of_ble_eq_true rfl)) dX9_rightOf_18 ⟨Nat.zero_le _, Nat.zero_le _⟩) hW (fun H locs hW => ?_)
        refine lv_lload_n hx hb dX9_rightOf_21 rfl (lv_at hl 3 rfl) ?_
        refine lv_aload_n hx hb dX9_rightOf_22 rfl (lv_at hl 0 rfl) ?_
        refine lv_iload_n hx hb dX9_rightOf_23 rfl (lv_at hl 1 rfl) ?_
        obtain ⟨r_24, σ_24, hc24, hf⟩ := ow_cl_i hf
        refine ow_calli (va_runV (As := [.int x1]) (rest := [.long x3]) ⟨hx, hb, hml, hown, hts⟩ (c_X9_saysOf l Z fu x1 σ_18 r_24 σ_24 hc24) (cwV 1 hts gX9_rightOf_X9_saysOf rfl rfl rfl (by decide +kernel) ⟨Nat.le_of_ble_eq_true rfl, Nat.le_of_ble_eq_true rfl⟩) (ow_preV hG hW ow_i56 (by decide) rfl) rfl rfl hl.1 rfl (lv_room (Nat.le_of_ble_eq_true rfl)) dX9_rightOf_24 ⟨Nat.zero_le _, Nat.zero_le _⟩) hW (fun H locs hW => ?_)
        refine lv_iload hx hb dX9_rightOf_27 (lv_at hl 4 rfl) ?_
        refine lv_icmp_ne (tgt := 41) hx hb dX9_rightOf_29 (by decide) (fun c29 => ?_) (fun c29 => ?_)
        · replace hf := ow_if_f c29 hf
          refine lv_lconst (v := 0) hx hb dX9_rightOf_41 (by decide) ?_
          exact hJ42 (L_X9_rightOf_5 fu fn) ih x1 x2 x5 x3 (0 : Int64) σ_24 _ _ _ hf hW (lv_sub hl [0, 1, 2, 4] rfl)
        · replace hf := ow_if_t c29 hf
          refine lv_lconst (v := 1) hx hb dX9_rightOf_32 (by decide) ?_
          refine lv_iload hx hb dX9_rightOf_33 (lv_at hl 4 rfl) ?_
          refine lv_iconst (v := 1) hx hb dX9_rightOf_35 (by decide) ?_
          refine lv_isub hx hb dX9_rightOf_36 ?_
          refine lv_lshl (v := ((1 : Int64) <<< ((x5 - (1 : Int32)).toInt64 &&& 63))) hx hb dX9_rightOf_37 rfl ?_
          refine lv_goto (tgt := 42) hx hb dX9_rightOf_38 (by decide) ?_
          exact hJ42 (L_X9_rightOf_5 fu fn) ih x1 x2 x5 x3 ((1 : Int64) <<< ((x5 - (1 : Int32)).toInt64 &&& 63)) σ_24 _ _ _ hf hW (lv_sub hl [0, 1, 2, 4] rfl)
  have hl := lv_entry ([.ref (ow_ad Z 56), .int a1, .int a2]) (n := 6) (Nat.le_of_ble_eq_true rfl)
  refine W.eq (g2 := F0 m 0 ((lg_sl ([.ref (ow_ad Z 56), .int a1, .int a2]) ++ List.replicate (6 - (lg_sl ([.ref (ow_ad Z 56), .int a1, .int a2])).length) Slot.unset).toArray) []) (by rw [hav]; exact lg_entry_eq _ _ _) ?_
  generalize (lg_sl ([.ref (ow_ad Z 56), .int a1, .int a2]) ++ List.replicate (6 - (lg_sl ([.ref (ow_ad Z 56), .int a1, .int a2])).length) Slot.unset).toArray = ls at hl ⊢
  have hl : lv_has ls 6 [(0, .ref (ow_ad Z 56)), (1, .int a1), (2, .int a2)] := hl
  unfold f_X9_rightOf at hf
  refine lv_lconst (v := 0) hx hb dX9_rightOf_0 (by decide) ?_
  refine ow_topl hf (fun x3_1 hf => ?_)
  refine lv_lstore_n (lv' := [(3, .long x3_1), (0, .ref (ow_ad Z 56)), (1, .int a1), (2, .int a2)]) hx hb dX9_rightOf_1 rfl hl (by decide) rfl (fun ls hl => ?_)
  refine lv_iconst (v := 1) hx hb dX9_rightOf_2 (by decide) ?_
  refine lv_istore (lv' := [(5, .int (1 : Int32)), (3, .long x3_1), (0, .ref (ow_ad Z 56)), (1, .int a1), (2, .int a2)]) hx hb dX9_rightOf_3 hl (by decide) rfl (fun ls hl => ?_)
  exact hJ5 fu a1 a2 x3_1 (1 : Int32) σ _ _ _ hf hW (lv_sub hl [2, 3, 4, 1, 0] rfl)
set_option maxHeartbeats 40000000 in
set_option maxRecDepth 100000 in
theorem c_X9_ones (l : Launch) (Z : ow_Z) (fu : Nat) (a1 : Int64) (σ : ow_S) (rr : Int32) (σr : ow_S) (hf : f_X9_ones fu a1 σ = some (rr, σr)) : Met l yX9_ones wsX9_ones { frames := 1, cells := 0, slots := 0, locals := 60 } (ow_Pc Z 56 20 [.long a1] σ) (ow_Qi Z 56 20 rr σr) 0 0 (ow_A Z 56 20) := by
  refine Met.ofW (cc := cX9_ones) (maxL := 4) (ret := (some .int)) (by decide) rfl ?_
  intro p e s m args below meth c s₁ B hml hv
  obtain ⟨hav, hB⟩ := hv
  obtain ⟨hG, hW⟩ := ow_begin hB
  have hx := B.exec
  have hb := B.bytes
  have hr := B.returns
  have hts := atoms_spec (ws := wsX9_ones) B.pre
  have hown : s.vm.findClass RX9 = some m.cls := findClass_of_methodNamed B.named
  have hlocks := B.notSynchronized
  have hJ26 : ∀ (k4 : Int64 → Int32 → Int32 → ow_S → Option (Int32 × ow_S)) (hk4 : ∀ (x0 : Int64) (x2 : Int32) (x3 : Int32) (σ : ow_S) (H : Heap) (locs : List Loc) (ls : Array Slot), k4 x0 x2 x3 σ = some (rr, σr) → ow_Wd Z 56 20 σ s H locs → lv_has ls 4 [(0, .long x0), (2, .int x2), (3, .int x3)] → W p l e (headSpec wsX9_ones { frames := 1, cells := 0, slots := 0, locals := 60 }).room s m args below meth c H locs 0 0 (MQ below (ow_Qi Z 56 20 rr σr) args s 0 0 (ow_A Z 56 20)) (F0 m 4 ls [])), ∀ (x0 : Int64) (x3 : Int32) (s0 : Int32) (s1 : Int32) (σ : ow_S) (H : Heap) (locs : List Loc) (ls : Array Slot), L_X9_ones_26 fu k4 x0 x3 s0 s1 σ = some (rr, σr) → ow_Wd Z 56 20 σ s H locs → lv_has ls 4 [(0, .long x0), (3, .int x3)] → W p l e (headSpec wsX9_ones { frames := 1, cells := 0, slots := 0, locals := 60 }).room s m args below meth c H locs 0 0 (MQ below (ow_Qi Z 56 20 rr σr) args s 0 0 (ow_A Z 56 20)) (F0 m 26 ls [.int s1, .int s0]) := by
    intro k4 hk4 x0 x3 s0 s1 σ H locs ls hf hW hl
    unfold L_X9_ones_26 at hf
    refine lv_iadd hx hb dX9_ones_26 ?_
    refine ow_topi hf (fun x2_27 hf => ?_)
    refine lv_istore_n (lv' := [(2, .int x2_27), (0, .long x0), (3, .int x3)]) hx hb dX9_ones_27 rfl hl (by decide) rfl (fun ls hl => ?_)
    refine ow_iinc (d := 1) (lv' := fun z => [(3, .int z), (2, .int x2_27), (0, .long x0)]) hx hb hf dX9_ones_28 hl (k := 2) rfl (by decide) (by decide) (fun z => rfl) (fun x3_28 hf ls hl => ?_)
    refine lv_goto (tgt := 4) hx hb dX9_ones_31 (by decide) ?_
    exact hk4 x0 x2_27 x3_28 σ _ _ _ hf hW (lv_sub hl [2, 1, 0] rfl)
  have hJ4 : ∀ (fn : Nat), ∀ (x0 : Int64) (x2 : Int32) (x3 : Int32) (σ : ow_S) (H : Heap) (locs : List Loc) (ls : Array Slot), L_X9_ones_4 fu fn x0 x2 x3 σ = some (rr, σr) → ow_Wd Z 56 20 σ s H locs → lv_has ls 4 [(0, .long x0), (2, .int x2), (3, .int x3)] → W p l e (headSpec wsX9_ones { frames := 1, cells := 0, slots := 0, locals := 60 }).room s m args below meth c H locs 0 0 (MQ below (ow_Qi Z 56 20 rr σr) args s 0 0 (ow_A Z 56 20)) (F0 m 4 ls []) := by
    intro fn
    induction fn with
    | zero => intro x0 x2 x3 σ H locs ls hf hW hl; simp [L_X9_ones_4] at hf
    | succ fn ih =>
      intro x0 x2 x3 σ H locs ls hf hW hl
      rw [L_X9_ones_4] at hf
      refine lv_iload_n hx hb dX9_ones_4 rfl (lv_at hl 2 rfl) ?_
      refine lv_bipush (v := 52) hx hb dX9_ones_5 (by decide) ?_
      refine lv_icmp_ge (tgt := 34) hx hb dX9_ones_7 (by decide) (fun c7 => ?_) (fun c7 => ?_)
      · replace hf := ow_if_t c7 hf
        refine lv_iload_n hx hb dX9_ones_34 rfl (lv_at hl 1 rfl) ?_
        exact ow_iret hx hb hr hW hf dX9_ones_35 hlocks
      · replace hf := ow_if_f c7 hf
        refine lv_iload_n hx hb dX9_ones_10 rfl (lv_at hl 1 rfl) ?_
        refine lv_lload_n hx hb dX9_ones_11 rfl (lv_at hl 0 rfl) ?_
        refine lv_iload_n hx hb dX9_ones_12 rfl (lv_at hl 2 rfl) ?_
        refine lv_lshr (v := (x0 >>> (x3.toInt64 &&& 63))) hx hb dX9_ones_13 rfl ?_
        refine lv_lconst (v := 1) hx hb dX9_ones_14 (by decide) ?_
        refine lv_land hx hb dX9_ones_15 ?_
        refine lv_lconst (v := 1) hx hb dX9_ones_16 (by decide) ?_
        refine W.lcmp hx hb dX9_ones_17 ?_
        refine lv_if_ne (tgt := 25) hx hb dX9_ones_18 (by decide) (fun c18 => ?_) (fun c18 => ?_)
        · replace hf := ow_if_f c18 hf
          refine lv_iconst (v := 0) hx hb dX9_ones_25 (by decide) ?_
          exact hJ26 (L_X9_ones_4 fu fn) ih x0 x3 x2 (0 : Int32) σ _ _ _ hf hW (lv_sub hl [0, 2] rfl)
        · replace hf := ow_if_t c18 hf
          refine lv_iconst (v := 1) hx hb dX9_ones_21 (by decide) ?_
          refine lv_goto (tgt := 26) hx hb dX9_ones_22 (by decide) ?_
          exact hJ26 (L_X9_ones_4 fu fn) ih x0 x3 x2 (1 : Int32) σ _ _ _ hf hW (lv_sub hl [0, 2] rfl)
  have hl := lv_entry ([.long a1]) (n := 4) (Nat.le_of_ble_eq_true rfl)
  refine W.eq (g2 := F0 m 0 ((lg_sl ([.long a1]) ++ List.replicate (4 - (lg_sl ([.long a1])).length) Slot.unset).toArray) []) (by rw [hav]; exact lg_entry_eq _ _ _) ?_
  generalize (lg_sl ([.long a1]) ++ List.replicate (4 - (lg_sl ([.long a1])).length) Slot.unset).toArray = ls at hl ⊢
  have hl : lv_has ls 4 [(0, .long a1)] := hl
  unfold f_X9_ones at hf
  refine lv_iconst (v := 0) hx hb dX9_ones_0 (by decide) ?_
  refine lv_istore_n (lv' := [(2, .int (0 : Int32)), (0, .long a1)]) hx hb dX9_ones_1 rfl hl (by decide) rfl (fun ls hl => ?_)
  refine lv_iconst (v := 0) hx hb dX9_ones_2 (by decide) ?_
  refine lv_istore_n (lv' := [(3, .int (0 : Int32)), (2, .int (0 : Int32)), (0, .long a1)]) hx hb dX9_ones_3 rfl hl (by decide) rfl (fun ls hl => ?_)
  exact hJ4 fu a1 (0 : Int32) (0 : Int32) σ _ _ _ hf hW (lv_sub hl [2, 1, 0] rfl)
set_option maxHeartbeats 40000000 in
set_option maxRecDepth 100000 in
theorem c_X9_right (l : Launch) (Z : ow_Z) (fu : Nat) (a1 : Int32) (a2 : Int32) (σ : ow_S) (rr : Int64) (σr : ow_S) (hf : f_X9_right fu a1 a2 σ = some (rr, σr)) : Met l yX9_right wsX9_right { frames := 8, cells := 0, slots := 0, locals := 227 } (ow_Pc Z 56 20 [.ref (ow_ad Z 56), .int a1, .int a2] σ) (ow_Ql Z 56 20 rr σr) 0 0 (ow_A Z 56 20) := by
  refine Met.ofW (cc := cX9_right) (maxL := 3) (ret := (some .long)) (by decide) rfl ?_
  intro p e s m args below meth c s₁ B hml hv
  obtain ⟨hav, hB⟩ := hv
  obtain ⟨hG, hW⟩ := ow_begin hB
  have hx := B.exec
  have hb := B.bytes
  have hr := B.returns
  have hts := atoms_spec (ws := wsX9_right) B.pre
  have hown : s.vm.findClass RX9 = some m.cls := findClass_of_methodNamed B.named
  have hlocks := B.notSynchronized
  have hl := lv_entry ([.ref (ow_ad Z 56), .int a1, .int a2]) (n := 3) (Nat.le_of_ble_eq_true rfl)
  refine W.eq (g2 := F0 m 0 ((lg_sl ([.ref (ow_ad Z 56), .int a1, .int a2]) ++ List.replicate (3 - (lg_sl ([.ref (ow_ad Z 56), .int a1, .int a2])).length) Slot.unset).toArray) []) (by rw [hav]; exact lg_entry_eq _ _ _) ?_
  generalize (lg_sl ([.ref (ow_ad Z 56), .int a1, .int a2]) ++ List.replicate (3 - (lg_sl ([.ref (ow_ad Z 56), .int a1, .int a2])).length) Slot.unset).toArray = ls at hl ⊢
  have hl : lv_has ls 3 [(0, .ref (ow_ad Z 56)), (1, .int a1), (2, .int a2)] := hl
  unfold f_X9_right at hf
  refine lv_aload_n hx hb dX9_right_0 rfl (lv_at hl 0 rfl) ?_
  refine lv_iload_n hx hb dX9_right_1 rfl (lv_at hl 1 rfl) ?_
  obtain ⟨r_2, σ_2, hc2, hf⟩ := ow_cl_i hf
  refine ow_callz (va_runV (As := [.int a1]) (rest := []) ⟨hx, hb, hml, hown, hts⟩ (c_X9_isHead l Z fu a1 σ r_2 σ_2 hc2) (cwV 1 hts gX9_right_X9_isHead rfl rfl rfl (by decide +kernel) ⟨Nat.le_of_ble_eq_true rfl, Nat.le_of_ble_eq_true rfl⟩) (ow_preV hG hW ow_i56 (by decide) rfl) rfl rfl hl.1 rfl (lv_room (Nat.le_of_ble_eq_true rfl)) dX9_right_2 ⟨Nat.zero_le _, Nat.zero_le _⟩) hW (fun b2 H locs hW => ?_)
  refine lv_if_eq (tgt := 26) hx hb dX9_right_5 (by decide) (fun c5 => ?_) (fun c5 => ?_)
  · replace hf := ow_if_t c5 hf
    refine lv_ldc2 (v := -4611686018427387904) hx hb hown (hts (.constantLong RX9 247 (-4611686018427387904)) (by decide +kernel)) dX9_right_26 ?_
    exact ow_lret hx hb hr hW hf dX9_right_29 hlocks
  · replace hf := ow_if_f c5 hf
    refine lv_iload_n hx hb dX9_right_8 rfl (lv_at hl 2 rfl) ?_
    refine lv_iconst (v := 0) hx hb dX9_right_9 (by decide) ?_
    refine lv_iconst (v := 1) hx hb dX9_right_10 (by decide) ?_
    obtain ⟨r_11, σ_11, hc11, hf⟩ := ow_cl_i hf
    refine ow_callz (va_runS (As := [.int a2, .int (0 : Int32), .int (1 : Int32)]) (rest := []) ⟨hx, hb, hml, hown, hts⟩ (c_X9_in l Z fu a2 (0 : Int32) (1 : Int32) σ_2 r_11 σ_11 hc11) (va_cwS 3 hts gX9_right_X9_in rfl rfl rfl (by decide +kernel) ⟨Nat.le_of_ble_eq_true rfl, Nat.le_of_ble_eq_true rfl⟩) (ow_preS hG hW) rfl rfl hl.1 rfl (lv_room (Nat.le_of_ble_eq_true rfl)) dX9_right_11 ⟨Nat.zero_le _, Nat.zero_le _⟩) hW (fun b11 H locs hW => ?_)
    refine lv_if_eq (tgt := 26) hx hb dX9_right_14 (by decide) (fun c14 => ?_) (fun c14 => ?_)
    · replace hf := ow_if_t c14 hf
      refine lv_ldc2 (v := -4611686018427387904) hx hb hown (hts (.constantLong RX9 247 (-4611686018427387904)) (by decide +kernel)) dX9_right_26 ?_
      exact ow_lret hx hb hr hW hf dX9_right_29 hlocks
    · replace hf := ow_if_f c14 hf
      refine lv_aload_n hx hb dX9_right_17 rfl (lv_at hl 0 rfl) ?_
      refine lv_iload_n hx hb dX9_right_18 rfl (lv_at hl 1 rfl) ?_
      refine lv_iload_n hx hb dX9_right_19 rfl (lv_at hl 2 rfl) ?_
      obtain ⟨r_20, σ_20, hc20, hf⟩ := ow_cl_i hf
      refine ow_calll (va_runV (As := [.int a1, .int a2]) (rest := []) ⟨hx, hb, hml, hown, hts⟩ (c_X9_rightOf l Z fu a1 a2 σ_11 r_20 σ_20 hc20) (cwV 2 hts gX9_right_X9_rightOf rfl rfl rfl (by decide +kernel) ⟨Nat.le_of_ble_eq_true rfl, Nat.le_of_ble_eq_true rfl⟩) (ow_preV hG hW ow_i56 (by decide) rfl) rfl rfl hl.1 rfl (lv_room (Nat.le_of_ble_eq_true rfl)) dX9_right_20 ⟨Nat.zero_le _, Nat.zero_le _⟩) hW (fun H locs hW => ?_)
      refine lv_goto (tgt := 29) hx hb dX9_right_23 (by decide) ?_
      exact ow_lret hx hb hr hW hf dX9_right_29 hlocks
set_option maxHeartbeats 40000000 in
set_option maxRecDepth 100000 in
theorem c_X9_least (l : Launch) (Z : ow_Z) (fu : Nat) (a1 : Int32) (σ : ow_S) (rr : Int32) (σr : ow_S) (hf : f_X9_least fu a1 σ = some (rr, σr)) : Met l yX9_least wsX9_least { frames := 8, cells := 0, slots := 0, locals := 227 } (ow_Pc Z 56 20 [.ref (ow_ad Z 56), .int a1] σ) (ow_Qi Z 56 20 rr σr) 0 0 (ow_A Z 56 20) := by
  refine Met.ofW (cc := cX9_least) (maxL := 5) (ret := (some .int)) (by decide) rfl ?_
  intro p e s m args below meth c s₁ B hml hv
  obtain ⟨hav, hB⟩ := hv
  obtain ⟨hG, hW⟩ := ow_begin hB
  have hx := B.exec
  have hb := B.bytes
  have hr := B.returns
  have hts := atoms_spec (ws := wsX9_least) B.pre
  have hown : s.vm.findClass RX9 = some m.cls := findClass_of_methodNamed B.named
  have hlocks := B.notSynchronized
  have hinX9 : ∀ w ∈ wsX90, w ∈ wsX9_least := by decide +kernel
  have hJ64 : ∀ (k26 : Int32 → Int32 → Int32 → Int32 → ow_S → Option (Int32 × ow_S)) (hk26 : ∀ (x1 : Int32) (x2 : Int32) (x3 : Int32) (x4 : Int32) (σ : ow_S) (H : Heap) (locs : List Loc) (ls : Array Slot), k26 x1 x2 x3 x4 σ = some (rr, σr) → ow_Wd Z 56 20 σ s H locs → lv_has ls 5 [(0, .ref (ow_ad Z 56)), (1, .int x1), (2, .int x2), (3, .int x3), (4, .int x4)] → W p l e (headSpec wsX9_least { frames := 8, cells := 0, slots := 0, locals := 227 }).room s m args below meth c H locs 0 0 (MQ below (ow_Qi Z 56 20 rr σr) args s 0 0 (ow_A Z 56 20)) (F0 m 26 ls [])), ∀ (x1 : Int32) (x2 : Int32) (x4 : Int32) (s0 : Int32) (σ : ow_S) (H : Heap) (locs : List Loc) (ls : Array Slot), L_X9_least_64 fu k26 x1 x2 x4 s0 σ = some (rr, σr) → ow_Wd Z 56 20 σ s H locs → lv_has ls 5 [(0, .ref (ow_ad Z 56)), (1, .int x1), (2, .int x2), (4, .int x4)] → W p l e (headSpec wsX9_least { frames := 8, cells := 0, slots := 0, locals := 227 }).room s m args below meth c H locs 0 0 (MQ below (ow_Qi Z 56 20 rr σr) args s 0 0 (ow_A Z 56 20)) (F0 m 64 ls [.int s0]) := by
    intro k26 hk26 x1 x2 x4 s0 σ H locs ls hf hW hl
    unfold L_X9_least_64 at hf
    refine lv_istore_n (lv' := [(3, .int s0), (0, .ref (ow_ad Z 56)), (1, .int x1), (2, .int x2), (4, .int x4)]) hx hb dX9_least_64 rfl hl (by decide) rfl (fun ls hl => ?_)
    refine ow_iinc (d := -1) (lv' := fun z => [(4, .int z), (3, .int s0), (0, .ref (ow_ad Z 56)), (1, .int x1), (2, .int x2)]) hx hb hf dX9_least_65 hl (k := 4) rfl (by decide) (by decide) (fun z => rfl) (fun x4_65 hf ls hl => ?_)
    refine lv_goto (tgt := 26) hx hb dX9_least_68 (by decide) ?_
    exact hk26 x1 x2 s0 x4_65 σ _ _ _ hf hW (lv_sub hl [2, 3, 4, 1, 0] rfl)
  have hJ26 : ∀ (fn : Nat), ∀ (x1 : Int32) (x2 : Int32) (x3 : Int32) (x4 : Int32) (σ : ow_S) (H : Heap) (locs : List Loc) (ls : Array Slot), L_X9_least_26 fu fn x1 x2 x3 x4 σ = some (rr, σr) → ow_Wd Z 56 20 σ s H locs → lv_has ls 5 [(0, .ref (ow_ad Z 56)), (1, .int x1), (2, .int x2), (3, .int x3), (4, .int x4)] → W p l e (headSpec wsX9_least { frames := 8, cells := 0, slots := 0, locals := 227 }).room s m args below meth c H locs 0 0 (MQ below (ow_Qi Z 56 20 rr σr) args s 0 0 (ow_A Z 56 20)) (F0 m 26 ls []) := by
    intro fn
    induction fn with
    | zero => intro x1 x2 x3 x4 σ H locs ls hf hW hl; simp [L_X9_least_26] at hf
    | succ fn ih =>
      intro x1 x2 x3 x4 σ H locs ls hf hW hl
      rw [L_X9_least_26] at hf
      refine lv_iload hx hb dX9_least_26 (lv_at hl 4 rfl) ?_
      refine lv_iconst (v := 1) hx hb dX9_least_28 (by decide) ?_
      refine lv_icmp_lt (tgt := 71) hx hb dX9_least_29 (by decide) (fun c29 => ?_) (fun c29 => ?_)
      · replace hf := ow_if_t c29 hf
        refine lv_aload_n hx hb dX9_least_71 rfl (lv_at hl 0 rfl) ?_
        refine ow_getV (ci := 9) (C := RX9) (T := TX9) (N := 41) hx hb hts hown hG hW ow_i56 (by decide) rfl hinX9 6 (by decide) (fk := 2) rfl (hts (.fieldLink RX9 23 "FiftyOneCardsModel" "kept" "[I") (by decide +kernel)) (v := .ref (ow_ad Z 60)) (ow_vR hW ow_i56.1 ow_i56.2.1 rfl) dX9_least_72 ?_
        refine lv_iconst (v := 3) hx hb dX9_least_75 (by decide) ?_
        refine lv_iload_n hx hb dX9_least_76 rfl (lv_at hl 1 rfl) ?_
        refine lv_imul hx hb dX9_least_77 ?_
        refine lv_iload_n hx hb dX9_least_78 rfl (lv_at hl 2 rfl) ?_
        obtain ⟨q79, hf⟩ := ow_ck_i hf
        refine ow_ist (q := ((3 : Int32) * x1).toNatClampNeg) hx hb hG hW ow_i60 rfl q79 rfl hf dX9_least_79 (fun σ_79 H locs hf hW => ?_)
        refine lv_iload_n hx hb dX9_least_80 rfl (lv_at hl 3 rfl) ?_
        exact ow_iret hx hb hr hW hf dX9_least_81 hlocks
      · replace hf := ow_if_f c29 hf
        refine lv_aload_n hx hb dX9_least_32 rfl (lv_at hl 0 rfl) ?_
        refine ow_getV (ci := 9) (C := RX9) (T := TX9) (N := 41) hx hb hts hown hG hW ow_i56 (by decide) rfl hinX9 6 (by decide) (fk := 2) rfl (hts (.fieldLink RX9 23 "FiftyOneCardsModel" "kept" "[I") (by decide +kernel)) (v := .ref (ow_ad Z 60)) (ow_vR hW ow_i56.1 ow_i56.2.1 rfl) dX9_least_33 ?_
        refine lv_iconst (v := 3) hx hb dX9_least_36 (by decide) ?_
        refine lv_iload_n hx hb dX9_least_37 rfl (lv_at hl 1 rfl) ?_
        refine lv_imul hx hb dX9_least_38 ?_
        refine lv_iload hx hb dX9_least_39 (lv_at hl 4 rfl) ?_
        obtain ⟨q41, hf⟩ := ow_ck_i hf
        refine ow_ist (q := ((3 : Int32) * x1).toNatClampNeg) hx hb hG hW ow_i60 rfl q41 rfl hf dX9_least_41 (fun σ_41 H locs hf hW => ?_)
        refine lv_aload_n hx hb dX9_least_42 rfl (lv_at hl 0 rfl) ?_
        refine lv_iload_n hx hb dX9_least_43 rfl (lv_at hl 1 rfl) ?_
        refine lv_iconst (v := 0) hx hb dX9_least_44 (by decide) ?_
        obtain ⟨r_45, σ_45, hc45, hf⟩ := ow_cl_i hf
        refine ow_calll (va_runV (As := [.int x1, .int (0 : Int32)]) (rest := []) ⟨hx, hb, hml, hown, hts⟩ (c_X9_rightOf l Z fu x1 (0 : Int32) σ_41 r_45 σ_45 hc45) (cwV 2 hts gX9_least_X9_rightOf rfl rfl rfl (by decide +kernel) ⟨Nat.le_of_ble_eq_true rfl, Nat.le_of_ble_eq_true rfl⟩) (ow_preV hG hW ow_i56 (by decide) rfl) rfl rfl hl.1 rfl (lv_room (Nat.le_of_ble_eq_true rfl)) dX9_least_45 ⟨Nat.zero_le _, Nat.zero_le _⟩) hW (fun H locs hW => ?_)
        obtain ⟨r_48, σ_48, hc48, hf⟩ := ow_cl_i hf
        refine ow_calli (va_runS (As := [.long r_45]) (rest := []) ⟨hx, hb, hml, hown, hts⟩ (c_X9_ones l Z fu r_45 σ_45 r_48 σ_48 hc48) (va_cwS 1 hts gX9_least_X9_ones rfl rfl rfl (by decide +kernel) ⟨Nat.le_of_ble_eq_true rfl, Nat.le_of_ble_eq_true rfl⟩) (ow_preS hG hW) rfl rfl hl.1 rfl (lv_room (Nat.le_of_ble_eq_true rfl)) dX9_least_48 ⟨Nat.zero_le _, Nat.zero_le _⟩) hW (fun H locs hW => ?_)
        refine lv_aload_n hx hb dX9_least_51 rfl (lv_at hl 0 rfl) ?_
        refine ow_getV (ci := 9) (C := RX9) (T := TX9) (N := 41) hx hb hts hown hG hW ow_i56 (by decide) rfl hinX9 0 (by decide) (fk := 0) rfl (hts (.fieldLink RX9 7 "FiftyOneCardsModel" "pack" "I") (by decide +kernel)) (v := .int (σ_48.1 56 0)) rfl dX9_least_52 ?_
        refine lv_icmp_ne (tgt := 63) hx hb dX9_least_55 (by decide) (fun c55 => ?_) (fun c55 => ?_)
        · replace hf := ow_if_f c55 hf
          refine lv_iload_n hx hb dX9_least_63 rfl (lv_at hl 3 rfl) ?_
          exact hJ64 (L_X9_least_26 fu fn) ih x1 x2 x4 x3 σ_48 _ _ _ hf hW (lv_sub hl [0, 1, 2, 4] rfl)
        · replace hf := ow_if_t c55 hf
          refine lv_iload hx hb dX9_least_58 (lv_at hl 4 rfl) ?_
          refine lv_goto (tgt := 64) hx hb dX9_least_60 (by decide) ?_
          exact hJ64 (L_X9_least_26 fu fn) ih x1 x2 x4 x4 σ_48 _ _ _ hf hW (lv_sub hl [0, 1, 2, 4] rfl)
  have hl := lv_entry ([.ref (ow_ad Z 56), .int a1]) (n := 5) (Nat.le_of_ble_eq_true rfl)
  refine W.eq (g2 := F0 m 0 ((lg_sl ([.ref (ow_ad Z 56), .int a1]) ++ List.replicate (5 - (lg_sl ([.ref (ow_ad Z 56), .int a1])).length) Slot.unset).toArray) []) (by rw [hav]; exact lg_entry_eq _ _ _) ?_
  generalize (lg_sl ([.ref (ow_ad Z 56), .int a1]) ++ List.replicate (5 - (lg_sl ([.ref (ow_ad Z 56), .int a1])).length) Slot.unset).toArray = ls at hl ⊢
  have hl : lv_has ls 5 [(0, .ref (ow_ad Z 56)), (1, .int a1)] := hl
  unfold f_X9_least at hf
  refine lv_aload_n hx hb dX9_least_0 rfl (lv_at hl 0 rfl) ?_
  refine lv_iload_n hx hb dX9_least_1 rfl (lv_at hl 1 rfl) ?_
  obtain ⟨r_2, σ_2, hc2, hf⟩ := ow_cl_i hf
  refine ow_callz (va_runV (As := [.int a1]) (rest := []) ⟨hx, hb, hml, hown, hts⟩ (c_X9_isHead l Z fu a1 σ r_2 σ_2 hc2) (cwV 1 hts gX9_least_X9_isHead rfl rfl rfl (by decide +kernel) ⟨Nat.le_of_ble_eq_true rfl, Nat.le_of_ble_eq_true rfl⟩) (ow_preV hG hW ow_i56 (by decide) rfl) rfl rfl hl.1 rfl (lv_room (Nat.le_of_ble_eq_true rfl)) dX9_least_2 ⟨Nat.zero_le _, Nat.zero_le _⟩) hW (fun b2 H locs hW => ?_)
  refine lv_if_ne (tgt := 11) hx hb dX9_least_5 (by decide) (fun c5 => ?_) (fun c5 => ?_)
  · replace hf := ow_if_f c5 hf
    refine lv_aload_n hx hb dX9_least_11 rfl (lv_at hl 0 rfl) ?_
    refine ow_getV (ci := 9) (C := RX9) (T := TX9) (N := 41) hx hb hts hown hG hW ow_i56 (by decide) rfl hinX9 6 (by decide) (fk := 2) rfl (hts (.fieldLink RX9 23 "FiftyOneCardsModel" "kept" "[I") (by decide +kernel)) (v := .ref (ow_ad Z 60)) (ow_vR hW ow_i56.1 ow_i56.2.1 rfl) dX9_least_12 ?_
    refine lv_iconst (v := 3) hx hb dX9_least_15 (by decide) ?_
    refine lv_iload_n hx hb dX9_least_16 rfl (lv_at hl 1 rfl) ?_
    refine lv_imul hx hb dX9_least_17 ?_
    obtain ⟨q18, hf⟩ := ow_ck_i hf
    refine ow_ild (q := ((3 : Int32) * a1).toNatClampNeg) hx hb hG hW ow_i60 rfl q18 rfl dX9_least_18 ?_
    refine ow_topi hf (fun x2_19 hf => ?_)
    refine lv_istore_n (lv' := [(2, .int x2_19), (0, .ref (ow_ad Z 56)), (1, .int a1)]) hx hb dX9_least_19 rfl hl (by decide) rfl (fun ls hl => ?_)
    refine lv_iconst (v := -1) hx hb dX9_least_20 (by decide) ?_
    refine lv_istore_n (lv' := [(3, .int (-1 : Int32)), (2, .int x2_19), (0, .ref (ow_ad Z 56)), (1, .int a1)]) hx hb dX9_least_21 rfl hl (by decide) rfl (fun ls hl => ?_)
    refine lv_bipush (v := 16) hx hb dX9_least_22 (by decide) ?_
    refine lv_istore (lv' := [(4, .int (16 : Int32)), (3, .int (-1 : Int32)), (2, .int x2_19), (0, .ref (ow_ad Z 56)), (1, .int a1)]) hx hb dX9_least_24 hl (by decide) rfl (fun ls hl => ?_)
    exact hJ26 fu a1 x2_19 (-1 : Int32) (16 : Int32) σ_2 _ _ _ hf hW (lv_sub hl [3, 4, 2, 1, 0] rfl)
  · replace hf := ow_if_t c5 hf
    refine lv_bipush (v := -5) hx hb dX9_least_8 (by decide) ?_
    exact ow_iret hx hb hr hW hf dX9_least_10 hlocks
set_option maxHeartbeats 40000000 in
set_option maxRecDepth 100000 in
theorem c_X9_begin (l : Launch) (Z : ow_Z) (fu : Nat) (a1 : Int32) (a2 : Int32) (σ : ow_S) (rr : Int32) (σr : ow_S) (hf : f_X9_begin fu a1 a2 σ = some (rr, σr)) : Met l yX9_begin wsX9_begin { frames := 8, cells := 0, slots := 0, locals := 227 } (ow_Pc Z 56 20 [.ref (ow_ad Z 56), .int a1, .int a2] σ) (ow_Qi Z 56 20 rr σr) 0 0 (ow_A Z 56 20) := by
  refine Met.ofW (cc := cX9_begin) (maxL := 9) (ret := (some .int)) (by decide) rfl ?_
  intro p e s m args below meth c s₁ B hml hv
  obtain ⟨hav, hB⟩ := hv
  obtain ⟨hG, hW⟩ := ow_begin hB
  have hx := B.exec
  have hb := B.bytes
  have hr := B.returns
  have hts := atoms_spec (ws := wsX9_begin) B.pre
  have hown : s.vm.findClass RX9 = some m.cls := findClass_of_methodNamed B.named
  have hlocks := B.notSynchronized
  have hinX9 : ∀ w ∈ wsX90, w ∈ wsX9_begin := by decide +kernel
  have hJ121 : ∀ (k43 : Int32 → Int32 → Int32 → Int32 → Int32 → Int32 → ow_S → Option (Int32 × ow_S)) (hk43 : ∀ (x1 : Int32) (x2 : Int32) (x3 : Int32) (x4 : Int32) (x5 : Int32) (x6 : Int32) (σ : ow_S) (H : Heap) (locs : List Loc) (ls : Array Slot), k43 x1 x2 x3 x4 x5 x6 σ = some (rr, σr) → ow_Wd Z 56 20 σ s H locs → lv_has ls 9 [(0, .ref (ow_ad Z 56)), (1, .int x1), (2, .int x2), (3, .int x3), (4, .int x4), (5, .int x5), (6, .int x6)] → W p l e (headSpec wsX9_begin { frames := 8, cells := 0, slots := 0, locals := 227 }).room s m args below meth c H locs 0 0 (MQ below (ow_Qi Z 56 20 rr σr) args s 0 0 (ow_A Z 56 20)) (F0 m 43 ls [])), ∀ (x1 : Int32) (x2 : Int32) (x3 : Int32) (x4 : Int32) (x6 : Int32) (s0 : Int32) (σ : ow_S) (H : Heap) (locs : List Loc) (ls : Array Slot), L_X9_begin_121 fu k43 x1 x2 x3 x4 x6 s0 σ = some (rr, σr) → ow_Wd Z 56 20 σ s H locs → lv_has ls 9 [(0, .ref (ow_ad Z 56)), (1, .int x1), (2, .int x2), (3, .int x3), (4, .int x4), (6, .int x6)] → W p l e (headSpec wsX9_begin { frames := 8, cells := 0, slots := 0, locals := 227 }).room s m args below meth c H locs 0 0 (MQ below (ow_Qi Z 56 20 rr σr) args s 0 0 (ow_A Z 56 20)) (F0 m 121 ls [.int s0]) := by
    intro k43 hk43 x1 x2 x3 x4 x6 s0 σ H locs ls hf hW hl
    unfold L_X9_begin_121 at hf
    refine lv_istore (lv' := [(5, .int s0), (0, .ref (ow_ad Z 56)), (1, .int x1), (2, .int x2), (3, .int x3), (4, .int x4), (6, .int x6)]) hx hb dX9_begin_121 hl (by decide) rfl (fun ls hl => ?_)
    refine ow_iinc (d := 1) (lv' := fun z => [(6, .int z), (5, .int s0), (0, .ref (ow_ad Z 56)), (1, .int x1), (2, .int x2), (3, .int x3), (4, .int x4)]) hx hb hf dX9_begin_123 hl (k := 6) rfl (by decide) (by decide) (fun z => rfl) (fun x6_123 hf ls hl => ?_)
    refine lv_goto (tgt := 43) hx hb dX9_begin_126 (by decide) ?_
    exact hk43 x1 x2 x3 x4 s0 x6_123 σ _ _ _ hf hW (lv_sub hl [2, 3, 4, 5, 6, 1, 0] rfl)
  have hJ105 : ∀ (k43 : Int32 → Int32 → Int32 → Int32 → Int32 → Int32 → ow_S → Option (Int32 × ow_S)) (hk43 : ∀ (x1 : Int32) (x2 : Int32) (x3 : Int32) (x4 : Int32) (x5 : Int32) (x6 : Int32) (σ : ow_S) (H : Heap) (locs : List Loc) (ls : Array Slot), k43 x1 x2 x3 x4 x5 x6 σ = some (rr, σr) → ow_Wd Z 56 20 σ s H locs → lv_has ls 9 [(0, .ref (ow_ad Z 56)), (1, .int x1), (2, .int x2), (3, .int x3), (4, .int x4), (5, .int x5), (6, .int x6)] → W p l e (headSpec wsX9_begin { frames := 8, cells := 0, slots := 0, locals := 227 }).room s m args below meth c H locs 0 0 (MQ below (ow_Qi Z 56 20 rr σr) args s 0 0 (ow_A Z 56 20)) (F0 m 43 ls [])), ∀ (x1 : Int32) (x2 : Int32) (x3 : Int32) (x5 : Int32) (x6 : Int32) (x8 : Int32) (s0 : Int32) (σ : ow_S) (H : Heap) (locs : List Loc) (ls : Array Slot), L_X9_begin_105 fu k43 x1 x2 x3 x5 x6 x8 s0 σ = some (rr, σr) → ow_Wd Z 56 20 σ s H locs → lv_has ls 9 [(0, .ref (ow_ad Z 56)), (1, .int x1), (2, .int x2), (3, .int x3), (5, .int x5), (6, .int x6), (8, .int x8)] → W p l e (headSpec wsX9_begin { frames := 8, cells := 0, slots := 0, locals := 227 }).room s m args below meth c H locs 0 0 (MQ below (ow_Qi Z 56 20 rr σr) args s 0 0 (ow_A Z 56 20)) (F0 m 105 ls [.int s0]) := by
    intro k43 hk43 x1 x2 x3 x5 x6 x8 s0 σ H locs ls hf hW hl
    unfold L_X9_begin_105 at hf
    refine lv_istore (lv' := [(4, .int s0), (0, .ref (ow_ad Z 56)), (1, .int x1), (2, .int x2), (3, .int x3), (5, .int x5), (6, .int x6), (8, .int x8)]) hx hb dX9_begin_105 hl (by decide) rfl (fun ls hl => ?_)
    refine lv_iload hx hb dX9_begin_107 (lv_at hl 7 rfl) ?_
    refine lv_iload hx hb dX9_begin_109 (lv_at hl 5 rfl) ?_
    refine lv_icmp_le (tgt := 119) hx hb dX9_begin_111 (by decide) (fun c111 => ?_) (fun c111 => ?_)
    · replace hf := ow_if_t c111 hf
      refine lv_iload hx hb dX9_begin_119 (lv_at hl 5 rfl) ?_
      exact hJ121 k43 hk43 x1 x2 x3 s0 x6 x5 σ _ _ _ hf hW (lv_sub hl [1, 2, 3, 4, 0, 6] rfl)
    · replace hf := ow_if_f c111 hf
      refine lv_iload hx hb dX9_begin_114 (lv_at hl 7 rfl) ?_
      refine lv_goto (tgt := 121) hx hb dX9_begin_116 (by decide) ?_
      exact hJ121 k43 hk43 x1 x2 x3 s0 x6 x8 σ _ _ _ hf hW (lv_sub hl [1, 2, 3, 4, 0, 6] rfl)
  have hJ66 : ∀ (k43 : Int32 → Int32 → Int32 → Int32 → Int32 → Int32 → ow_S → Option (Int32 × ow_S)) (hk43 : ∀ (x1 : Int32) (x2 : Int32) (x3 : Int32) (x4 : Int32) (x5 : Int32) (x6 : Int32) (σ : ow_S) (H : Heap) (locs : List Loc) (ls : Array Slot), k43 x1 x2 x3 x4 x5 x6 σ = some (rr, σr) → ow_Wd Z 56 20 σ s H locs → lv_has ls 9 [(0, .ref (ow_ad Z 56)), (1, .int x1), (2, .int x2), (3, .int x3), (4, .int x4), (5, .int x5), (6, .int x6)] → W p l e (headSpec wsX9_begin { frames := 8, cells := 0, slots := 0, locals := 227 }).room s m args below meth c H locs 0 0 (MQ below (ow_Qi Z 56 20 rr σr) args s 0 0 (ow_A Z 56 20)) (F0 m 43 ls [])), ∀ (x1 : Int32) (x2 : Int32) (x3 : Int32) (x4 : Int32) (x5 : Int32) (x6 : Int32) (s0 : Int32) (σ : ow_S) (H : Heap) (locs : List Loc) (ls : Array Slot), L_X9_begin_66 fu k43 x1 x2 x3 x4 x5 x6 s0 σ = some (rr, σr) → ow_Wd Z 56 20 σ s H locs → lv_has ls 9 [(0, .ref (ow_ad Z 56)), (1, .int x1), (2, .int x2), (3, .int x3), (4, .int x4), (5, .int x5), (6, .int x6)] → W p l e (headSpec wsX9_begin { frames := 8, cells := 0, slots := 0, locals := 227 }).room s m args below meth c H locs 0 0 (MQ below (ow_Qi Z 56 20 rr σr) args s 0 0 (ow_A Z 56 20)) (F0 m 66 ls [.int s0]) := by
    intro k43 hk43 x1 x2 x3 x4 x5 x6 s0 σ H locs ls hf hW hl
    unfold L_X9_begin_66 at hf
    refine lv_istore (lv' := [(7, .int s0), (0, .ref (ow_ad Z 56)), (1, .int x1), (2, .int x2), (3, .int x3), (4, .int x4), (5, .int x5), (6, .int x6)]) hx hb dX9_begin_66 hl (by decide) rfl (fun ls hl => ?_)
    refine lv_aload_n hx hb dX9_begin_68 rfl (lv_at hl 1 rfl) ?_
    refine ow_getV (ci := 9) (C := RX9) (T := TX9) (N := 41) hx hb hts hown hG hW ow_i56 (by decide) rfl hinX9 6 (by decide) (fk := 2) rfl (hts (.fieldLink RX9 23 "FiftyOneCardsModel" "kept" "[I") (by decide +kernel)) (v := .ref (ow_ad Z 60)) (ow_vR hW ow_i56.1 ow_i56.2.1 rfl) dX9_begin_69 ?_
    refine lv_iconst (v := 3) hx hb dX9_begin_72 (by decide) ?_
    refine lv_iload_n hx hb dX9_begin_73 rfl (lv_at hl 2 rfl) ?_
    refine lv_imul hx hb dX9_begin_74 ?_
    refine lv_iconst (v := 1) hx hb dX9_begin_75 (by decide) ?_
    refine lv_iadd hx hb dX9_begin_76 ?_
    refine lv_iload hx hb dX9_begin_77 (lv_at hl 0 rfl) ?_
    obtain ⟨q79, hf⟩ := ow_ck_i hf
    refine ow_ist (q := (((3 : Int32) * x1) + (1 : Int32)).toNatClampNeg) hx hb hG hW ow_i60 rfl q79 rfl hf dX9_begin_79 (fun σ_79 H locs hf hW => ?_)
    refine lv_aload_n hx hb dX9_begin_80 rfl (lv_at hl 1 rfl) ?_
    refine lv_iload_n hx hb dX9_begin_81 rfl (lv_at hl 2 rfl) ?_
    refine lv_iconst (v := 0) hx hb dX9_begin_82 (by decide) ?_
    obtain ⟨r_83, σ_83, hc83, hf⟩ := ow_cl_i hf
    refine ow_calll (va_runV (As := [.int x1, .int (0 : Int32)]) (rest := []) ⟨hx, hb, hml, hown, hts⟩ (c_X9_rightOf l Z fu x1 (0 : Int32) σ_79 r_83 σ_83 hc83) (cwV 2 hts gX9_begin_X9_rightOf rfl rfl rfl (by decide +kernel) ⟨Nat.le_of_ble_eq_true rfl, Nat.le_of_ble_eq_true rfl⟩) (ow_preV hG hW ow_i56 (by decide) rfl) rfl rfl hl.1 rfl (lv_room (Nat.le_of_ble_eq_true rfl)) dX9_begin_83 ⟨Nat.zero_le _, Nat.zero_le _⟩) hW (fun H locs hW => ?_)
    obtain ⟨r_86, σ_86, hc86, hf⟩ := ow_cl_i hf
    refine ow_calli (va_runS (As := [.long r_83]) (rest := []) ⟨hx, hb, hml, hown, hts⟩ (c_X9_ones l Z fu r_83 σ_83 r_86 σ_86 hc86) (va_cwS 1 hts gX9_begin_X9_ones rfl rfl rfl (by decide +kernel) ⟨Nat.le_of_ble_eq_true rfl, Nat.le_of_ble_eq_true rfl⟩) (ow_preS hG hW) rfl rfl hl.1 rfl (lv_room (Nat.le_of_ble_eq_true rfl)) dX9_begin_86 ⟨Nat.zero_le _, Nat.zero_le _⟩) hW (fun H locs hW => ?_)
    refine lv_istore (lv' := [(8, .int r_86), (7, .int s0), (0, .ref (ow_ad Z 56)), (1, .int x1), (2, .int x2), (3, .int x3), (4, .int x4), (5, .int x5), (6, .int x6)]) hx hb dX9_begin_89 hl (by decide) rfl (fun ls hl => ?_)
    refine lv_iload hx hb dX9_begin_91 (lv_at hl 0 rfl) ?_
    refine lv_iload hx hb dX9_begin_93 (lv_at hl 7 rfl) ?_
    refine lv_icmp_le (tgt := 103) hx hb dX9_begin_95 (by decide) (fun c95 => ?_) (fun c95 => ?_)
    · replace hf := ow_if_t c95 hf
      refine lv_iload hx hb dX9_begin_103 (lv_at hl 6 rfl) ?_
      exact hJ105 k43 hk43 x1 x2 x3 x5 x6 r_86 x4 σ_86 _ _ _ hf hW (lv_sub hl [2, 3, 4, 5, 7, 8, 0] rfl)
    · replace hf := ow_if_f c95 hf
      refine lv_iload hx hb dX9_begin_98 (lv_at hl 1 rfl) ?_
      refine lv_goto (tgt := 105) hx hb dX9_begin_100 (by decide) ?_
      exact hJ105 k43 hk43 x1 x2 x3 x5 x6 r_86 s0 σ_86 _ _ _ hf hW (lv_sub hl [2, 3, 4, 5, 7, 8, 0] rfl)
  have hJ43 : ∀ (fn : Nat), ∀ (x1 : Int32) (x2 : Int32) (x3 : Int32) (x4 : Int32) (x5 : Int32) (x6 : Int32) (σ : ow_S) (H : Heap) (locs : List Loc) (ls : Array Slot), L_X9_begin_43 fu fn x1 x2 x3 x4 x5 x6 σ = some (rr, σr) → ow_Wd Z 56 20 σ s H locs → lv_has ls 9 [(0, .ref (ow_ad Z 56)), (1, .int x1), (2, .int x2), (3, .int x3), (4, .int x4), (5, .int x5), (6, .int x6)] → W p l e (headSpec wsX9_begin { frames := 8, cells := 0, slots := 0, locals := 227 }).room s m args below meth c H locs 0 0 (MQ below (ow_Qi Z 56 20 rr σr) args s 0 0 (ow_A Z 56 20)) (F0 m 43 ls []) := by
    intro fn
    induction fn with
    | zero => intro x1 x2 x3 x4 x5 x6 σ H locs ls hf hW hl; simp [L_X9_begin_43] at hf
    | succ fn ih =>
      intro x1 x2 x3 x4 x5 x6 σ H locs ls hf hW hl
      rw [L_X9_begin_43] at hf
      refine lv_iload hx hb dX9_begin_43 (lv_at hl 6 rfl) ?_
      refine lv_bipush (v := 100) hx hb dX9_begin_45 (by decide) ?_
      refine lv_icmp_gt (tgt := 129) hx hb dX9_begin_47 (by decide) (fun c47 => ?_) (fun c47 => ?_)
      · replace hf := ow_if_t c47 hf
        refine lv_aload_n hx hb dX9_begin_129 rfl (lv_at hl 0 rfl) ?_
        refine ow_getV (ci := 9) (C := RX9) (T := TX9) (N := 41) hx hb hts hown hG hW ow_i56 (by decide) rfl hinX9 6 (by decide) (fk := 2) rfl (hts (.fieldLink RX9 23 "FiftyOneCardsModel" "kept" "[I") (by decide +kernel)) (v := .ref (ow_ad Z 60)) (ow_vR hW ow_i56.1 ow_i56.2.1 rfl) dX9_begin_130 ?_
        refine lv_iconst (v := 3) hx hb dX9_begin_133 (by decide) ?_
        refine lv_iload_n hx hb dX9_begin_134 rfl (lv_at hl 1 rfl) ?_
        refine lv_imul hx hb dX9_begin_135 ?_
        refine lv_iconst (v := 1) hx hb dX9_begin_136 (by decide) ?_
        refine lv_iadd hx hb dX9_begin_137 ?_
        refine lv_iload_n hx hb dX9_begin_138 rfl (lv_at hl 3 rfl) ?_
        obtain ⟨q139, hf⟩ := ow_ck_i hf
        refine ow_ist (q := (((3 : Int32) * x1) + (1 : Int32)).toNatClampNeg) hx hb hG hW ow_i60 rfl q139 rfl hf dX9_begin_139 (fun σ_139 H locs hf hW => ?_)
        refine lv_iload_n hx hb dX9_begin_140 rfl (lv_at hl 2 rfl) ?_
        refine lv_if_ne (tgt := 149) hx hb dX9_begin_141 (by decide) (fun c141 => ?_) (fun c141 => ?_)
        · replace hf := ow_if_f c141 hf
          refine lv_iload hx hb dX9_begin_149 (lv_at hl 5 rfl) ?_
          exact ow_iret hx hb hr hW hf dX9_begin_151 hlocks
        · replace hf := ow_if_t c141 hf
          refine lv_iload hx hb dX9_begin_144 (lv_at hl 4 rfl) ?_
          refine lv_goto (tgt := 151) hx hb dX9_begin_146 (by decide) ?_
          exact ow_iret hx hb hr hW hf dX9_begin_151 hlocks
      · replace hf := ow_if_f c47 hf
        refine lv_iload hx hb dX9_begin_50 (lv_at hl 6 rfl) ?_
        refine lv_bipush (v := 100) hx hb dX9_begin_52 (by decide) ?_
        refine lv_icmp_ne (tgt := 64) hx hb dX9_begin_54 (by decide) (fun c54 => ?_) (fun c54 => ?_)
        · replace hf := ow_if_f c54 hf
          refine lv_iload hx hb dX9_begin_64 (lv_at hl 6 rfl) ?_
          exact hJ66 (L_X9_begin_43 fu fn) ih x1 x2 x3 x4 x5 x6 x6 σ _ _ _ hf hW (lv_sub hl [0, 1, 2, 3, 4, 5, 6] rfl)
        · replace hf := ow_if_t c54 hf
          refine lv_aload_n hx hb dX9_begin_57 rfl (lv_at hl 0 rfl) ?_
          obtain ⟨r_58, σ_58, hc58, hf⟩ := ow_cl_i hf
          refine ow_calli (va_runV (As := []) (rest := []) ⟨hx, hb, hml, hown, hts⟩ (c_X9_packSum l Z fu σ r_58 σ_58 hc58) (cwV 0 hts gX9_begin_X9_packSum rfl rfl rfl (by decide +kernel) ⟨Nat.le_of_ble_eq_true rfl, Nat.le_of_ble_eq_true rfl⟩) (ow_preV hG hW ow_i56 (by decide) rfl) rfl rfl hl.1 rfl (lv_room (Nat.le_of_ble_eq_true rfl)) dX9_begin_58 ⟨Nat.zero_le _, Nat.zero_le _⟩) hW (fun H locs hW => ?_)
          refine lv_goto (tgt := 66) hx hb dX9_begin_61 (by decide) ?_
          exact hJ66 (L_X9_begin_43 fu fn) ih x1 x2 x3 x4 x5 x6 r_58 σ_58 _ _ _ hf hW (lv_sub hl [0, 1, 2, 3, 4, 5, 6] rfl)
  have hl := lv_entry ([.ref (ow_ad Z 56), .int a1, .int a2]) (n := 9) (Nat.le_of_ble_eq_true rfl)
  refine W.eq (g2 := F0 m 0 ((lg_sl ([.ref (ow_ad Z 56), .int a1, .int a2]) ++ List.replicate (9 - (lg_sl ([.ref (ow_ad Z 56), .int a1, .int a2])).length) Slot.unset).toArray) []) (by rw [hav]; exact lg_entry_eq _ _ _) ?_
  generalize (lg_sl ([.ref (ow_ad Z 56), .int a1, .int a2]) ++ List.replicate (9 - (lg_sl ([.ref (ow_ad Z 56), .int a1, .int a2])).length) Slot.unset).toArray = ls at hl ⊢
  have hl : lv_has ls 9 [(0, .ref (ow_ad Z 56)), (1, .int a1), (2, .int a2)] := hl
  unfold f_X9_begin at hf
  refine lv_aload_n hx hb dX9_begin_0 rfl (lv_at hl 0 rfl) ?_
  refine lv_iload_n hx hb dX9_begin_1 rfl (lv_at hl 1 rfl) ?_
  obtain ⟨r_2, σ_2, hc2, hf⟩ := ow_cl_i hf
  refine ow_callz (va_runV (As := [.int a1]) (rest := []) ⟨hx, hb, hml, hown, hts⟩ (c_X9_isHead l Z fu a1 σ r_2 σ_2 hc2) (cwV 1 hts gX9_begin_X9_isHead rfl rfl rfl (by decide +kernel) ⟨Nat.le_of_ble_eq_true rfl, Nat.le_of_ble_eq_true rfl⟩) (ow_preV hG hW ow_i56 (by decide) rfl) rfl rfl hl.1 rfl (lv_room (Nat.le_of_ble_eq_true rfl)) dX9_begin_2 ⟨Nat.zero_le _, Nat.zero_le _⟩) hW (fun b2 H locs hW => ?_)
  refine lv_if_ne (tgt := 11) hx hb dX9_begin_5 (by decide) (fun c5 => ?_) (fun c5 => ?_)
  · replace hf := ow_if_f c5 hf
    refine lv_iload_n hx hb dX9_begin_11 rfl (lv_at hl 2 rfl) ?_
    refine lv_iconst (v := 0) hx hb dX9_begin_12 (by decide) ?_
    refine lv_iconst (v := 1) hx hb dX9_begin_13 (by decide) ?_
    obtain ⟨r_14, σ_14, hc14, hf⟩ := ow_cl_i hf
    refine ow_callz (va_runS (As := [.int a2, .int (0 : Int32), .int (1 : Int32)]) (rest := []) ⟨hx, hb, hml, hown, hts⟩ (c_X9_in l Z fu a2 (0 : Int32) (1 : Int32) σ_2 r_14 σ_14 hc14) (va_cwS 3 hts gX9_begin_X9_in rfl rfl rfl (by decide +kernel) ⟨Nat.le_of_ble_eq_true rfl, Nat.le_of_ble_eq_true rfl⟩) (ow_preS hG hW) rfl rfl hl.1 rfl (lv_room (Nat.le_of_ble_eq_true rfl)) dX9_begin_14 ⟨Nat.zero_le _, Nat.zero_le _⟩) hW (fun b14 H locs hW => ?_)
    refine lv_if_ne (tgt := 23) hx hb dX9_begin_17 (by decide) (fun c17 => ?_) (fun c17 => ?_)
    · replace hf := ow_if_f c17 hf
      refine lv_aload_n hx hb dX9_begin_23 rfl (lv_at hl 0 rfl) ?_
      refine ow_getV (ci := 9) (C := RX9) (T := TX9) (N := 41) hx hb hts hown hG hW ow_i56 (by decide) rfl hinX9 6 (by decide) (fk := 2) rfl (hts (.fieldLink RX9 23 "FiftyOneCardsModel" "kept" "[I") (by decide +kernel)) (v := .ref (ow_ad Z 60)) (ow_vR hW ow_i56.1 ow_i56.2.1 rfl) dX9_begin_24 ?_
      refine lv_iconst (v := 3) hx hb dX9_begin_27 (by decide) ?_
      refine lv_iload_n hx hb dX9_begin_28 rfl (lv_at hl 1 rfl) ?_
      refine lv_imul hx hb dX9_begin_29 ?_
      refine lv_iconst (v := 1) hx hb dX9_begin_30 (by decide) ?_
      refine lv_iadd hx hb dX9_begin_31 ?_
      obtain ⟨q32, hf⟩ := ow_ck_i hf
      refine ow_ild (q := (((3 : Int32) * a1) + (1 : Int32)).toNatClampNeg) hx hb hG hW ow_i60 rfl q32 rfl dX9_begin_32 ?_
      refine ow_topi hf (fun x3_33 hf => ?_)
      refine lv_istore_n (lv' := [(3, .int x3_33), (0, .ref (ow_ad Z 56)), (1, .int a1), (2, .int a2)]) hx hb dX9_begin_33 rfl hl (by decide) rfl (fun ls hl => ?_)
      refine lv_iconst (v := -1) hx hb dX9_begin_34 (by decide) ?_
      refine lv_istore (lv' := [(4, .int (-1 : Int32)), (3, .int x3_33), (0, .ref (ow_ad Z 56)), (1, .int a1), (2, .int a2)]) hx hb dX9_begin_35 hl (by decide) rfl (fun ls hl => ?_)
      refine lv_iconst (v := -1) hx hb dX9_begin_37 (by decide) ?_
      refine lv_istore (lv' := [(5, .int (-1 : Int32)), (4, .int (-1 : Int32)), (3, .int x3_33), (0, .ref (ow_ad Z 56)), (1, .int a1), (2, .int a2)]) hx hb dX9_begin_38 hl (by decide) rfl (fun ls hl => ?_)
      refine lv_iconst (v := 0) hx hb dX9_begin_40 (by decide) ?_
      refine lv_istore (lv' := [(6, .int (0 : Int32)), (5, .int (-1 : Int32)), (4, .int (-1 : Int32)), (3, .int x3_33), (0, .ref (ow_ad Z 56)), (1, .int a1), (2, .int a2)]) hx hb dX9_begin_41 hl (by decide) rfl (fun ls hl => ?_)
      exact hJ43 fu a1 a2 x3_33 (-1 : Int32) (-1 : Int32) (0 : Int32) σ_14 _ _ _ hf hW (lv_sub hl [4, 5, 6, 3, 2, 1, 0] rfl)
    · replace hf := ow_if_t c17 hf
      refine lv_bipush (v := -7) hx hb dX9_begin_20 (by decide) ?_
      exact ow_iret hx hb hr hW hf dX9_begin_22 hlocks
  · replace hf := ow_if_t c5 hf
    refine lv_bipush (v := -5) hx hb dX9_begin_8 (by decide) ?_
    exact ow_iret hx hb hr hW hf dX9_begin_10 hlocks
set_option maxHeartbeats 40000000 in
set_option maxRecDepth 100000 in
theorem c_X9_same (l : Launch) (Z : ow_Z) (fu : Nat) (a1 : Int32) (a2 : Int32) (σ : ow_S) (rr : Int32) (σr : ow_S) (hf : f_X9_same fu a1 a2 σ = some (rr, σr)) : Met l yX9_same wsX9_same { frames := 7, cells := 0, slots := 0, locals := 202 } (ow_Pc Z 56 20 [.ref (ow_ad Z 56), .int a1, .int a2] σ) (ow_Qi Z 56 20 rr σr) 0 0 (ow_A Z 56 20) := by
  refine Met.ofW (cc := cX9_same) (maxL := 4) (ret := (some .int)) (by decide) rfl ?_
  intro p e s m args below meth c s₁ B hml hv
  obtain ⟨hav, hB⟩ := hv
  obtain ⟨hG, hW⟩ := ow_begin hB
  have hx := B.exec
  have hb := B.bytes
  have hr := B.returns
  have hts := atoms_spec (ws := wsX9_same) B.pre
  have hown : s.vm.findClass RX9 = some m.cls := findClass_of_methodNamed B.named
  have hlocks := B.notSynchronized
  have hl := lv_entry ([.ref (ow_ad Z 56), .int a1, .int a2]) (n := 4) (Nat.le_of_ble_eq_true rfl)
  refine W.eq (g2 := F0 m 0 ((lg_sl ([.ref (ow_ad Z 56), .int a1, .int a2]) ++ List.replicate (4 - (lg_sl ([.ref (ow_ad Z 56), .int a1, .int a2])).length) Slot.unset).toArray) []) (by rw [hav]; exact lg_entry_eq _ _ _) ?_
  generalize (lg_sl ([.ref (ow_ad Z 56), .int a1, .int a2]) ++ List.replicate (4 - (lg_sl ([.ref (ow_ad Z 56), .int a1, .int a2])).length) Slot.unset).toArray = ls at hl ⊢
  have hl : lv_has ls 4 [(0, .ref (ow_ad Z 56)), (1, .int a1), (2, .int a2)] := hl
  unfold f_X9_same at hf
  refine lv_aload_n hx hb dX9_same_0 rfl (lv_at hl 0 rfl) ?_
  refine lv_iload_n hx hb dX9_same_1 rfl (lv_at hl 1 rfl) ?_
  obtain ⟨r_2, σ_2, hc2, hf⟩ := ow_cl_i hf
  refine ow_callz (va_runV (As := [.int a1]) (rest := []) ⟨hx, hb, hml, hown, hts⟩ (c_X9_isHead l Z fu a1 σ r_2 σ_2 hc2) (cwV 1 hts gX9_same_X9_isHead rfl rfl rfl (by decide +kernel) ⟨Nat.le_of_ble_eq_true rfl, Nat.le_of_ble_eq_true rfl⟩) (ow_preV hG hW ow_i56 (by decide) rfl) rfl rfl hl.1 rfl (lv_room (Nat.le_of_ble_eq_true rfl)) dX9_same_2 ⟨Nat.zero_le _, Nat.zero_le _⟩) hW (fun b2 H locs hW => ?_)
  refine lv_if_ne (tgt := 11) hx hb dX9_same_5 (by decide) (fun c5 => ?_) (fun c5 => ?_)
  · replace hf := ow_if_f c5 hf
    refine lv_iload_n hx hb dX9_same_11 rfl (lv_at hl 2 rfl) ?_
    refine lv_iconst (v := 0) hx hb dX9_same_12 (by decide) ?_
    refine lv_iconst (v := 1) hx hb dX9_same_13 (by decide) ?_
    obtain ⟨r_14, σ_14, hc14, hf⟩ := ow_cl_i hf
    refine ow_callz (va_runS (As := [.int a2, .int (0 : Int32), .int (1 : Int32)]) (rest := []) ⟨hx, hb, hml, hown, hts⟩ (c_X9_in l Z fu a2 (0 : Int32) (1 : Int32) σ_2 r_14 σ_14 hc14) (va_cwS 3 hts gX9_same_X9_in rfl rfl rfl (by decide +kernel) ⟨Nat.le_of_ble_eq_true rfl, Nat.le_of_ble_eq_true rfl⟩) (ow_preS hG hW) rfl rfl hl.1 rfl (lv_room (Nat.le_of_ble_eq_true rfl)) dX9_same_14 ⟨Nat.zero_le _, Nat.zero_le _⟩) hW (fun b14 H locs hW => ?_)
    refine lv_if_ne (tgt := 23) hx hb dX9_same_17 (by decide) (fun c17 => ?_) (fun c17 => ?_)
    · replace hf := ow_if_f c17 hf
      refine lv_aload_n hx hb dX9_same_23 rfl (lv_at hl 0 rfl) ?_
      obtain ⟨σ_24, hc24, hf⟩ := ow_cv_i hf
      refine ow_callv (va_runV (As := []) (rest := []) ⟨hx, hb, hml, hown, hts⟩ (c_X9_laysRow l Z fu σ_14 σ_24  hc24) (cwV 0 hts gX9_same_X9_laysRow rfl rfl rfl (by decide +kernel) ⟨Nat.le_of_ble_eq_true rfl, Nat.le_of_ble_eq_true rfl⟩) (ow_preV hG hW ow_i56 (by decide) rfl) rfl rfl hl.1 rfl (lv_room (Nat.le_of_ble_eq_true rfl)) dX9_same_24 ⟨Nat.zero_le _, Nat.zero_le _⟩) hW (fun H locs hW => ?_)
      refine lv_aload_n hx hb dX9_same_27 rfl (lv_at hl 0 rfl) ?_
      refine lv_iload_n hx hb dX9_same_28 rfl (lv_at hl 1 rfl) ?_
      obtain ⟨r_29, σ_29, hc29, hf⟩ := ow_cl_i hf
      refine ow_calli (va_runV (As := [.int a1]) (rest := []) ⟨hx, hb, hml, hown, hts⟩ (c_X9_saysOf l Z fu a1 σ_24 r_29 σ_29 hc29) (cwV 1 hts gX9_same_X9_saysOf rfl rfl rfl (by decide +kernel) ⟨Nat.le_of_ble_eq_true rfl, Nat.le_of_ble_eq_true rfl⟩) (ow_preV hG hW ow_i56 (by decide) rfl) rfl rfl hl.1 rfl (lv_room (Nat.le_of_ble_eq_true rfl)) dX9_same_29 ⟨Nat.zero_le _, Nat.zero_le _⟩) hW (fun H locs hW => ?_)
      refine lv_istore_n (lv' := [(3, .int r_29), (0, .ref (ow_ad Z 56)), (1, .int a1), (2, .int a2)]) hx hb dX9_same_32 rfl hl (by decide) rfl (fun ls hl => ?_)
      refine lv_aload_n hx hb dX9_same_33 rfl (lv_at hl 1 rfl) ?_
      refine lv_iload_n hx hb dX9_same_34 rfl (lv_at hl 3 rfl) ?_
      obtain ⟨σ_35, hc35, hf⟩ := ow_cv_i hf
      refine ow_callv (va_runV (As := [.int a2]) (rest := []) ⟨hx, hb, hml, hown, hts⟩ (c_X9_turnsOver l Z fu a2 σ_29 σ_35  hc35) (cwV 1 hts gX9_same_X9_turnsOver rfl rfl rfl (by decide +kernel) ⟨Nat.le_of_ble_eq_true rfl, Nat.le_of_ble_eq_true rfl⟩) (ow_preV hG hW ow_i56 (by decide) rfl) rfl rfl hl.1 rfl (lv_room (Nat.le_of_ble_eq_true rfl)) dX9_same_35 ⟨Nat.zero_le _, Nat.zero_le _⟩) hW (fun H locs hW => ?_)
      refine lv_aload_n hx hb dX9_same_38 rfl (lv_at hl 1 rfl) ?_
      refine lv_iload_n hx hb dX9_same_39 rfl (lv_at hl 2 rfl) ?_
      obtain ⟨r_40, σ_40, hc40, hf⟩ := ow_cl_i hf
      refine ow_calli (va_runV (As := [.int a1]) (rest := []) ⟨hx, hb, hml, hown, hts⟩ (c_X9_saysOf l Z fu a1 σ_35 r_40 σ_40 hc40) (cwV 1 hts gX9_same_X9_saysOf rfl rfl rfl (by decide +kernel) ⟨Nat.le_of_ble_eq_true rfl, Nat.le_of_ble_eq_true rfl⟩) (ow_preV hG hW ow_i56 (by decide) rfl) rfl rfl hl.1 rfl (lv_room (Nat.le_of_ble_eq_true rfl)) dX9_same_40 ⟨Nat.zero_le _, Nat.zero_le _⟩) hW (fun H locs hW => ?_)
      refine lv_iload_n hx hb dX9_same_43 rfl (lv_at hl 0 rfl) ?_
      refine lv_icmp_ne (tgt := 51) hx hb dX9_same_44 (by decide) (fun c44 => ?_) (fun c44 => ?_)
      · replace hf := ow_if_f c44 hf
        refine lv_iconst (v := 0) hx hb dX9_same_51 (by decide) ?_
        exact ow_iret hx hb hr hW hf dX9_same_52 hlocks
      · replace hf := ow_if_t c44 hf
        refine lv_iconst (v := 1) hx hb dX9_same_47 (by decide) ?_
        refine lv_goto (tgt := 52) hx hb dX9_same_48 (by decide) ?_
        exact ow_iret hx hb hr hW hf dX9_same_52 hlocks
    · replace hf := ow_if_t c17 hf
      refine lv_bipush (v := -7) hx hb dX9_same_20 (by decide) ?_
      exact ow_iret hx hb hr hW hf dX9_same_22 hlocks
  · replace hf := ow_if_t c5 hf
    refine lv_bipush (v := -5) hx hb dX9_same_8 (by decide) ?_
    exact ow_iret hx hb hr hW hf dX9_same_10 hlocks
set_option maxHeartbeats 40000000 in
set_option maxRecDepth 100000 in
theorem c_X9_laysHalf (l : Launch) (Z : ow_Z) (fu : Nat) (a1 : Int32) (σ : ow_S) (σr : ow_S) (hf : f_X9_laysHalf fu a1 σ = some σr) : Met l yX9_laysHalf wsX9_laysHalf { frames := 1, cells := 0, slots := 0, locals := 60 } (ow_Pc Z 56 20 [.ref (ow_ad Z 56), .int a1] σ) (ow_Qv Z 56 20 σr) 0 0 (ow_A Z 56 20) := by
  refine Met.ofW (cc := cX9_laysHalf) (maxL := 3) (ret := none) (by decide) rfl ?_
  intro p e s m args below meth c s₁ B hml hv
  obtain ⟨hav, hB⟩ := hv
  obtain ⟨hG, hW⟩ := ow_begin hB
  have hx := B.exec
  have hb := B.bytes
  have hr := B.returns
  have hts := atoms_spec (ws := wsX9_laysHalf) B.pre
  have hown : s.vm.findClass RX9 = some m.cls := findClass_of_methodNamed B.named
  have hlocks := B.notSynchronized
  have hinX9 : ∀ w ∈ wsX90, w ∈ wsX9_laysHalf := by decide +kernel
  have hJ7 : ∀ (fn : Nat), ∀ (x2 : Int32) (σ : ow_S) (H : Heap) (locs : List Loc) (ls : Array Slot), L_X9_laysHalf_7 fu fn x2 σ = some σr → ow_Wd Z 56 20 σ s H locs → lv_has ls 3 [(0, .ref (ow_ad Z 56)), (2, .int x2)] → W p l e (headSpec wsX9_laysHalf { frames := 1, cells := 0, slots := 0, locals := 60 }).room s m args below meth c H locs 0 0 (MQ below (ow_Qv Z 56 20 σr) args s 0 0 (ow_A Z 56 20)) (F0 m 7 ls []) := by
    intro fn
    induction fn with
    | zero => intro x2 σ H locs ls hf hW hl; simp [L_X9_laysHalf_7] at hf
    | succ fn ih =>
      intro x2 σ H locs ls hf hW hl
      rw [L_X9_laysHalf_7] at hf
      refine lv_iload_n hx hb dX9_laysHalf_7 rfl (lv_at hl 1 rfl) ?_
      refine lv_aload_n hx hb dX9_laysHalf_8 rfl (lv_at hl 0 rfl) ?_
      refine ow_getV (ci := 9) (C := RX9) (T := TX9) (N := 41) hx hb hts hown hG hW ow_i56 (by decide) rfl hinX9 2 (by decide) (fk := 0) rfl (hts (.fieldLink RX9 85 "FiftyOneCardsModel" "rowMany" "I") (by decide +kernel)) (v := .int (σ.1 56 2)) rfl dX9_laysHalf_9 ?_
      refine lv_icmp_ge (tgt := 46) hx hb dX9_laysHalf_12 (by decide) (fun c12 => ?_) (fun c12 => ?_)
      · replace hf := ow_if_t c12 hf
        exact ow_vret hx hb hr hW hf dX9_laysHalf_46 hlocks
      · replace hf := ow_if_f c12 hf
        refine lv_aload_n hx hb dX9_laysHalf_15 rfl (lv_at hl 0 rfl) ?_
        refine ow_getV (ci := 9) (C := RX9) (T := TX9) (N := 41) hx hb hts hown hG hW ow_i56 (by decide) rfl hinX9 35 (by decide) (fk := 2) rfl (hts (.fieldLink RX9 65 "FiftyOneCardsModel" "goes" "[I") (by decide +kernel)) (v := .ref (ow_ad Z 74)) (ow_vR hW ow_i56.1 ow_i56.2.1 rfl) dX9_laysHalf_16 ?_
        refine lv_aload_n hx hb dX9_laysHalf_19 rfl (lv_at hl 0 rfl) ?_
        refine ow_getV (ci := 9) (C := RX9) (T := TX9) (N := 41) hx hb hts hown hG hW ow_i56 (by decide) rfl hinX9 36 (by decide) (fk := 0) rfl (hts (.fieldLink RX9 102 "FiftyOneCardsModel" "goesMany" "I") (by decide +kernel)) (v := .int (σ.1 56 36)) rfl dX9_laysHalf_20 ?_
        refine lv_aload_n hx hb dX9_laysHalf_23 rfl (lv_at hl 0 rfl) ?_
        refine ow_getV (ci := 9) (C := RX9) (T := TX9) (N := 41) hx hb hts hown hG hW ow_i56 (by decide) rfl hinX9 1 (by decide) (fk := 2) rfl (hts (.fieldLink RX9 13 "FiftyOneCardsModel" "row" "[I") (by decide +kernel)) (v := .ref (ow_ad Z 57)) (ow_vR hW ow_i56.1 ow_i56.2.1 rfl) dX9_laysHalf_24 ?_
        refine lv_iload_n hx hb dX9_laysHalf_27 rfl (lv_at hl 1 rfl) ?_
        obtain ⟨q28, hf⟩ := ow_ck_i hf
        refine ow_ild (q := x2.toNatClampNeg) hx hb hG hW ow_i57 rfl q28 rfl dX9_laysHalf_28 ?_
        obtain ⟨q29, hf⟩ := ow_ck_i hf
        refine ow_ist (q := (σ.1 56 36).toNatClampNeg) hx hb hG hW ow_i74 rfl q29 rfl hf dX9_laysHalf_29 (fun σ_29 H locs hf hW => ?_)
        refine lv_aload_n hx hb dX9_laysHalf_30 rfl (lv_at hl 0 rfl) ?_
        refine lv_dup hx hb dX9_laysHalf_31 rfl ?_
        refine ow_getV (ci := 9) (C := RX9) (T := TX9) (N := 41) hx hb hts hown hG hW ow_i56 (by decide) rfl hinX9 36 (by decide) (fk := 0) rfl (hts (.fieldLink RX9 102 "FiftyOneCardsModel" "goesMany" "I") (by decide +kernel)) (v := .int (σ_29.1 56 36)) rfl dX9_laysHalf_32 ?_
        refine lv_iconst (v := 1) hx hb dX9_laysHalf_35 (by decide) ?_
        refine lv_iadd hx hb dX9_laysHalf_36 ?_
        refine ow_putI (ci := 9) (C := RX9) (T := TX9) (N := 41) hx hb hts hown hG hW ow_i56 (by decide) rfl hinX9 tyX9 tyX9_ok nmX9 36 (by decide) rfl (hts (.fieldLink RX9 102 "FiftyOneCardsModel" "goesMany" "I") (by decide +kernel)) rfl rfl rfl hf dX9_laysHalf_37 (fun σ_37 H locs hf hW => ?_)
        refine ow_iinc (d := 2) (lv' := fun z => [(2, .int z), (0, .ref (ow_ad Z 56))]) hx hb hf dX9_laysHalf_40 hl (k := 1) rfl (by decide) (by decide) (fun z => rfl) (fun x2_40 hf ls hl => ?_)
        refine lv_goto (tgt := 7) hx hb dX9_laysHalf_43 (by decide) ?_
        exact ih x2_40 σ_37 _ _ _ hf hW (lv_sub hl [1, 0] rfl)
  have hl := lv_entry ([.ref (ow_ad Z 56), .int a1]) (n := 3) (Nat.le_of_ble_eq_true rfl)
  refine W.eq (g2 := F0 m 0 ((lg_sl ([.ref (ow_ad Z 56), .int a1]) ++ List.replicate (3 - (lg_sl ([.ref (ow_ad Z 56), .int a1])).length) Slot.unset).toArray) []) (by rw [hav]; exact lg_entry_eq _ _ _) ?_
  generalize (lg_sl ([.ref (ow_ad Z 56), .int a1]) ++ List.replicate (3 - (lg_sl ([.ref (ow_ad Z 56), .int a1])).length) Slot.unset).toArray = ls at hl ⊢
  have hl : lv_has ls 3 [(0, .ref (ow_ad Z 56)), (1, .int a1)] := hl
  unfold f_X9_laysHalf at hf
  refine lv_aload_n hx hb dX9_laysHalf_0 rfl (lv_at hl 0 rfl) ?_
  refine lv_iconst (v := 0) hx hb dX9_laysHalf_1 (by decide) ?_
  refine ow_putI (ci := 9) (C := RX9) (T := TX9) (N := 41) hx hb hts hown hG hW ow_i56 (by decide) rfl hinX9 tyX9 tyX9_ok nmX9 36 (by decide) rfl (hts (.fieldLink RX9 102 "FiftyOneCardsModel" "goesMany" "I") (by decide +kernel)) rfl rfl rfl hf dX9_laysHalf_2 (fun σ_2 H locs hf hW => ?_)
  refine lv_iload_n hx hb dX9_laysHalf_5 rfl (lv_at hl 1 rfl) ?_
  refine lv_istore_n (lv' := [(2, .int a1), (0, .ref (ow_ad Z 56)), (1, .int a1)]) hx hb dX9_laysHalf_6 rfl hl (by decide) rfl (fun ls hl => ?_)
  exact hJ7 fu a1 σ_2 _ _ _ hf hW (lv_sub hl [1, 0] rfl)
set_option maxHeartbeats 40000000 in
set_option maxRecDepth 100000 in
theorem c_X9_share (l : Launch) (Z : ow_Z) (fu : Nat) (a1 : Int32) (a2 : Int32) (σ : ow_S) (rr : Int32) (σr : ow_S) (hf : f_X9_share fu a1 a2 σ = some (rr, σr)) : Met l yX9_share wsX9_share { frames := 7, cells := 0, slots := 0, locals := 202 } (ow_Pc Z 56 20 [.ref (ow_ad Z 56), .int a1, .int a2] σ) (ow_Qi Z 56 20 rr σr) 0 0 (ow_A Z 56 20) := by
  refine Met.ofW (cc := cX9_share) (maxL := 4) (ret := (some .int)) (by decide) rfl ?_
  intro p e s m args below meth c s₁ B hml hv
  obtain ⟨hav, hB⟩ := hv
  obtain ⟨hG, hW⟩ := ow_begin hB
  have hx := B.exec
  have hb := B.bytes
  have hr := B.returns
  have hts := atoms_spec (ws := wsX9_share) B.pre
  have hown : s.vm.findClass RX9 = some m.cls := findClass_of_methodNamed B.named
  have hlocks := B.notSynchronized
  have hl := lv_entry ([.ref (ow_ad Z 56), .int a1, .int a2]) (n := 4) (Nat.le_of_ble_eq_true rfl)
  refine W.eq (g2 := F0 m 0 ((lg_sl ([.ref (ow_ad Z 56), .int a1, .int a2]) ++ List.replicate (4 - (lg_sl ([.ref (ow_ad Z 56), .int a1, .int a2])).length) Slot.unset).toArray) []) (by rw [hav]; exact lg_entry_eq _ _ _) ?_
  generalize (lg_sl ([.ref (ow_ad Z 56), .int a1, .int a2]) ++ List.replicate (4 - (lg_sl ([.ref (ow_ad Z 56), .int a1, .int a2])).length) Slot.unset).toArray = ls at hl ⊢
  have hl : lv_has ls 4 [(0, .ref (ow_ad Z 56)), (1, .int a1), (2, .int a2)] := hl
  unfold f_X9_share at hf
  refine lv_aload_n hx hb dX9_share_0 rfl (lv_at hl 0 rfl) ?_
  refine lv_iload_n hx hb dX9_share_1 rfl (lv_at hl 1 rfl) ?_
  obtain ⟨r_2, σ_2, hc2, hf⟩ := ow_cl_i hf
  refine ow_callz (va_runV (As := [.int a1]) (rest := []) ⟨hx, hb, hml, hown, hts⟩ (c_X9_isHead l Z fu a1 σ r_2 σ_2 hc2) (cwV 1 hts gX9_share_X9_isHead rfl rfl rfl (by decide +kernel) ⟨Nat.le_of_ble_eq_true rfl, Nat.le_of_ble_eq_true rfl⟩) (ow_preV hG hW ow_i56 (by decide) rfl) rfl rfl hl.1 rfl (lv_room (Nat.le_of_ble_eq_true rfl)) dX9_share_2 ⟨Nat.zero_le _, Nat.zero_le _⟩) hW (fun b2 H locs hW => ?_)
  refine lv_if_eq (tgt := 16) hx hb dX9_share_5 (by decide) (fun c5 => ?_) (fun c5 => ?_)
  · replace hf := ow_if_t c5 hf
    refine lv_ldc (v := -1000005) hx hb hown (hts (.constant RX9 239 (-1000005)) (by decide +kernel)) dX9_share_16 ?_
    exact ow_iret hx hb hr hW hf dX9_share_18 hlocks
  · replace hf := ow_if_f c5 hf
    refine lv_aload_n hx hb dX9_share_8 rfl (lv_at hl 0 rfl) ?_
    refine lv_iload_n hx hb dX9_share_9 rfl (lv_at hl 2 rfl) ?_
    obtain ⟨r_10, σ_10, hc10, hf⟩ := ow_cl_i hf
    refine ow_callz (va_runV (As := [.int a2]) (rest := []) ⟨hx, hb, hml, hown, hts⟩ (c_X9_isHead l Z fu a2 σ_2 r_10 σ_10 hc10) (cwV 1 hts gX9_share_X9_isHead rfl rfl rfl (by decide +kernel) ⟨Nat.le_of_ble_eq_true rfl, Nat.le_of_ble_eq_true rfl⟩) (ow_preV hG hW ow_i56 (by decide) rfl) rfl rfl hl.1 rfl (lv_room (Nat.le_of_ble_eq_true rfl)) dX9_share_10 ⟨Nat.zero_le _, Nat.zero_le _⟩) hW (fun b10 H locs hW => ?_)
    refine lv_if_ne (tgt := 19) hx hb dX9_share_13 (by decide) (fun c13 => ?_) (fun c13 => ?_)
    · replace hf := ow_if_f c13 hf
      refine lv_aload_n hx hb dX9_share_19 rfl (lv_at hl 0 rfl) ?_
      refine lv_iconst (v := 0) hx hb dX9_share_20 (by decide) ?_
      obtain ⟨σ_21, hc21, hf⟩ := ow_cv_i hf
      refine ow_callv (va_runV (As := [.int (0 : Int32)]) (rest := []) ⟨hx, hb, hml, hown, hts⟩ (c_X9_laysHalf l Z fu (0 : Int32) σ_10 σ_21  hc21) (cwV 1 hts gX9_share_X9_laysHalf rfl rfl rfl (by decide +kernel) ⟨Nat.le_of_ble_eq_true rfl, Nat.le_of_ble_eq_true rfl⟩) (ow_preV hG hW ow_i56 (by decide) rfl) rfl rfl hl.1 rfl (lv_room (Nat.le_of_ble_eq_true rfl)) dX9_share_21 ⟨Nat.zero_le _, Nat.zero_le _⟩) hW (fun H locs hW => ?_)
      refine lv_aload_n hx hb dX9_share_24 rfl (lv_at hl 0 rfl) ?_
      refine lv_iload_n hx hb dX9_share_25 rfl (lv_at hl 1 rfl) ?_
      obtain ⟨r_26, σ_26, hc26, hf⟩ := ow_cl_i hf
      refine ow_calli (va_runV (As := [.int a1]) (rest := []) ⟨hx, hb, hml, hown, hts⟩ (c_X9_saysOf l Z fu a1 σ_21 r_26 σ_26 hc26) (cwV 1 hts gX9_share_X9_saysOf rfl rfl rfl (by decide +kernel) ⟨Nat.le_of_ble_eq_true rfl, Nat.le_of_ble_eq_true rfl⟩) (ow_preV hG hW ow_i56 (by decide) rfl) rfl rfl hl.1 rfl (lv_room (Nat.le_of_ble_eq_true rfl)) dX9_share_26 ⟨Nat.zero_le _, Nat.zero_le _⟩) hW (fun H locs hW => ?_)
      refine lv_istore_n (lv' := [(3, .int r_26), (0, .ref (ow_ad Z 56)), (1, .int a1), (2, .int a2)]) hx hb dX9_share_29 rfl hl (by decide) rfl (fun ls hl => ?_)
      refine lv_aload_n hx hb dX9_share_30 rfl (lv_at hl 1 rfl) ?_
      refine lv_iconst (v := 1) hx hb dX9_share_31 (by decide) ?_
      obtain ⟨σ_32, hc32, hf⟩ := ow_cv_i hf
      refine ow_callv (va_runV (As := [.int (1 : Int32)]) (rest := []) ⟨hx, hb, hml, hown, hts⟩ (c_X9_laysHalf l Z fu (1 : Int32) σ_26 σ_32  hc32) (cwV 1 hts gX9_share_X9_laysHalf rfl rfl rfl (by decide +kernel) ⟨Nat.le_of_ble_eq_true rfl, Nat.le_of_ble_eq_true rfl⟩) (ow_preV hG hW ow_i56 (by decide) rfl) rfl rfl hl.1 rfl (lv_room (Nat.le_of_ble_eq_true rfl)) dX9_share_32 ⟨Nat.zero_le _, Nat.zero_le _⟩) hW (fun H locs hW => ?_)
      refine lv_iload_n hx hb dX9_share_35 rfl (lv_at hl 0 rfl) ?_
      refine lv_aload_n hx hb dX9_share_36 rfl (lv_at hl 1 rfl) ?_
      refine lv_iload_n hx hb dX9_share_37 rfl (lv_at hl 3 rfl) ?_
      obtain ⟨r_38, σ_38, hc38, hf⟩ := ow_cl_i hf
      refine ow_calli (va_runV (As := [.int a2]) (rest := [.int r_26]) ⟨hx, hb, hml, hown, hts⟩ (c_X9_saysOf l Z fu a2 σ_32 r_38 σ_38 hc38) (cwV 1 hts gX9_share_X9_saysOf rfl rfl rfl (by decide +kernel) ⟨Nat.le_of_ble_eq_true rfl, Nat.le_of_ble_eq_true rfl⟩) (ow_preV hG hW ow_i56 (by decide) rfl) rfl rfl hl.1 rfl (lv_room (Nat.le_of_ble_eq_true rfl)) dX9_share_38 ⟨Nat.zero_le _, Nat.zero_le _⟩) hW (fun H locs hW => ?_)
      refine lv_iadd hx hb dX9_share_41 ?_
      exact ow_iret hx hb hr hW hf dX9_share_42 hlocks
    · replace hf := ow_if_t c13 hf
      refine lv_ldc (v := -1000005) hx hb hown (hts (.constant RX9 239 (-1000005)) (by decide +kernel)) dX9_share_16 ?_
      exact ow_iret hx hb hr hW hf dX9_share_18 hlocks
set_option maxHeartbeats 40000000 in
set_option maxRecDepth 100000 in
theorem c_X9_pairsUp (l : Launch) (Z : ow_Z) (fu : Nat) (σ : ow_S) (σr : ow_S) (hf : f_X9_pairsUp fu σ = some σr) : Met l yX9_pairsUp wsX9_pairsUp { frames := 1, cells := 0, slots := 0, locals := 60 } (ow_Pc Z 56 20 [.ref (ow_ad Z 56)] σ) (ow_Qv Z 56 20 σr) 0 0 (ow_A Z 56 20) := by
  refine Met.ofW (cc := cX9_pairsUp) (maxL := 3) (ret := none) (by decide) rfl ?_
  intro p e s m args below meth c s₁ B hml hv
  obtain ⟨hav, hB⟩ := hv
  obtain ⟨hG, hW⟩ := ow_begin hB
  have hx := B.exec
  have hb := B.bytes
  have hr := B.returns
  have hts := atoms_spec (ws := wsX9_pairsUp) B.pre
  have hown : s.vm.findClass RX9 = some m.cls := findClass_of_methodNamed B.named
  have hlocks := B.notSynchronized
  have hinX9 : ∀ w ∈ wsX90, w ∈ wsX9_pairsUp := by decide +kernel
  have hJ15 : ∀ (fn : Nat), ∀ (x1 : Int32) (x2 : Int32) (σ : ow_S) (H : Heap) (locs : List Loc) (ls : Array Slot), L_X9_pairsUp_15 fu fn x1 x2 σ = some σr → ow_Wd Z 56 20 σ s H locs → lv_has ls 3 [(0, .ref (ow_ad Z 56)), (1, .int x1), (2, .int x2)] → W p l e (headSpec wsX9_pairsUp { frames := 1, cells := 0, slots := 0, locals := 60 }).room s m args below meth c H locs 0 0 (MQ below (ow_Qv Z 56 20 σr) args s 0 0 (ow_A Z 56 20)) (F0 m 15 ls []) := by
    intro fn
    induction fn with
    | zero => intro x1 x2 σ H locs ls hf hW hl; simp [L_X9_pairsUp_15] at hf
    | succ fn ih =>
      intro x1 x2 σ H locs ls hf hW hl
      rw [L_X9_pairsUp_15] at hf
      refine lv_iload_n hx hb dX9_pairsUp_15 rfl (lv_at hl 2 rfl) ?_
      refine lv_aload_n hx hb dX9_pairsUp_16 rfl (lv_at hl 0 rfl) ?_
      refine ow_getV (ci := 9) (C := RX9) (T := TX9) (N := 41) hx hb hts hown hG hW ow_i56 (by decide) rfl hinX9 40 (by decide) (fk := 0) rfl (hts (.fieldLink RX9 256 "FiftyOneCardsModel" "pairMany" "I") (by decide +kernel)) (v := .int (σ.1 56 40)) rfl dX9_pairsUp_17 ?_
      refine lv_icmp_ge (tgt := 40) hx hb dX9_pairsUp_20 (by decide) (fun c20 => ?_) (fun c20 => ?_)
      · replace hf := ow_if_t c20 hf
        refine lv_aload_n hx hb dX9_pairsUp_40 rfl (lv_at hl 0 rfl) ?_
        refine ow_getV (ci := 9) (C := RX9) (T := TX9) (N := 41) hx hb hts hown hG hW ow_i56 (by decide) rfl hinX9 39 (by decide) (fk := 2) rfl (hts (.fieldLink RX9 68 "FiftyOneCardsModel" "pairs" "[I") (by decide +kernel)) (v := .ref (ow_ad Z 75)) (ow_vR hW ow_i56.1 ow_i56.2.1 rfl) dX9_pairsUp_41 ?_
        refine lv_aload_n hx hb dX9_pairsUp_44 rfl (lv_at hl 0 rfl) ?_
        refine ow_getV (ci := 9) (C := RX9) (T := TX9) (N := 41) hx hb hts hown hG hW ow_i56 (by decide) rfl hinX9 40 (by decide) (fk := 0) rfl (hts (.fieldLink RX9 256 "FiftyOneCardsModel" "pairMany" "I") (by decide +kernel)) (v := .int (σ.1 56 40)) rfl dX9_pairsUp_45 ?_
        refine lv_iload_n hx hb dX9_pairsUp_48 rfl (lv_at hl 1 rfl) ?_
        obtain ⟨q49, hf⟩ := ow_ck_i hf
        refine ow_ist (q := (σ.1 56 40).toNatClampNeg) hx hb hG hW ow_i75 rfl q49 rfl hf dX9_pairsUp_49 (fun σ_49 H locs hf hW => ?_)
        refine lv_aload_n hx hb dX9_pairsUp_50 rfl (lv_at hl 0 rfl) ?_
        refine lv_dup hx hb dX9_pairsUp_51 rfl ?_
        refine ow_getV (ci := 9) (C := RX9) (T := TX9) (N := 41) hx hb hts hown hG hW ow_i56 (by decide) rfl hinX9 40 (by decide) (fk := 0) rfl (hts (.fieldLink RX9 256 "FiftyOneCardsModel" "pairMany" "I") (by decide +kernel)) (v := .int (σ_49.1 56 40)) rfl dX9_pairsUp_52 ?_
        refine lv_iconst (v := 1) hx hb dX9_pairsUp_55 (by decide) ?_
        refine lv_iadd hx hb dX9_pairsUp_56 ?_
        refine ow_putI (ci := 9) (C := RX9) (T := TX9) (N := 41) hx hb hts hown hG hW ow_i56 (by decide) rfl hinX9 tyX9 tyX9_ok nmX9 40 (by decide) rfl (hts (.fieldLink RX9 256 "FiftyOneCardsModel" "pairMany" "I") (by decide +kernel)) rfl rfl rfl hf dX9_pairsUp_57 (fun σ_57 H locs hf hW => ?_)
        exact ow_vret hx hb hr hW hf dX9_pairsUp_60 hlocks
      · replace hf := ow_if_f c20 hf
        refine lv_aload_n hx hb dX9_pairsUp_23 rfl (lv_at hl 0 rfl) ?_
        refine ow_getV (ci := 9) (C := RX9) (T := TX9) (N := 41) hx hb hts hown hG hW ow_i56 (by decide) rfl hinX9 39 (by decide) (fk := 2) rfl (hts (.fieldLink RX9 68 "FiftyOneCardsModel" "pairs" "[I") (by decide +kernel)) (v := .ref (ow_ad Z 75)) (ow_vR hW ow_i56.1 ow_i56.2.1 rfl) dX9_pairsUp_24 ?_
        refine lv_iload_n hx hb dX9_pairsUp_27 rfl (lv_at hl 2 rfl) ?_
        obtain ⟨q28, hf⟩ := ow_ck_i hf
        refine ow_ild (q := x2.toNatClampNeg) hx hb hG hW ow_i75 rfl q28 rfl dX9_pairsUp_28 ?_
        refine lv_iload_n hx hb dX9_pairsUp_29 rfl (lv_at hl 1 rfl) ?_
        refine lv_icmp_ne (tgt := 34) hx hb dX9_pairsUp_30 (by decide) (fun c30 => ?_) (fun c30 => ?_)
        · replace hf := ow_if_f c30 hf
          refine ow_iinc (d := 1) (lv' := fun z => [(2, .int z), (0, .ref (ow_ad Z 56)), (1, .int x1)]) hx hb hf dX9_pairsUp_34 hl (k := 2) rfl (by decide) (by decide) (fun z => rfl) (fun x2_34 hf ls hl => ?_)
          refine lv_goto (tgt := 15) hx hb dX9_pairsUp_37 (by decide) ?_
          exact ih x1 x2_34 σ _ _ _ hf hW (lv_sub hl [1, 2, 0] rfl)
        · replace hf := ow_if_t c30 hf
          exact ow_vret hx hb hr hW hf dX9_pairsUp_33 hlocks
  have hl := lv_entry ([.ref (ow_ad Z 56)]) (n := 3) (Nat.le_of_ble_eq_true rfl)
  refine W.eq (g2 := F0 m 0 ((lg_sl ([.ref (ow_ad Z 56)]) ++ List.replicate (3 - (lg_sl ([.ref (ow_ad Z 56)])).length) Slot.unset).toArray) []) (by rw [hav]; exact lg_entry_eq _ _ _) ?_
  generalize (lg_sl ([.ref (ow_ad Z 56)]) ++ List.replicate (3 - (lg_sl ([.ref (ow_ad Z 56)])).length) Slot.unset).toArray = ls at hl ⊢
  have hl : lv_has ls 3 [(0, .ref (ow_ad Z 56))] := hl
  unfold f_X9_pairsUp at hf
  refine lv_aload_n hx hb dX9_pairsUp_0 rfl (lv_at hl 0 rfl) ?_
  refine ow_getV (ci := 9) (C := RX9) (T := TX9) (N := 41) hx hb hts hown hG hW ow_i56 (by decide) rfl hinX9 37 (by decide) (fk := 0) rfl (hts (.fieldLink RX9 213 "FiftyOneCardsModel" "keepsFirst" "I") (by decide +kernel)) (v := .int (σ.1 56 37)) rfl dX9_pairsUp_1 ?_
  refine lv_bipush (v := 16) hx hb dX9_pairsUp_4 (by decide) ?_
  refine lv_ishl hx hb dX9_pairsUp_6 ?_
  refine lv_aload_n hx hb dX9_pairsUp_7 rfl (lv_at hl 0 rfl) ?_
  refine ow_getV (ci := 9) (C := RX9) (T := TX9) (N := 41) hx hb hts hown hG hW ow_i56 (by decide) rfl hinX9 38 (by decide) (fk := 0) rfl (hts (.fieldLink RX9 216 "FiftyOneCardsModel" "keepsSecond" "I") (by decide +kernel)) (v := .int (σ.1 56 38)) rfl dX9_pairsUp_8 ?_
  refine lv_ior hx hb dX9_pairsUp_11 ?_
  refine ow_topi hf (fun x1_12 hf => ?_)
  refine lv_istore_n (lv' := [(1, .int x1_12), (0, .ref (ow_ad Z 56))]) hx hb dX9_pairsUp_12 rfl hl (by decide) rfl (fun ls hl => ?_)
  refine lv_iconst (v := 0) hx hb dX9_pairsUp_13 (by decide) ?_
  refine lv_istore_n (lv' := [(2, .int (0 : Int32)), (1, .int x1_12), (0, .ref (ow_ad Z 56))]) hx hb dX9_pairsUp_14 rfl hl (by decide) rfl (fun ls hl => ?_)
  exact hJ15 fu x1_12 (0 : Int32) σ _ _ _ hf hW (lv_sub hl [2, 1, 0] rfl)
set_option maxHeartbeats 40000000 in
set_option maxRecDepth 100000 in
theorem c_X9_powerOf (l : Launch) (Z : ow_Z) (fu : Nat) (a1 : Int32) (a2 : Int32) (σ : ow_S) (rr : Int32) (σr : ow_S) (hf : f_X9_powerOf fu a1 a2 σ = some (rr, σr)) : Met l yX9_powerOf wsX9_powerOf { frames := 1, cells := 0, slots := 0, locals := 60 } (ow_Pc Z 56 20 [.ref (ow_ad Z 56), .int a1, .int a2] σ) (ow_Qi Z 56 20 rr σr) 0 0 (ow_A Z 56 20) := by
  refine Met.ofW (cc := cX9_powerOf) (maxL := 5) (ret := (some .int)) (by decide) rfl ?_
  intro p e s m args below meth c s₁ B hml hv
  obtain ⟨hav, hB⟩ := hv
  obtain ⟨hG, hW⟩ := ow_begin hB
  have hx := B.exec
  have hb := B.bytes
  have hr := B.returns
  have hts := atoms_spec (ws := wsX9_powerOf) B.pre
  have hown : s.vm.findClass RX9 = some m.cls := findClass_of_methodNamed B.named
  have hlocks := B.notSynchronized
  have hJ5 : ∀ (fn : Nat), ∀ (x1 : Int32) (x2 : Int32) (x3 : Int32) (x4 : Int32) (σ : ow_S) (H : Heap) (locs : List Loc) (ls : Array Slot), L_X9_powerOf_5 fu fn x1 x2 x3 x4 σ = some (rr, σr) → ow_Wd Z 56 20 σ s H locs → lv_has ls 5 [(1, .int x1), (2, .int x2), (3, .int x3), (4, .int x4)] → W p l e (headSpec wsX9_powerOf { frames := 1, cells := 0, slots := 0, locals := 60 }).room s m args below meth c H locs 0 0 (MQ below (ow_Qi Z 56 20 rr σr) args s 0 0 (ow_A Z 56 20)) (F0 m 5 ls []) := by
    intro fn
    induction fn with
    | zero => intro x1 x2 x3 x4 σ H locs ls hf hW hl; simp [L_X9_powerOf_5] at hf
    | succ fn ih =>
      intro x1 x2 x3 x4 σ H locs ls hf hW hl
      rw [L_X9_powerOf_5] at hf
      refine lv_iload hx hb dX9_powerOf_5 (lv_at hl 3 rfl) ?_
      refine lv_iload_n hx hb dX9_powerOf_7 rfl (lv_at hl 1 rfl) ?_
      refine lv_icmp_ge (tgt := 21) hx hb dX9_powerOf_8 (by decide) (fun c8 => ?_) (fun c8 => ?_)
      · replace hf := ow_if_t c8 hf
        refine lv_iload_n hx hb dX9_powerOf_21 rfl (lv_at hl 2 rfl) ?_
        exact ow_iret hx hb hr hW hf dX9_powerOf_22 hlocks
      · replace hf := ow_if_f c8 hf
        refine lv_iload_n hx hb dX9_powerOf_11 rfl (lv_at hl 2 rfl) ?_
        refine lv_iload_n hx hb dX9_powerOf_12 rfl (lv_at hl 0 rfl) ?_
        refine lv_imul hx hb dX9_powerOf_13 ?_
        refine ow_topi hf (fun x3_14 hf => ?_)
        refine lv_istore_n (lv' := [(3, .int x3_14), (1, .int x1), (2, .int x2), (4, .int x4)]) hx hb dX9_powerOf_14 rfl hl (by decide) rfl (fun ls hl => ?_)
        refine ow_iinc (d := 1) (lv' := fun z => [(4, .int z), (3, .int x3_14), (1, .int x1), (2, .int x2)]) hx hb hf dX9_powerOf_15 hl (k := 3) rfl (by decide) (by decide) (fun z => rfl) (fun x4_15 hf ls hl => ?_)
        refine lv_goto (tgt := 5) hx hb dX9_powerOf_18 (by decide) ?_
        exact ih x1 x2 x3_14 x4_15 σ _ _ _ hf hW (lv_sub hl [2, 3, 1, 0] rfl)
  have hl := lv_entry ([.ref (ow_ad Z 56), .int a1, .int a2]) (n := 5) (Nat.le_of_ble_eq_true rfl)
  refine W.eq (g2 := F0 m 0 ((lg_sl ([.ref (ow_ad Z 56), .int a1, .int a2]) ++ List.replicate (5 - (lg_sl ([.ref (ow_ad Z 56), .int a1, .int a2])).length) Slot.unset).toArray) []) (by rw [hav]; exact lg_entry_eq _ _ _) ?_
  generalize (lg_sl ([.ref (ow_ad Z 56), .int a1, .int a2]) ++ List.replicate (5 - (lg_sl ([.ref (ow_ad Z 56), .int a1, .int a2])).length) Slot.unset).toArray = ls at hl ⊢
  have hl : lv_has ls 5 [(0, .ref (ow_ad Z 56)), (1, .int a1), (2, .int a2)] := hl
  unfold f_X9_powerOf at hf
  refine lv_iconst (v := 1) hx hb dX9_powerOf_0 (by decide) ?_
  refine lv_istore_n (lv' := [(3, .int (1 : Int32)), (0, .ref (ow_ad Z 56)), (1, .int a1), (2, .int a2)]) hx hb dX9_powerOf_1 rfl hl (by decide) rfl (fun ls hl => ?_)
  refine lv_iconst (v := 0) hx hb dX9_powerOf_2 (by decide) ?_
  refine lv_istore (lv' := [(4, .int (0 : Int32)), (3, .int (1 : Int32)), (0, .ref (ow_ad Z 56)), (1, .int a1), (2, .int a2)]) hx hb dX9_powerOf_3 hl (by decide) rfl (fun ls hl => ?_)
  exact hJ5 fu a1 a2 (1 : Int32) (0 : Int32) σ _ _ _ hf hW (lv_sub hl [3, 4, 1, 0] rfl)
