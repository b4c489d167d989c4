set_option maxHeartbeats 40000000 in
set_option maxRecDepth 100000 in
theorem c_X4_timesOf (l : Launch) (Z : ow_Z) (fu : Nat) (h : Nat) (hh : ow_in 0 56 h 4) (a1 : Int32) (σ : ow_S) (rr : Int32) (σr : ow_S) (hf : f_X4_timesOf fu h a1 σ = some (rr, σr)) : Met l yX4_timesOf wsX4_timesOf { frames := 1, cells := 0, slots := 0, locals := 60 } (ow_Pc Z 0 56 [.ref (ow_ad Z h), .int a1] σ) (ow_Qi Z 0 56 rr σr) 0 0 (ow_A Z 0 56) := by
  refine Met.ofW (cc := cX4_timesOf) (maxL := 4) (ret := (some .int)) (by decide) rfl ?_
  intro p e s m args below meth c s₁ B hml hv
  obtain ⟨hav, hB⟩ := hv
  obtain ⟨hG, hW⟩ := ow_begin hB
  have hx := B.exec
  have hb := B.bytes
  have hr := B.returns
  have hts := atoms_spec (ws := wsX4_timesOf) B.pre
  have hown : s.vm.findClass RX4 = some m.cls := findClass_of_methodNamed B.named
  have hlocks := B.notSynchronized
  have hinX4 : ∀ w ∈ wsX40, w ∈ wsX4_timesOf := by decide +kernel
  have hJ25 : ∀ (k4 : Nat → Int32 → Int32 → Int32 → ow_S → Option (Int32 × ow_S)) (hk4 : ∀ (r0 : Nat) (hr0 : ow_in 0 56 r0 4) (x1 : Int32) (x2 : Int32) (x3 : Int32) (σ : ow_S) (H : Heap) (locs : List Loc) (ls : Array Slot), k4 r0 x1 x2 x3 σ = some (rr, σr) → ow_Wd Z 0 56 σ s H locs → lv_has ls 4 [(0, .ref (ow_ad Z r0)), (1, .int x1), (2, .int x2), (3, .int x3)] → W p l e (headSpec wsX4_timesOf { frames := 1, cells := 0, slots := 0, locals := 60 }).room s m args below meth c H locs 0 0 (MQ below (ow_Qi Z 0 56 rr σr) args s 0 0 (ow_A Z 0 56)) (F0 m 4 ls [])), ∀ (r0 : Nat) (hr0 : ow_in 0 56 r0 4) (x1 : Int32) (x2 : Int32) (x3 : Int32) (σ : ow_S) (H : Heap) (locs : List Loc) (ls : Array Slot), L_X4_timesOf_25 fu k4 r0 x1 x2 x3 σ = some (rr, σr) → ow_Wd Z 0 56 σ s H locs → lv_has ls 4 [(0, .ref (ow_ad Z r0)), (1, .int x1), (2, .int x2), (3, .int x3)] → W p l e (headSpec wsX4_timesOf { frames := 1, cells := 0, slots := 0, locals := 60 }).room s m args below meth c H locs 0 0 (MQ below (ow_Qi Z 0 56 rr σr) args s 0 0 (ow_A Z 0 56)) (F0 m 25 ls []) := by
    intro k4 hk4 r0 hr0 x1 x2 x3 σ H locs ls hf hW hl
    unfold L_X4_timesOf_25 at hf
    refine ow_iinc (d := 1) (lv' := fun z => [(3, .int z), (0, .ref (ow_ad Z r0)), (1, .int x1), (2, .int x2)]) hx hb hf dX4_timesOf_25 hl (k := 3) rfl (by decide) (by decide) (fun z => rfl) (fun x3_25 hf ls hl => ?_)
    refine lv_goto (tgt := 4) hx hb dX4_timesOf_28 (by decide) ?_
    exact hk4 r0 hr0 x1 x2 x3_25 σ _ _ _ hf hW (lv_sub hl [1, 2, 3, 0] rfl)
  have hJ4 : ∀ (fn : Nat), ∀ (r0 : Nat) (hr0 : ow_in 0 56 r0 4) (x1 : Int32) (x2 : Int32) (x3 : Int32) (σ : ow_S) (H : Heap) (locs : List Loc) (ls : Array Slot), L_X4_timesOf_4 fu fn r0 x1 x2 x3 σ = some (rr, σr) → ow_Wd Z 0 56 σ s H locs → lv_has ls 4 [(0, .ref (ow_ad Z r0)), (1, .int x1), (2, .int x2), (3, .int x3)] → W p l e (headSpec wsX4_timesOf { frames := 1, cells := 0, slots := 0, locals := 60 }).room s m args below meth c H locs 0 0 (MQ below (ow_Qi Z 0 56 rr σr) args s 0 0 (ow_A Z 0 56)) (F0 m 4 ls []) := by
    intro fn
    induction fn with
    | zero => intro r0 hr0 x1 x2 x3 σ H locs ls hf hW hl; simp [L_X4_timesOf_4] at hf
    | succ fn ih =>
      intro r0 hr0 x1 x2 x3 σ H locs ls hf hW hl
      rw [L_X4_timesOf_4] at hf
      refine lv_iload_n hx hb dX4_timesOf_4 rfl (lv_at hl 3 rfl) ?_
      refine lv_aload_n hx hb dX4_timesOf_5 rfl (lv_at hl 0 rfl) ?_
      refine ow_getV (ci := 4) (C := RX4) (T := TX4) (N := 2) hx hb hts hown hG hW hr0 (by decide) rfl hinX4 1 (by decide) (fk := 0) rfl (hts (.fieldLink RX4 15 "FiftyOneCards$Row" "size" "I") (by decide +kernel)) (v := .int (σ.1 r0 1)) rfl dX4_timesOf_6 ?_
      refine lv_icmp_ge (tgt := 31) hx hb dX4_timesOf_9 (by decide) (fun c9 => ?_) (fun c9 => ?_)
      · replace hf := ow_if_t c9 hf
        refine lv_iload_n hx hb dX4_timesOf_31 rfl (lv_at hl 2 rfl) ?_
        exact ow_iret hx hb hr hW hf dX4_timesOf_32 hlocks
      · replace hf := ow_if_f c9 hf
        refine lv_aload_n hx hb dX4_timesOf_12 rfl (lv_at hl 0 rfl) ?_
        refine ow_getV (ci := 4) (C := RX4) (T := TX4) (N := 2) hx hb hts hown hG hW hr0 (by decide) rfl hinX4 0 (by decide) (fk := 2) rfl (hts (.fieldLink RX4 9 "FiftyOneCards$Row" "cards" "[I") (by decide +kernel)) (v := .ref (ow_ad Z (r0 + 1))) (ow_vR hW hr0.1 hr0.2.1 (ow_row hr0).1) dX4_timesOf_13 ?_
        refine lv_iload_n hx hb dX4_timesOf_16 rfl (lv_at hl 3 rfl) ?_
        obtain ⟨q17, hf⟩ := ow_ck_i hf
        refine ow_ild (q := x3.toNatClampNeg) hx hb hG hW (ow_row hr0).2.1 (ow_row hr0).2.2 q17 rfl dX4_timesOf_17 ?_
        refine lv_iload_n hx hb dX4_timesOf_18 rfl (lv_at hl 1 rfl) ?_
        refine lv_icmp_ne (tgt := 25) hx hb dX4_timesOf_19 (by decide) (fun c19 => ?_) (fun c19 => ?_)
        · replace hf := ow_if_f c19 hf
          exact hJ25 (L_X4_timesOf_4 fu fn) ih r0 hr0 x1 x2 x3 σ _ _ _ hf hW (lv_sub hl [0, 1, 2, 3] rfl)
        · replace hf := ow_if_t c19 hf
          refine ow_iinc (d := 1) (lv' := fun z => [(2, .int z), (0, .ref (ow_ad Z r0)), (1, .int x1), (3, .int x3)]) hx hb hf dX4_timesOf_22 hl (k := 2) rfl (by decide) (by decide) (fun z => rfl) (fun x2_22 hf ls hl => ?_)
          exact hJ25 (L_X4_timesOf_4 fu fn) ih r0 hr0 x1 x2_22 x3 σ _ _ _ hf hW (lv_sub hl [1, 2, 0, 3] rfl)
  have hl := lv_entry ([.ref (ow_ad Z h), .int a1]) (n := 4) (Nat.le_of_ble_eq_true rfl)
  refine W.eq (g2 := F0 m 0 ((lg_sl ([.ref (ow_ad Z h), .int a1]) ++ List.replicate (4 - (lg_sl ([.ref (ow_ad Z h), .int a1])).length) Slot.unset).toArray) []) (by rw [hav]; exact lg_entry_eq _ _ _) ?_
  generalize (lg_sl ([.ref (ow_ad Z h), .int a1]) ++ List.replicate (4 - (lg_sl ([.ref (ow_ad Z h), .int a1])).length) Slot.unset).toArray = ls at hl ⊢
  have hl : lv_has ls 4 [(0, .ref (ow_ad Z h)), (1, .int a1)] := hl
  unfold f_X4_timesOf at hf
  refine lv_iconst (v := 0) hx hb dX4_timesOf_0 (by decide) ?_
  refine lv_istore_n (lv' := [(2, .int (0 : Int32)), (0, .ref (ow_ad Z h)), (1, .int a1)]) hx hb dX4_timesOf_1 rfl hl (by decide) rfl (fun ls hl => ?_)
  refine lv_iconst (v := 0) hx hb dX4_timesOf_2 (by decide) ?_
  refine lv_istore_n (lv' := [(3, .int (0 : Int32)), (2, .int (0 : Int32)), (0, .ref (ow_ad Z h)), (1, .int a1)]) hx hb dX4_timesOf_3 rfl hl (by decide) rfl (fun ls hl => ?_)
  exact hJ4 fu h hh a1 (0 : Int32) (0 : Int32) σ _ _ _ hf hW (lv_sub hl [2, 3, 1, 0] rfl)
set_option maxHeartbeats 40000000 in
set_option maxRecDepth 100000 in
theorem c_X4_earliestTwice (l : Launch) (Z : ow_Z) (fu : Nat) (h : Nat) (hh : ow_in 0 56 h 4) (σ : ow_S) (rr : Int32) (σr : ow_S) (hf : f_X4_earliestTwice fu h σ = some (rr, σr)) : Met l yX4_earliestTwice wsX4_earliestTwice { frames := 1, cells := 0, slots := 0, locals := 60 } (ow_Pc Z 0 56 [.ref (ow_ad Z h)] σ) (ow_Qi Z 0 56 rr σr) 0 0 (ow_A Z 0 56) := by
  refine Met.ofW (cc := cX4_earliestTwice) (maxL := 3) (ret := (some .int)) (by decide) rfl ?_
  intro p e s m args below meth c s₁ B hml hv
  obtain ⟨hav, hB⟩ := hv
  obtain ⟨hG, hW⟩ := ow_begin hB
  have hx := B.exec
  have hb := B.bytes
  have hr := B.returns
  have hts := atoms_spec (ws := wsX4_earliestTwice) B.pre
  have hown : s.vm.findClass RX4 = some m.cls := findClass_of_methodNamed B.named
  have hlocks := B.notSynchronized
  have hinX4 : ∀ w ∈ wsX40, w ∈ wsX4_earliestTwice := by decide +kernel
  have hJ12 : ∀ (k2 : Nat → Int32 → ow_S → Option (Int32 × ow_S)) (hk2 : ∀ (r0 : Nat) (hr0 : ow_in 0 56 r0 4) (x1 : Int32) (σ : ow_S) (H : Heap) (locs : List Loc) (ls : Array Slot), k2 r0 x1 σ = some (rr, σr) → ow_Wd Z 0 56 σ s H locs → lv_has ls 3 [(0, .ref (ow_ad Z r0)), (1, .int x1)] → W p l e (headSpec wsX4_earliestTwice { frames := 1, cells := 0, slots := 0, locals := 60 }).room s m args below meth c H locs 0 0 (MQ below (ow_Qi Z 0 56 rr σr) args s 0 0 (ow_A Z 0 56)) (F0 m 2 ls [])), ∀ (fn : Nat), ∀ (r0 : Nat) (hr0 : ow_in 0 56 r0 4) (x1 : Int32) (x2 : Int32) (σ : ow_S) (H : Heap) (locs : List Loc) (ls : Array Slot), L_X4_earliestTwice_12 fu k2 fn r0 x1 x2 σ = some (rr, σr) → ow_Wd Z 0 56 σ s H locs → lv_has ls 3 [(0, .ref (ow_ad Z r0)), (1, .int x1), (2, .int x2)] → W p l e (headSpec wsX4_earliestTwice { frames := 1, cells := 0, slots := 0, locals := 60 }).room s m args below meth c H locs 0 0 (MQ below (ow_Qi Z 0 56 rr σr) args s 0 0 (ow_A Z 0 56)) (F0 m 12 ls []) := by
    intro k2 hk2 fn
    induction fn with
    | zero => intro r0 hr0 x1 x2 σ H locs ls hf hW hl; simp [L_X4_earliestTwice_12] at hf
    | succ fn ih =>
      intro r0 hr0 x1 x2 σ H locs ls hf hW hl
      rw [L_X4_earliestTwice_12] at hf
      refine lv_iload_n hx hb dX4_earliestTwice_12 rfl (lv_at hl 2 rfl) ?_
      refine lv_iload_n hx hb dX4_earliestTwice_13 rfl (lv_at hl 1 rfl) ?_
      refine lv_icmp_ge (tgt := 45) hx hb dX4_earliestTwice_14 (by decide) (fun c14 => ?_) (fun c14 => ?_)
      · replace hf := ow_if_t c14 hf
        refine ow_iinc (d := 1) (lv' := fun z => [(1, .int z), (0, .ref (ow_ad Z r0)), (2, .int x2)]) hx hb hf dX4_earliestTwice_45 hl (k := 1) rfl (by decide) (by decide) (fun z => rfl) (fun x1_45 hf ls hl => ?_)
        refine lv_goto (tgt := 2) hx hb dX4_earliestTwice_48 (by decide) ?_
        exact hk2 r0 hr0 x1_45 σ _ _ _ hf hW (lv_sub hl [1, 0] rfl)
      · replace hf := ow_if_f c14 hf
        refine lv_aload_n hx hb dX4_earliestTwice_17 rfl (lv_at hl 0 rfl) ?_
        refine ow_getV (ci := 4) (C := RX4) (T := TX4) (N := 2) hx hb hts hown hG hW hr0 (by decide) rfl hinX4 0 (by decide) (fk := 2) rfl (hts (.fieldLink RX4 9 "FiftyOneCards$Row" "cards" "[I") (by decide +kernel)) (v := .ref (ow_ad Z (r0 + 1))) (ow_vR hW hr0.1 hr0.2.1 (ow_row hr0).1) dX4_earliestTwice_18 ?_
        refine lv_iload_n hx hb dX4_earliestTwice_21 rfl (lv_at hl 2 rfl) ?_
        obtain ⟨q22, hf⟩ := ow_ck_i hf
        refine ow_ild (q := x2.toNatClampNeg) hx hb hG hW (ow_row hr0).2.1 (ow_row hr0).2.2 q22 rfl dX4_earliestTwice_22 ?_
        refine lv_aload_n hx hb dX4_earliestTwice_23 rfl (lv_at hl 0 rfl) ?_
        refine ow_getV (ci := 4) (C := RX4) (T := TX4) (N := 2) hx hb hts hown hG hW hr0 (by decide) rfl hinX4 0 (by decide) (fk := 2) rfl (hts (.fieldLink RX4 9 "FiftyOneCards$Row" "cards" "[I") (by decide +kernel)) (v := .ref (ow_ad Z (r0 + 1))) (ow_vR hW hr0.1 hr0.2.1 (ow_row hr0).1) dX4_earliestTwice_24 ?_
        refine lv_iload_n hx hb dX4_earliestTwice_27 rfl (lv_at hl 1 rfl) ?_
        obtain ⟨q28, hf⟩ := ow_ck_i hf
        refine ow_ild (q := x1.toNatClampNeg) hx hb hG hW (ow_row hr0).2.1 (ow_row hr0).2.2 q28 rfl dX4_earliestTwice_28 ?_
        refine lv_icmp_ne (tgt := 39) hx hb dX4_earliestTwice_29 (by decide) (fun c29 => ?_) (fun c29 => ?_)
        · replace hf := ow_if_f c29 hf
          refine ow_iinc (d := 1) (lv' := fun z => [(2, .int z), (0, .ref (ow_ad Z r0)), (1, .int x1)]) hx hb hf dX4_earliestTwice_39 hl (k := 2) rfl (by decide) (by decide) (fun z => rfl) (fun x2_39 hf ls hl => ?_)
          refine lv_goto (tgt := 12) hx hb dX4_earliestTwice_42 (by decide) ?_
          exact ih r0 hr0 x1 x2_39 σ _ _ _ hf hW (lv_sub hl [1, 2, 0] rfl)
        · replace hf := ow_if_t c29 hf
          refine lv_aload_n hx hb dX4_earliestTwice_32 rfl (lv_at hl 0 rfl) ?_
          refine ow_getV (ci := 4) (C := RX4) (T := TX4) (N := 2) hx hb hts hown hG hW hr0 (by decide) rfl hinX4 0 (by decide) (fk := 2) rfl (hts (.fieldLink RX4 9 "FiftyOneCards$Row" "cards" "[I") (by decide +kernel)) (v := .ref (ow_ad Z (r0 + 1))) (ow_vR hW hr0.1 hr0.2.1 (ow_row hr0).1) dX4_earliestTwice_33 ?_
          refine lv_iload_n hx hb dX4_earliestTwice_36 rfl (lv_at hl 1 rfl) ?_
          obtain ⟨q37, hf⟩ := ow_ck_i hf
          refine ow_ild (q := x1.toNatClampNeg) hx hb hG hW (ow_row hr0).2.1 (ow_row hr0).2.2 q37 rfl dX4_earliestTwice_37 ?_
          exact ow_iret hx hb hr hW hf dX4_earliestTwice_38 hlocks
  have hJ2 : ∀ (fn : Nat), ∀ (r0 : Nat) (hr0 : ow_in 0 56 r0 4) (x1 : Int32) (σ : ow_S) (H : Heap) (locs : List Loc) (ls : Array Slot), L_X4_earliestTwice_2 fu fn r0 x1 σ = some (rr, σr) → ow_Wd Z 0 56 σ s H locs → lv_has ls 3 [(0, .ref (ow_ad Z r0)), (1, .int x1)] → W p l e (headSpec wsX4_earliestTwice { frames := 1, cells := 0, slots := 0, locals := 60 }).room s m args below meth c H locs 0 0 (MQ below (ow_Qi Z 0 56 rr σr) args s 0 0 (ow_A Z 0 56)) (F0 m 2 ls []) := by
    intro fn
    induction fn with
    | zero => intro r0 hr0 x1 σ H locs ls hf hW hl; simp [L_X4_earliestTwice_2] at hf
    | succ fn ih =>
      intro r0 hr0 x1 σ H locs ls hf hW hl
      rw [L_X4_earliestTwice_2] at hf
      refine lv_iload_n hx hb dX4_earliestTwice_2 rfl (lv_at hl 1 rfl) ?_
      refine lv_aload_n hx hb dX4_earliestTwice_3 rfl (lv_at hl 0 rfl) ?_
      refine ow_getV (ci := 4) (C := RX4) (T := TX4) (N := 2) hx hb hts hown hG hW hr0 (by decide) rfl hinX4 1 (by decide) (fk := 0) rfl (hts (.fieldLink RX4 15 "FiftyOneCards$Row" "size" "I") (by decide +kernel)) (v := .int (σ.1 r0 1)) rfl dX4_earliestTwice_4 ?_
      refine lv_icmp_ge (tgt := 51) hx hb dX4_earliestTwice_7 (by decide) (fun c7 => ?_) (fun c7 => ?_)
      · replace hf := ow_if_t c7 hf
        refine lv_iconst (v := -1) hx hb dX4_earliestTwice_51 (by decide) ?_
        exact ow_iret hx hb hr hW hf dX4_earliestTwice_52 hlocks
      · replace hf := ow_if_f c7 hf
        refine lv_iconst (v := 0) hx hb dX4_earliestTwice_10 (by decide) ?_
        refine lv_istore_n (lv' := [(2, .int (0 : Int32)), (0, .ref (ow_ad Z r0)), (1, .int x1)]) hx hb dX4_earliestTwice_11 rfl hl (by decide) rfl (fun ls hl => ?_)
        exact hJ12 (L_X4_earliestTwice_2 fu fn) ih fu r0 hr0 x1 (0 : Int32) σ _ _ _ hf hW (lv_sub hl [1, 2, 0] rfl)
  have hl := lv_entry ([.ref (ow_ad Z h)]) (n := 3) (Nat.le_of_ble_eq_true rfl)
  refine W.eq (g2 := F0 m 0 ((lg_sl ([.ref (ow_ad Z h)]) ++ List.replicate (3 - (lg_sl ([.ref (ow_ad Z h)])).length) Slot.unset).toArray) []) (by rw [hav]; exact lg_entry_eq _ _ _) ?_
  generalize (lg_sl ([.ref (ow_ad Z h)]) ++ List.replicate (3 - (lg_sl ([.ref (ow_ad Z h)])).length) Slot.unset).toArray = ls at hl ⊢
  have hl : lv_has ls 3 [(0, .ref (ow_ad Z h))] := hl
  unfold f_X4_earliestTwice at hf
  refine lv_iconst (v := 1) hx hb dX4_earliestTwice_0 (by decide) ?_
  refine lv_istore_n (lv' := [(1, .int (1 : Int32)), (0, .ref (ow_ad Z h))]) hx hb dX4_earliestTwice_1 rfl hl (by decide) rfl (fun ls hl => ?_)
  exact hJ2 fu h hh (1 : Int32) σ _ _ _ hf hW (lv_sub hl [1, 0] rfl)
set_option maxHeartbeats 40000000 in
set_option maxRecDepth 100000 in
theorem c_X4_sum (l : Launch) (Z : ow_Z) (fu : Nat) (h : Nat) (hh : ow_in 0 56 h 4) (σ : ow_S) (rr : Int32) (σr : ow_S) (hf : f_X4_sum fu h σ = some (rr, σr)) : Met l yX4_sum wsX4_sum { frames := 1, cells := 0, slots := 0, locals := 60 } (ow_Pc Z 0 56 [.ref (ow_ad Z h)] σ) (ow_Qi Z 0 56 rr σr) 0 0 (ow_A Z 0 56) := by
  refine Met.ofW (cc := cX4_sum) (maxL := 3) (ret := (some .int)) (by decide) rfl ?_
  intro p e s m args below meth c s₁ B hml hv
  obtain ⟨hav, hB⟩ := hv
  obtain ⟨hG, hW⟩ := ow_begin hB
  have hx := B.exec
  have hb := B.bytes
  have hr := B.returns
  have hts := atoms_spec (ws := wsX4_sum) B.pre
  have hown : s.vm.findClass RX4 = some m.cls := findClass_of_methodNamed B.named
  have hlocks := B.notSynchronized
  have hinX4 : ∀ w ∈ wsX40, w ∈ wsX4_sum := by decide +kernel
  have hJ4 : ∀ (fn : Nat), ∀ (r0 : Nat) (hr0 : ow_in 0 56 r0 4) (x1 : Int32) (x2 : Int32) (σ : ow_S) (H : Heap) (locs : List Loc) (ls : Array Slot), L_X4_sum_4 fu fn r0 x1 x2 σ = some (rr, σr) → ow_Wd Z 0 56 σ s H locs → lv_has ls 3 [(0, .ref (ow_ad Z r0)), (1, .int x1), (2, .int x2)] → W p l e (headSpec wsX4_sum { frames := 1, cells := 0, slots := 0, locals := 60 }).room s m args below meth c H locs 0 0 (MQ below (ow_Qi Z 0 56 rr σr) args s 0 0 (ow_A Z 0 56)) (F0 m 4 ls []) := by
    intro fn
    induction fn with
    | zero => intro r0 hr0 x1 x2 σ H locs ls hf hW hl; simp [L_X4_sum_4] at hf
    | succ fn ih =>
      intro r0 hr0 x1 x2 σ H locs ls hf hW hl
      rw [L_X4_sum_4] at hf
      refine lv_iload_n hx hb dX4_sum_4 rfl (lv_at hl 2 rfl) ?_
      refine lv_aload_n hx hb dX4_sum_5 rfl (lv_at hl 0 rfl) ?_
      refine ow_getV (ci := 4) (C := RX4) (T := TX4) (N := 2) hx hb hts hown hG hW hr0 (by decide) rfl hinX4 1 (by decide) (fk := 0) rfl (hts (.fieldLink RX4 15 "FiftyOneCards$Row" "size" "I") (by decide +kernel)) (v := .int (σ.1 r0 1)) rfl dX4_sum_6 ?_
      refine lv_icmp_ge (tgt := 27) hx hb dX4_sum_9 (by decide) (fun c9 => ?_) (fun c9 => ?_)
      · replace hf := ow_if_t c9 hf
        refine lv_iload_n hx hb dX4_sum_27 rfl (lv_at hl 1 rfl) ?_
        exact ow_iret hx hb hr hW hf dX4_sum_28 hlocks
      · replace hf := ow_if_f c9 hf
        refine lv_iload_n hx hb dX4_sum_12 rfl (lv_at hl 1 rfl) ?_
        refine lv_aload_n hx hb dX4_sum_13 rfl (lv_at hl 0 rfl) ?_
        refine ow_getV (ci := 4) (C := RX4) (T := TX4) (N := 2) hx hb hts hown hG hW hr0 (by decide) rfl hinX4 0 (by decide) (fk := 2) rfl (hts (.fieldLink RX4 9 "FiftyOneCards$Row" "cards" "[I") (by decide +kernel)) (v := .ref (ow_ad Z (r0 + 1))) (ow_vR hW hr0.1 hr0.2.1 (ow_row hr0).1) dX4_sum_14 ?_
        refine lv_iload_n hx hb dX4_sum_17 rfl (lv_at hl 2 rfl) ?_
        obtain ⟨q18, hf⟩ := ow_ck_i hf
        refine ow_ild (q := x2.toNatClampNeg) hx hb hG hW (ow_row hr0).2.1 (ow_row hr0).2.2 q18 rfl dX4_sum_18 ?_
        refine lv_iadd hx hb dX4_sum_19 ?_
        refine ow_topi hf (fun x1_20 hf => ?_)
        refine lv_istore_n (lv' := [(1, .int x1_20), (0, .ref (ow_ad Z r0)), (2, .int x2)]) hx hb dX4_sum_20 rfl hl (by decide) rfl (fun ls hl => ?_)
        refine ow_iinc (d := 1) (lv' := fun z => [(2, .int z), (1, .int x1_20), (0, .ref (ow_ad Z r0))]) hx hb hf dX4_sum_21 hl (k := 2) rfl (by decide) (by decide) (fun z => rfl) (fun x2_21 hf ls hl => ?_)
        refine lv_goto (tgt := 4) hx hb dX4_sum_24 (by decide) ?_
        exact ih r0 hr0 x1_20 x2_21 σ _ _ _ hf hW (lv_sub hl [2, 1, 0] rfl)
  have hl := lv_entry ([.ref (ow_ad Z h)]) (n := 3) (Nat.le_of_ble_eq_true rfl)
  refine W.eq (g2 := F0 m 0 ((lg_sl ([.ref (ow_ad Z h)]) ++ List.replicate (3 - (lg_sl ([.ref (ow_ad Z h)])).length) Slot.unset).toArray) []) (by rw [hav]; exact lg_entry_eq _ _ _) ?_
  generalize (lg_sl ([.ref (ow_ad Z h)]) ++ List.replicate (3 - (lg_sl ([.ref (ow_ad Z h)])).length) Slot.unset).toArray = ls at hl ⊢
  have hl : lv_has ls 3 [(0, .ref (ow_ad Z h))] := hl
  unfold f_X4_sum at hf
  refine lv_iconst (v := 0) hx hb dX4_sum_0 (by decide) ?_
  refine lv_istore_n (lv' := [(1, .int (0 : Int32)), (0, .ref (ow_ad Z h))]) hx hb dX4_sum_1 rfl hl (by decide) rfl (fun ls hl => ?_)
  refine lv_iconst (v := 0) hx hb dX4_sum_2 (by decide) ?_
  refine lv_istore_n (lv' := [(2, .int (0 : Int32)), (1, .int (0 : Int32)), (0, .ref (ow_ad Z h))]) hx hb dX4_sum_3 rfl hl (by decide) rfl (fun ls hl => ?_)
  exact hJ4 fu h hh (0 : Int32) (0 : Int32) σ _ _ _ hf hW (lv_sub hl [2, 1, 0] rfl)
set_option maxHeartbeats 40000000 in
set_option maxRecDepth 100000 in
theorem c_X4_squares (l : Launch) (Z : ow_Z) (fu : Nat) (h : Nat) (hh : ow_in 0 56 h 4) (σ : ow_S) (rr : Int32) (σr : ow_S) (hf : f_X4_squares fu h σ = some (rr, σr)) : Met l yX4_squares wsX4_squares { frames := 1, cells := 0, slots := 0, locals := 60 } (ow_Pc Z 0 56 [.ref (ow_ad Z h)] σ) (ow_Qi Z 0 56 rr σr) 0 0 (ow_A Z 0 56) := by
  refine Met.ofW (cc := cX4_squares) (maxL := 3) (ret := (some .int)) (by decide) rfl ?_
  intro p e s m args below meth c s₁ B hml hv
  obtain ⟨hav, hB⟩ := hv
  obtain ⟨hG, hW⟩ := ow_begin hB
  have hx := B.exec
  have hb := B.bytes
  have hr := B.returns
  have hts := atoms_spec (ws := wsX4_squares) B.pre
  have hown : s.vm.findClass RX4 = some m.cls := findClass_of_methodNamed B.named
  have hlocks := B.notSynchronized
  have hinX4 : ∀ w ∈ wsX40, w ∈ wsX4_squares := by decide +kernel
  have hJ4 : ∀ (fn : Nat), ∀ (r0 : Nat) (hr0 : ow_in 0 56 r0 4) (x1 : Int32) (x2 : Int32) (σ : ow_S) (H : Heap) (locs : List Loc) (ls : Array Slot), L_X4_squares_4 fu fn r0 x1 x2 σ = some (rr, σr) → ow_Wd Z 0 56 σ s H locs → lv_has ls 3 [(0, .ref (ow_ad Z r0)), (1, .int x1), (2, .int x2)] → W p l e (headSpec wsX4_squares { frames := 1, cells := 0, slots := 0, locals := 60 }).room s m args below meth c H locs 0 0 (MQ below (ow_Qi Z 0 56 rr σr) args s 0 0 (ow_A Z 0 56)) (F0 m 4 ls []) := by
    intro fn
    induction fn with
    | zero => intro r0 hr0 x1 x2 σ H locs ls hf hW hl; simp [L_X4_squares_4] at hf
    | succ fn ih =>
      intro r0 hr0 x1 x2 σ H locs ls hf hW hl
      rw [L_X4_squares_4] at hf
      refine lv_iload_n hx hb dX4_squares_4 rfl (lv_at hl 2 rfl) ?_
      refine lv_aload_n hx hb dX4_squares_5 rfl (lv_at hl 0 rfl) ?_
      refine ow_getV (ci := 4) (C := RX4) (T := TX4) (N := 2) hx hb hts hown hG hW hr0 (by decide) rfl hinX4 1 (by decide) (fk := 0) rfl (hts (.fieldLink RX4 15 "FiftyOneCards$Row" "size" "I") (by decide +kernel)) (v := .int (σ.1 r0 1)) rfl dX4_squares_6 ?_
      refine lv_icmp_ge (tgt := 34) hx hb dX4_squares_9 (by decide) (fun c9 => ?_) (fun c9 => ?_)
      · replace hf := ow_if_t c9 hf
        refine lv_iload_n hx hb dX4_squares_34 rfl (lv_at hl 1 rfl) ?_
        exact ow_iret hx hb hr hW hf dX4_squares_35 hlocks
      · replace hf := ow_if_f c9 hf
        refine lv_iload_n hx hb dX4_squares_12 rfl (lv_at hl 1 rfl) ?_
        refine lv_aload_n hx hb dX4_squares_13 rfl (lv_at hl 0 rfl) ?_
        refine ow_getV (ci := 4) (C := RX4) (T := TX4) (N := 2) hx hb hts hown hG hW hr0 (by decide) rfl hinX4 0 (by decide) (fk := 2) rfl (hts (.fieldLink RX4 9 "FiftyOneCards$Row" "cards" "[I") (by decide +kernel)) (v := .ref (ow_ad Z (r0 + 1))) (ow_vR hW hr0.1 hr0.2.1 (ow_row hr0).1) dX4_squares_14 ?_
        refine lv_iload_n hx hb dX4_squares_17 rfl (lv_at hl 2 rfl) ?_
        obtain ⟨q18, hf⟩ := ow_ck_i hf
        refine ow_ild (q := x2.toNatClampNeg) hx hb hG hW (ow_row hr0).2.1 (ow_row hr0).2.2 q18 rfl dX4_squares_18 ?_
        refine lv_aload_n hx hb dX4_squares_19 rfl (lv_at hl 0 rfl) ?_
        refine ow_getV (ci := 4) (C := RX4) (T := TX4) (N := 2) hx hb hts hown hG hW hr0 (by decide) rfl hinX4 0 (by decide) (fk := 2) rfl (hts (.fieldLink RX4 9 "FiftyOneCards$Row" "cards" "[I") (by decide +kernel)) (v := .ref (ow_ad Z (r0 + 1))) (ow_vR hW hr0.1 hr0.2.1 (ow_row hr0).1) dX4_squares_20 ?_
        refine lv_iload_n hx hb dX4_squares_23 rfl (lv_at hl 2 rfl) ?_
        obtain ⟨q24, hf⟩ := ow_ck_i hf
        refine ow_ild (q := x2.toNatClampNeg) hx hb hG hW (ow_row hr0).2.1 (ow_row hr0).2.2 q24 rfl dX4_squares_24 ?_
        refine lv_imul hx hb dX4_squares_25 ?_
        refine lv_iadd hx hb dX4_squares_26 ?_
        refine ow_topi hf (fun x1_27 hf => ?_)
        refine lv_istore_n (lv' := [(1, .int x1_27), (0, .ref (ow_ad Z r0)), (2, .int x2)]) hx hb dX4_squares_27 rfl hl (by decide) rfl (fun ls hl => ?_)
        refine ow_iinc (d := 1) (lv' := fun z => [(2, .int z), (1, .int x1_27), (0, .ref (ow_ad Z r0))]) hx hb hf dX4_squares_28 hl (k := 2) rfl (by decide) (by decide) (fun z => rfl) (fun x2_28 hf ls hl => ?_)
        refine lv_goto (tgt := 4) hx hb dX4_squares_31 (by decide) ?_
        exact ih r0 hr0 x1_27 x2_28 σ _ _ _ hf hW (lv_sub hl [2, 1, 0] rfl)
  have hl := lv_entry ([.ref (ow_ad Z h)]) (n := 3) (Nat.le_of_ble_eq_true rfl)
  refine W.eq (g2 := F0 m 0 ((lg_sl ([.ref (ow_ad Z h)]) ++ List.replicate (3 - (lg_sl ([.ref (ow_ad Z h)])).length) Slot.unset).toArray) []) (by rw [hav]; exact lg_entry_eq _ _ _) ?_
  generalize (lg_sl ([.ref (ow_ad Z h)]) ++ List.replicate (3 - (lg_sl ([.ref (ow_ad Z h)])).length) Slot.unset).toArray = ls at hl ⊢
  have hl : lv_has ls 3 [(0, .ref (ow_ad Z h))] := hl
  unfold f_X4_squares at hf
  refine lv_iconst (v := 0) hx hb dX4_squares_0 (by decide) ?_
  refine lv_istore_n (lv' := [(1, .int (0 : Int32)), (0, .ref (ow_ad Z h))]) hx hb dX4_squares_1 rfl hl (by decide) rfl (fun ls hl => ?_)
  refine lv_iconst (v := 0) hx hb dX4_squares_2 (by decide) ?_
  refine lv_istore_n (lv' := [(2, .int (0 : Int32)), (1, .int (0 : Int32)), (0, .ref (ow_ad Z h))]) hx hb dX4_squares_3 rfl hl (by decide) rfl (fun ls hl => ?_)
  exact hJ4 fu h hh (0 : Int32) (0 : Int32) σ _ _ _ hf hW (lv_sub hl [2, 1, 0] rfl)
set_option maxHeartbeats 40000000 in
set_option maxRecDepth 100000 in
theorem c_X5_isMissing (l : Launch) (Z : ow_Z) (fu : Nat) (h : Nat) (hh : ow_in 0 56 h 5) (σ : ow_S) (rr : Int32) (σr : ow_S) (hf : f_X5_isMissing fu h σ = some (rr, σr)) : Met l yX5_isMissing wsX5_isMissing { frames := 1, cells := 0, slots := 0, locals := 60 } (ow_Pc Z 0 56 [.ref (ow_ad Z h)] σ) (ow_Qz Z 0 56 rr σr) 0 0 (ow_A Z 0 56) := by
  refine Met.ofW (cc := cX5_isMissing) (maxL := 1) (ret := (some .boolean)) (by decide) rfl ?_
  intro p e s m args below meth c s₁ B hml hv
  obtain ⟨hav, hB⟩ := hv
  obtain ⟨hG, hW⟩ := ow_begin hB
  have hx := B.exec
  have hb := B.bytes
  have hr := B.returns
  have hts := atoms_spec (ws := wsX5_isMissing) B.pre
  have hown : s.vm.findClass RX5 = some m.cls := findClass_of_methodNamed B.named
  have hlocks := B.notSynchronized
  have hinX5 : ∀ w ∈ wsX50, w ∈ wsX5_isMissing := by decide +kernel
  have hl := lv_entry ([.ref (ow_ad Z h)]) (n := 1) (Nat.le_of_ble_eq_true rfl)
  refine W.eq (g2 := F0 m 0 ((lg_sl ([.ref (ow_ad Z h)]) ++ List.replicate (1 - (lg_sl ([.ref (ow_ad Z h)])).length) Slot.unset).toArray) []) (by rw [hav]; exact lg_entry_eq _ _ _) ?_
  generalize (lg_sl ([.ref (ow_ad Z h)]) ++ List.replicate (1 - (lg_sl ([.ref (ow_ad Z h)])).length) Slot.unset).toArray = ls at hl ⊢
  have hl : lv_has ls 1 [(0, .ref (ow_ad Z h))] := hl
  unfold f_X5_isMissing at hf
  refine lv_aload_n hx hb dX5_isMissing_0 rfl (lv_at hl 0 rfl) ?_
  refine ow_getV (ci := 5) (C := RX5) (T := TX5) (N := 3) hx hb hts hown hG hW hh (by decide) rfl hinX5 1 (by decide) (fk := 0) rfl (hts (.fieldLink RX5 15 "FiftyOneCards$Sheet" "sort" "I") (by decide +kernel)) (v := .int (σ.1 h 1)) rfl dX5_isMissing_1 ?_
  refine lv_iconst (v := -1) hx hb dX5_isMissing_4 (by decide) ?_
  refine lv_icmp_ne (tgt := 12) hx hb dX5_isMissing_5 (by decide) (fun c5 => ?_) (fun c5 => ?_)
  · replace hf := ow_if_f c5 hf
    refine lv_iconst (v := 0) hx hb dX5_isMissing_12 (by decide) ?_
    exact ow_zret hx hb hr (Or.inl rfl) hW hf dX5_isMissing_13 hlocks
  · replace hf := ow_if_t c5 hf
    refine lv_iconst (v := 1) hx hb dX5_isMissing_8 (by decide) ?_
    refine lv_goto (tgt := 13) hx hb dX5_isMissing_9 (by decide) ?_
    exact ow_zret hx hb hr (Or.inr rfl) hW hf dX5_isMissing_13 hlocks
set_option maxHeartbeats 40000000 in
set_option maxRecDepth 100000 in
theorem c_X5_has (l : Launch) (Z : ow_Z) (fu : Nat) (h : Nat) (hh : ow_in 0 56 h 5) (a1 : Int32) (σ : ow_S) (rr : Int32) (σr : ow_S) (hf : f_X5_has fu h a1 σ = some (rr, σr)) : Met l yX5_has wsX5_has { frames := 1, cells := 0, slots := 0, locals := 60 } (ow_Pc Z 0 56 [.ref (ow_ad Z h), .int a1] σ) (ow_Qz Z 0 56 rr σr) 0 0 (ow_A Z 0 56) := by
  refine Met.ofW (cc := cX5_has) (maxL := 2) (ret := (some .boolean)) (by decide) rfl ?_
  intro p e s m args below meth c s₁ B hml hv
  obtain ⟨hav, hB⟩ := hv
  obtain ⟨hG, hW⟩ := ow_begin hB
  have hx := B.exec
  have hb := B.bytes
  have hr := B.returns
  have hts := atoms_spec (ws := wsX5_has) B.pre
  have hown : s.vm.findClass RX5 = some m.cls := findClass_of_methodNamed B.named
  have hlocks := B.notSynchronized
  have hinX5 : ∀ w ∈ wsX50, w ∈ wsX5_has := by decide +kernel
  have hl := lv_entry ([.ref (ow_ad Z h), .int a1]) (n := 2) (Nat.le_of_ble_eq_true rfl)
  refine W.eq (g2 := F0 m 0 ((lg_sl ([.ref (ow_ad Z h), .int a1]) ++ List.replicate (2 - (lg_sl ([.ref (ow_ad Z h), .int a1])).length) Slot.unset).toArray) []) (by rw [hav]; exact lg_entry_eq _ _ _) ?_
  generalize (lg_sl ([.ref (ow_ad Z h), .int a1]) ++ List.replicate (2 - (lg_sl ([.ref (ow_ad Z h), .int a1])).length) Slot.unset).toArray = ls at hl ⊢
  have hl : lv_has ls 2 [(0, .ref (ow_ad Z h)), (1, .int a1)] := hl
  unfold f_X5_has at hf
  refine lv_iload_n hx hb dX5_has_0 rfl (lv_at hl 1 rfl) ?_
  refine lv_if_lt (tgt := 16) hx hb dX5_has_1 (by decide) (fun c1 => ?_) (fun c1 => ?_)
  · replace hf := ow_if_t c1 hf
    refine lv_iconst (v := 0) hx hb dX5_has_16 (by decide) ?_
    exact ow_zret hx hb hr (Or.inl rfl) hW hf dX5_has_17 hlocks
  · replace hf := ow_if_f c1 hf
    refine lv_iload_n hx hb dX5_has_4 rfl (lv_at hl 1 rfl) ?_
    refine lv_aload_n hx hb dX5_has_5 rfl (lv_at hl 0 rfl) ?_
    refine ow_getV (ci := 5) (C := RX5) (T := TX5) (N := 3) hx hb hts hown hG hW hh (by decide) rfl hinX5 2 (by decide) (fk := 0) rfl (hts (.fieldLink RX5 19 "FiftyOneCards$Sheet" "size" "I") (by decide +kernel)) (v := .int (σ.1 h 2)) rfl dX5_has_6 ?_
    refine lv_icmp_ge (tgt := 16) hx hb dX5_has_9 (by decide) (fun c9 => ?_) (fun c9 => ?_)
    · replace hf := ow_if_t c9 hf
      refine lv_iconst (v := 0) hx hb dX5_has_16 (by decide) ?_
      exact ow_zret hx hb hr (Or.inl rfl) hW hf dX5_has_17 hlocks
    · replace hf := ow_if_f c9 hf
      refine lv_iconst (v := 1) hx hb dX5_has_12 (by decide) ?_
      refine lv_goto (tgt := 17) hx hb dX5_has_13 (by decide) ?_
      exact ow_zret hx hb hr (Or.inr rfl) hW hf dX5_has_17 hlocks
set_option maxHeartbeats 40000000 in
set_option maxRecDepth 100000 in
theorem c_X5_hasRun (l : Launch) (Z : ow_Z) (fu : Nat) (h : Nat) (hh : ow_in 0 56 h 5) (a1 : Int32) (a2 : Int32) (σ : ow_S) (rr : Int32) (σr : ow_S) (hf : f_X5_hasRun fu h a1 a2 σ = some (rr, σr)) : Met l yX5_hasRun wsX5_hasRun { frames := 1, cells := 0, slots := 0, locals := 60 } (ow_Pc Z 0 56 [.ref (ow_ad Z h), .int a1, .int a2] σ) (ow_Qz Z 0 56 rr σr) 0 0 (ow_A Z 0 56) := by
  refine Met.ofW (cc := cX5_hasRun) (maxL := 3) (ret := (some .boolean)) (by decide) rfl ?_
  intro p e s m args below meth c s₁ B hml hv
  obtain ⟨hav, hB⟩ := hv
  obtain ⟨hG, hW⟩ := ow_begin hB
  have hx := B.exec
  have hb := B.bytes
  have hr := B.returns
  have hts := atoms_spec (ws := wsX5_hasRun) B.pre
  have hown : s.vm.findClass RX5 = some m.cls := findClass_of_methodNamed B.named
  have hlocks := B.notSynchronized
  have hinX5 : ∀ w ∈ wsX50, w ∈ wsX5_hasRun := by decide +kernel
  have hl := lv_entry ([.ref (ow_ad Z h), .int a1, .int a2]) (n := 3) (Nat.le_of_ble_eq_true rfl)
  refine W.eq (g2 := F0 m 0 ((lg_sl ([.ref (ow_ad Z h), .int a1, .int a2]) ++ List.replicate (3 - (lg_sl ([.ref (ow_ad Z h), .int a1, .int a2])).length) Slot.unset).toArray) []) (by rw [hav]; exact lg_entry_eq _ _ _) ?_
  generalize (lg_sl ([.ref (ow_ad Z h), .int a1, .int a2]) ++ List.replicate (3 - (lg_sl ([.ref (ow_ad Z h), .int a1, .int a2])).length) Slot.unset).toArray = ls at hl ⊢
  have hl : lv_has ls 3 [(0, .ref (ow_ad Z h)), (1, .int a1), (2, .int a2)] := hl
  unfold f_X5_hasRun at hf
  refine lv_iload_n hx hb dX5_hasRun_0 rfl (lv_at hl 1 rfl) ?_
  refine lv_if_lt (tgt := 30) hx hb dX5_hasRun_1 (by decide) (fun c1 => ?_) (fun c1 => ?_)
  · replace hf := ow_if_t c1 hf
    refine lv_iconst (v := 0) hx hb dX5_hasRun_30 (by decide) ?_
    exact ow_zret hx hb hr (Or.inl rfl) hW hf dX5_hasRun_31 hlocks
  · replace hf := ow_if_f c1 hf
    refine lv_iload_n hx hb dX5_hasRun_4 rfl (lv_at hl 2 rfl) ?_
    refine lv_if_lt (tgt := 30) hx hb dX5_hasRun_5 (by decide) (fun c5 => ?_) (fun c5 => ?_)
    · replace hf := ow_if_t c5 hf
      refine lv_iconst (v := 0) hx hb dX5_hasRun_30 (by decide) ?_
      exact ow_zret hx hb hr (Or.inl rfl) hW hf dX5_hasRun_31 hlocks
    · replace hf := ow_if_f c5 hf
      refine lv_iload_n hx hb dX5_hasRun_8 rfl (lv_at hl 1 rfl) ?_
      refine lv_aload_n hx hb dX5_hasRun_9 rfl (lv_at hl 0 rfl) ?_
      refine ow_getV (ci := 5) (C := RX5) (T := TX5) (N := 3) hx hb hts hown hG hW hh (by decide) rfl hinX5 2 (by decide) (fk := 0) rfl (hts (.fieldLink RX5 19 "FiftyOneCards$Sheet" "size" "I") (by decide +kernel)) (v := .int (σ.1 h 2)) rfl dX5_hasRun_10 ?_
      refine lv_icmp_gt (tgt := 30) hx hb dX5_hasRun_13 (by decide) (fun c13 => ?_) (fun c13 => ?_)
      · replace hf := ow_if_t c13 hf
        refine lv_iconst (v := 0) hx hb dX5_hasRun_30 (by decide) ?_
        exact ow_zret hx hb hr (Or.inl rfl) hW hf dX5_hasRun_31 hlocks
      · replace hf := ow_if_f c13 hf
        refine lv_iload_n hx hb dX5_hasRun_16 rfl (lv_at hl 2 rfl) ?_
        refine lv_aload_n hx hb dX5_hasRun_17 rfl (lv_at hl 0 rfl) ?_
        refine ow_getV (ci := 5) (C := RX5) (T := TX5) (N := 3) hx hb hts hown hG hW hh (by decide) rfl hinX5 2 (by decide) (fk := 0) rfl (hts (.fieldLink RX5 19 "FiftyOneCards$Sheet" "size" "I") (by decide +kernel)) (v := .int (σ.1 h 2)) rfl dX5_hasRun_18 ?_
        refine lv_iload_n hx hb dX5_hasRun_21 rfl (lv_at hl 1 rfl) ?_
        refine lv_isub hx hb dX5_hasRun_22 ?_
        refine lv_icmp_gt (tgt := 30) hx hb dX5_hasRun_23 (by decide) (fun c23 => ?_) (fun c23 => ?_)
        · replace hf := ow_if_t c23 hf
          refine lv_iconst (v := 0) hx hb dX5_hasRun_30 (by decide) ?_
          exact ow_zret hx hb hr (Or.inl rfl) hW hf dX5_hasRun_31 hlocks
        · replace hf := ow_if_f c23 hf
          refine lv_iconst (v := 1) hx hb dX5_hasRun_26 (by decide) ?_
          refine lv_goto (tgt := 31) hx hb dX5_hasRun_27 (by decide) ?_
          exact ow_zret hx hb hr (Or.inr rfl) hW hf dX5_hasRun_31 hlocks
set_option maxHeartbeats 40000000 in
set_option maxRecDepth 100000 in
theorem c_X5_become (l : Launch) (Z : ow_Z) (fu : Nat) (h : Nat) (hh : ow_in 0 56 h 5) (a1 : Int32) (a2 : Int32) (σ : ow_S) (σr : ow_S) (hf : f_X5_become fu h a1 a2 σ = some σr) : Met l yX5_become wsX5_become { frames := 1, cells := 0, slots := 0, locals := 60 } (ow_Pc Z 0 56 [.ref (ow_ad Z h), .int a1, .int a2] σ) (ow_Qv Z 0 56 σr) 0 0 (ow_A Z 0 56) := by
  refine Met.ofW (cc := cX5_become) (maxL := 4) (ret := none) (by decide) rfl ?_
  intro p e s m args below meth c s₁ B hml hv
  obtain ⟨hav, hB⟩ := hv
  obtain ⟨hG, hW⟩ := ow_begin hB
  have hx := B.exec
  have hb := B.bytes
  have hr := B.returns
  have hts := atoms_spec (ws := wsX5_become) B.pre
  have hown : s.vm.findClass RX5 = some m.cls := findClass_of_methodNamed B.named
  have hlocks := B.notSynchronized
  have hinX5 : ∀ w ∈ wsX50, w ∈ wsX5_become := by decide +kernel
  have hJ21 : ∀ (fn : Nat), ∀ (r0 : Nat) (hr0 : ow_in 0 56 r0 5) (x3 : Int32) (σ : ow_S) (H : Heap) (locs : List Loc) (ls : Array Slot), L_X5_become_21 fu fn r0 x3 σ = some σr → ow_Wd Z 0 56 σ s H locs → lv_has ls 4 [(0, .ref (ow_ad Z r0)), (3, .int x3)] → W p l e (headSpec wsX5_become { frames := 1, cells := 0, slots := 0, locals := 60 }).room s m args below meth c H locs 0 0 (MQ below (ow_Qv Z 0 56 σr) args s 0 0 (ow_A Z 0 56)) (F0 m 21 ls []) := by
    intro fn
    induction fn with
    | zero => intro r0 hr0 x3 σ H locs ls hf hW hl; simp [L_X5_become_21] at hf
    | succ fn ih =>
      intro r0 hr0 x3 σ H locs ls hf hW hl
      rw [L_X5_become_21] at hf
      refine lv_iload_n hx hb dX5_become_21 rfl (lv_at hl 1 rfl) ?_
      refine lv_bipush (v := 40) hx hb dX5_become_22 (by decide) ?_
      refine lv_icmp_ge (tgt := 40) hx hb dX5_become_24 (by decide) (fun c24 => ?_) (fun c24 => ?_)
      · replace hf := ow_if_t c24 hf
        exact ow_vret hx hb hr hW hf dX5_become_40 hlocks
      · replace hf := ow_if_f c24 hf
        refine lv_aload_n hx hb dX5_become_27 rfl (lv_at hl 0 rfl) ?_
        refine ow_getV (ci := 5) (C := RX5) (T := TX5) (N := 3) hx hb hts hown hG hW hr0 (by decide) rfl hinX5 0 (by decide) (fk := 2) rfl (hts (.fieldLink RX5 9 "FiftyOneCards$Sheet" "cells" "[I") (by decide +kernel)) (v := .ref (ow_ad Z (r0 + 1))) (ow_vR hW hr0.1 hr0.2.1 (ow_she hr0).1) dX5_become_28 ?_
        refine lv_iload_n hx hb dX5_become_31 rfl (lv_at hl 1 rfl) ?_
        refine lv_iconst (v := 0) hx hb dX5_become_32 (by decide) ?_
        obtain ⟨q33, hf⟩ := ow_ck_i hf
        refine ow_ist (q := x3.toNatClampNeg) hx hb hG hW (ow_she hr0).2.1 (ow_she hr0).2.2 q33 rfl hf dX5_become_33 (fun σ_33 H locs hf hW => ?_)
        refine ow_iinc (d := 1) (lv' := fun z => [(3, .int z), (0, .ref (ow_ad Z r0))]) hx hb hf dX5_become_34 hl (k := 1) rfl (by decide) (by decide) (fun z => rfl) (fun x3_34 hf ls hl => ?_)
        refine lv_goto (tgt := 21) hx hb dX5_become_37 (by decide) ?_
        exact ih r0 hr0 x3_34 σ_33 _ _ _ hf hW (lv_sub hl [1, 0] rfl)
  have hl := lv_entry ([.ref (ow_ad Z h), .int a1, .int a2]) (n := 4) (Nat.le_of_ble_eq_true rfl)
  refine W.eq (g2 := F0 m 0 ((lg_sl ([.ref (ow_ad Z h), .int a1, .int a2]) ++ List.replicate (4 - (lg_sl ([.ref (ow_ad Z h), .int a1, .int a2])).length) Slot.unset).toArray) []) (by rw [hav]; exact lg_entry_eq _ _ _) ?_
  generalize (lg_sl ([.ref (ow_ad Z h), .int a1, .int a2]) ++ List.replicate (4 - (lg_sl ([.ref (ow_ad Z h), .int a1, .int a2])).length) Slot.unset).toArray = ls at hl ⊢
  have hl : lv_has ls 4 [(0, .ref (ow_ad Z h)), (1, .int a1), (2, .int a2)] := hl
  unfold f_X5_become at hf
  refine lv_aload_n hx hb dX5_become_0 rfl (lv_at hl 0 rfl) ?_
  refine lv_iload_n hx hb dX5_become_1 rfl (lv_at hl 1 rfl) ?_
  refine ow_putI (ci := 5) (C := RX5) (T := TX5) (N := 3) hx hb hts hown hG hW hh (by decide) rfl hinX5 tyX5 tyX5_ok nmX5 1 (by decide) rfl (hts (.fieldLink RX5 15 "FiftyOneCards$Sheet" "sort" "I") (by decide +kernel)) rfl rfl rfl hf dX5_become_2 (fun σ_2 H locs hf hW => ?_)
  refine lv_aload_n hx hb dX5_become_5 rfl (lv_at hl 0 rfl) ?_
  refine lv_iconst (v := 0) hx hb dX5_become_6 (by decide) ?_
  refine lv_bipush (v := 40) hx hb dX5_become_7 (by decide) ?_
  refine lv_iload_n hx hb dX5_become_9 rfl (lv_at hl 2 rfl) ?_
  refine ow_r_min hx hb (hml.trans hl.1.symm) hown (hts (.methodLink RX5 22 Lib.Math.min.name) (by decide +kernel)) (hts (.static Lib.Math.min.name) (by decide +kernel)) (hts (.initialized "java/lang/Math") (by decide +kernel)) (hts (.code Lib.Math.min.name Lib.Math.min.code 2 (some .int)) (by decide +kernel)) (Nat.le_of_ble_eq_true rfl) (Nat.le_of_ble_eq_true rfl) (Nat.zero_le _) (Nat.zero_le _) dX5_become_10 ?_
  refine ow_r_max hx hb (hml.trans hl.1.symm) hown (hts (.methodLink RX5 28 Lib.Math.max.name) (by decide +kernel)) (hts (.static Lib.Math.max.name) (by decide +kernel)) (hts (.initialized "java/lang/Math") (by decide +kernel)) (hts (.code Lib.Math.max.name Lib.Math.max.code 2 (some .int)) (by decide +kernel)) (Nat.le_of_ble_eq_true rfl) (Nat.le_of_ble_eq_true rfl) (Nat.zero_le _) (Nat.zero_le _) dX5_become_13 ?_
  refine ow_putI (ci := 5) (C := RX5) (T := TX5) (N := 3) hx hb hts hown hG hW hh (by decide) rfl hinX5 tyX5 tyX5_ok nmX5 2 (by decide) rfl (hts (.fieldLink RX5 19 "FiftyOneCards$Sheet" "size" "I") (by decide +kernel)) rfl rfl rfl hf dX5_become_16 (fun σ_16 H locs hf hW => ?_)
  refine lv_iconst (v := 0) hx hb dX5_become_19 (by decide) ?_
  refine lv_istore_n (lv' := [(3, .int (0 : Int32)), (0, .ref (ow_ad Z h)), (1, .int a1), (2, .int a2)]) hx hb dX5_become_20 rfl hl (by decide) rfl (fun ls hl => ?_)
  exact hJ21 fu h hh (0 : Int32) σ_16 _ _ _ hf hW (lv_sub hl [1, 0] rfl)
set_option maxHeartbeats 40000000 in
set_option maxRecDepth 100000 in
theorem c_X5_put (l : Launch) (Z : ow_Z) (fu : Nat) (h : Nat) (hh : ow_in 0 56 h 5) (a1 : Int32) (a2 : Int32) (σ : ow_S) (σr : ow_S) (hf : f_X5_put fu h a1 a2 σ = some σr) : Met l yX5_put wsX5_put { frames := 2, cells := 0, slots := 0, locals := 81 } (ow_Pc Z 0 56 [.ref (ow_ad Z h), .int a1, .int a2] σ) (ow_Qv Z 0 56 σr) 0 0 (ow_A Z 0 56) := by
  refine Met.ofW (cc := cX5_put) (maxL := 3) (ret := none) (by decide) rfl ?_
  intro p e s m args below meth c s₁ B hml hv
  obtain ⟨hav, hB⟩ := hv
  obtain ⟨hG, hW⟩ := ow_begin hB
  have hx := B.exec
  have hb := B.bytes
  have hr := B.returns
  have hts := atoms_spec (ws := wsX5_put) B.pre
  have hown : s.vm.findClass RX5 = some m.cls := findClass_of_methodNamed B.named
  have hlocks := B.notSynchronized
  have hinX5 : ∀ w ∈ wsX50, w ∈ wsX5_put := by decide +kernel
  have hJ39 : ∀ (s0 : Nat) (hs0 : ow_in 0 56 s0 10 ∧ ow_n s0 = 40) (s1 : Int32) (s2 : Int32) (σ : ow_S) (H : Heap) (locs : List Loc) (ls : Array Slot), L_X5_put_39 fu s0 s1 s2 σ = some σr → ow_Wd Z 0 56 σ s H locs → lv_has ls 3 [] → W p l e (headSpec wsX5_put { frames := 2, cells := 0, slots := 0, locals := 81 }).room s m args below meth c H locs 0 0 (MQ below (ow_Qv Z 0 56 σr) args s 0 0 (ow_A Z 0 56)) (F0 m 39 ls [.int s2, .int s1, .ref (ow_ad Z s0)]) := by
    intro s0 hs0 s1 s2 σ H locs ls hf hW hl
    unfold L_X5_put_39 at hf
    obtain ⟨q39, hf⟩ := ow_ck_i hf
    refine ow_ist (q := s1.toNatClampNeg) hx hb hG hW hs0.1 hs0.2 q39 rfl hf dX5_put_39 (fun σ_39 H locs hf hW => ?_)
    exact ow_vret hx hb hr hW hf dX5_put_40 hlocks
  have hl := lv_entry ([.ref (ow_ad Z h), .int a1, .int a2]) (n := 3) (Nat.le_of_ble_eq_true rfl)
  refine W.eq (g2 := F0 m 0 ((lg_sl ([.ref (ow_ad Z h), .int a1, .int a2]) ++ List.replicate (3 - (lg_sl ([.ref (ow_ad Z h), .int a1, .int a2])).length) Slot.unset).toArray) []) (by rw [hav]; exact lg_entry_eq _ _ _) ?_
  generalize (lg_sl ([.ref (ow_ad Z h), .int a1, .int a2]) ++ List.replicate (3 - (lg_sl ([.ref (ow_ad Z h), .int a1, .int a2])).length) Slot.unset).toArray = ls at hl ⊢
  have hl : lv_has ls 3 [(0, .ref (ow_ad Z h)), (1, .int a1), (2, .int a2)] := hl
  unfold f_X5_put at hf
  refine lv_aload_n hx hb dX5_put_0 rfl (lv_at hl 0 rfl) ?_
  refine lv_iload_n hx hb dX5_put_1 rfl (lv_at hl 1 rfl) ?_
  obtain ⟨r_2, σ_2, hc2, hf⟩ := ow_cl_i hf
  refine ow_callz (va_runV (As := [.int a1]) (rest := []) ⟨hx, hb, hml, hown, hts⟩ (c_X5_has l Z fu h hh a1 σ r_2 σ_2 hc2) (cwV 1 hts gX5_put_X5_has rfl rfl rfl (by decide +kernel) ⟨Nat.le_of_ble_eq_true rfl, Nat.le_of_ble_eq_true rfl⟩) (ow_preV hG hW hh (by decide) rfl) rfl rfl hl.1 rfl (lv_room (Nat.le_of_ble_eq_true rfl)) dX5_put_2 ⟨Nat.zero_le _, Nat.zero_le _⟩) hW (fun b2 H locs hW => ?_)
  refine lv_if_eq (tgt := 40) hx hb dX5_put_5 (by decide) (fun c5 => ?_) (fun c5 => ?_)
  · replace hf := ow_if_t c5 hf
    exact ow_vret hx hb hr hW hf dX5_put_40 hlocks
  · replace hf := ow_if_f c5 hf
    refine lv_aload_n hx hb dX5_put_8 rfl (lv_at hl 0 rfl) ?_
    refine ow_getV (ci := 5) (C := RX5) (T := TX5) (N := 3) hx hb hts hown hG hW hh (by decide) rfl hinX5 0 (by decide) (fk := 2) rfl (hts (.fieldLink RX5 9 "FiftyOneCards$Sheet" "cells" "[I") (by decide +kernel)) (v := .ref (ow_ad Z (h + 1))) (ow_vR hW hh.1 hh.2.1 (ow_she hh).1) dX5_put_9 ?_
    refine lv_iload_n hx hb dX5_put_12 rfl (lv_at hl 1 rfl) ?_
    refine lv_aload_n hx hb dX5_put_13 rfl (lv_at hl 0 rfl) ?_
    refine ow_getV (ci := 5) (C := RX5) (T := TX5) (N := 3) hx hb hts hown hG hW hh (by decide) rfl hinX5 1 (by decide) (fk := 0) rfl (hts (.fieldLink RX5 15 "FiftyOneCards$Sheet" "sort" "I") (by decide +kernel)) (v := .int (σ_2.1 h 1)) rfl dX5_put_14 ?_
    refine lv_if_ne (tgt := 25) hx hb dX5_put_17 (by decide) (fun c17 => ?_) (fun c17 => ?_)
    · replace hf := ow_if_f c17 hf
      refine lv_aload_n hx hb dX5_put_25 rfl (lv_at hl 0 rfl) ?_
      refine ow_getV (ci := 5) (C := RX5) (T := TX5) (N := 3) hx hb hts hown hG hW hh (by decide) rfl hinX5 1 (by decide) (fk := 0) rfl (hts (.fieldLink RX5 15 "FiftyOneCards$Sheet" "sort" "I") (by decide +kernel)) (v := .int (σ_2.1 h 1)) rfl dX5_put_26 ?_
      refine lv_iconst (v := 1) hx hb dX5_put_29 (by decide) ?_
      refine lv_icmp_ne (tgt := 38) hx hb dX5_put_30 (by decide) (fun c30 => ?_) (fun c30 => ?_)
      · replace hf := ow_if_f c30 hf
        refine lv_iload_n hx hb dX5_put_38 rfl (lv_at hl 2 rfl) ?_
        exact hJ39 (h + 1) ⟨(ow_she hh).2.1, (ow_she hh).2.2⟩ a1 a2 σ_2 _ _ _ hf hW (lv_sub hl [] rfl)
      · replace hf := ow_if_t c30 hf
        refine lv_iload_n hx hb dX5_put_33 rfl (lv_at hl 2 rfl) ?_
        refine lv_i2s (v := (a2.toInt16.toInt32)) hx hb dX5_put_34 rfl ?_
        refine lv_goto (tgt := 39) hx hb dX5_put_35 (by decide) ?_
        exact hJ39 (h + 1) ⟨(ow_she hh).2.1, (ow_she hh).2.2⟩ a1 (a2.toInt16.toInt32) σ_2 _ _ _ hf hW (lv_sub hl [] rfl)
    · replace hf := ow_if_t c17 hf
      refine lv_iload_n hx hb dX5_put_20 rfl (lv_at hl 2 rfl) ?_
      refine lv_i2b (v := (a2.toInt8.toInt32)) hx hb dX5_put_21 rfl ?_
      refine lv_goto (tgt := 39) hx hb dX5_put_22 (by decide) ?_
      exact hJ39 (h + 1) ⟨(ow_she hh).2.1, (ow_she hh).2.2⟩ a1 (a2.toInt8.toInt32) σ_2 _ _ _ hf hW (lv_sub hl [] rfl)
set_option maxHeartbeats 40000000 in
set_option maxRecDepth 100000 in
theorem c_X6_startOf (l : Launch) (Z : ow_Z) (fu : Nat) (h : Nat) (hh : ow_in 0 56 h 6) (a1 : Int32) (σ : ow_S) (rr : Int32) (σr : ow_S) (hf : f_X6_startOf fu h a1 σ = some (rr, σr)) : Met l yX6_startOf wsX6_startOf { frames := 1, cells := 0, slots := 0, locals := 60 } (ow_Pc Z 0 56 [.ref (ow_ad Z h), .int a1] σ) (ow_Qi Z 0 56 rr σr) 0 0 (ow_A Z 0 56) := by
  refine Met.ofW (cc := cX6_startOf) (maxL := 2) (ret := (some .int)) (by decide) rfl ?_
  intro p e s m args below meth c s₁ B hml hv
  obtain ⟨hav, hB⟩ := hv
  obtain ⟨hG, hW⟩ := ow_begin hB
  have hx := B.exec
  have hb := B.bytes
  have hr := B.returns
  have hts := atoms_spec (ws := wsX6_startOf) B.pre
  have hown : s.vm.findClass RX6 = some m.cls := findClass_of_methodNamed B.named
  have hlocks := B.notSynchronized
  have hinX6 : ∀ w ∈ wsX60, w ∈ wsX6_startOf := by decide +kernel
  have hl := lv_entry ([.ref (ow_ad Z h), .int a1]) (n := 2) (Nat.le_of_ble_eq_true rfl)
  refine W.eq (g2 := F0 m 0 ((lg_sl ([.ref (ow_ad Z h), .int a1]) ++ List.replicate (2 - (lg_sl ([.ref (ow_ad Z h), .int a1])).length) Slot.unset).toArray) []) (by rw [hav]; exact lg_entry_eq _ _ _) ?_
  generalize (lg_sl ([.ref (ow_ad Z h), .int a1]) ++ List.replicate (2 - (lg_sl ([.ref (ow_ad Z h), .int a1])).length) Slot.unset).toArray = ls at hl ⊢
  have hl : lv_has ls 2 [(0, .ref (ow_ad Z h)), (1, .int a1)] := hl
  unfold f_X6_startOf at hf
  refine lv_iload_n hx hb dX6_startOf_0 rfl (lv_at hl 1 rfl) ?_
  refine lv_iconst (v := 1) hx hb dX6_startOf_1 (by decide) ?_
  refine lv_icmp_lt (tgt := 24) hx hb dX6_startOf_2 (by decide) (fun c2 => ?_) (fun c2 => ?_)
  · replace hf := ow_if_t c2 hf
    refine lv_iconst (v := 0) hx hb dX6_startOf_24 (by decide) ?_
    exact ow_iret hx hb hr hW hf dX6_startOf_25 hlocks
  · replace hf := ow_if_f c2 hf
    refine lv_iload_n hx hb dX6_startOf_5 rfl (lv_at hl 1 rfl) ?_
    refine lv_aload_n hx hb dX6_startOf_6 rfl (lv_at hl 0 rfl) ?_
    refine ow_getV (ci := 6) (C := RX6) (T := TX6) (N := 4) hx hb hts hown hG hW hh (by decide) rfl hinX6 3 (by decide) (fk := 0) rfl (hts (.fieldLink RX6 22 "FiftyOneCards$Text" "parts" "I") (by decide +kernel)) (v := .int (σ.1 h 3)) rfl dX6_startOf_7 ?_
    refine lv_icmp_ge (tgt := 24) hx hb dX6_startOf_10 (by decide) (fun c10 => ?_) (fun c10 => ?_)
    · replace hf := ow_if_t c10 hf
      refine lv_iconst (v := 0) hx hb dX6_startOf_24 (by decide) ?_
      exact ow_iret hx hb hr hW hf dX6_startOf_25 hlocks
    · replace hf := ow_if_f c10 hf
      refine lv_aload_n hx hb dX6_startOf_13 rfl (lv_at hl 0 rfl) ?_
      refine ow_getV (ci := 6) (C := RX6) (T := TX6) (N := 4) hx hb hts hown hG hW hh (by decide) rfl hinX6 1 (by decide) (fk := 2) rfl (hts (.fieldLink RX6 15 "FiftyOneCards$Text" "ends" "[I") (by decide +kernel)) (v := .ref (ow_ad Z (h + 2))) (ow_vR hW hh.1 hh.2.1 (ow_tx1 hh).1) dX6_startOf_14 ?_
      refine lv_iload_n hx hb dX6_startOf_17 rfl (lv_at hl 1 rfl) ?_
      refine lv_iconst (v := 1) hx hb dX6_startOf_18 (by decide) ?_
      refine lv_isub hx hb dX6_startOf_19 ?_
      obtain ⟨q20, hf⟩ := ow_ck_i hf
      refine ow_ild (q := (a1 - (1 : Int32)).toNatClampNeg) hx hb hG hW (ow_tx1 hh).2.1 (ow_tx1 hh).2.2 q20 rfl dX6_startOf_20 ?_
      refine lv_goto (tgt := 25) hx hb dX6_startOf_21 (by decide) ?_
      exact ow_iret hx hb hr hW hf dX6_startOf_25 hlocks
set_option maxHeartbeats 40000000 in
set_option maxRecDepth 100000 in
theorem c_X6_endOf (l : Launch) (Z : ow_Z) (fu : Nat) (h : Nat) (hh : ow_in 0 56 h 6) (a1 : Int32) (σ : ow_S) (rr : Int32) (σr : ow_S) (hf : f_X6_endOf fu h a1 σ = some (rr, σr)) : Met l yX6_endOf wsX6_endOf { frames := 1, cells := 0, slots := 0, locals := 60 } (ow_Pc Z 0 56 [.ref (ow_ad Z h), .int a1] σ) (ow_Qi Z 0 56 rr σr) 0 0 (ow_A Z 0 56) := by
  refine Met.ofW (cc := cX6_endOf) (maxL := 2) (ret := (some .int)) (by decide) rfl ?_
  intro p e s m args below meth c s₁ B hml hv
  obtain ⟨hav, hB⟩ := hv
  obtain ⟨hG, hW⟩ := ow_begin hB
  have hx := B.exec
  have hb := B.bytes
  have hr := B.returns
  have hts := atoms_spec (ws := wsX6_endOf) B.pre
  have hown : s.vm.findClass RX6 = some m.cls := findClass_of_methodNamed B.named
  have hlocks := B.notSynchronized
  have hinX6 : ∀ w ∈ wsX60, w ∈ wsX6_endOf := by decide +kernel
  have hl := lv_entry ([.ref (ow_ad Z h), .int a1]) (n := 2) (Nat.le_of_ble_eq_true rfl)
  refine W.eq (g2 := F0 m 0 ((lg_sl ([.ref (ow_ad Z h), .int a1]) ++ List.replicate (2 - (lg_sl ([.ref (ow_ad Z h), .int a1])).length) Slot.unset).toArray) []) (by rw [hav]; exact lg_entry_eq _ _ _) ?_
  generalize (lg_sl ([.ref (ow_ad Z h), .int a1]) ++ List.replicate (2 - (lg_sl ([.ref (ow_ad Z h), .int a1])).length) Slot.unset).toArray = ls at hl ⊢
  have hl : lv_has ls 2 [(0, .ref (ow_ad Z h)), (1, .int a1)] := hl
  unfold f_X6_endOf at hf
  refine lv_iload_n hx hb dX6_endOf_0 rfl (lv_at hl 1 rfl) ?_
  refine lv_if_lt (tgt := 21) hx hb dX6_endOf_1 (by decide) (fun c1 => ?_) (fun c1 => ?_)
  · replace hf := ow_if_t c1 hf
    refine lv_iconst (v := 0) hx hb dX6_endOf_21 (by decide) ?_
    exact ow_iret hx hb hr hW hf dX6_endOf_22 hlocks
  · replace hf := ow_if_f c1 hf
    refine lv_iload_n hx hb dX6_endOf_4 rfl (lv_at hl 1 rfl) ?_
    refine lv_aload_n hx hb dX6_endOf_5 rfl (lv_at hl 0 rfl) ?_
    refine ow_getV (ci := 6) (C := RX6) (T := TX6) (N := 4) hx hb hts hown hG hW hh (by decide) rfl hinX6 3 (by decide) (fk := 0) rfl (hts (.fieldLink RX6 22 "FiftyOneCards$Text" "parts" "I") (by decide +kernel)) (v := .int (σ.1 h 3)) rfl dX6_endOf_6 ?_
    refine lv_icmp_ge (tgt := 21) hx hb dX6_endOf_9 (by decide) (fun c9 => ?_) (fun c9 => ?_)
    · replace hf := ow_if_t c9 hf
      refine lv_iconst (v := 0) hx hb dX6_endOf_21 (by decide) ?_
      exact ow_iret hx hb hr hW hf dX6_endOf_22 hlocks
    · replace hf := ow_if_f c9 hf
      refine lv_aload_n hx hb dX6_endOf_12 rfl (lv_at hl 0 rfl) ?_
      refine ow_getV (ci := 6) (C := RX6) (T := TX6) (N := 4) hx hb hts hown hG hW hh (by decide) rfl hinX6 1 (by decide) (fk := 2) rfl (hts (.fieldLink RX6 15 "FiftyOneCards$Text" "ends" "[I") (by decide +kernel)) (v := .ref (ow_ad Z (h + 2))) (ow_vR hW hh.1 hh.2.1 (ow_tx1 hh).1) dX6_endOf_13 ?_
      refine lv_iload_n hx hb dX6_endOf_16 rfl (lv_at hl 1 rfl) ?_
      obtain ⟨q17, hf⟩ := ow_ck_i hf
      refine ow_ild (q := a1.toNatClampNeg) hx hb hG hW (ow_tx1 hh).2.1 (ow_tx1 hh).2.2 q17 rfl dX6_endOf_17 ?_
      refine lv_goto (tgt := 22) hx hb dX6_endOf_18 (by decide) ?_
      exact ow_iret hx hb hr hW hf dX6_endOf_22 hlocks
set_option maxHeartbeats 40000000 in
set_option maxRecDepth 100000 in
theorem c_X7_setOut (l : Launch) (Z : ow_Z) (fu : Nat) (a1 : Nat) (ha1 : ow_in 0 56 a1 6) (a2 : Int32) (a3 : Int32) (σ : ow_S) (σr : ow_S) (hf : f_X7_setOut fu a1 a2 a3 σ = some σr) : Met l yX7_setOut wsX7_setOut { frames := 1, cells := 0, slots := 0, locals := 60 } (ow_Pc Z 0 56 [.ref (ow_ad Z 10), .ref (ow_ad Z a1), .int a2, .int a3] σ) (ow_Qv Z 0 56 σr) 0 0 (ow_A Z 0 56) := by
  refine Met.ofW (cc := cX7_setOut) (maxL := 4) (ret := none) (by decide) rfl ?_
  intro p e s m args below meth c s₁ B hml hv
  obtain ⟨hav, hB⟩ := hv
  obtain ⟨hG, hW⟩ := ow_begin hB
  have hx := B.exec
  have hb := B.bytes
  have hr := B.returns
  have hts := atoms_spec (ws := wsX7_setOut) B.pre
  have hown : s.vm.findClass RX7 = some m.cls := findClass_of_methodNamed B.named
  have hlocks := B.notSynchronized
  have hinX7 : ∀ w ∈ wsX70, w ∈ wsX7_setOut := by decide +kernel
  have hl := lv_entry ([.ref (ow_ad Z 10), .ref (ow_ad Z a1), .int a2, .int a3]) (n := 4) (Nat.le_of_ble_eq_true rfl)
  refine W.eq (g2 := F0 m 0 ((lg_sl ([.ref (ow_ad Z 10), .ref (ow_ad Z a1), .int a2, .int a3]) ++ List.replicate (4 - (lg_sl ([.ref (ow_ad Z 10), .ref (ow_ad Z a1), .int a2, .int a3])).length) Slot.unset).toArray) []) (by rw [hav]; exact lg_entry_eq _ _ _) ?_
  generalize (lg_sl ([.ref (ow_ad Z 10), .ref (ow_ad Z a1), .int a2, .int a3]) ++ List.replicate (4 - (lg_sl ([.ref (ow_ad Z 10), .ref (ow_ad Z a1), .int a2, .int a3])).length) Slot.unset).toArray = ls at hl ⊢
  have hl : lv_has ls 4 [(0, .ref (ow_ad Z 10)), (1, .ref (ow_ad Z a1)), (2, .int a2), (3, .int a3)] := hl
  unfold f_X7_setOut at hf
  refine lv_aload_n hx hb dX7_setOut_0 rfl (lv_at hl 0 rfl) ?_
  refine lv_aload_n hx hb dX7_setOut_1 rfl (lv_at hl 1 rfl) ?_
  refine ow_putR7 (C := RX7) (T := TX7) (N := 3) hx hb hts hown hG hW rfl hinX7 tyX7 tyX7_ok nmX7 (by decide) ha1 (hts (.fieldLink RX7 18 "FiftyOneCards$Walk" "text" "LFiftyOneCards$Text;") (by decide +kernel)) rfl rfl rfl hf dX7_setOut_2 (fun σ_2 H locs hf hW => ?_)
  refine lv_aload_n hx hb dX7_setOut_5 rfl (lv_at hl 0 rfl) ?_
  refine ow_getV (ci := 7) (C := RX7) (T := TX7) (N := 3) hx hb hts hown hG hW ow_i10 (by decide) rfl hinX7 0 (by decide) (fk := 2) rfl (hts (.fieldLink RX7 9 "FiftyOneCards$Walk" "names" "[I") (by decide +kernel)) (v := .ref (ow_ad Z 11)) (ow_vR hW ow_i10.1 ow_i10.2.1 rfl) dX7_setOut_6 ?_
  refine lv_iconst (v := 4) hx hb dX7_setOut_9 (by decide) ?_
  refine lv_iload_n hx hb dX7_setOut_10 rfl (lv_at hl 2 rfl) ?_
  refine ow_ist (q := 4) hx hb hG hW ow_i11 rfl (by decide) (by decide) hf dX7_setOut_11 (fun σ_11 H locs hf hW => ?_)
  refine lv_aload_n hx hb dX7_setOut_12 rfl (lv_at hl 0 rfl) ?_
  refine ow_getV (ci := 7) (C := RX7) (T := TX7) (N := 3) hx hb hts hown hG hW ow_i10 (by decide) rfl hinX7 0 (by decide) (fk := 2) rfl (hts (.fieldLink RX7 9 "FiftyOneCards$Walk" "names" "[I") (by decide +kernel)) (v := .ref (ow_ad Z 11)) (ow_vR hW ow_i10.1 ow_i10.2.1 rfl) dX7_setOut_13 ?_
  refine lv_iconst (v := 5) hx hb dX7_setOut_16 (by decide) ?_
  refine lv_iload_n hx hb dX7_setOut_17 rfl (lv_at hl 3 rfl) ?_
  refine ow_ist (q := 5) hx hb hG hW ow_i11 rfl (by decide) (by decide) hf dX7_setOut_18 (fun σ_18 H locs hf hW => ?_)
  exact ow_vret hx hb hr hW hf dX7_setOut_19 hlocks
set_option maxHeartbeats 40000000 in
set_option maxRecDepth 100000 in
theorem c_X7_keepBoth (l : Launch) (Z : ow_Z) (fu : Nat) (a1 : Int32) (a2 : Int32) (σ : ow_S) (σr : ow_S) (hf : f_X7_keepBoth fu a1 a2 σ = some σr) : Met l yX7_keepBoth wsX7_keepBoth { frames := 1, cells := 0, slots := 0, locals := 60 } (ow_Pc Z 0 56 [.ref (ow_ad Z 10), .int a1, .int a2] σ) (ow_Qv Z 0 56 σr) 0 0 (ow_A Z 0 56) := by
  refine Met.ofW (cc := cX7_keepBoth) (maxL := 3) (ret := none) (by decide) rfl ?_
  intro p e s m args below meth c s₁ B hml hv
  obtain ⟨hav, hB⟩ := hv
  obtain ⟨hG, hW⟩ := ow_begin hB
  have hx := B.exec
  have hb := B.bytes
  have hr := B.returns
  have hts := atoms_spec (ws := wsX7_keepBoth) B.pre
  have hown : s.vm.findClass RX7 = some m.cls := findClass_of_methodNamed B.named
  have hlocks := B.notSynchronized
  have hinX7 : ∀ w ∈ wsX70, w ∈ wsX7_keepBoth := by decide +kernel
  have hl := lv_entry ([.ref (ow_ad Z 10), .int a1, .int a2]) (n := 3) (Nat.le_of_ble_eq_true rfl)
  refine W.eq (g2 := F0 m 0 ((lg_sl ([.ref (ow_ad Z 10), .int a1, .int a2]) ++ List.replicate (3 - (lg_sl ([.ref (ow_ad Z 10), .int a1, .int a2])).length) Slot.unset).toArray) []) (by rw [hav]; exact lg_entry_eq _ _ _) ?_
  generalize (lg_sl ([.ref (ow_ad Z 10), .int a1, .int a2]) ++ List.replicate (3 - (lg_sl ([.ref (ow_ad Z 10), .int a1, .int a2])).length) Slot.unset).toArray = ls at hl ⊢
  have hl : lv_has ls 3 [(0, .ref (ow_ad Z 10)), (1, .int a1), (2, .int a2)] := hl
  unfold f_X7_keepBoth at hf
  refine lv_aload_n hx hb dX7_keepBoth_0 rfl (lv_at hl 0 rfl) ?_
  refine ow_getV (ci := 7) (C := RX7) (T := TX7) (N := 3) hx hb hts hown hG hW ow_i10 (by decide) rfl hinX7 0 (by decide) (fk := 2) rfl (hts (.fieldLink RX7 9 "FiftyOneCards$Walk" "names" "[I") (by decide +kernel)) (v := .ref (ow_ad Z 11)) (ow_vR hW ow_i10.1 ow_i10.2.1 rfl) dX7_keepBoth_1 ?_
  refine lv_iconst (v := 0) hx hb dX7_keepBoth_4 (by decide) ?_
  refine lv_iload_n hx hb dX7_keepBoth_5 rfl (lv_at hl 1 rfl) ?_
  refine ow_ist (q := 0) hx hb hG hW ow_i11 rfl (by decide) (by decide) hf dX7_keepBoth_6 (fun σ_6 H locs hf hW => ?_)
  refine lv_aload_n hx hb dX7_keepBoth_7 rfl (lv_at hl 0 rfl) ?_
  refine ow_getV (ci := 7) (C := RX7) (T := TX7) (N := 3) hx hb hts hown hG hW ow_i10 (by decide) rfl hinX7 0 (by decide) (fk := 2) rfl (hts (.fieldLink RX7 9 "FiftyOneCards$Walk" "names" "[I") (by decide +kernel)) (v := .ref (ow_ad Z 11)) (ow_vR hW ow_i10.1 ow_i10.2.1 rfl) dX7_keepBoth_8 ?_
  refine lv_iconst (v := 1) hx hb dX7_keepBoth_11 (by decide) ?_
  refine lv_iload_n hx hb dX7_keepBoth_12 rfl (lv_at hl 2 rfl) ?_
  refine ow_ist (q := 1) hx hb hG hW ow_i11 rfl (by decide) (by decide) hf dX7_keepBoth_13 (fun σ_13 H locs hf hW => ?_)
  exact ow_vret hx hb hr hW hf dX7_keepBoth_14 hlocks
set_option maxHeartbeats 40000000 in
set_option maxRecDepth 100000 in
theorem c_X7_setOutAs (l : Launch) (Z : ow_Z) (fu : Nat) (a1 : Nat) (ha1 : ow_in 0 56 a1 0) (a2 : Nat) (ha2 : ow_in 0 56 a2 6) (a3 : Int32) (σ : ow_S) (σr : ow_S) (hf : f_X7_setOutAs fu a1 a2 a3 σ = some σr) : Met l yX7_setOutAs wsX7_setOutAs { frames := 2, cells := 0, slots := 0, locals := 83 } (ow_Pc Z 0 56 [.ref (ow_ad Z 10), .ref (ow_ad Z a1), .ref (ow_ad Z a2), .int a3] σ) (ow_Qv Z 0 56 σr) 0 0 (ow_A Z 0 56) := by
  refine Met.ofW (cc := cX7_setOutAs) (maxL := 4) (ret := none) (by decide) rfl ?_
  intro p e s m args below meth c s₁ B hml hv
  obtain ⟨hav, hB⟩ := hv
  obtain ⟨hG, hW⟩ := ow_begin hB
  have hx := B.exec
  have hb := B.bytes
  have hr := B.returns
  have hts := atoms_spec (ws := wsX7_setOutAs) B.pre
  have hown : s.vm.findClass RX7 = some m.cls := findClass_of_methodNamed B.named
  have hlocks := B.notSynchronized
  have hinX0 : ∀ w ∈ wsX00, w ∈ wsX7_setOutAs := by decide +kernel
  have hl := lv_entry ([.ref (ow_ad Z 10), .ref (ow_ad Z a1), .ref (ow_ad Z a2), .int a3]) (n := 4) (Nat.le_of_ble_eq_true rfl)
  refine W.eq (g2 := F0 m 0 ((lg_sl ([.ref (ow_ad Z 10), .ref (ow_ad Z a1), .ref (ow_ad Z a2), .int a3]) ++ List.replicate (4 - (lg_sl ([.ref (ow_ad Z 10), .ref (ow_ad Z a1), .ref (ow_ad Z a2), .int a3])).length) Slot.unset).toArray) []) (by rw [hav]; exact lg_entry_eq _ _ _) ?_
  generalize (lg_sl ([.ref (ow_ad Z 10), .ref (ow_ad Z a1), .ref (ow_ad Z a2), .int a3]) ++ List.replicate (4 - (lg_sl ([.ref (ow_ad Z 10), .ref (ow_ad Z a1), .ref (ow_ad Z a2), .int a3])).length) Slot.unset).toArray = ls at hl ⊢
  have hl : lv_has ls 4 [(0, .ref (ow_ad Z 10)), (1, .ref (ow_ad Z a1)), (2, .ref (ow_ad Z a2)), (3, .int a3)] := hl
  unfold f_X7_setOutAs at hf
  refine lv_aload_n hx hb dX7_setOutAs_0 rfl (lv_at hl 0 rfl) ?_
  refine lv_aload_n hx hb dX7_setOutAs_1 rfl (lv_at hl 2 rfl) ?_
  refine lv_iload_n hx hb dX7_setOutAs_2 rfl (lv_at hl 3 rfl) ?_
  refine lv_aload_n hx hb dX7_setOutAs_3 rfl (lv_at hl 1 rfl) ?_
  refine ow_getVN (ci := 0) (C := RX0) (T := TX0) (N := 5) hx hb hts hown hG hW ha1 (by decide) rfl hinX0 1 (by decide) (fk := 0) rfl (ow_nwp hG (.fieldLinkNest RX7 22 "FiftyOneCards$Head" "more" "I" "FiftyOneCards") (by decide +kernel)) (v := .int (σ.1 a1 1)) rfl dX7_setOutAs_4 ?_
  obtain ⟨σ_7, hc7, hf⟩ := ow_cv_i hf
  refine ow_callv (va_runV (As := [.ref (ow_ad Z a2), .int a3, .int (σ.1 a1 1)]) (rest := []) ⟨hx, hb, hml, hown, hts⟩ (c_X7_setOut l Z fu a2 ha2 a3 (σ.1 a1 1) σ σ_7  hc7) (cwV 3 hts gX7_setOutAs_X7_setOut rfl rfl rfl (by decide +kernel) ⟨Nat.le_of_ble_eq_true rfl, Nat.le_of_ble_eq_true rfl⟩) (ow_preV hG hW ow_i10 (by decide) rfl) rfl rfl hl.1 rfl (lv_room (Nat.le_of_ble_eq_true rfl)) dX7_setOutAs_7 ⟨Nat.zero_le _, Nat.zero_le _⟩) hW (fun H locs hW => ?_)
  refine lv_aload_n hx hb dX7_setOutAs_10 rfl (lv_at hl 0 rfl) ?_
  refine lv_aload_n hx hb dX7_setOutAs_11 rfl (lv_at hl 1 rfl) ?_
  refine lv_aload_n hx hb dX7_setOutAs_12 rfl (lv_at hl 1 rfl) ?_
  refine ow_getVN (ci := 0) (C := RX0) (T := TX0) (N := 5) hx hb hts hown hG hW ha1 (by decide) rfl hinX0 3 (by decide) (fk := 0) rfl (ow_nwp hG (.fieldLinkNest RX7 32 "FiftyOneCards$Head" "first" "I" "FiftyOneCards") (by decide +kernel)) (v := .int (σ_7.1 a1 3)) rfl dX7_setOutAs_13 ?_
  obtain ⟨r_16, σ_16, hc16, hf⟩ := ow_cl_i hf
  refine ow_calli (va_runVN (As := [.int (σ_7.1 a1 3)]) (rest := [.ref (ow_ad Z 10)]) ⟨hx, hb, hml, hown, hts⟩ (c_X0_lowest l Z fu a1 ha1 (σ_7.1 a1 3) σ_7 r_16 σ_16 hc16) ⟨va_cnB (host := "FiftyOneCards") 1 hts ggX7_setOutAs_X0_lowest rfl rfl rfl (ow_nwp hG (.methodLinkNest RX7 35 yX0_lowest "FiftyOneCards") (by decide +kernel)) (hts (.initialized RX0) (by decide +kernel)) (by decide +kernel) ⟨Nat.le_of_ble_eq_true rfl, Nat.le_of_ble_eq_true rfl⟩, hts (.instanceMethod yX0_lowest) (by decide +kernel), hts (.selects RX0 yX0_lowest yX0_lowest) (by decide +kernel)⟩ (ow_preV hG hW ha1 (by decide) rfl) rfl rfl hl.1 rfl (lv_room (Nat.le_of_ble_eq_true rfl)) dX7_setOutAs_16 ⟨Nat.zero_le _, Nat.zero_le _⟩) hW (fun H locs hW => ?_)
  refine lv_aload_n hx hb dX7_setOutAs_19 rfl (lv_at hl 1 rfl) ?_
  refine lv_aload_n hx hb dX7_setOutAs_20 rfl (lv_at hl 1 rfl) ?_
  refine ow_getVN (ci := 0) (C := RX0) (T := TX0) (N := 5) hx hb hts hown hG hW ha1 (by decide) rfl hinX0 4 (by decide) (fk := 0) rfl (ow_nwp hG (.fieldLinkNest RX7 39 "FiftyOneCards$Head" "second" "I" "FiftyOneCards") (by decide +kernel)) (v := .int (σ_16.1 a1 4)) rfl dX7_setOutAs_21 ?_
  obtain ⟨r_24, σ_24, hc24, hf⟩ := ow_cl_i hf
  refine ow_calli (va_runVN (As := [.int (σ_16.1 a1 4)]) (rest := [.int r_16, .ref (ow_ad Z 10)]) ⟨hx, hb, hml, hown, hts⟩ (c_X0_lowest l Z fu a1 ha1 (σ_16.1 a1 4) σ_16 r_24 σ_24 hc24) ⟨va_cnB (host := "FiftyOneCards") 1 hts ggX7_setOutAs_X0_lowest rfl rfl rfl (ow_nwp hG (.methodLinkNest RX7 35 yX0_lowest "FiftyOneCards") (by decide +kernel)) (hts (.initialized RX0) (by decide +kernel)) (by decide +kernel) ⟨Nat.le_of_ble_eq_true rfl, Nat.le_of_ble_eq_true rfl⟩, hts (.instanceMethod yX0_lowest) (by decide +kernel), hts (.selects RX0 yX0_lowest yX0_lowest) (by decide +kernel)⟩ (ow_preV hG hW ha1 (by decide) rfl) rfl rfl hl.1 rfl (lv_room (Nat.le_of_ble_eq_true rfl)) dX7_setOutAs_24 ⟨Nat.zero_le _, Nat.zero_le _⟩) hW (fun H locs hW => ?_)
  obtain ⟨σ_27, hc27, hf⟩ := ow_cv_i hf
  refine ow_callv (va_runV (As := [.int r_16, .int r_24]) (rest := []) ⟨hx, hb, hml, hown, hts⟩ (c_X7_keepBoth l Z fu r_16 r_24 σ_24 σ_27  hc27) (cwV 2 hts gX7_setOutAs_X7_keepBoth rfl rfl rfl (by decide +kernel) ⟨Nat.le_of_ble_eq_true rfl, Nat.le_of_ble_eq_true rfl⟩) (ow_preV hG hW ow_i10 (by decide) rfl) rfl rfl hl.1 rfl (lv_room (Nat.le_of_ble_eq_true rfl)) dX7_setOutAs_27 ⟨Nat.zero_le _, Nat.zero_le _⟩) hW (fun H locs hW => ?_)
  exact ow_vret hx hb hr hW hf dX7_setOutAs_30 hlocks
set_option maxHeartbeats 40000000 in
set_option maxRecDepth 100000 in
theorem c_X7_meet (l : Launch) (Z : ow_Z) (fu : Nat) (a1 : Int32) (a2 : Int32) (σ : ow_S) (σr : ow_S) (hf : f_X7_meet fu a1 a2 σ = some σr) : Met l yX7_meet wsX7_meet { frames := 1, cells := 0, slots := 0, locals := 60 } (ow_Pc Z 0 56 [.ref (ow_ad Z 10), .int a1, .int a2] σ) (ow_Qv Z 0 56 σr) 0 0 (ow_A Z 0 56) := by
  refine Met.ofW (cc := cX7_meet) (maxL := 3) (ret := none) (by decide) rfl ?_
  intro p e s m args below meth c s₁ B hml hv
  obtain ⟨hav, hB⟩ := hv
  obtain ⟨hG, hW⟩ := ow_begin hB
  have hx := B.exec
  have hb := B.bytes
  have hr := B.returns
  have hts := atoms_spec (ws := wsX7_meet) B.pre
  have hown : s.vm.findClass RX7 = some m.cls := findClass_of_methodNamed B.named
  have hlocks := B.notSynchronized
  have hinX7 : ∀ w ∈ wsX70, w ∈ wsX7_meet := by decide +kernel
  have hl := lv_entry ([.ref (ow_ad Z 10), .int a1, .int a2]) (n := 3) (Nat.le_of_ble_eq_true rfl)
  refine W.eq (g2 := F0 m 0 ((lg_sl ([.ref (ow_ad Z 10), .int a1, .int a2]) ++ List.replicate (3 - (lg_sl ([.ref (ow_ad Z 10), .int a1, .int a2])).length) Slot.unset).toArray) []) (by rw [hav]; exact lg_entry_eq _ _ _) ?_
  generalize (lg_sl ([.ref (ow_ad Z 10), .int a1, .int a2]) ++ List.replicate (3 - (lg_sl ([.ref (ow_ad Z 10), .int a1, .int a2])).length) Slot.unset).toArray = ls at hl ⊢
  have hl : lv_has ls 3 [(0, .ref (ow_ad Z 10)), (1, .int a1), (2, .int a2)] := hl
  unfold f_X7_meet at hf
  refine lv_aload_n hx hb dX7_meet_0 rfl (lv_at hl 0 rfl) ?_
  refine ow_getV (ci := 7) (C := RX7) (T := TX7) (N := 3) hx hb hts hown hG hW ow_i10 (by decide) rfl hinX7 0 (by decide) (fk := 2) rfl (hts (.fieldLink RX7 9 "FiftyOneCards$Walk" "names" "[I") (by decide +kernel)) (v := .ref (ow_ad Z 11)) (ow_vR hW ow_i10.1 ow_i10.2.1 rfl) dX7_meet_1 ?_
  refine lv_iconst (v := 2) hx hb dX7_meet_4 (by decide) ?_
  refine lv_iload_n hx hb dX7_meet_5 rfl (lv_at hl 1 rfl) ?_
  refine ow_ist (q := 2) hx hb hG hW ow_i11 rfl (by decide) (by decide) hf dX7_meet_6 (fun σ_6 H locs hf hW => ?_)
  refine lv_aload_n hx hb dX7_meet_7 rfl (lv_at hl 0 rfl) ?_
  refine ow_getV (ci := 7) (C := RX7) (T := TX7) (N := 3) hx hb hts hown hG hW ow_i10 (by decide) rfl hinX7 0 (by decide) (fk := 2) rfl (hts (.fieldLink RX7 9 "FiftyOneCards$Walk" "names" "[I") (by decide +kernel)) (v := .ref (ow_ad Z 11)) (ow_vR hW ow_i10.1 ow_i10.2.1 rfl) dX7_meet_8 ?_
  refine lv_iconst (v := 3) hx hb dX7_meet_11 (by decide) ?_
  refine lv_iload_n hx hb dX7_meet_12 rfl (lv_at hl 2 rfl) ?_
  refine ow_ist (q := 3) hx hb hG hW ow_i11 rfl (by decide) (by decide) hf dX7_meet_13 (fun σ_13 H locs hf hW => ?_)
  exact ow_vret hx hb hr hW hf dX7_meet_14 hlocks
set_option maxHeartbeats 40000000 in
set_option maxRecDepth 100000 in
theorem c_X7_pair (l : Launch) (Z : ow_Z) (fu : Nat) (σ : ow_S) (rr : Int32) (σr : ow_S) (hf : f_X7_pair fu σ = some (rr, σr)) : Met l yX7_pair wsX7_pair { frames := 1, cells := 0, slots := 0, locals := 60 } (ow_Pc Z 0 56 [.ref (ow_ad Z 10)] σ) (ow_Qi Z 0 56 rr σr) 0 0 (ow_A Z 0 56) := by
  refine Met.ofW (cc := cX7_pair) (maxL := 1) (ret := (some .int)) (by decide) rfl ?_
  intro p e s m args below meth c s₁ B hml hv
  obtain ⟨hav, hB⟩ := hv
  obtain ⟨hG, hW⟩ := ow_begin hB
  have hx := B.exec
  have hb := B.bytes
  have hr := B.returns
  have hts := atoms_spec (ws := wsX7_pair) B.pre
  have hown : s.vm.findClass RX7 = some m.cls := findClass_of_methodNamed B.named
  have hlocks := B.notSynchronized
  have hinX7 : ∀ w ∈ wsX70, w ∈ wsX7_pair := by decide +kernel
  have hl := lv_entry ([.ref (ow_ad Z 10)]) (n := 1) (Nat.le_of_ble_eq_true rfl)
  refine W.eq (g2 := F0 m 0 ((lg_sl ([.ref (ow_ad Z 10)]) ++ List.replicate (1 - (lg_sl ([.ref (ow_ad Z 10)])).length) Slot.unset).toArray) []) (by rw [hav]; exact lg_entry_eq _ _ _) ?_
  generalize (lg_sl ([.ref (ow_ad Z 10)]) ++ List.replicate (1 - (lg_sl ([.ref (ow_ad Z 10)])).length) Slot.unset).toArray = ls at hl ⊢
  have hl : lv_has ls 1 [(0, .ref (ow_ad Z 10))] := hl
  unfold f_X7_pair at hf
  refine lv_aload_n hx hb dX7_pair_0 rfl (lv_at hl 0 rfl) ?_
  refine ow_getV (ci := 7) (C := RX7) (T := TX7) (N := 3) hx hb hts hown hG hW ow_i10 (by decide) rfl hinX7 0 (by decide) (fk := 2) rfl (hts (.fieldLink RX7 9 "FiftyOneCards$Walk" "names" "[I") (by decide +kernel)) (v := .ref (ow_ad Z 11)) (ow_vR hW ow_i10.1 ow_i10.2.1 rfl) dX7_pair_1 ?_
  refine lv_iconst (v := 0) hx hb dX7_pair_4 (by decide) ?_
  refine ow_ild (q := 0) hx hb hG hW ow_i11 rfl (by decide) (by decide) dX7_pair_5 ?_
  refine lv_bipush (v := 16) hx hb dX7_pair_6 (by decide) ?_
  refine lv_ishl hx hb dX7_pair_8 ?_
  refine lv_aload_n hx hb dX7_pair_9 rfl (lv_at hl 0 rfl) ?_
  refine ow_getV (ci := 7) (C := RX7) (T := TX7) (N := 3) hx hb hts hown hG hW ow_i10 (by decide) rfl hinX7 0 (by decide) (fk := 2) rfl (hts (.fieldLink RX7 9 "FiftyOneCards$Walk" "names" "[I") (by decide +kernel)) (v := .ref (ow_ad Z 11)) (ow_vR hW ow_i10.1 ow_i10.2.1 rfl) dX7_pair_10 ?_
  refine lv_iconst (v := 1) hx hb dX7_pair_13 (by decide) ?_
  refine ow_ild (q := 1) hx hb hG hW ow_i11 rfl (by decide) (by decide) dX7_pair_14 ?_
  refine lv_ior hx hb dX7_pair_15 ?_
  exact ow_iret hx hb hr hW hf dX7_pair_16 hlocks
set_option maxHeartbeats 40000000 in
set_option maxRecDepth 100000 in
theorem c_X7_keepPair (l : Launch) (Z : ow_Z) (fu : Nat) (a1 : Int32) (σ : ow_S) (σr : ow_S) (hf : f_X7_keepPair fu a1 σ = some σr) : Met l yX7_keepPair wsX7_keepPair { frames := 2, cells := 0, slots := 0, locals := 82 } (ow_Pc Z 0 56 [.ref (ow_ad Z 10), .int a1] σ) (ow_Qv Z 0 56 σr) 0 0 (ow_A Z 0 56) := by
  refine Met.ofW (cc := cX7_keepPair) (maxL := 2) (ret := none) (by decide) rfl ?_
  intro p e s m args below meth c s₁ B hml hv
  obtain ⟨hav, hB⟩ := hv
  obtain ⟨hG, hW⟩ := ow_begin hB
  have hx := B.exec
  have hb := B.bytes
  have hr := B.returns
  have hts := atoms_spec (ws := wsX7_keepPair) B.pre
  have hown : s.vm.findClass RX7 = some m.cls := findClass_of_methodNamed B.named
  have hlocks := B.notSynchronized
  have hl := lv_entry ([.ref (ow_ad Z 10), .int a1]) (n := 2) (Nat.le_of_ble_eq_true rfl)
  refine W.eq (g2 := F0 m 0 ((lg_sl ([.ref (ow_ad Z 10), .int a1]) ++ List.replicate (2 - (lg_sl ([.ref (ow_ad Z 10), .int a1])).length) Slot.unset).toArray) []) (by rw [hav]; exact lg_entry_eq _ _ _) ?_
  generalize (lg_sl ([.ref (ow_ad Z 10), .int a1]) ++ List.replicate (2 - (lg_sl ([.ref (ow_ad Z 10), .int a1])).length) Slot.unset).toArray = ls at hl ⊢
  have hl : lv_has ls 2 [(0, .ref (ow_ad Z 10)), (1, .int a1)] := hl
  unfold f_X7_keepPair at hf
  refine lv_aload_n hx hb dX7_keepPair_0 rfl (lv_at hl 0 rfl) ?_
  refine lv_iload_n hx hb dX7_keepPair_1 rfl (lv_at hl 1 rfl) ?_
  refine lv_bipush (v := 16) hx hb dX7_keepPair_2 (by decide) ?_
  refine lv_iushr (v := (ow_ushr a1 (16 : Int32))) hx hb dX7_keepPair_4 rfl ?_
  refine lv_iload_n hx hb dX7_keepPair_5 rfl (lv_at hl 1 rfl) ?_
  refine lv_ldc (v := 65535) hx hb hown (hts (.constant RX7 46 (65535)) (by decide +kernel)) dX7_keepPair_6 ?_
  refine lv_iand hx hb dX7_keepPair_8 ?_
  obtain ⟨σ_9, hc9, hf⟩ := ow_cv_i hf
  refine ow_callv (va_runV (As := [.int (ow_ushr a1 (16 : Int32)), .int (a1 &&& (65535 : Int32))]) (rest := []) ⟨hx, hb, hml, hown, hts⟩ (c_X7_keepBoth l Z fu (ow_ushr a1 (16 : Int32)) (a1 &&& (65535 : Int32)) σ σ_9  hc9) (cwV 2 hts gX7_keepPair_X7_keepBoth rfl rfl rfl (by decide +kernel) ⟨Nat.le_of_ble_eq_true rfl, Nat.le_of_ble_eq_true rfl⟩) (ow_preV hG hW ow_i10 (by decide) rfl) rfl rfl hl.1 rfl (lv_room (Nat.le_of_ble_eq_true rfl)) dX7_keepPair_9 ⟨Nat.zero_le _, Nat.zero_le _⟩) hW (fun H locs hW => ?_)
  exact ow_vret hx hb hr hW hf dX7_keepPair_12 hlocks
set_option maxHeartbeats 40000000 in
set_option maxRecDepth 100000 in
theorem c_X7_valueOf (l : Launch) (Z : ow_Z) (fu : Nat) (a1 : Int32) (σ : ow_S) (rr : Int32) (σr : ow_S) (hf : f_X7_valueOf fu a1 σ = some (rr, σr)) : Met l yX7_valueOf wsX7_valueOf { frames := 1, cells := 0, slots := 0, locals := 60 } (ow_Pc Z 0 56 [.ref (ow_ad Z 10), .int a1] σ) (ow_Qi Z 0 56 rr σr) 0 0 (ow_A Z 0 56) := by
  refine Met.ofW (cc := cX7_valueOf) (maxL := 2) (ret := (some .int)) (by decide) rfl ?_
  intro p e s m args below meth c s₁ B hml hv
  obtain ⟨hav, hB⟩ := hv
  obtain ⟨hG, hW⟩ := ow_begin hB
  have hx := B.exec
  have hb := B.bytes
  have hr := B.returns
  have hts := atoms_spec (ws := wsX7_valueOf) B.pre
  have hown : s.vm.findClass RX7 = some m.cls := findClass_of_methodNamed B.named
  have hlocks := B.notSynchronized
  have hinX7 : ∀ w ∈ wsX70, w ∈ wsX7_valueOf := by decide +kernel
  have hl := lv_entry ([.ref (ow_ad Z 10), .int a1]) (n := 2) (Nat.le_of_ble_eq_true rfl)
  refine W.eq (g2 := F0 m 0 ((lg_sl ([.ref (ow_ad Z 10), .int a1]) ++ List.replicate (2 - (lg_sl ([.ref (ow_ad Z 10), .int a1])).length) Slot.unset).toArray) []) (by rw [hav]; exact lg_entry_eq _ _ _) ?_
  generalize (lg_sl ([.ref (ow_ad Z 10), .int a1]) ++ List.replicate (2 - (lg_sl ([.ref (ow_ad Z 10), .int a1])).length) Slot.unset).toArray = ls at hl ⊢
  have hl : lv_has ls 2 [(0, .ref (ow_ad Z 10)), (1, .int a1)] := hl
  unfold f_X7_valueOf at hf
  refine lv_iload_n hx hb dX7_valueOf_0 rfl (lv_at hl 1 rfl) ?_
  refine lv_if_lt (tgt := 19) hx hb dX7_valueOf_1 (by decide) (fun c1 => ?_) (fun c1 => ?_)
  · replace hf := ow_if_t c1 hf
    refine lv_iconst (v := 0) hx hb dX7_valueOf_19 (by decide) ?_
    exact ow_iret hx hb hr hW hf dX7_valueOf_20 hlocks
  · replace hf := ow_if_f c1 hf
    refine lv_iload_n hx hb dX7_valueOf_4 rfl (lv_at hl 1 rfl) ?_
    refine lv_bipush (v := 6) hx hb dX7_valueOf_5 (by decide) ?_
    refine lv_icmp_ge (tgt := 19) hx hb dX7_valueOf_7 (by decide) (fun c7 => ?_) (fun c7 => ?_)
    · replace hf := ow_if_t c7 hf
      refine lv_iconst (v := 0) hx hb dX7_valueOf_19 (by decide) ?_
      exact ow_iret hx hb hr hW hf dX7_valueOf_20 hlocks
    · replace hf := ow_if_f c7 hf
      refine lv_aload_n hx hb dX7_valueOf_10 rfl (lv_at hl 0 rfl) ?_
      refine ow_getV (ci := 7) (C := RX7) (T := TX7) (N := 3) hx hb hts hown hG hW ow_i10 (by decide) rfl hinX7 0 (by decide) (fk := 2) rfl (hts (.fieldLink RX7 9 "FiftyOneCards$Walk" "names" "[I") (by decide +kernel)) (v := .ref (ow_ad Z 11)) (ow_vR hW ow_i10.1 ow_i10.2.1 rfl) dX7_valueOf_11 ?_
      refine lv_iload_n hx hb dX7_valueOf_14 rfl (lv_at hl 1 rfl) ?_
      obtain ⟨q15, hf⟩ := ow_ck_i hf
      refine ow_ild (q := a1.toNatClampNeg) hx hb hG hW ow_i11 rfl q15 rfl dX7_valueOf_15 ?_
      refine lv_goto (tgt := 20) hx hb dX7_valueOf_16 (by decide) ?_
      exact ow_iret hx hb hr hW hf dX7_valueOf_20 hlocks
set_option maxHeartbeats 40000000 in
set_option maxRecDepth 100000 in
theorem c_X7_joined (l : Launch) (Z : ow_Z) (fu : Nat) (a1 : Int32) (a2 : Int32) (a3 : Int32) (σ : ow_S) (rr : Int32) (σr : ow_S) (hf : f_X7_joined fu a1 a2 a3 σ = some (rr, σr)) : Met l yX7_joined wsX7_joined { frames := 1, cells := 0, slots := 0, locals := 60 } (ow_Pc Z 0 56 [.int a1, .int a2, .int a3] σ) (ow_Qi Z 0 56 rr σr) 0 0 (ow_A Z 0 56) := by
  refine Met.ofW (cc := cX7_joined) (maxL := 3) (ret := (some .int)) (by decide) rfl ?_
  intro p e s m args below meth c s₁ B hml hv
  obtain ⟨hav, hB⟩ := hv
  obtain ⟨hG, hW⟩ := ow_begin hB
  have hx := B.exec
  have hb := B.bytes
  have hr := B.returns
  have hts := atoms_spec (ws := wsX7_joined) B.pre
  have hown : s.vm.findClass RX7 = some m.cls := findClass_of_methodNamed B.named
  have hlocks := B.notSynchronized
  have hJ52 : ∀ (σ : ow_S) (H : Heap) (locs : List Loc) (ls : Array Slot), L_X7_joined_52 fu σ = some (rr, σr) → ow_Wd Z 0 56 σ s H locs → lv_has ls 3 [] → W p l e (headSpec wsX7_joined { frames := 1, cells := 0, slots := 0, locals := 60 }).room s m args below meth c H locs 0 0 (MQ below (ow_Qi Z 0 56 rr σr) args s 0 0 (ow_A Z 0 56)) (F0 m 52 ls []) := by
    intro σ H locs ls hf hW hl
    unfold L_X7_joined_52 at hf
    refine lv_iconst (v := 1) hx hb dX7_joined_52 (by decide) ?_
    refine lv_goto (tgt := 57) hx hb dX7_joined_53 (by decide) ?_
    exact ow_iret hx hb hr hW hf dX7_joined_57 hlocks
  have hJ102 : ∀ (x1 : Int32) (x2 : Int32) (σ : ow_S) (H : Heap) (locs : List Loc) (ls : Array Slot), L_X7_joined_102 fu x1 x2 σ = some (rr, σr) → ow_Wd Z 0 56 σ s H locs → lv_has ls 3 [(1, .int x1), (2, .int x2)] → W p l e (headSpec wsX7_joined { frames := 1, cells := 0, slots := 0, locals := 60 }).room s m args below meth c H locs 0 0 (MQ below (ow_Qi Z 0 56 rr σr) args s 0 0 (ow_A Z 0 56)) (F0 m 102 ls []) := by
    intro x1 x2 σ H locs ls hf hW hl
    unfold L_X7_joined_102 at hf
    refine lv_iload_n hx hb dX7_joined_102 rfl (lv_at hl 0 rfl) ?_
    refine lv_iload_n hx hb dX7_joined_103 rfl (lv_at hl 1 rfl) ?_
    refine lv_imul hx hb dX7_joined_104 ?_
    exact ow_iret hx hb hr hW hf dX7_joined_105 hlocks
  have hl := lv_entry ([.int a1, .int a2, .int a3]) (n := 3) (Nat.le_of_ble_eq_true rfl)
  refine W.eq (g2 := F0 m 0 ((lg_sl ([.int a1, .int a2, .int a3]) ++ List.replicate (3 - (lg_sl ([.int a1, .int a2, .int a3])).length) Slot.unset).toArray) []) (by rw [hav]; exact lg_entry_eq _ _ _) ?_
  generalize (lg_sl ([.int a1, .int a2, .int a3]) ++ List.replicate (3 - (lg_sl ([.int a1, .int a2, .int a3])).length) Slot.unset).toArray = ls at hl ⊢
  have hl : lv_has ls 3 [(0, .int a1), (1, .int a2), (2, .int a3)] := hl
  unfold f_X7_joined at hf
  refine lv_iload_n hx hb dX7_joined_0 rfl (lv_at hl 0 rfl) ?_
  by_cases c1_6 : a1 = (6 : Int32)
  · replace hf := ow_if_t c1_6 hf
    refine lv_tableIn (off := 43) (tgt := 44) hx hb dX7_joined_1 (by rw [c1_6]; decide) (by rw [c1_6]; decide) (by rw [c1_6]; rfl) (by decide) ?_
    refine lv_iload_n hx hb dX7_joined_44 rfl (lv_at hl 1 rfl) ?_
    refine lv_if_ne (tgt := 52) hx hb dX7_joined_45 (by decide) (fun c45 => ?_) (fun c45 => ?_)
    · replace hf := ow_if_f c45 hf
      exact hJ52 σ _ _ _ hf hW (lv_sub hl [] rfl)
    · replace hf := ow_if_t c45 hf
      refine lv_iload_n hx hb dX7_joined_48 rfl (lv_at hl 2 rfl) ?_
      refine lv_if_eq (tgt := 56) hx hb dX7_joined_49 (by decide) (fun c49 => ?_) (fun c49 => ?_)
      · replace hf := ow_if_t c49 hf
        refine lv_iconst (v := 0) hx hb dX7_joined_56 (by decide) ?_
        exact ow_iret hx hb hr hW hf dX7_joined_57 hlocks
      · replace hf := ow_if_f c49 hf
        exact hJ52 σ _ _ _ hf hW (lv_sub hl [] rfl)
  · replace hf := ow_if_f c1_6 hf
    by_cases c1_7 : a1 = (7 : Int32)
    · replace hf := ow_if_t c1_7 hf
      refine lv_tableIn (off := 57) (tgt := 58) hx hb dX7_joined_1 (by rw [c1_7]; decide) (by rw [c1_7]; decide) (by rw [c1_7]; rfl) (by decide) ?_
      refine lv_iload_n hx hb dX7_joined_58 rfl (lv_at hl 1 rfl) ?_
      refine lv_if_eq (tgt := 70) hx hb dX7_joined_59 (by decide) (fun c59 => ?_) (fun c59 => ?_)
      · replace hf := ow_if_t c59 hf
        refine lv_iconst (v := 0) hx hb dX7_joined_70 (by decide) ?_
        exact ow_iret hx hb hr hW hf dX7_joined_71 hlocks
      · replace hf := ow_if_f c59 hf
        refine lv_iload_n hx hb dX7_joined_62 rfl (lv_at hl 2 rfl) ?_
        refine lv_if_eq (tgt := 70) hx hb dX7_joined_63 (by decide) (fun c63 => ?_) (fun c63 => ?_)
        · replace hf := ow_if_t c63 hf
          refine lv_iconst (v := 0) hx hb dX7_joined_70 (by decide) ?_
          exact ow_iret hx hb hr hW hf dX7_joined_71 hlocks
        · replace hf := ow_if_f c63 hf
          refine lv_iconst (v := 1) hx hb dX7_joined_66 (by decide) ?_
          refine lv_goto (tgt := 71) hx hb dX7_joined_67 (by decide) ?_
          exact ow_iret hx hb hr hW hf dX7_joined_71 hlocks
    · replace hf := ow_if_f c1_7 hf
      by_cases c1_8 : a1 = (8 : Int32)
      · replace hf := ow_if_t c1_8 hf
        refine lv_tableIn (off := 101) (tgt := 102) hx hb dX7_joined_1 (by rw [c1_8]; decide) (by rw [c1_8]; decide) (by rw [c1_8]; rfl) (by decide) ?_
        exact hJ102 a2 a3 σ _ _ _ hf hW (lv_sub hl [1, 2] rfl)
      · replace hf := ow_if_f c1_8 hf
        by_cases c1_9 : a1 = (9 : Int32)
        · replace hf := ow_if_t c1_9 hf
          refine lv_tableIn (off := 71) (tgt := 72) hx hb dX7_joined_1 (by rw [c1_9]; decide) (by rw [c1_9]; decide) (by rw [c1_9]; rfl) (by decide) ?_
          refine lv_iload_n hx hb dX7_joined_72 rfl (lv_at hl 1 rfl) ?_
          refine lv_iload_n hx hb dX7_joined_73 rfl (lv_at hl 2 rfl) ?_
          refine lv_icmp_ge (tgt := 81) hx hb dX7_joined_74 (by decide) (fun c74 => ?_) (fun c74 => ?_)
          · replace hf := ow_if_t c74 hf
            refine lv_iconst (v := 0) hx hb dX7_joined_81 (by decide) ?_
            exact ow_iret hx hb hr hW hf dX7_joined_82 hlocks
          · replace hf := ow_if_f c74 hf
            refine lv_iconst (v := 1) hx hb dX7_joined_77 (by decide) ?_
            refine lv_goto (tgt := 82) hx hb dX7_joined_78 (by decide) ?_
            exact ow_iret hx hb hr hW hf dX7_joined_82 hlocks
        · replace hf := ow_if_f c1_9 hf
          by_cases c1_10 : a1 = (10 : Int32)
          · replace hf := ow_if_t c1_10 hf
            refine lv_tableIn (off := 82) (tgt := 83) hx hb dX7_joined_1 (by rw [c1_10]; decide) (by rw [c1_10]; decide) (by rw [c1_10]; rfl) (by decide) ?_
            refine lv_iload_n hx hb dX7_joined_83 rfl (lv_at hl 1 rfl) ?_
            refine lv_iload_n hx hb dX7_joined_84 rfl (lv_at hl 2 rfl) ?_
            refine lv_icmp_ne (tgt := 92) hx hb dX7_joined_85 (by decide) (fun c85 => ?_) (fun c85 => ?_)
            · replace hf := ow_if_f c85 hf
              refine lv_iconst (v := 0) hx hb dX7_joined_92 (by decide) ?_
              exact ow_iret hx hb hr hW hf dX7_joined_93 hlocks
            · replace hf := ow_if_t c85 hf
              refine lv_iconst (v := 1) hx hb dX7_joined_88 (by decide) ?_
              refine lv_goto (tgt := 93) hx hb dX7_joined_89 (by decide) ?_
              exact ow_iret hx hb hr hW hf dX7_joined_93 hlocks
          · replace hf := ow_if_f c1_10 hf
            by_cases c1_11 : a1 = (11 : Int32)
            · replace hf := ow_if_t c1_11 hf
              refine lv_tableIn (off := 93) (tgt := 94) hx hb dX7_joined_1 (by rw [c1_11]; decide) (by rw [c1_11]; decide) (by rw [c1_11]; rfl) (by decide) ?_
              refine lv_iload_n hx hb dX7_joined_94 rfl (lv_at hl 1 rfl) ?_
              refine lv_iload_n hx hb dX7_joined_95 rfl (lv_at hl 2 rfl) ?_
              refine lv_iadd hx hb dX7_joined_96 ?_
              exact ow_iret hx hb hr hW hf dX7_joined_97 hlocks
            · replace hf := ow_if_f c1_11 hf
              by_cases c1_12 : a1 = (12 : Int32)
              · replace hf := ow_if_t c1_12 hf
                refine lv_tableIn (off := 97) (tgt := 98) hx hb dX7_joined_1 (by rw [c1_12]; decide) (by rw [c1_12]; decide) (by rw [c1_12]; rfl) (by decide) ?_
                refine lv_iload_n hx hb dX7_joined_98 rfl (lv_at hl 1 rfl) ?_
                refine lv_iload_n hx hb dX7_joined_99 rfl (lv_at hl 2 rfl) ?_
                refine lv_isub hx hb dX7_joined_100 ?_
                exact ow_iret hx hb hr hW hf dX7_joined_101 hlocks
              · replace hf := ow_if_f c1_12 hf
                have e1_6 := lv_neT c1_6 (a := 6) (by decide)
                have e1_7 := lv_neT c1_7 (a := 7) (by decide)
                have e1_8 := lv_neT c1_8 (a := 8) (by decide)
                have e1_9 := lv_neT c1_9 (a := 9) (by decide)
                have e1_10 := lv_neT c1_10 (a := 10) (by decide)
                have e1_11 := lv_neT c1_11 (a := 11) (by decide)
                have e1_12 := lv_neT c1_12 (a := 12) (by decide)
                refine lv_tableOut (tgt := 102) hx hb dX7_joined_1 (by omega) (by decide) ?_
                exact hJ102 a2 a3 σ _ _ _ hf hW (lv_sub hl [1, 2] rfl)
set_option maxHeartbeats 40000000 in
set_option maxRecDepth 100000 in
theorem c_X7_tells (l : Launch) (Z : ow_Z) (fu : Nat) (a1 : Int32) (σ : ow_S) (rr : Int32) (σr : ow_S) (hf : f_X7_tells fu a1 σ = some (rr, σr)) : Met l yX7_tells wsX7_tells { frames := 2, cells := 0, slots := 0, locals := 82 } (ow_Pc Z 0 56 [.ref (ow_ad Z 10), .int a1] σ) (ow_Qi Z 0 56 rr σr) 0 0 (ow_A Z 0 56) := by
  refine Met.ofW (cc := cX7_tells) (maxL := 6) (ret := (some .int)) (by decide) rfl ?_
  intro p e s m args below meth c s₁ B hml hv
  obtain ⟨hav, hB⟩ := hv
  obtain ⟨hG, hW⟩ := ow_begin hB
  have hx := B.exec
  have hb := B.bytes
  have hr := B.returns
  have hts := atoms_spec (ws := wsX7_tells) B.pre
  have hown : s.vm.findClass RX7 = some m.cls := findClass_of_methodNamed B.named
  have hlocks := B.notSynchronized
  have hinX6 : ∀ w ∈ wsX60, w ∈ wsX7_tells := by decide +kernel
  have hinX7 : ∀ w ∈ wsX70, w ∈ wsX7_tells := by decide +kernel
  have hJ202 : ∀ (k30 : Int32 → Int32 → Int32 → ow_S → Option (Int32 × ow_S)) (hk30 : ∀ (x2 : Int32) (x3 : Int32) (x4 : Int32) (σ : ow_S) (H : Heap) (locs : List Loc) (ls : Array Slot), k30 x2 x3 x4 σ = some (rr, σr) → ow_Wd Z 0 56 σ s H locs → lv_has ls 6 [(0, .ref (ow_ad Z 10)), (2, .int x2), (3, .int x3), (4, .int x4)] → W p l e (headSpec wsX7_tells { frames := 2, cells := 0, slots := 0, locals := 82 }).room s m args below meth c H locs 0 0 (MQ below (ow_Qi Z 0 56 rr σr) args s 0 0 (ow_A Z 0 56)) (F0 m 30 ls [])), ∀ (x2 : Int32) (x3 : Int32) (x4 : Int32) (σ : ow_S) (H : Heap) (locs : List Loc) (ls : Array Slot), L_X7_tells_202 fu k30 x2 x3 x4 σ = some (rr, σr) → ow_Wd Z 0 56 σ s H locs → lv_has ls 6 [(0, .ref (ow_ad Z 10)), (2, .int x2), (3, .int x3), (4, .int x4)] → W p l e (headSpec wsX7_tells { frames := 2, cells := 0, slots := 0, locals := 82 }).room s m args below meth c H locs 0 0 (MQ below (ow_Qi Z 0 56 rr σr) args s 0 0 (ow_A Z 0 56)) (F0 m 202 ls []) := by
    intro k30 hk30 x2 x3 x4 σ H locs ls hf hW hl
    unfold L_X7_tells_202 at hf
    refine ow_iinc (d := 1) (lv' := fun z => [(4, .int z), (0, .ref (ow_ad Z 10)), (2, .int x2), (3, .int x3)]) hx hb hf dX7_tells_202 hl (k := 3) rfl (by decide) (by decide) (fun z => rfl) (fun x4_202 hf ls hl => ?_)
    refine lv_goto (tgt := 30) hx hb dX7_tells_205 (by decide) ?_
    exact hk30 x2 x3 x4_202 σ _ _ _ hf hW (lv_sub hl [1, 2, 3, 0] rfl)
  have hJ95 : ∀ (k30 : Int32 → Int32 → Int32 → ow_S → Option (Int32 × ow_S)) (hk30 : ∀ (x2 : Int32) (x3 : Int32) (x4 : Int32) (σ : ow_S) (H : Heap) (locs : List Loc) (ls : Array Slot), k30 x2 x3 x4 σ = some (rr, σr) → ow_Wd Z 0 56 σ s H locs → lv_has ls 6 [(0, .ref (ow_ad Z 10)), (2, .int x2), (3, .int x3), (4, .int x4)] → W p l e (headSpec wsX7_tells { frames := 2, cells := 0, slots := 0, locals := 82 }).room s m args below meth c H locs 0 0 (MQ below (ow_Qi Z 0 56 rr σr) args s 0 0 (ow_A Z 0 56)) (F0 m 30 ls [])), ∀ (x2 : Int32) (x3 : Int32) (x4 : Int32) (s1 : Int32) (s2 : Int32) (σ : ow_S) (H : Heap) (locs : List Loc) (ls : Array Slot), L_X7_tells_95 fu k30 x2 x3 x4 s1 s2 σ = some (rr, σr) → ow_Wd Z 0 56 σ s H locs → lv_has ls 6 [(0, .ref (ow_ad Z 10)), (2, .int x2), (3, .int x3), (4, .int x4)] → W p l e (headSpec wsX7_tells { frames := 2, cells := 0, slots := 0, locals := 82 }).room s m args below meth c H locs 0 0 (MQ below (ow_Qi Z 0 56 rr σr) args s 0 0 (ow_A Z 0 56)) (F0 m 95 ls [.int s2, .int s1, .ref (ow_ad Z 12)]) := by
    intro k30 hk30 x2 x3 x4 s1 s2 σ H locs ls hf hW hl
    unfold L_X7_tells_95 at hf
    obtain ⟨q95, hf⟩ := ow_ck_i hf
    refine ow_ist (q := s1.toNatClampNeg) hx hb hG hW ow_i12 rfl q95 rfl hf dX7_tells_95 (fun σ_95 H locs hf hW => ?_)
    refine ow_iinc (d := 1) (lv' := fun z => [(2, .int z), (0, .ref (ow_ad Z 10)), (3, .int x3), (4, .int x4)]) hx hb hf dX7_tells_96 hl (k := 1) rfl (by decide) (by decide) (fun z => rfl) (fun x2_96 hf ls hl => ?_)
    refine lv_goto (tgt := 202) hx hb dX7_tells_99 (by decide) ?_
    exact hJ202 k30 hk30 x2_96 x3 x4 σ_95 _ _ _ hf hW (lv_sub hl [1, 0, 2, 3] rfl)
  have hJ62 : ∀ (k30 : Int32 → Int32 → Int32 → ow_S → Option (Int32 × ow_S)) (hk30 : ∀ (x2 : Int32) (x3 : Int32) (x4 : Int32) (σ : ow_S) (H : Heap) (locs : List Loc) (ls : Array Slot), k30 x2 x3 x4 σ = some (rr, σr) → ow_Wd Z 0 56 σ s H locs → lv_has ls 6 [(0, .ref (ow_ad Z 10)), (2, .int x2), (3, .int x3), (4, .int x4)] → W p l e (headSpec wsX7_tells { frames := 2, cells := 0, slots := 0, locals := 82 }).room s m args below meth c H locs 0 0 (MQ below (ow_Qi Z 0 56 rr σr) args s 0 0 (ow_A Z 0 56)) (F0 m 30 ls [])), ∀ (x2 : Int32) (x3 : Int32) (x4 : Int32) (x5 : Int32) (σ : ow_S) (H : Heap) (locs : List Loc) (ls : Array Slot), L_X7_tells_62 fu k30 x2 x3 x4 x5 σ = some (rr, σr) → ow_Wd Z 0 56 σ s H locs → lv_has ls 6 [(0, .ref (ow_ad Z 10)), (2, .int x2), (3, .int x3), (4, .int x4), (5, .int x5)] → W p l e (headSpec wsX7_tells { frames := 2, cells := 0, slots := 0, locals := 82 }).room s m args below meth c H locs 0 0 (MQ below (ow_Qi Z 0 56 rr σr) args s 0 0 (ow_A Z 0 56)) (F0 m 62 ls []) := by
    intro k30 hk30 x2 x3 x4 x5 σ H locs ls hf hW hl
    unfold L_X7_tells_62 at hf
    refine lv_iload_n hx hb dX7_tells_62 rfl (lv_at hl 1 rfl) ?_
    refine lv_sipush (v := 160) hx hb dX7_tells_63 (by decide) ?_
    refine lv_icmp_ge (tgt := 202) hx hb dX7_tells_66 (by decide) (fun c66 => ?_) (fun c66 => ?_)
    · replace hf := ow_if_t c66 hf
      exact hJ202 k30 hk30 x2 x3 x4 σ _ _ _ hf hW (lv_sub hl [0, 1, 2, 3] rfl)
    · replace hf := ow_if_f c66 hf
      refine lv_aload_n hx hb dX7_tells_69 rfl (lv_at hl 0 rfl) ?_
      refine ow_getV (ci := 7) (C := RX7) (T := TX7) (N := 3) hx hb hts hown hG hW ow_i10 (by decide) rfl hinX7 1 (by decide) (fk := 2) rfl (hts (.fieldLink RX7 15 "FiftyOneCards$Walk" "stack" "[I") (by decide +kernel)) (v := .ref (ow_ad Z 12)) (ow_vR hW ow_i10.1 ow_i10.2.1 rfl) dX7_tells_70 ?_
      refine lv_iload_n hx hb dX7_tells_73 rfl (lv_at hl 1 rfl) ?_
      refine lv_iload hx hb dX7_tells_74 (lv_at hl 4 rfl) ?_
      refine lv_bipush (v := 100) hx hb dX7_tells_76 (by decide) ?_
      refine lv_icmp_lt (tgt := 89) hx hb dX7_tells_78 (by decide) (fun c78 => ?_) (fun c78 => ?_)
      · replace hf := ow_if_t c78 hf
        refine lv_aload_n hx hb dX7_tells_89 rfl (lv_at hl 0 rfl) ?_
        refine lv_iload hx hb dX7_tells_90 (lv_at hl 4 rfl) ?_
        obtain ⟨r_92, σ_92, hc92, hf⟩ := ow_cl_i hf
        refine ow_calli (va_runV (As := [.int x5]) (rest := [.int x2, .ref (ow_ad Z 12)]) ⟨hx, hb, hml, hown, hts⟩ (c_X7_valueOf l Z fu x5 σ r_92 σ_92 hc92) (cwV 1 hts gX7_tells_X7_valueOf rfl rfl rfl (by decide +kernel) ⟨Nat.le_of_ble_eq_true rfl, Nat.le_of_ble_eq_true rfl⟩) (ow_preV hG hW ow_i10 (by decide) rfl) rfl rfl hl.1 rfl (lv_room (Nat.le_of_ble_eq_true rfl)) dX7_tells_92 ⟨Nat.zero_le _, Nat.zero_le _⟩) hW (fun H locs hW => ?_)
        exact hJ95 k30 hk30 x2 x3 x4 x2 r_92 σ_92 _ _ _ hf hW (lv_sub hl [0, 1, 2, 3] rfl)
      · replace hf := ow_if_f c78 hf
        refine lv_iload hx hb dX7_tells_81 (lv_at hl 4 rfl) ?_
        refine lv_bipush (v := 100) hx hb dX7_tells_83 (by decide) ?_
        refine lv_isub hx hb dX7_tells_85 ?_
        refine lv_goto (tgt := 95) hx hb dX7_tells_86 (by decide) ?_
        exact hJ95 k30 hk30 x2 x3 x4 x2 (x5 - (100 : Int32)) σ _ _ _ hf hW (lv_sub hl [0, 1, 2, 3] rfl)
  have hJ163 : ∀ (k30 : Int32 → Int32 → Int32 → ow_S → Option (Int32 × ow_S)) (hk30 : ∀ (x2 : Int32) (x3 : Int32) (x4 : Int32) (σ : ow_S) (H : Heap) (locs : List Loc) (ls : Array Slot), k30 x2 x3 x4 σ = some (rr, σr) → ow_Wd Z 0 56 σ s H locs → lv_has ls 6 [(0, .ref (ow_ad Z 10)), (2, .int x2), (3, .int x3), (4, .int x4)] → W p l e (headSpec wsX7_tells { frames := 2, cells := 0, slots := 0, locals := 82 }).room s m args below meth c H locs 0 0 (MQ below (ow_Qi Z 0 56 rr σr) args s 0 0 (ow_A Z 0 56)) (F0 m 30 ls [])), ∀ (x2 : Int32) (x3 : Int32) (x4 : Int32) (s1 : Int32) (s2 : Int32) (σ : ow_S) (H : Heap) (locs : List Loc) (ls : Array Slot), L_X7_tells_163 fu k30 x2 x3 x4 s1 s2 σ = some (rr, σr) → ow_Wd Z 0 56 σ s H locs → lv_has ls 6 [(0, .ref (ow_ad Z 10)), (2, .int x2), (3, .int x3), (4, .int x4)] → W p l e (headSpec wsX7_tells { frames := 2, cells := 0, slots := 0, locals := 82 }).room s m args below meth c H locs 0 0 (MQ below (ow_Qi Z 0 56 rr σr) args s 0 0 (ow_A Z 0 56)) (F0 m 163 ls [.int s2, .int s1, .ref (ow_ad Z 12)]) := by
    intro k30 hk30 x2 x3 x4 s1 s2 σ H locs ls hf hW hl
    unfold L_X7_tells_163 at hf
    obtain ⟨q163, hf⟩ := ow_ck_i hf
    refine ow_ist (q := s1.toNatClampNeg) hx hb hG hW ow_i12 rfl q163 rfl hf dX7_tells_163 (fun σ_163 H locs hf hW => ?_)
    refine lv_goto (tgt := 202) hx hb dX7_tells_164 (by decide) ?_
    exact hJ202 k30 hk30 x2 x3 x4 σ_163 _ _ _ hf hW (lv_sub hl [0, 1, 2, 3] rfl)
  have hJ116 : ∀ (k30 : Int32 → Int32 → Int32 → ow_S → Option (Int32 × ow_S)) (hk30 : ∀ (x2 : Int32) (x3 : Int32) (x4 : Int32) (σ : ow_S) (H : Heap) (locs : List Loc) (ls : Array Slot), k30 x2 x3 x4 σ = some (rr, σr) → ow_Wd Z 0 56 σ s H locs → lv_has ls 6 [(0, .ref (ow_ad Z 10)), (2, .int x2), (3, .int x3), (4, .int x4)] → W p l e (headSpec wsX7_tells { frames := 2, cells := 0, slots := 0, locals := 82 }).room s m args below meth c H locs 0 0 (MQ below (ow_Qi Z 0 56 rr σr) args s 0 0 (ow_A Z 0 56)) (F0 m 30 ls [])), ∀ (x2 : Int32) (x3 : Int32) (x4 : Int32) (x5 : Int32) (σ : ow_S) (H : Heap) (locs : List Loc) (ls : Array Slot), L_X7_tells_116 fu k30 x2 x3 x4 x5 σ = some (rr, σr) → ow_Wd Z 0 56 σ s H locs → lv_has ls 6 [(0, .ref (ow_ad Z 10)), (2, .int x2), (3, .int x3), (4, .int x4), (5, .int x5)] → W p l e (headSpec wsX7_tells { frames := 2, cells := 0, slots := 0, locals := 82 }).room s m args below meth c H locs 0 0 (MQ below (ow_Qi Z 0 56 rr σr) args s 0 0 (ow_A Z 0 56)) (F0 m 116 ls []) := by
    intro k30 hk30 x2 x3 x4 x5 σ H locs ls hf hW hl
    unfold L_X7_tells_116 at hf
    refine lv_iload_n hx hb dX7_tells_116 rfl (lv_at hl 1 rfl) ?_
    refine lv_iconst (v := 1) hx hb dX7_tells_117 (by decide) ?_
    refine lv_icmp_lt (tgt := 202) hx hb dX7_tells_118 (by decide) (fun c118 => ?_) (fun c118 => ?_)
    · replace hf := ow_if_t c118 hf
      exact hJ202 k30 hk30 x2 x3 x4 σ _ _ _ hf hW (lv_sub hl [0, 1, 2, 3] rfl)
    · replace hf := ow_if_f c118 hf
      refine lv_aload_n hx hb dX7_tells_121 rfl (lv_at hl 0 rfl) ?_
      refine ow_getV (ci := 7) (C := RX7) (T := TX7) (N := 3) hx hb hts hown hG hW ow_i10 (by decide) rfl hinX7 1 (by decide) (fk := 2) rfl (hts (.fieldLink RX7 15 "FiftyOneCards$Walk" "stack" "[I") (by decide +kernel)) (v := .ref (ow_ad Z 12)) (ow_vR hW ow_i10.1 ow_i10.2.1 rfl) dX7_tells_122 ?_
      refine lv_iload_n hx hb dX7_tells_125 rfl (lv_at hl 1 rfl) ?_
      refine lv_iconst (v := 1) hx hb dX7_tells_126 (by decide) ?_
      refine lv_isub hx hb dX7_tells_127 ?_
      refine lv_iload hx hb dX7_tells_128 (lv_at hl 4 rfl) ?_
      refine lv_bipush (v := 14) hx hb dX7_tells_130 (by decide) ?_
      refine lv_icmp_ne (tgt := 147) hx hb dX7_tells_132 (by decide) (fun c132 => ?_) (fun c132 => ?_)
      · replace hf := ow_if_f c132 hf
        refine lv_aload_n hx hb dX7_tells_147 rfl (lv_at hl 0 rfl) ?_
        refine ow_getV (ci := 7) (C := RX7) (T := TX7) (N := 3) hx hb hts hown hG hW ow_i10 (by decide) rfl hinX7 1 (by decide) (fk := 2) rfl (hts (.fieldLink RX7 15 "FiftyOneCards$Walk" "stack" "[I") (by decide +kernel)) (v := .ref (ow_ad Z 12)) (ow_vR hW ow_i10.1 ow_i10.2.1 rfl) dX7_tells_148 ?_
        refine lv_iload_n hx hb dX7_tells_151 rfl (lv_at hl 1 rfl) ?_
        refine lv_iconst (v := 1) hx hb dX7_tells_152 (by decide) ?_
        refine lv_isub hx hb dX7_tells_153 ?_
        obtain ⟨q154, hf⟩ := ow_ck_i hf
        refine ow_ild (q := (x2 - (1 : Int32)).toNatClampNeg) hx hb hG hW ow_i12 rfl q154 rfl dX7_tells_154 ?_
        refine lv_if_ne (tgt := 162) hx hb dX7_tells_155 (by decide) (fun c155 => ?_) (fun c155 => ?_)
        · replace hf := ow_if_f c155 hf
          refine lv_iconst (v := 0) hx hb dX7_tells_162 (by decide) ?_
          exact hJ163 k30 hk30 x2 x3 x4 (x2 - (1 : Int32)) (0 : Int32) σ _ _ _ hf hW (lv_sub hl [0, 1, 2, 3] rfl)
        · replace hf := ow_if_t c155 hf
          refine lv_iconst (v := 1) hx hb dX7_tells_158 (by decide) ?_
          refine lv_goto (tgt := 163) hx hb dX7_tells_159 (by decide) ?_
          exact hJ163 k30 hk30 x2 x3 x4 (x2 - (1 : Int32)) (1 : Int32) σ _ _ _ hf hW (lv_sub hl [0, 1, 2, 3] rfl)
      · replace hf := ow_if_t c132 hf
        refine lv_aload_n hx hb dX7_tells_135 rfl (lv_at hl 0 rfl) ?_
        refine ow_getV (ci := 7) (C := RX7) (T := TX7) (N := 3) hx hb hts hown hG hW ow_i10 (by decide) rfl hinX7 1 (by decide) (fk := 2) rfl (hts (.fieldLink RX7 15 "FiftyOneCards$Walk" "stack" "[I") (by decide +kernel)) (v := .ref (ow_ad Z 12)) (ow_vR hW ow_i10.1 ow_i10.2.1 rfl) dX7_tells_136 ?_
        refine lv_iload_n hx hb dX7_tells_139 rfl (lv_at hl 1 rfl) ?_
        refine lv_iconst (v := 1) hx hb dX7_tells_140 (by decide) ?_
        refine lv_isub hx hb dX7_tells_141 ?_
        obtain ⟨q142, hf⟩ := ow_ck_i hf
        refine ow_ild (q := (x2 - (1 : Int32)).toNatClampNeg) hx hb hG hW ow_i12 rfl q142 rfl dX7_tells_142 ?_
        refine lv_ineg hx hb dX7_tells_143 ?_
        refine lv_goto (tgt := 163) hx hb dX7_tells_144 (by decide) ?_
        exact hJ163 k30 hk30 x2 x3 x4 (x2 - (1 : Int32)) (-(σ.1 12 (x2 - (1 : Int32)).toNatClampNeg)) σ _ _ _ hf hW (lv_sub hl [0, 1, 2, 3] rfl)
  have hJ30 : ∀ (fn : Nat), ∀ (x2 : Int32) (x3 : Int32) (x4 : Int32) (σ : ow_S) (H : Heap) (locs : List Loc) (ls : Array Slot), L_X7_tells_30 fu fn x2 x3 x4 σ = some (rr, σr) → ow_Wd Z 0 56 σ s H locs → lv_has ls 6 [(0, .ref (ow_ad Z 10)), (2, .int x2), (3, .int x3), (4, .int x4)] → W p l e (headSpec wsX7_tells { frames := 2, cells := 0, slots := 0, locals := 82 }).room s m args below meth c H locs 0 0 (MQ below (ow_Qi Z 0 56 rr σr) args s 0 0 (ow_A Z 0 56)) (F0 m 30 ls []) := by
    intro fn
    induction fn with
    | zero => intro x2 x3 x4 σ H locs ls hf hW hl; simp [L_X7_tells_30] at hf
    | succ fn ih =>
      intro x2 x3 x4 σ H locs ls hf hW hl
      rw [L_X7_tells_30] at hf
      refine lv_iload hx hb dX7_tells_30 (lv_at hl 3 rfl) ?_
      refine lv_iload_n hx hb dX7_tells_32 rfl (lv_at hl 2 rfl) ?_
      refine lv_icmp_ge (tgt := 208) hx hb dX7_tells_33 (by decide) (fun c33 => ?_) (fun c33 => ?_)
      · replace hf := ow_if_t c33 hf
        refine lv_aload_n hx hb dX7_tells_208 rfl (lv_at hl 0 rfl) ?_
        refine ow_getV (ci := 7) (C := RX7) (T := TX7) (N := 3) hx hb hts hown hG hW ow_i10 (by decide) rfl hinX7 1 (by decide) (fk := 2) rfl (hts (.fieldLink RX7 15 "FiftyOneCards$Walk" "stack" "[I") (by decide +kernel)) (v := .ref (ow_ad Z 12)) (ow_vR hW ow_i10.1 ow_i10.2.1 rfl) dX7_tells_209 ?_
        refine lv_iconst (v := 0) hx hb dX7_tells_212 (by decide) ?_
        refine ow_ild (q := 0) hx hb hG hW ow_i12 rfl (by decide) (by decide) dX7_tells_213 ?_
        exact ow_iret hx hb hr hW hf dX7_tells_214 hlocks
      · replace hf := ow_if_f c33 hf
        refine lv_aload_n hx hb dX7_tells_36 rfl (lv_at hl 0 rfl) ?_
        obtain ⟨t37, c37, hf⟩ := ow_op_i hf
        have g37 := ow_tgt7 hW c37
        refine ow_getV (ci := 7) (C := RX7) (T := TX7) (N := 3) hx hb hts hown hG hW ow_i10 (by decide) rfl hinX7 2 (by decide) (fk := 2) rfl (hts (.fieldLink RX7 18 "FiftyOneCards$Walk" "text" "LFiftyOneCards$Text;") (by decide +kernel)) (v := .ref (ow_ad Z t37)) (ow_vS c37) dX7_tells_37 ?_
        refine ow_getVN (ci := 6) (C := RX6) (T := TX6) (N := 4) hx hb hts hown hG hW g37 (by decide) rfl hinX6 0 (by decide) (fk := 2) rfl (ow_nwp hG (.fieldLinkNest RX7 106 "FiftyOneCards$Text" "codes" "[I" "FiftyOneCards") (by decide +kernel)) (v := .ref (ow_ad Z (t37 + 1))) (ow_vR hW g37.1 g37.2.1 (ow_tx0 g37).1) dX7_tells_40 ?_
        refine lv_iload hx hb dX7_tells_43 (lv_at hl 3 rfl) ?_
        obtain ⟨q45, hf⟩ := ow_ck_i hf
        refine ow_ild (q := x4.toNatClampNeg) hx hb hG hW (ow_tx0 g37).2.1 (ow_tx0 g37).2.2 q45 rfl dX7_tells_45 ?_
        refine ow_topi hf (fun x5_46 hf => ?_)
        refine lv_istore (lv' := [(5, .int x5_46), (0, .ref (ow_ad Z 10)), (2, .int x2), (3, .int x3), (4, .int x4)]) hx hb dX7_tells_46 hl (by decide) rfl (fun ls hl => ?_)
        refine lv_iload hx hb dX7_tells_48 (lv_at hl 0 rfl) ?_
        refine lv_bipush (v := 100) hx hb dX7_tells_50 (by decide) ?_
        refine lv_icmp_ge (tgt := 62) hx hb dX7_tells_52 (by decide) (fun c52 => ?_) (fun c52 => ?_)
        · replace hf := ow_if_t c52 hf
          exact hJ62 (L_X7_tells_30 fu fn) ih x2 x3 x4 x5_46 σ _ _ _ hf hW (lv_sub hl [1, 2, 3, 4, 0] rfl)
        · replace hf := ow_if_f c52 hf
          refine lv_iload hx hb dX7_tells_55 (lv_at hl 0 rfl) ?_
          refine lv_bipush (v := 6) hx hb dX7_tells_57 (by decide) ?_
          refine lv_icmp_ge (tgt := 102) hx hb dX7_tells_59 (by decide) (fun c59 => ?_) (fun c59 => ?_)
          · replace hf := ow_if_t c59 hf
            refine lv_iload hx hb dX7_tells_102 (lv_at hl 0 rfl) ?_
            refine lv_bipush (v := 8) hx hb dX7_tells_104 (by decide) ?_
            refine lv_icmp_eq (tgt := 116) hx hb dX7_tells_106 (by decide) (fun c106 => ?_) (fun c106 => ?_)
            · replace hf := ow_if_t c106 hf
              exact hJ116 (L_X7_tells_30 fu fn) ih x2 x3 x4 x5_46 σ _ _ _ hf hW (lv_sub hl [1, 2, 3, 4, 0] rfl)
            · replace hf := ow_if_f c106 hf
              refine lv_iload hx hb dX7_tells_109 (lv_at hl 0 rfl) ?_
              refine lv_bipush (v := 14) hx hb dX7_tells_111 (by decide) ?_
              refine lv_icmp_ne (tgt := 167) hx hb dX7_tells_113 (by decide) (fun c113 => ?_) (fun c113 => ?_)
              · replace hf := ow_if_f c113 hf
                refine lv_iload_n hx hb dX7_tells_167 rfl (lv_at hl 2 rfl) ?_
                refine lv_iconst (v := 2) hx hb dX7_tells_168 (by decide) ?_
                refine lv_icmp_lt (tgt := 202) hx hb dX7_tells_169 (by decide) (fun c169 => ?_) (fun c169 => ?_)
                · replace hf := ow_if_t c169 hf
                  exact hJ202 (L_X7_tells_30 fu fn) ih x2 x3 x4 σ _ _ _ hf hW (lv_sub hl [1, 2, 3, 4] rfl)
                · replace hf := ow_if_f c169 hf
                  refine ow_iinc (d := -1) (lv' := fun z => [(2, .int z), (5, .int x5_46), (0, .ref (ow_ad Z 10)), (3, .int x3), (4, .int x4)]) hx hb hf dX7_tells_172 hl (k := 2) rfl (by decide) (by decide) (fun z => rfl) (fun x2_172 hf ls hl => ?_)
                  refine lv_aload_n hx hb dX7_tells_175 rfl (lv_at hl 2 rfl) ?_
                  refine ow_getV (ci := 7) (C := RX7) (T := TX7) (N := 3) hx hb hts hown hG hW ow_i10 (by decide) rfl hinX7 1 (by decide) (fk := 2) rfl (hts (.fieldLink RX7 15 "FiftyOneCards$Walk" "stack" "[I") (by decide +kernel)) (v := .ref (ow_ad Z 12)) (ow_vR hW ow_i10.1 ow_i10.2.1 rfl) dX7_tells_176 ?_
                  refine lv_iload_n hx hb dX7_tells_179 rfl (lv_at hl 0 rfl) ?_
                  refine lv_iconst (v := 1) hx hb dX7_tells_180 (by decide) ?_
                  refine lv_isub hx hb dX7_tells_181 ?_
                  refine lv_iload hx hb dX7_tells_182 (lv_at hl 1 rfl) ?_
                  refine lv_aload_n hx hb dX7_tells_184 rfl (lv_at hl 2 rfl) ?_
                  refine ow_getV (ci := 7) (C := RX7) (T := TX7) (N := 3) hx hb hts hown hG hW ow_i10 (by decide) rfl hinX7 1 (by decide) (fk := 2) rfl (hts (.fieldLink RX7 15 "FiftyOneCards$Walk" "stack" "[I") (by decide +kernel)) (v := .ref (ow_ad Z 12)) (ow_vR hW ow_i10.1 ow_i10.2.1 rfl) dX7_tells_185 ?_
                  refine lv_iload_n hx hb dX7_tells_188 rfl (lv_at hl 0 rfl) ?_
                  refine lv_iconst (v := 1) hx hb dX7_tells_189 (by decide) ?_
                  refine lv_isub hx hb dX7_tells_190 ?_
                  obtain ⟨q191, hf⟩ := ow_ck_i hf
                  refine ow_ild (q := (x2_172 - (1 : Int32)).toNatClampNeg) hx hb hG hW ow_i12 rfl q191 rfl dX7_tells_191 ?_
                  refine lv_aload_n hx hb dX7_tells_192 rfl (lv_at hl 2 rfl) ?_
                  refine ow_getV (ci := 7) (C := RX7) (T := TX7) (N := 3) hx hb hts hown hG hW ow_i10 (by decide) rfl hinX7 1 (by decide) (fk := 2) rfl (hts (.fieldLink RX7 15 "FiftyOneCards$Walk" "stack" "[I") (by decide +kernel)) (v := .ref (ow_ad Z 12)) (ow_vR hW ow_i10.1 ow_i10.2.1 rfl) dX7_tells_193 ?_
                  refine lv_iload_n hx hb dX7_tells_196 rfl (lv_at hl 0 rfl) ?_
                  obtain ⟨q197, hf⟩ := ow_ck_i hf
                  refine ow_ild (q := x2_172.toNatClampNeg) hx hb hG hW ow_i12 rfl q197 rfl dX7_tells_197 ?_
                  obtain ⟨r_198, σ_198, hc198, hf⟩ := ow_cl_i hf
                  refine ow_calli (va_runS (As := [.int x5_46, .int (σ.1 12 (x2_172 - (1 : Int32)).toNatClampNeg), .int (σ.1 12 x2_172.toNatClampNeg)]) (rest := [.int (x2_172 - (1 : Int32)), .ref (ow_ad Z 12)]) ⟨hx, hb, hml, hown, hts⟩ (c_X7_joined l Z fu x5_46 (σ.1 12 (x2_172 - (1 : Int32)).toNatClampNeg) (σ.1 12 x2_172.toNatClampNeg) σ r_198 σ_198 hc198) (va_cwS 3 hts gX7_tells_X7_joined rfl rfl rfl (by decide +kernel) ⟨Nat.le_of_ble_eq_true rfl, Nat.le_of_ble_eq_true rfl⟩) (ow_preS hG hW) rfl rfl hl.1 rfl (lv_room (Nat.le_of_ble_eq_true rfl)) dX7_tells_198 ⟨Nat.zero_le _, Nat.zero_le _⟩) hW (fun H locs hW => ?_)
                  obtain ⟨q201, hf⟩ := ow_ck_i hf
                  refine ow_ist (q := (x2_172 - (1 : Int32)).toNatClampNeg) hx hb hG hW ow_i12 rfl q201 rfl hf dX7_tells_201 (fun σ_201 H locs hf hW => ?_)
                  exact hJ202 (L_X7_tells_30 fu fn) ih x2_172 x3 x4 σ_201 _ _ _ hf hW (lv_sub hl [2, 0, 3, 4] rfl)
              · replace hf := ow_if_t c113 hf
                exact hJ116 (L_X7_tells_30 fu fn) ih x2 x3 x4 x5_46 σ _ _ _ hf hW (lv_sub hl [1, 2, 3, 4, 0] rfl)
          · replace hf := ow_if_f c59 hf
            exact hJ62 (L_X7_tells_30 fu fn) ih x2 x3 x4 x5_46 σ _ _ _ hf hW (lv_sub hl [1, 2, 3, 4, 0] rfl)
  have hl := lv_entry ([.ref (ow_ad Z 10), .int a1]) (n := 6) (Nat.le_of_ble_eq_true rfl)
  refine W.eq (g2 := F0 m 0 ((lg_sl ([.ref (ow_ad Z 10), .int a1]) ++ List.replicate (6 - (lg_sl ([.ref (ow_ad Z 10), .int a1])).length) Slot.unset).toArray) []) (by rw [hav]; exact lg_entry_eq _ _ _) ?_
  generalize (lg_sl ([.ref (ow_ad Z 10), .int a1]) ++ List.replicate (6 - (lg_sl ([.ref (ow_ad Z 10), .int a1])).length) Slot.unset).toArray = ls at hl ⊢
  have hl : lv_has ls 6 [(0, .ref (ow_ad Z 10)), (1, .int a1)] := hl
  unfold f_X7_tells at hf
  refine lv_aload_n hx hb dX7_tells_0 rfl (lv_at hl 0 rfl) ?_
  refine ow_getV (ci := 7) (C := RX7) (T := TX7) (N := 3) hx hb hts hown hG hW ow_i10 (by decide) rfl hinX7 2 (by decide) (fk := 2) rfl (hts (.fieldLink RX7 18 "FiftyOneCards$Walk" "text" "LFiftyOneCards$Text;") (by decide +kernel)) (v := va_rf ((σ.2.2 10 2).map (ow_ad Z))) rfl dX7_tells_1 ?_
  refine ow_ifnonnull (o := σ.2.2 10 2) (tgt := 9) hx hb dX7_tells_4 (by decide) (fun c4 => ?_) (fun t4 c4 => ?_)
  · replace hf := ow_op_n hf c4
    refine lv_iconst (v := 0) hx hb dX7_tells_7 (by decide) ?_
    exact ow_iret hx hb hr hW hf dX7_tells_8 hlocks
  · replace hf := ow_op_s hf c4
    refine lv_iconst (v := 0) hx hb dX7_tells_9 (by decide) ?_
    refine lv_istore_n (lv' := [(2, .int (0 : Int32)), (0, .ref (ow_ad Z 10)), (1, .int a1)]) hx hb dX7_tells_10 rfl hl (by decide) rfl (fun ls hl => ?_)
    refine lv_aload_n hx hb dX7_tells_11 rfl (lv_at hl 1 rfl) ?_
    have g12 := ow_tgt7 hW c4
    refine ow_getV (ci := 7) (C := RX7) (T := TX7) (N := 3) hx hb hts hown hG hW ow_i10 (by decide) rfl hinX7 2 (by decide) (fk := 2) rfl (hts (.fieldLink RX7 18 "FiftyOneCards$Walk" "text" "LFiftyOneCards$Text;") (by decide +kernel)) (v := .ref (ow_ad Z t4)) (ow_vS c4) dX7_tells_12 ?_
    refine lv_iload_n hx hb dX7_tells_15 rfl (lv_at hl 2 rfl) ?_
    obtain ⟨r_16, σ_16, hc16, hf⟩ := ow_cl_i hf
    refine ow_calli (va_runVN (As := [.int a1]) (rest := []) ⟨hx, hb, hml, hown, hts⟩ (c_X6_endOf l Z fu t4 g12 a1 σ r_16 σ_16 hc16) ⟨va_cnB (host := "FiftyOneCards") 1 hts ggX7_tells_X6_endOf rfl rfl rfl (ow_nwp hG (.methodLinkNest RX7 98 yX6_endOf "FiftyOneCards") (by decide +kernel)) (hts (.initialized RX6) (by decide +kernel)) (by decide +kernel) ⟨Nat.le_of_ble_eq_true rfl, Nat.le_of_ble_eq_true rfl⟩, hts (.instanceMethod yX6_endOf) (by decide +kernel), hts (.selects RX6 yX6_endOf yX6_endOf) (by decide +kernel)⟩ (ow_preV hG hW g12 (by decide) rfl) rfl rfl hl.1 rfl (lv_room (Nat.le_of_ble_eq_true rfl)) dX7_tells_16 ⟨Nat.zero_le _, Nat.zero_le _⟩) hW (fun H locs hW => ?_)
    refine lv_istore_n (lv' := [(3, .int r_16), (2, .int (0 : Int32)), (0, .ref (ow_ad Z 10)), (1, .int a1)]) hx hb dX7_tells_19 rfl hl (by decide) rfl (fun ls hl => ?_)
    refine lv_aload_n hx hb dX7_tells_20 rfl (lv_at hl 2 rfl) ?_
    obtain ⟨t21, c21, hf⟩ := ow_op_i hf
    have g21 := ow_tgt7 hW c21
    refine ow_getV (ci := 7) (C := RX7) (T := TX7) (N := 3) hx hb hts hown hG hW ow_i10 (by decide) rfl hinX7 2 (by decide) (fk := 2) rfl (hts (.fieldLink RX7 18 "FiftyOneCards$Walk" "text" "LFiftyOneCards$Text;") (by decide +kernel)) (v := .ref (ow_ad Z t21)) (ow_vS c21) dX7_tells_21 ?_
    refine lv_iload_n hx hb dX7_tells_24 rfl (lv_at hl 3 rfl) ?_
    obtain ⟨r_25, σ_25, hc25, hf⟩ := ow_cl_i hf
    refine ow_calli (va_runVN (As := [.int a1]) (rest := []) ⟨hx, hb, hml, hown, hts⟩ (c_X6_startOf l Z fu t21 g21 a1 σ_16 r_25 σ_25 hc25) ⟨va_cnB (host := "FiftyOneCards") 1 hts ggX7_tells_X6_startOf rfl rfl rfl (ow_nwp hG (.methodLinkNest RX7 103 yX6_startOf "FiftyOneCards") (by decide +kernel)) (hts (.initialized RX6) (by decide +kernel)) (by decide +kernel) ⟨Nat.le_of_ble_eq_true rfl, Nat.le_of_ble_eq_true rfl⟩, hts (.instanceMethod yX6_startOf) (by decide +kernel), hts (.selects RX6 yX6_startOf yX6_startOf) (by decide +kernel)⟩ (ow_preV hG hW g21 (by decide) rfl) rfl rfl hl.1 rfl (lv_room (Nat.le_of_ble_eq_true rfl)) dX7_tells_25 ⟨Nat.zero_le _, Nat.zero_le _⟩) hW (fun H locs hW => ?_)
    refine lv_istore (lv' := [(4, .int r_25), (3, .int r_16), (2, .int (0 : Int32)), (0, .ref (ow_ad Z 10)), (1, .int a1)]) hx hb dX7_tells_28 hl (by decide) rfl (fun ls hl => ?_)
    exact hJ30 fu (0 : Int32) r_16 r_25 σ_25 _ _ _ hf hW (lv_sub hl [3, 2, 1, 0] rfl)
set_option maxHeartbeats 40000000 in
set_option maxRecDepth 100000 in
theorem c_X7_pass (l : Launch) (Z : ow_Z) (fu : Nat) (a1 : Nat) (ha1 : ow_in 0 56 a1 0) (a2 : Int32) (a3 : Int32) (σ : ow_S) (σr : ow_S) (hf : f_X7_pass fu a1 a2 a3 σ = some σr) : Met l yX7_pass wsX7_pass { frames := 3, cells := 0, slots := 0, locals := 107 } (ow_Pc Z 0 56 [.ref (ow_ad Z 10), .ref (ow_ad Z a1), .int a2, .int a3] σ) (ow_Qv Z 0 56 σr) 0 0 (ow_A Z 0 56) := by
  refine Met.ofW (cc := cX7_pass) (maxL := 6) (ret := none) (by decide) rfl ?_
  intro p e s m args below meth c s₁ B hml hv
  obtain ⟨hav, hB⟩ := hv
  obtain ⟨hG, hW⟩ := ow_begin hB
  have hx := B.exec
  have hb := B.bytes
  have hr := B.returns
  have hts := atoms_spec (ws := wsX7_pass) B.pre
  have hown : s.vm.findClass RX7 = some m.cls := findClass_of_methodNamed B.named
  have hlocks := B.notSynchronized
  have hl := lv_entry ([.ref (ow_ad Z 10), .ref (ow_ad Z a1), .int a2, .int a3]) (n := 6) (Nat.le_of_ble_eq_true rfl)
  refine W.eq (g2 := F0 m 0 ((lg_sl ([.ref (ow_ad Z 10), .ref (ow_ad Z a1), .int a2, .int a3]) ++ List.replicate (6 - (lg_sl ([.ref (ow_ad Z 10), .ref (ow_ad Z a1), .int a2, .int a3])).length) Slot.unset).toArray) []) (by rw [hav]; exact lg_entry_eq _ _ _) ?_
  generalize (lg_sl ([.ref (ow_ad Z 10), .ref (ow_ad Z a1), .int a2, .int a3]) ++ List.replicate (6 - (lg_sl ([.ref (ow_ad Z 10), .ref (ow_ad Z a1), .int a2, .int a3])).length) Slot.unset).toArray = ls at hl ⊢
  have hl : lv_has ls 6 [(0, .ref (ow_ad Z 10)), (1, .ref (ow_ad Z a1)), (2, .int a2), (3, .int a3)] := hl
  unfold f_X7_pass at hf
  refine lv_aload_n hx hb dX7_pass_0 rfl (lv_at hl 1 rfl) ?_
  refine lv_iload_n hx hb dX7_pass_1 rfl (lv_at hl 3 rfl) ?_
  obtain ⟨r_2, σ_2, hc2, hf⟩ := ow_cl_i hf
  refine ow_callz (va_runVN (As := [.int a3]) (rest := []) ⟨hx, hb, hml, hown, hts⟩ (c_X0_sees l Z fu a1 ha1 a3 σ r_2 σ_2 hc2) ⟨va_cnB (host := "FiftyOneCards") 1 hts ggX7_pass_X0_sees rfl rfl rfl (ow_nwp hG (.methodLinkNest RX7 47 yX0_sees "FiftyOneCards") (by decide +kernel)) (hts (.initialized RX0) (by decide +kernel)) (by decide +kernel) ⟨Nat.le_of_ble_eq_true rfl, Nat.le_of_ble_eq_true rfl⟩, hts (.instanceMethod yX0_sees) (by decide +kernel), hts (.selects RX0 yX0_sees yX0_sees) (by decide +kernel)⟩ (ow_preV hG hW ha1 (by decide) rfl) rfl rfl hl.1 rfl (lv_room (Nat.le_of_ble_eq_true rfl)) dX7_pass_2 ⟨Nat.zero_le _, Nat.zero_le _⟩) hW (fun b2 H locs hW => ?_)
  refine lv_if_ne (tgt := 9) hx hb dX7_pass_5 (by decide) (fun c5 => ?_) (fun c5 => ?_)
  · replace hf := ow_if_f c5 hf
    refine lv_aload_n hx hb dX7_pass_9 rfl (lv_at hl 0 rfl) ?_
    refine lv_iload_n hx hb dX7_pass_10 rfl (lv_at hl 2 rfl) ?_
    refine lv_iload_n hx hb dX7_pass_11 rfl (lv_at hl 3 rfl) ?_
    obtain ⟨σ_12, hc12, hf⟩ := ow_cv_i hf
    refine ow_callv (va_runV (As := [.int a2, .int a3]) (rest := []) ⟨hx, hb, hml, hown, hts⟩ (c_X7_meet l Z fu a2 a3 σ_2 σ_12  hc12) (cwV 2 hts gX7_pass_X7_meet rfl rfl rfl (by decide +kernel) ⟨Nat.le_of_ble_eq_true rfl, Nat.le_of_ble_eq_true rfl⟩) (ow_preV hG hW ow_i10 (by decide) rfl) rfl rfl hl.1 rfl (lv_room (Nat.le_of_ble_eq_true rfl)) dX7_pass_12 ⟨Nat.zero_le _, Nat.zero_le _⟩) hW (fun H locs hW => ?_)
    refine lv_aload_n hx hb dX7_pass_15 rfl (lv_at hl 0 rfl) ?_
    refine lv_iconst (v := 0) hx hb dX7_pass_16 (by decide) ?_
    obtain ⟨r_17, σ_17, hc17, hf⟩ := ow_cl_i hf
    refine ow_calli (va_runV (As := [.int (0 : Int32)]) (rest := []) ⟨hx, hb, hml, hown, hts⟩ (c_X7_tells l Z fu (0 : Int32) σ_12 r_17 σ_17 hc17) (cwV 1 hts gX7_pass_X7_tells rfl rfl rfl (by decide +kernel) ⟨Nat.le_of_ble_eq_true rfl, Nat.le_of_ble_eq_true rfl⟩) (ow_preV hG hW ow_i10 (by decide) rfl) rfl rfl hl.1 rfl (lv_room (Nat.le_of_ble_eq_true rfl)) dX7_pass_17 ⟨Nat.zero_le _, Nat.zero_le _⟩) hW (fun H locs hW => ?_)
    refine lv_istore (lv' := [(4, .int r_17), (0, .ref (ow_ad Z 10)), (1, .ref (ow_ad Z a1)), (2, .int a2), (3, .int a3)]) hx hb dX7_pass_20 hl (by decide) rfl (fun ls hl => ?_)
    refine lv_aload_n hx hb dX7_pass_22 rfl (lv_at hl 1 rfl) ?_
    refine lv_iconst (v := 1) hx hb dX7_pass_23 (by decide) ?_
    obtain ⟨r_24, σ_24, hc24, hf⟩ := ow_cl_i hf
    refine ow_calli (va_runV (As := [.int (1 : Int32)]) (rest := []) ⟨hx, hb, hml, hown, hts⟩ (c_X7_tells l Z fu (1 : Int32) σ_17 r_24 σ_24 hc24) (cwV 1 hts gX7_pass_X7_tells rfl rfl rfl (by decide +kernel) ⟨Nat.le_of_ble_eq_true rfl, Nat.le_of_ble_eq_true rfl⟩) (ow_preV hG hW ow_i10 (by decide) rfl) rfl rfl hl.1 rfl (lv_room (Nat.le_of_ble_eq_true rfl)) dX7_pass_24 ⟨Nat.zero_le _, Nat.zero_le _⟩) hW (fun H locs hW => ?_)
    refine lv_istore (lv' := [(5, .int r_24), (4, .int r_17), (0, .ref (ow_ad Z 10)), (1, .ref (ow_ad Z a1)), (2, .int a2), (3, .int a3)]) hx hb dX7_pass_27 hl (by decide) rfl (fun ls hl => ?_)
    refine lv_aload_n hx hb dX7_pass_29 rfl (lv_at hl 2 rfl) ?_
    refine lv_aload_n hx hb dX7_pass_30 rfl (lv_at hl 3 rfl) ?_
    refine lv_aload_n hx hb dX7_pass_31 rfl (lv_at hl 3 rfl) ?_
    refine lv_iload hx hb dX7_pass_32 (lv_at hl 1 rfl) ?_
    refine lv_iload_n hx hb dX7_pass_34 rfl (lv_at hl 5 rfl) ?_
    obtain ⟨r_35, σ_35, hc35, hf⟩ := ow_cl_i hf
    refine ow_calli (va_runVN (As := [.int r_17, .int a3]) (rest := [.ref (ow_ad Z a1), .ref (ow_ad Z 10)]) ⟨hx, hb, hml, hown, hts⟩ (c_X0_keepsFirst l Z fu a1 ha1 r_17 a3 σ_24 r_35 σ_35 hc35) ⟨va_cnB (host := "FiftyOneCards") 2 hts ggX7_pass_X0_keepsFirst rfl rfl rfl (ow_nwp hG (.methodLinkNest RX7 57 yX0_keepsFirst "FiftyOneCards") (by decide +kernel)) (hts (.initialized RX0) (by decide +kernel)) (by decide +kernel) ⟨Nat.le_of_ble_eq_true rfl, Nat.le_of_ble_eq_true rfl⟩, hts (.instanceMethod yX0_keepsFirst) (by decide +kernel), hts (.selects RX0 yX0_keepsFirst yX0_keepsFirst) (by decide +kernel)⟩ (ow_preV hG hW ha1 (by decide) rfl) rfl rfl hl.1 rfl (lv_room (Nat.le_of_ble_eq_true rfl)) dX7_pass_35 ⟨Nat.zero_le _, Nat.zero_le _⟩) hW (fun H locs hW => ?_)
    obtain ⟨r_38, σ_38, hc38, hf⟩ := ow_cl_i hf
    refine ow_calli (va_runVN (As := [.int r_35]) (rest := [.ref (ow_ad Z 10)]) ⟨hx, hb, hml, hown, hts⟩ (c_X0_lowest l Z fu a1 ha1 r_35 σ_35 r_38 σ_38 hc38) ⟨va_cnB (host := "FiftyOneCards") 1 hts ggX7_pass_X0_lowest rfl rfl rfl (ow_nwp hG (.methodLinkNest RX7 35 yX0_lowest "FiftyOneCards") (by decide +kernel)) (hts (.initialized RX0) (by decide +kernel)) (by decide +kernel) ⟨Nat.le_of_ble_eq_true rfl, Nat.le_of_ble_eq_true rfl⟩, hts (.instanceMethod yX0_lowest) (by decide +kernel), hts (.selects RX0 yX0_lowest yX0_lowest) (by decide +kernel)⟩ (ow_preV hG hW ha1 (by decide) rfl) rfl rfl hl.1 rfl (lv_room (Nat.le_of_ble_eq_true rfl)) dX7_pass_38 ⟨Nat.zero_le _, Nat.zero_le _⟩) hW (fun H locs hW => ?_)
    refine lv_aload_n hx hb dX7_pass_41 rfl (lv_at hl 3 rfl) ?_
    refine lv_iload hx hb dX7_pass_42 (lv_at hl 0 rfl) ?_
    obtain ⟨r_44, σ_44, hc44, hf⟩ := ow_cl_i hf
    refine ow_calli (va_runVN (As := [.int r_24]) (rest := [.int r_38, .ref (ow_ad Z 10)]) ⟨hx, hb, hml, hown, hts⟩ (c_X0_lowest l Z fu a1 ha1 r_24 σ_38 r_44 σ_44 hc44) ⟨va_cnB (host := "FiftyOneCards") 1 hts ggX7_pass_X0_lowest rfl rfl rfl (ow_nwp hG (.methodLinkNest RX7 35 yX0_lowest "FiftyOneCards") (by decide +kernel)) (hts (.initialized RX0) (by decide +kernel)) (by decide +kernel) ⟨Nat.le_of_ble_eq_true rfl, Nat.le_of_ble_eq_true rfl⟩, hts (.instanceMethod yX0_lowest) (by decide +kernel), hts (.selects RX0 yX0_lowest yX0_lowest) (by decide +kernel)⟩ (ow_preV hG hW ha1 (by decide) rfl) rfl rfl hl.1 rfl (lv_room (Nat.le_of_ble_eq_true rfl)) dX7_pass_44 ⟨Nat.zero_le _, Nat.zero_le _⟩) hW (fun H locs hW => ?_)
    obtain ⟨σ_47, hc47, hf⟩ := ow_cv_i hf
    refine ow_callv (va_runV (As := [.int r_38, .int r_44]) (rest := []) ⟨hx, hb, hml, hown, hts⟩ (c_X7_keepBoth l Z fu r_38 r_44 σ_44 σ_47  hc47) (cwV 2 hts gX7_pass_X7_keepBoth rfl rfl rfl (by decide +kernel) ⟨Nat.le_of_ble_eq_true rfl, Nat.le_of_ble_eq_true rfl⟩) (ow_preV hG hW ow_i10 (by decide) rfl) rfl rfl hl.1 rfl (lv_room (Nat.le_of_ble_eq_true rfl)) dX7_pass_47 ⟨Nat.zero_le _, Nat.zero_le _⟩) hW (fun H locs hW => ?_)
    exact ow_vret hx hb hr hW hf dX7_pass_50 hlocks
  · replace hf := ow_if_t c5 hf
    exact ow_vret hx hb hr hW hf dX7_pass_8 hlocks
set_option maxHeartbeats 40000000 in
set_option maxRecDepth 100000 in
theorem c_X7_goAlong (l : Launch) (Z : ow_Z) (fu : Nat) (a1 : Nat) (ha1 : ow_in 0 56 a1 0) (a2 : Nat) (ha2 : ow_in 0 56 a2 4) (a3 : Int32) (σ : ow_S) (σr : ow_S) (hf : f_X7_goAlong fu a1 a2 a3 σ = some σr) : Met l yX7_goAlong wsX7_goAlong { frames := 4, cells := 0, slots := 0, locals := 132 } (ow_Pc Z 0 56 [.ref (ow_ad Z 10), .ref (ow_ad Z a1), .ref (ow_ad Z a2), .int a3] σ) (ow_Qv Z 0 56 σr) 0 0 (ow_A Z 0 56) := by
  refine Met.ofW (cc := cX7_goAlong) (maxL := 5) (ret := none) (by decide) rfl ?_
  intro p e s m args below meth c s₁ B hml hv
  obtain ⟨hav, hB⟩ := hv
  obtain ⟨hG, hW⟩ := ow_begin hB
  have hx := B.exec
  have hb := B.bytes
  have hr := B.returns
  have hts := atoms_spec (ws := wsX7_goAlong) B.pre
  have hown : s.vm.findClass RX7 = some m.cls := findClass_of_methodNamed B.named
  have hlocks := B.notSynchronized
  have hinX4 : ∀ w ∈ wsX40, w ∈ wsX7_goAlong := by decide +kernel
  have hJ3 : ∀ (fn : Nat), ∀ (r1 : Nat) (hr1 : ow_in 0 56 r1 0) (r2 : Nat) (hr2 : ow_in 0 56 r2 4) (x3 : Int32) (x4 : Int32) (σ : ow_S) (H : Heap) (locs : List Loc) (ls : Array Slot), L_X7_goAlong_3 fu fn r1 r2 x3 x4 σ = some σr → ow_Wd Z 0 56 σ s H locs → lv_has ls 5 [(0, .ref (ow_ad Z 10)), (1, .ref (ow_ad Z r1)), (2, .ref (ow_ad Z r2)), (3, .int x3), (4, .int x4)] → W p l e (headSpec wsX7_goAlong { frames := 4, cells := 0, slots := 0, locals := 132 }).room s m args below meth c H locs 0 0 (MQ below (ow_Qv Z 0 56 σr) args s 0 0 (ow_A Z 0 56)) (F0 m 3 ls []) := by
    intro fn
    induction fn with
    | zero => intro r1 hr1 r2 hr2 x3 x4 σ H locs ls hf hW hl; simp [L_X7_goAlong_3] at hf
    | succ fn ih =>
      intro r1 hr1 r2 hr2 x3 x4 σ H locs ls hf hW hl
      rw [L_X7_goAlong_3] at hf
      refine lv_iload hx hb dX7_goAlong_3 (lv_at hl 4 rfl) ?_
      refine lv_iload_n hx hb dX7_goAlong_5 rfl (lv_at hl 3 rfl) ?_
      refine lv_icmp_ge (tgt := 38) hx hb dX7_goAlong_6 (by decide) (fun c6 => ?_) (fun c6 => ?_)
      · replace hf := ow_if_t c6 hf
        exact ow_vret hx hb hr hW hf dX7_goAlong_38 hlocks
      · replace hf := ow_if_f c6 hf
        refine lv_iload hx hb dX7_goAlong_9 (lv_at hl 4 rfl) ?_
        refine lv_aload_n hx hb dX7_goAlong_11 rfl (lv_at hl 2 rfl) ?_
        refine ow_getVN (ci := 4) (C := RX4) (T := TX4) (N := 2) hx hb hts hown hG hW hr2 (by decide) rfl hinX4 1 (by decide) (fk := 0) rfl (ow_nwp hG (.fieldLinkNest RX7 61 "FiftyOneCards$Row" "size" "I" "FiftyOneCards") (by decide +kernel)) (v := .int (σ.1 r2 1)) rfl dX7_goAlong_12 ?_
        refine lv_icmp_ge (tgt := 38) hx hb dX7_goAlong_15 (by decide) (fun c15 => ?_) (fun c15 => ?_)
        · replace hf := ow_if_t c15 hf
          exact ow_vret hx hb hr hW hf dX7_goAlong_38 hlocks
        · replace hf := ow_if_f c15 hf
          refine lv_aload_n hx hb dX7_goAlong_18 rfl (lv_at hl 0 rfl) ?_
          refine lv_aload_n hx hb dX7_goAlong_19 rfl (lv_at hl 1 rfl) ?_
          refine lv_aload_n hx hb dX7_goAlong_20 rfl (lv_at hl 2 rfl) ?_
          refine ow_getVN (ci := 4) (C := RX4) (T := TX4) (N := 2) hx hb hts hown hG hW hr2 (by decide) rfl hinX4 0 (by decide) (fk := 2) rfl (ow_nwp hG (.fieldLinkNest RX7 66 "FiftyOneCards$Row" "cards" "[I" "FiftyOneCards") (by decide +kernel)) (v := .ref (ow_ad Z (r2 + 1))) (ow_vR hW hr2.1 hr2.2.1 (ow_row hr2).1) dX7_goAlong_21 ?_
          refine lv_iload hx hb dX7_goAlong_24 (lv_at hl 4 rfl) ?_
          obtain ⟨q26, hf⟩ := ow_ck_i hf
          refine ow_ild (q := x4.toNatClampNeg) hx hb hG hW (ow_row hr2).2.1 (ow_row hr2).2.2 q26 rfl dX7_goAlong_26 ?_
          refine lv_iload hx hb dX7_goAlong_27 (lv_at hl 4 rfl) ?_
          obtain ⟨σ_29, hc29, hf⟩ := ow_cv_i hf
          refine ow_callv (va_runV (As := [.ref (ow_ad Z r1), .int (σ.1 (r2 + 1) x4.toNatClampNeg), .int x4]) (rest := []) ⟨hx, hb, hml, hown, hts⟩ (c_X7_pass l Z fu r1 hr1 (σ.1 (r2 + 1) x4.toNatClampNeg) x4 σ σ_29  hc29) (cwV 3 hts gX7_goAlong_X7_pass rfl rfl rfl (by decide +kernel) ⟨Nat.le_of_ble_eq_true rfl, Nat.le_of_ble_eq_true rfl⟩) (ow_preV hG hW ow_i10 (by decide) rfl) rfl rfl hl.1 rfl (lv_room (Nat.le_of_ble_eq_true rfl)) dX7_goAlong_29 ⟨Nat.zero_le _, Nat.zero_le _⟩) hW (fun H locs hW => ?_)
          refine ow_iinc (d := 1) (lv' := fun z => [(4, .int z), (0, .ref (ow_ad Z 10)), (1, .ref (ow_ad Z r1)), (2, .ref (ow_ad Z r2)), (3, .int x3)]) hx hb hf dX7_goAlong_32 hl (k := 4) rfl (by decide) (by decide) (fun z => rfl) (fun x4_32 hf ls hl => ?_)
          refine lv_goto (tgt := 3) hx hb dX7_goAlong_35 (by decide) ?_
          exact ih r1 hr1 r2 hr2 x3 x4_32 σ_29 _ _ _ hf hW (lv_sub hl [1, 2, 3, 4, 0] rfl)
  have hl := lv_entry ([.ref (ow_ad Z 10), .ref (ow_ad Z a1), .ref (ow_ad Z a2), .int a3]) (n := 5) (Nat.le_of_ble_eq_true rfl)
  refine W.eq (g2 := F0 m 0 ((lg_sl ([.ref (ow_ad Z 10), .ref (ow_ad Z a1), .ref (ow_ad Z a2), .int a3]) ++ List.replicate (5 - (lg_sl ([.ref (ow_ad Z 10), .ref (ow_ad Z a1), .ref (ow_ad Z a2), .int a3])).length) Slot.unset).toArray) []) (by rw [hav]; exact lg_entry_eq _ _ _) ?_
  generalize (lg_sl ([.ref (ow_ad Z 10), .ref (ow_ad Z a1), .ref (ow_ad Z a2), .int a3]) ++ List.replicate (5 - (lg_sl ([.ref (ow_ad Z 10), .ref (ow_ad Z a1), .ref (ow_ad Z a2), .int a3])).length) Slot.unset).toArray = ls at hl ⊢
  have hl : lv_has ls 5 [(0, .ref (ow_ad Z 10)), (1, .ref (ow_ad Z a1)), (2, .ref (ow_ad Z a2)), (3, .int a3)] := hl
  unfold f_X7_goAlong at hf
  refine lv_iconst (v := 0) hx hb dX7_goAlong_0 (by decide) ?_
  refine lv_istore (lv' := [(4, .int (0 : Int32)), (0, .ref (ow_ad Z 10)), (1, .ref (ow_ad Z a1)), (2, .ref (ow_ad Z a2)), (3, .int a3)]) hx hb dX7_goAlong_1 hl (by decide) rfl (fun ls hl => ?_)
  exact hJ3 fu a1 ha1 a2 ha2 a3 (0 : Int32) σ _ _ _ hf hW (lv_sub hl [1, 2, 3, 4, 0] rfl)
set_option maxHeartbeats 40000000 in
set_option maxRecDepth 100000 in
theorem c_X7_tellsBounded (l : Launch) (Z : ow_Z) (fu : Nat) (a1 : Int32) (σ : ow_S) (rr : Int32) (σr : ow_S) (hf : f_X7_tellsBounded fu a1 σ = some (rr, σr)) : Met l yX7_tellsBounded wsX7_tellsBounded { frames := 3, cells := 0, slots := 0, locals := 107 } (ow_Pc Z 0 56 [.ref (ow_ad Z 10), .int a1] σ) (ow_Qi Z 0 56 rr σr) 0 0 (ow_A Z 0 56) := by
  refine Met.ofW (cc := cX7_tellsBounded) (maxL := 2) (ret := (some .int)) (by decide) rfl ?_
  intro p e s m args below meth c s₁ B hml hv
  obtain ⟨hav, hB⟩ := hv
  obtain ⟨hG, hW⟩ := ow_begin hB
  have hx := B.exec
  have hb := B.bytes
  have hr := B.returns
  have hts := atoms_spec (ws := wsX7_tellsBounded) B.pre
  have hown : s.vm.findClass RX7 = some m.cls := findClass_of_methodNamed B.named
  have hlocks := B.notSynchronized
  have hl := lv_entry ([.ref (ow_ad Z 10), .int a1]) (n := 2) (Nat.le_of_ble_eq_true rfl)
  refine W.eq (g2 := F0 m 0 ((lg_sl ([.ref (ow_ad Z 10), .int a1]) ++ List.replicate (2 - (lg_sl ([.ref (ow_ad Z 10), .int a1])).length) Slot.unset).toArray) []) (by rw [hav]; exact lg_entry_eq _ _ _) ?_
  generalize (lg_sl ([.ref (ow_ad Z 10), .int a1]) ++ List.replicate (2 - (lg_sl ([.ref (ow_ad Z 10), .int a1])).length) Slot.unset).toArray = ls at hl ⊢
  have hl : lv_has ls 2 [(0, .ref (ow_ad Z 10)), (1, .int a1)] := hl
  unfold f_X7_tellsBounded at hf
  refine lv_ldc (v := -1000000) hx hb hown (hts (.constant RX7 88 (-1000000)) (by decide +kernel)) dX7_tellsBounded_0 ?_
  refine lv_ldc (v := 1000000) hx hb hown (hts (.constant RX7 89 (1000000)) (by decide +kernel)) dX7_tellsBounded_2 ?_
  refine lv_aload_n hx hb dX7_tellsBounded_4 rfl (lv_at hl 0 rfl) ?_
  refine lv_iload_n hx hb dX7_tellsBounded_5 rfl (lv_at hl 1 rfl) ?_
  obtain ⟨r_6, σ_6, hc6, hf⟩ := ow_cl_i hf
  refine ow_calli (va_runV (As := [.int a1]) (rest := [.int (1000000 : Int32), .int (-1000000 : Int32)]) ⟨hx, hb, hml, hown, hts⟩ (c_X7_tells l Z fu a1 σ r_6 σ_6 hc6) (cwV 1 hts gX7_tellsBounded_X7_tells rfl rfl rfl (by decide +kernel) ⟨Nat.le_of_ble_eq_true rfl, Nat.le_of_ble_eq_true rfl⟩) (ow_preV hG hW ow_i10 (by decide) rfl) rfl rfl hl.1 rfl (lv_room (Nat.le_of_ble_eq_true rfl)) dX7_tellsBounded_6 ⟨Nat.zero_le _, Nat.zero_le _⟩) hW (fun H locs hW => ?_)
  refine ow_r_min hx hb (hml.trans hl.1.symm) hown (hts (.methodLink RX7 90 Lib.Math.min.name) (by decide +kernel)) (hts (.static Lib.Math.min.name) (by decide +kernel)) (hts (.initialized "java/lang/Math") (by decide +kernel)) (hts (.code Lib.Math.min.name Lib.Math.min.code 2 (some .int)) (by decide +kernel)) (Nat.le_of_ble_eq_true rfl) (Nat.le_of_ble_eq_true rfl) (Nat.zero_le _) (Nat.zero_le _) dX7_tellsBounded_9 ?_
  refine ow_r_max hx hb (hml.trans hl.1.symm) hown (hts (.methodLink RX7 95 Lib.Math.max.name) (by decide +kernel)) (hts (.static Lib.Math.max.name) (by decide +kernel)) (hts (.initialized "java/lang/Math") (by decide +kernel)) (hts (.code Lib.Math.max.name Lib.Math.max.code 2 (some .int)) (by decide +kernel)) (Nat.le_of_ble_eq_true rfl) (Nat.le_of_ble_eq_true rfl) (Nat.zero_le _) (Nat.zero_le _) dX7_tellsBounded_12 ?_
  exact ow_iret hx hb hr hW hf dX7_tellsBounded_15 hlocks
set_option maxHeartbeats 40000000 in
set_option maxRecDepth 100000 in
theorem c_X7_says (l : Launch) (Z : ow_Z) (fu : Nat) (a1 : Nat) (ha1 : ow_in 0 56 a1 0) (a2 : Nat) (ha2 : ow_in 0 56 a2 4) (a3 : Nat) (ha3 : ow_in 0 56 a3 6) (a4 : Int32) (σ : ow_S) (rr : Int32) (σr : ow_S) (hf : f_X7_says fu a1 a2 a3 a4 σ = some (rr, σr)) : Met l yX7_says wsX7_says { frames := 5, cells := 0, slots := 0, locals := 156 } (ow_Pc Z 0 56 [.ref (ow_ad Z 10), .ref (ow_ad Z a1), .ref (ow_ad Z a2), .ref (ow_ad Z a3), .int a4] σ) (ow_Qi Z 0 56 rr σr) 0 0 (ow_A Z 0 56) := by
  refine Met.ofW (cc := cX7_says) (maxL := 6) (ret := (some .int)) (by decide) rfl ?_
  intro p e s m args below meth c s₁ B hml hv
  obtain ⟨hav, hB⟩ := hv
  obtain ⟨hG, hW⟩ := ow_begin hB
  have hx := B.exec
  have hb := B.bytes
  have hr := B.returns
  have hts := atoms_spec (ws := wsX7_says) B.pre
  have hown : s.vm.findClass RX7 = some m.cls := findClass_of_methodNamed B.named
  have hlocks := B.notSynchronized
  have hinX4 : ∀ w ∈ wsX40, w ∈ wsX7_says := by decide +kernel
  have hJ11 : ∀ (fn : Nat), ∀ (r1 : Nat) (hr1 : ow_in 0 56 r1 0) (r2 : Nat) (hr2 : ow_in 0 56 r2 4) (x5 : Int32) (σ : ow_S) (H : Heap) (locs : List Loc) (ls : Array Slot), L_X7_says_11 fu fn r1 r2 x5 σ = some (rr, σr) → ow_Wd Z 0 56 σ s H locs → lv_has ls 6 [(0, .ref (ow_ad Z 10)), (1, .ref (ow_ad Z r1)), (2, .ref (ow_ad Z r2)), (5, .int x5)] → W p l e (headSpec wsX7_says { frames := 5, cells := 0, slots := 0, locals := 156 }).room s m args below meth c H locs 0 0 (MQ below (ow_Qi Z 0 56 rr σr) args s 0 0 (ow_A Z 0 56)) (F0 m 11 ls []) := by
    intro fn
    induction fn with
    | zero => intro r1 hr1 r2 hr2 x5 σ H locs ls hf hW hl; simp [L_X7_says_11] at hf
    | succ fn ih =>
      intro r1 hr1 r2 hr2 x5 σ H locs ls hf hW hl
      rw [L_X7_says_11] at hf
      refine lv_iload hx hb dX7_says_11 (lv_at hl 3 rfl) ?_
      refine lv_aload_n hx hb dX7_says_13 rfl (lv_at hl 1 rfl) ?_
      obtain ⟨r_14, σ_14, hc14, hf⟩ := ow_cl_i hf
      refine ow_calli (va_runVN (As := []) (rest := [.int x5]) ⟨hx, hb, hml, hown, hts⟩ (c_X0_goings l Z fu r1 hr1 σ r_14 σ_14 hc14) ⟨va_cnB (host := "FiftyOneCards") 0 hts ggX7_says_X0_goings rfl rfl rfl (ow_nwp hG (.methodLinkNest RX7 77 yX0_goings "FiftyOneCards") (by decide +kernel)) (hts (.initialized RX0) (by decide +kernel)) (by decide +kernel) ⟨Nat.le_of_ble_eq_true rfl, Nat.le_of_ble_eq_true rfl⟩, hts (.instanceMethod yX0_goings) (by decide +kernel), hts (.selects RX0 yX0_goings yX0_goings) (by decide +kernel)⟩ (ow_preV hG hW hr1 (by decide) rfl) rfl rfl hl.1 rfl (lv_room (Nat.le_of_ble_eq_true rfl)) dX7_says_14 ⟨Nat.zero_le _, Nat.zero_le _⟩) hW (fun H locs hW => ?_)
      refine lv_icmp_ge (tgt := 36) hx hb dX7_says_17 (by decide) (fun c17 => ?_) (fun c17 => ?_)
      · replace hf := ow_if_t c17 hf
        refine lv_aload_n hx hb dX7_says_36 rfl (lv_at hl 0 rfl) ?_
        refine lv_iconst (v := 0) hx hb dX7_says_37 (by decide) ?_
        refine lv_aload_n hx hb dX7_says_38 rfl (lv_at hl 2 rfl) ?_
        refine ow_getVN (ci := 4) (C := RX4) (T := TX4) (N := 2) hx hb hts hown hG hW hr2 (by decide) rfl hinX4 1 (by decide) (fk := 0) rfl (ow_nwp hG (.fieldLinkNest RX7 61 "FiftyOneCards$Row" "size" "I" "FiftyOneCards") (by decide +kernel)) (v := .int (σ_14.1 r2 1)) rfl dX7_says_39 ?_
        obtain ⟨σ_42, hc42, hf⟩ := ow_cv_i hf
        refine ow_callv (va_runV (As := [.int (0 : Int32), .int (σ_14.1 r2 1)]) (rest := []) ⟨hx, hb, hml, hown, hts⟩ (c_X7_meet l Z fu (0 : Int32) (σ_14.1 r2 1) σ_14 σ_42  hc42) (cwV 2 hts gX7_says_X7_meet rfl rfl rfl (by decide +kernel) ⟨Nat.le_of_ble_eq_true rfl, Nat.le_of_ble_eq_true rfl⟩) (ow_preV hG hW ow_i10 (by decide) rfl) rfl rfl hl.1 rfl (lv_room (Nat.le_of_ble_eq_true rfl)) dX7_says_42 ⟨Nat.zero_le _, Nat.zero_le _⟩) hW (fun H locs hW => ?_)
        refine lv_aload_n hx hb dX7_says_45 rfl (lv_at hl 0 rfl) ?_
        refine lv_iconst (v := 2) hx hb dX7_says_46 (by decide) ?_
        obtain ⟨r_47, σ_47, hc47, hf⟩ := ow_cl_i hf
        refine ow_calli (va_runV (As := [.int (2 : Int32)]) (rest := []) ⟨hx, hb, hml, hown, hts⟩ (c_X7_tellsBounded l Z fu (2 : Int32) σ_42 r_47 σ_47 hc47) (cwV 1 hts gX7_says_X7_tellsBounded rfl rfl rfl (by decide +kernel) ⟨Nat.le_of_ble_eq_true rfl, Nat.le_of_ble_eq_true rfl⟩) (ow_preV hG hW ow_i10 (by decide) rfl) rfl rfl hl.1 rfl (lv_room (Nat.le_of_ble_eq_true rfl)) dX7_says_47 ⟨Nat.zero_le _, Nat.zero_le _⟩) hW (fun H locs hW => ?_)
        exact ow_iret hx hb hr hW hf dX7_says_50 hlocks
      · replace hf := ow_if_f c17 hf
        refine lv_aload_n hx hb dX7_says_20 rfl (lv_at hl 0 rfl) ?_
        refine lv_aload_n hx hb dX7_says_21 rfl (lv_at hl 1 rfl) ?_
        refine lv_aload_n hx hb dX7_says_22 rfl (lv_at hl 2 rfl) ?_
        refine lv_aload_n hx hb dX7_says_23 rfl (lv_at hl 2 rfl) ?_
        refine ow_getVN (ci := 4) (C := RX4) (T := TX4) (N := 2) hx hb hts hown hG hW hr2 (by decide) rfl hinX4 1 (by decide) (fk := 0) rfl (ow_nwp hG (.fieldLinkNest RX7 61 "FiftyOneCards$Row" "size" "I" "FiftyOneCards") (by decide +kernel)) (v := .int (σ_14.1 r2 1)) rfl dX7_says_24 ?_
        obtain ⟨σ_27, hc27, hf⟩ := ow_cv_i hf
        refine ow_callv (va_runV (As := [.ref (ow_ad Z r1), .ref (ow_ad Z r2), .int (σ_14.1 r2 1)]) (rest := []) ⟨hx, hb, hml, hown, hts⟩ (c_X7_goAlong l Z fu r1 hr1 r2 hr2 (σ_14.1 r2 1) σ_14 σ_27  hc27) (cwV 3 hts gX7_says_X7_goAlong rfl rfl rfl (by decide +kernel) ⟨Nat.le_of_ble_eq_true rfl, Nat.le_of_ble_eq_true rfl⟩) (ow_preV hG hW ow_i10 (by decide) rfl) rfl rfl hl.1 rfl (lv_room (Nat.le_of_ble_eq_true rfl)) dX7_says_27 ⟨Nat.zero_le _, Nat.zero_le _⟩) hW (fun H locs hW => ?_)
        refine ow_iinc (d := 1) (lv' := fun z => [(5, .int z), (0, .ref (ow_ad Z 10)), (1, .ref (ow_ad Z r1)), (2, .ref (ow_ad Z r2))]) hx hb hf dX7_says_30 hl (k := 3) rfl (by decide) (by decide) (fun z => rfl) (fun x5_30 hf ls hl => ?_)
        refine lv_goto (tgt := 11) hx hb dX7_says_33 (by decide) ?_
        exact ih r1 hr1 r2 hr2 x5_30 σ_27 _ _ _ hf hW (lv_sub hl [1, 2, 3, 0] rfl)
  have hl := lv_entry ([.ref (ow_ad Z 10), .ref (ow_ad Z a1), .ref (ow_ad Z a2), .ref (ow_ad Z a3), .int a4]) (n := 6) (Nat.le_of_ble_eq_true rfl)
  refine W.eq (g2 := F0 m 0 ((lg_sl ([.ref (ow_ad Z 10), .ref (ow_ad Z a1), .ref (ow_ad Z a2), .ref (ow_ad Z a3), .int a4]) ++ List.replicate (6 - (lg_sl ([.ref (ow_ad Z 10), .ref (ow_ad Z a1), .ref (ow_ad Z a2), .ref (ow_ad Z a3), .int a4])).length) Slot.unset).toArray) []) (by rw [hav]; exact lg_entry_eq _ _ _) ?_
  generalize (lg_sl ([.ref (ow_ad Z 10), .ref (ow_ad Z a1), .ref (ow_ad Z a2), .ref (ow_ad Z a3), .int a4]) ++ List.replicate (6 - (lg_sl ([.ref (ow_ad Z 10), .ref (ow_ad Z a1), .ref (ow_ad Z a2), .ref (ow_ad Z a3), .int a4])).length) Slot.unset).toArray = ls at hl ⊢
  have hl : lv_has ls 6 [(0, .ref (ow_ad Z 10)), (1, .ref (ow_ad Z a1)), (2, .ref (ow_ad Z a2)), (3, .ref (ow_ad Z a3)), (4, .int a4)] := hl
  unfold f_X7_says at hf
  refine lv_aload_n hx hb dX7_says_0 rfl (lv_at hl 0 rfl) ?_
  refine lv_aload_n hx hb dX7_says_1 rfl (lv_at hl 1 rfl) ?_
  refine lv_aload_n hx hb dX7_says_2 rfl (lv_at hl 3 rfl) ?_
  refine lv_iload hx hb dX7_says_3 (lv_at hl 4 rfl) ?_
  obtain ⟨σ_5, hc5, hf⟩ := ow_cv_i hf
  refine ow_callv (va_runV (As := [.ref (ow_ad Z a1), .ref (ow_ad Z a3), .int a4]) (rest := []) ⟨hx, hb, hml, hown, hts⟩ (c_X7_setOutAs l Z fu a1 ha1 a3 ha3 a4 σ σ_5  hc5) (cwV 3 hts gX7_says_X7_setOutAs rfl rfl rfl (by decide +kernel) ⟨Nat.le_of_ble_eq_true rfl, Nat.le_of_ble_eq_true rfl⟩) (ow_preV hG hW ow_i10 (by decide) rfl) rfl rfl hl.1 rfl (lv_room (Nat.le_of_ble_eq_true rfl)) dX7_says_5 ⟨Nat.zero_le _, Nat.zero_le _⟩) hW (fun H locs hW => ?_)
  refine lv_iconst (v := 0) hx hb dX7_says_8 (by decide) ?_
  refine lv_istore (lv' := [(5, .int (0 : Int32)), (0, .ref (ow_ad Z 10)), (1, .ref (ow_ad Z a1)), (2, .ref (ow_ad Z a2)), (3, .ref (ow_ad Z a3)), (4, .int a4)]) hx hb dX7_says_9 hl (by decide) rfl (fun ls hl => ?_)
  exact hJ11 fu a1 ha1 a2 ha2 (0 : Int32) σ_5 _ _ _ hf hW (lv_sub hl [1, 2, 3, 0] rfl)
set_option maxHeartbeats 40000000 in
set_option maxRecDepth 100000 in
theorem c_X8_count (l : Launch) (Z : ow_Z) (fu : Nat) (a1 : Int32) (σ : ow_S) (rr : Int32) (σr : ow_S) (hf : f_X8_count fu a1 σ = some (rr, σr)) : Met l yX8_count wsX8_count { frames := 1, cells := 0, slots := 0, locals := 60 } (ow_Pc Z 0 56 [.ref (ow_ad Z 0), .int a1] σ) (ow_Qi Z 0 56 rr σr) 0 0 (ow_A Z 0 56) := by
  refine Met.ofW (cc := cX8_count) (maxL := 2) (ret := (some .int)) (by decide) rfl ?_
  intro p e s m args below meth c s₁ B hml hv
  obtain ⟨hav, hB⟩ := hv
  obtain ⟨hG, hW⟩ := ow_begin hB
  have hx := B.exec
  have hb := B.bytes
  have hr := B.returns
  have hts := atoms_spec (ws := wsX8_count) B.pre
  have hown : s.vm.findClass RX8 = some m.cls := findClass_of_methodNamed B.named
  have hlocks := B.notSynchronized
  have hinX3 : ∀ w ∈ wsX30, w ∈ wsX8_count := by decide +kernel
  have hinX4 : ∀ w ∈ wsX40, w ∈ wsX8_count := by decide +kernel
  have hinX8 : ∀ w ∈ wsX80, w ∈ wsX8_count := by decide +kernel
  have hl := lv_entry ([.ref (ow_ad Z 0), .int a1]) (n := 2) (Nat.le_of_ble_eq_true rfl)
  refine W.eq (g2 := F0 m 0 ((lg_sl ([.ref (ow_ad Z 0), .int a1]) ++ List.replicate (2 - (lg_sl ([.ref (ow_ad Z 0), .int a1])).length) Slot.unset).toArray) []) (by rw [hav]; exact lg_entry_eq _ _ _) ?_
  generalize (lg_sl ([.ref (ow_ad Z 0), .int a1]) ++ List.replicate (2 - (lg_sl ([.ref (ow_ad Z 0), .int a1])).length) Slot.unset).toArray = ls at hl ⊢
  have hl : lv_has ls 2 [(0, .ref (ow_ad Z 0)), (1, .int a1)] := hl
  unfold f_X8_count at hf
  refine lv_iload_n hx hb dX8_count_0 rfl (lv_at hl 1 rfl) ?_
  by_cases c1_0 : a1 = (0 : Int32)
  · replace hf := ow_if_t c1_0 hf
    refine lv_tableIn (off := 39) (tgt := 40) hx hb dX8_count_1 (by rw [c1_0]; decide) (by rw [c1_0]; decide) (by rw [c1_0]; rfl) (by decide) ?_
    refine lv_aload_n hx hb dX8_count_40 rfl (lv_at hl 0 rfl) ?_
    refine ow_getV (ci := 8) (C := RX8) (T := TX8) (N := 15) hx hb hts hown hG hW ow_i0 (by decide) rfl hinX8 12 (by decide) (fk := 0) rfl (hts (.fieldLink RX8 78 "FiftyOneCards" "headCount" "I") (by decide +kernel)) (v := .int (σ.1 0 12)) rfl dX8_count_41 ?_
    exact ow_iret hx hb hr hW hf dX8_count_44 hlocks
  · replace hf := ow_if_f c1_0 hf
    by_cases c1_1 : a1 = (1 : Int32)
    · replace hf := ow_if_t c1_1 hf
      refine lv_tableIn (off := 44) (tgt := 45) hx hb dX8_count_1 (by rw [c1_1]; decide) (by rw [c1_1]; decide) (by rw [c1_1]; rfl) (by decide) ?_
      refine lv_aload_n hx hb dX8_count_45 rfl (lv_at hl 0 rfl) ?_
      refine ow_getV (ci := 8) (C := RX8) (T := TX8) (N := 15) hx hb hts hown hG hW ow_i0 (by decide) rfl hinX8 11 (by decide) (fk := 0) rfl (hts (.fieldLink RX8 74 "FiftyOneCards" "pack" "I") (by decide +kernel)) (v := .int (σ.1 0 11)) rfl dX8_count_46 ?_
      exact ow_iret hx hb hr hW hf dX8_count_49 hlocks
    · replace hf := ow_if_f c1_1 hf
      by_cases c1_2 : a1 = (2 : Int32)
      · replace hf := ow_if_t c1_2 hf
        refine lv_tableIn (off := 49) (tgt := 50) hx hb dX8_count_1 (by rw [c1_2]; decide) (by rw [c1_2]; decide) (by rw [c1_2]; rfl) (by decide) ?_
        refine lv_aload_n hx hb dX8_count_50 rfl (lv_at hl 0 rfl) ?_
        refine ow_getV (ci := 8) (C := RX8) (T := TX8) (N := 15) hx hb hts hown hG hW ow_i0 (by decide) rfl hinX8 0 (by decide) (fk := 2) rfl (hts (.fieldLink RX8 10 "FiftyOneCards" "row" "LFiftyOneCards$Row;") (by decide +kernel)) (v := .ref (ow_ad Z 1)) (ow_vR hW ow_i0.1 ow_i0.2.1 rfl) dX8_count_51 ?_
        refine ow_getVN (ci := 4) (C := RX4) (T := TX4) (N := 2) hx hb hts hown hG hW ow_i1 (by decide) rfl hinX4 1 (by decide) (fk := 0) rfl (ow_nwp hG (.fieldLinkNest RX8 108 "FiftyOneCards$Row" "size" "I" "FiftyOneCards") (by decide +kernel)) (v := .int (σ.1 1 1)) rfl dX8_count_54 ?_
        exact ow_iret hx hb hr hW hf dX8_count_57 hlocks
      · replace hf := ow_if_f c1_2 hf
        by_cases c1_3 : a1 = (3 : Int32)
        · replace hf := ow_if_t c1_3 hf
          refine lv_tableIn (off := 57) (tgt := 58) hx hb dX8_count_1 (by rw [c1_3]; decide) (by rw [c1_3]; decide) (by rw [c1_3]; rfl) (by decide) ?_
          refine lv_aload_n hx hb dX8_count_58 rfl (lv_at hl 0 rfl) ?_
          refine ow_getV (ci := 8) (C := RX8) (T := TX8) (N := 15) hx hb hts hown hG hW ow_i0 (by decide) rfl hinX8 13 (by decide) (fk := 0) rfl (hts (.fieldLink RX8 81 "FiftyOneCards" "textCount" "I") (by decide +kernel)) (v := .int (σ.1 0 13)) rfl dX8_count_59 ?_
          exact ow_iret hx hb hr hW hf dX8_count_62 hlocks
        · replace hf := ow_if_f c1_3 hf
          by_cases c1_4 : a1 = (4 : Int32)
          · replace hf := ow_if_t c1_4 hf
            refine lv_tableIn (off := 62) (tgt := 63) hx hb dX8_count_1 (by rw [c1_4]; decide) (by rw [c1_4]; decide) (by rw [c1_4]; rfl) (by decide) ?_
            refine lv_aload_n hx hb dX8_count_63 rfl (lv_at hl 0 rfl) ?_
            refine ow_getV (ci := 8) (C := RX8) (T := TX8) (N := 15) hx hb hts hown hG hW ow_i0 (by decide) rfl hinX8 14 (by decide) (fk := 0) rfl (hts (.fieldLink RX8 84 "FiftyOneCards" "law" "I") (by decide +kernel)) (v := .int (σ.1 0 14)) rfl dX8_count_64 ?_
            exact ow_iret hx hb hr hW hf dX8_count_67 hlocks
          · replace hf := ow_if_f c1_4 hf
            by_cases c1_5 : a1 = (5 : Int32)
            · replace hf := ow_if_t c1_5 hf
              refine lv_tableIn (off := 67) (tgt := 68) hx hb dX8_count_1 (by rw [c1_5]; decide) (by rw [c1_5]; decide) (by rw [c1_5]; rfl) (by decide) ?_
              refine lv_aload_n hx hb dX8_count_68 rfl (lv_at hl 0 rfl) ?_
              refine ow_getV (ci := 8) (C := RX8) (T := TX8) (N := 15) hx hb hts hown hG hW ow_i0 (by decide) rfl hinX8 4 (by decide) (fk := 2) rfl (hts (.fieldLink RX8 33 "FiftyOneCards" "reader" "LFiftyOneCards$Reader;") (by decide +kernel)) (v := .ref (ow_ad Z 7)) (ow_vR hW ow_i0.1 ow_i0.2.1 rfl) dX8_count_69 ?_
              refine ow_getVN (ci := 3) (C := RX3) (T := TX3) (N := 7) hx hb hts hown hG hW ow_i7 (by decide) rfl hinX3 1 (by decide) (fk := 0) rfl (ow_nwp hG (.fieldLinkNest RX8 111 "FiftyOneCards$Reader" "size" "I" "FiftyOneCards") (by decide +kernel)) (v := .int (σ.1 7 1)) rfl dX8_count_72 ?_
              exact ow_iret hx hb hr hW hf dX8_count_75 hlocks
            · replace hf := ow_if_f c1_5 hf
              have e1_0 := lv_neT c1_0 (a := 0) (by decide)
              have e1_1 := lv_neT c1_1 (a := 1) (by decide)
              have e1_2 := lv_neT c1_2 (a := 2) (by decide)
              have e1_3 := lv_neT c1_3 (a := 3) (by decide)
              have e1_4 := lv_neT c1_4 (a := 4) (by decide)
              have e1_5 := lv_neT c1_5 (a := 5) (by decide)
              refine lv_tableOut (tgt := 76) hx hb dX8_count_1 (by omega) (by decide) ?_
              refine lv_bipush (v := -2) hx hb dX8_count_76 (by decide) ?_
              exact ow_iret hx hb hr hW hf dX8_count_78 hlocks
