/-! the constructors of the nested classes -/
def i_X0 (k : Nat) (σ : ow_S) : ow_S := ow_sI (ow_sI (ow_sI (ow_sI (ow_sI σ k 0 0) k 1 0) k 2 1) k 3 0) k 4 0
theorem gdf.iX0 {σ : ow_S} {k c : Nat} (h : gdf σ c) (hk : c ≠ k) : gdf (i_X0 k σ) c := (((((h.sI hk).sI hk).sI hk).sI hk).sI hk)
set_option maxHeartbeats 4000000 in
set_option maxRecDepth 100000 in
theorem k_X0 (l : Launch) (Z : ow_Z) (lo : Nat) (ads : List Nat) (σ : ow_S) (h sz k : Nat) (hk : lo + ads.length = k + 1) (hlo : lo ≤ k) (hh : ow_ad (gz Z lo ads) k = h) (hK : ow_K k = 0) : Met l yX0_init wsX0_init { frames := 1, cells := 0, slots := 0, locals := 60 } (va_Pc [.ref h] (gB Z lo ads σ sz)) (gQ Z lo ads σ (i_X0 k σ) 0 sz) 0 0 (gA Z lo ads σ sz) := by
  refine Met.ofW (cc := cX0_init) (maxL := 1) (ret := none) (by decide) rfl ?_
  intro p e s m args below meth c s₁ B hml hv
  obtain ⟨hav, hB⟩ := hv
  obtain ⟨hA, hG, hW⟩ := gB_begin hB
  have hx := B.exec
  have hb := B.bytes
  have hr := B.returns
  have hts := atoms_spec (ws := wsX0_init) B.pre
  have hown : s.vm.findClass RX0 = some m.cls := findClass_of_methodNamed B.named
  have hlocks := B.notSynchronized
  have hin : meth.name = "<init>" := (name_of_methodNamed B.named B.method).1
  have hinX0 : ∀ w ∈ wsX00, w ∈ wsX0_init := by decide +kernel
  have hl := lv_entry ([.ref h]) (n := 1) (Nat.le_of_ble_eq_true rfl)
  refine W.eq (g2 := F0 m 0 ((lg_sl ([.ref h]) ++ List.replicate (1 - (lg_sl ([.ref h])).length) Slot.unset).toArray) []) (by rw [hav]; exact lg_entry_eq _ _ _) ?_
  generalize (lg_sl ([.ref h]) ++ List.replicate (1 - (lg_sl ([.ref h])).length) Slot.unset).toArray = ls at hl ⊢
  have hl : lv_has ls 1 [(0, .ref h)] := hl
  refine lv_aload_n hx hb dX0_init_0 rfl (lv_at hl 0 rfl) ?_
  refine W.objInit hx hb hown (hts (.methodLink RX0 3 objectInit) (by decide +kernel)) (hts (.instanceMethod objectInit) (by decide +kernel)) (hts (.code objectInit ⟨#[0xb1]⟩ 1 none) (by decide +kernel)) rfl (by rw [hml]; exact hl.1) rfl dX0_init_1 (Nat.le_of_ble_eq_true rfl) (Nat.le_of_ble_eq_true rfl) ?_
  refine W.eq (g2 := F0 m 4 ls []) rfl ?_
  refine lv_aload_n hx hb dX0_init_4 rfl (lv_at hl 0 rfl) ?_
  refine lv_iconst (v := 0) hx hb dX0_init_5 (by decide) ?_
  refine g_putI (k := k) (ci := 0) (C := RX0) (T := TX0) (N := 5) hx hb hts hown hG.1 hW hh hlo (by (try simp only [List.length_append, List.length_singleton]); omega) hK (by decide) rfl hinX0 tyX0 tyX0_ok nmX0 0 (by decide) rfl (hts (.fieldLink RX0 9 "FiftyOneCards$Head" "kind" "I") (by decide +kernel)) rfl rfl rfl dX0_init_6 (fun H locs hW => ?_)
  refine lv_aload_n hx hb dX0_init_9 rfl (lv_at hl 0 rfl) ?_
  refine lv_iconst (v := 0) hx hb dX0_init_10 (by decide) ?_
  refine g_putI (k := k) (ci := 0) (C := RX0) (T := TX0) (N := 5) hx hb hts hown hG.1 hW hh hlo (by (try simp only [List.length_append, List.length_singleton]); omega) hK (by decide) rfl hinX0 tyX0 tyX0_ok nmX0 1 (by decide) rfl (hts (.fieldLink RX0 15 "FiftyOneCards$Head" "more" "I") (by decide +kernel)) rfl rfl rfl dX0_init_11 (fun H locs hW => ?_)
  refine lv_aload_n hx hb dX0_init_14 rfl (lv_at hl 0 rfl) ?_
  refine lv_iconst (v := 1) hx hb dX0_init_15 (by decide) ?_
  refine g_putI (k := k) (ci := 0) (C := RX0) (T := TX0) (N := 5) hx hb hts hown hG.1 hW hh hlo (by (try simp only [List.length_append, List.length_singleton]); omega) hK (by decide) rfl hinX0 tyX0 tyX0_ok nmX0 2 (by decide) rfl (hts (.fieldLink RX0 18 "FiftyOneCards$Head" "bits" "I") (by decide +kernel)) rfl rfl rfl dX0_init_16 (fun H locs hW => ?_)
  refine lv_aload_n hx hb dX0_init_19 rfl (lv_at hl 0 rfl) ?_
  refine lv_iconst (v := 0) hx hb dX0_init_20 (by decide) ?_
  refine g_putI (k := k) (ci := 0) (C := RX0) (T := TX0) (N := 5) hx hb hts hown hG.1 hW hh hlo (by (try simp only [List.length_append, List.length_singleton]); omega) hK (by decide) rfl hinX0 tyX0 tyX0_ok nmX0 3 (by decide) rfl (hts (.fieldLink RX0 21 "FiftyOneCards$Head" "first" "I") (by decide +kernel)) rfl rfl rfl dX0_init_21 (fun H locs hW => ?_)
  refine lv_aload_n hx hb dX0_init_24 rfl (lv_at hl 0 rfl) ?_
  refine lv_iconst (v := 0) hx hb dX0_init_25 (by decide) ?_
  refine g_putI (k := k) (ci := 0) (C := RX0) (T := TX0) (N := 5) hx hb hts hown hG.1 hW hh hlo (by (try simp only [List.length_append, List.length_singleton]); omega) hK (by decide) rfl hinX0 tyX0 tyX0_ok nmX0 4 (by decide) rfl (hts (.fieldLink RX0 24 "FiftyOneCards$Head" "second" "I") (by decide +kernel)) rfl rfl rfl dX0_init_26 (fun H locs hW => ?_)
  exact g_vret (b := []) hx hb hr (by rw [List.append_nil]; exact hW) rfl dX0_init_29 hlocks
def i_X2 (k : Nat) (σ : ow_S) : ow_S := ow_sL σ k 1
theorem gdf.iX2 {σ : ow_S} {k c : Nat} (h : gdf σ c) (hk : c ≠ k) : gdf (i_X2 k σ) c := (h.sL hk)
set_option maxHeartbeats 4000000 in
set_option maxRecDepth 100000 in
theorem k_X2 (l : Launch) (Z : ow_Z) (lo : Nat) (ads : List Nat) (σ : ow_S) (h sz k : Nat) (hk : lo + ads.length = k + 1) (hlo : lo ≤ k) (hh : ow_ad (gz Z lo ads) k = h) (hK : ow_K k = 2) : Met l yX2_init wsX2_init { frames := 1, cells := 0, slots := 0, locals := 60 } (va_Pc [.ref h] (gB Z lo ads σ sz)) (gQ Z lo ads σ (i_X2 k σ) 0 sz) 0 0 (gA Z lo ads σ sz) := by
  refine Met.ofW (cc := cX2_init) (maxL := 1) (ret := none) (by decide) rfl ?_
  intro p e s m args below meth c s₁ B hml hv
  obtain ⟨hav, hB⟩ := hv
  obtain ⟨hA, hG, hW⟩ := gB_begin hB
  have hx := B.exec
  have hb := B.bytes
  have hr := B.returns
  have hts := atoms_spec (ws := wsX2_init) B.pre
  have hown : s.vm.findClass RX2 = some m.cls := findClass_of_methodNamed B.named
  have hlocks := B.notSynchronized
  have hin : meth.name = "<init>" := (name_of_methodNamed B.named B.method).1
  have hinX2 : ∀ w ∈ wsX20, w ∈ wsX2_init := by decide +kernel
  have hl := lv_entry ([.ref h]) (n := 1) (Nat.le_of_ble_eq_true rfl)
  refine W.eq (g2 := F0 m 0 ((lg_sl ([.ref h]) ++ List.replicate (1 - (lg_sl ([.ref h])).length) Slot.unset).toArray) []) (by rw [hav]; exact lg_entry_eq _ _ _) ?_
  generalize (lg_sl ([.ref h]) ++ List.replicate (1 - (lg_sl ([.ref h])).length) Slot.unset).toArray = ls at hl ⊢
  have hl : lv_has ls 1 [(0, .ref h)] := hl
  refine lv_aload_n hx hb dX2_init_0 rfl (lv_at hl 0 rfl) ?_
  refine W.objInit hx hb hown (hts (.methodLink RX2 1 objectInit) (by decide +kernel)) (hts (.instanceMethod objectInit) (by decide +kernel)) (hts (.code objectInit ⟨#[0xb1]⟩ 1 none) (by decide +kernel)) rfl (by rw [hml]; exact hl.1) rfl dX2_init_1 (Nat.le_of_ble_eq_true rfl) (Nat.le_of_ble_eq_true rfl) ?_
  refine W.eq (g2 := F0 m 4 ls []) rfl ?_
  refine lv_aload_n hx hb dX2_init_4 rfl (lv_at hl 0 rfl) ?_
  refine lv_lconst (v := 1) hx hb dX2_init_5 (by decide) ?_
  refine g_putL (k := k) (C := RX2) (T := TX2) (N := 1) hx hb hts hown hG.1 hW hh hlo (by (try simp only [List.length_append, List.length_singleton]); omega) hK rfl hinX2 tyX2 tyX2_ok nmX2 (by decide) (hts (.fieldLink RX2 7 "FiftyOneCards$Lots" "last" "J") (by decide +kernel)) rfl rfl rfl dX2_init_6 (fun H locs hW => ?_)
  exact g_vret (b := []) hx hb hr (by rw [List.append_nil]; exact hW) rfl dX2_init_9 hlocks
def i_X3 (k : Nat) (σ : ow_S) : ow_S := ow_sR (ow_sI (ow_sI (ow_sI (ow_sI (ow_sI (ow_sR σ k 0 (some (k + 1))) k 1 0) k 2 0) k 3 21) k 4 0) k 5 (-1)) k 6 none
theorem gdf.iX3 {σ : ow_S} {k c : Nat} (h : gdf σ c) (hk : c ≠ k) : gdf (i_X3 k σ) c := (((((((h.sR hk).sI hk).sI hk).sI hk).sI hk).sI hk).sR hk)
set_option maxHeartbeats 4000000 in
set_option maxRecDepth 100000 in
theorem k_X3 (l : Launch) (Z : ow_Z) (lo : Nat) (ads : List Nat) (σ : ow_S) (h sz k : Nat) (hk : lo + ads.length = k + 1) (hlo : lo ≤ k) (hh : ow_ad (gz Z lo ads) k = h) (hK : ow_K k = 3) (hc1 : ow_K (k + 1) = 10) (hn1 : ow_n (k + 1) = 160) (hd1 : gdf σ (k + 1)) : Met l yX3_init wsX3_init { frames := 1, cells := 1, slots := 160, locals := 60 } (va_Pc [.ref h] (gB Z lo ads σ sz)) (gQ Z lo ads σ (i_X3 k σ) 1 sz) 1 160 (gA Z lo ads σ sz) := by
  refine Met.ofW (cc := cX3_init) (maxL := 1) (ret := none) (by decide) rfl ?_
  intro p e s m args below meth c s₁ B hml hv
  obtain ⟨hav, hB⟩ := hv
  obtain ⟨hA, hG, hW⟩ := gB_begin hB
  have hx := B.exec
  have hb := B.bytes
  have hr := B.returns
  have hts := atoms_spec (ws := wsX3_init) B.pre
  have hown : s.vm.findClass RX3 = some m.cls := findClass_of_methodNamed B.named
  have hlocks := B.notSynchronized
  have hin : meth.name = "<init>" := (name_of_methodNamed B.named B.method).1
  have hinX3 : ∀ w ∈ wsX30, w ∈ wsX3_init := by decide +kernel
  have hl := lv_entry ([.ref h]) (n := 1) (Nat.le_of_ble_eq_true rfl)
  refine W.eq (g2 := F0 m 0 ((lg_sl ([.ref h]) ++ List.replicate (1 - (lg_sl ([.ref h])).length) Slot.unset).toArray) []) (by rw [hav]; exact lg_entry_eq _ _ _) ?_
  generalize (lg_sl ([.ref h]) ++ List.replicate (1 - (lg_sl ([.ref h])).length) Slot.unset).toArray = ls at hl ⊢
  have hl : lv_has ls 1 [(0, .ref h)] := hl
  refine lv_aload_n hx hb dX3_init_0 rfl (lv_at hl 0 rfl) ?_
  refine W.objInit hx hb hown (hts (.methodLink RX3 3 objectInit) (by decide +kernel)) (hts (.instanceMethod objectInit) (by decide +kernel)) (hts (.code objectInit ⟨#[0xb1]⟩ 1 none) (by decide +kernel)) rfl (by rw [hml]; exact hl.1) rfl dX3_init_1 (Nat.le_of_ble_eq_true rfl) (Nat.le_of_ble_eq_true rfl) ?_
  refine W.eq (g2 := F0 m 4 ls []) rfl ?_
  refine lv_aload_n hx hb dX3_init_4 rfl (lv_at hl 0 rfl) ?_
  refine lv_sipush (v := 160) hx hb dX3_init_5 (by decide) ?_
  refine g_newa (n := k + 1) (L := 160) hx hb (hts (.arrayClass .int) (by decide +kernel)) hG.1 hW hA (by (try simp only [List.length_append, List.length_singleton]); omega) hc1 hn1 (hd1) (by decide) (by decide) (Nat.le_of_ble_eq_true rfl) (Nat.le_of_ble_eq_true rfl) (Nat.le_of_ble_eq_true rfl) dX3_init_8 (fun q1 H hW => ?_)
  have hh : ow_ad (gz Z lo (ads ++ [q1])) k = h := (gz_lt Z lo ads [q1] (by (try simp only [List.length_append, List.length_singleton]); omega)).trans hh
  have hq1 : ow_ad (gz Z lo (ads ++ [q1])) (k + 1) = q1 := by rw [show k + 1 = lo + ads.length by ((try simp only [List.length_append, List.length_singleton]); omega)]; exact gz_new Z lo ads q1
  refine g_putR (k := k) (ci := 3) (C := RX3) (T := TX3) (N := 7) hx hb hts hown hG.1 hW hh hlo (by (try simp only [List.length_append, List.length_singleton]); omega) hK (by decide) rfl hinX3 tyX3 tyX3_ok nmX3 0 (by decide) rfl (hts (.fieldLink RX3 9 "FiftyOneCards$Reader" "tape" "[I") (by decide +kernel)) (Or.inr ⟨rfl, hin, rfl⟩) (k + 1) (by (try simp only [List.length_append, List.length_singleton]); omega) hq1 rfl rfl dX3_init_10 (fun H locs hW => ?_)
  refine lv_aload_n hx hb dX3_init_13 rfl (lv_at hl 0 rfl) ?_
  refine lv_iconst (v := 0) hx hb dX3_init_14 (by decide) ?_
  refine g_putI (k := k) (ci := 3) (C := RX3) (T := TX3) (N := 7) hx hb hts hown hG.1 hW hh hlo (by (try simp only [List.length_append, List.length_singleton]); omega) hK (by decide) rfl hinX3 tyX3 tyX3_ok nmX3 1 (by decide) rfl (hts (.fieldLink RX3 15 "FiftyOneCards$Reader" "size" "I") (by decide +kernel)) rfl rfl rfl dX3_init_15 (fun H locs hW => ?_)
  refine lv_aload_n hx hb dX3_init_18 rfl (lv_at hl 0 rfl) ?_
  refine lv_iconst (v := 0) hx hb dX3_init_19 (by decide) ?_
  refine g_putI (k := k) (ci := 3) (C := RX3) (T := TX3) (N := 7) hx hb hts hown hG.1 hW hh hlo (by (try simp only [List.length_append, List.length_singleton]); omega) hK (by decide) rfl hinX3 tyX3 tyX3_ok nmX3 2 (by decide) rfl (hts (.fieldLink RX3 19 "FiftyOneCards$Reader" "next" "I") (by decide +kernel)) rfl rfl rfl dX3_init_20 (fun H locs hW => ?_)
  refine lv_aload_n hx hb dX3_init_23 rfl (lv_at hl 0 rfl) ?_
  refine lv_bipush (v := 21) hx hb dX3_init_24 (by decide) ?_
  refine g_putI (k := k) (ci := 3) (C := RX3) (T := TX3) (N := 7) hx hb hts hown hG.1 hW hh hlo (by (try simp only [List.length_append, List.length_singleton]); omega) hK (by decide) rfl hinX3 tyX3 tyX3_ok nmX3 3 (by decide) rfl (hts (.fieldLink RX3 22 "FiftyOneCards$Reader" "token" "I") (by decide +kernel)) rfl rfl rfl dX3_init_26 (fun H locs hW => ?_)
  refine lv_aload_n hx hb dX3_init_29 rfl (lv_at hl 0 rfl) ?_
  refine lv_iconst (v := 0) hx hb dX3_init_30 (by decide) ?_
  refine g_putI (k := k) (ci := 3) (C := RX3) (T := TX3) (N := 7) hx hb hts hown hG.1 hW hh hlo (by (try simp only [List.length_append, List.length_singleton]); omega) hK (by decide) rfl hinX3 tyX3 tyX3_ok nmX3 4 (by decide) rfl (hts (.fieldLink RX3 25 "FiftyOneCards$Reader" "tokenPlace" "I") (by decide +kernel)) rfl rfl rfl dX3_init_31 (fun H locs hW => ?_)
  refine lv_aload_n hx hb dX3_init_34 rfl (lv_at hl 0 rfl) ?_
  refine lv_iconst (v := (-1)) hx hb dX3_init_35 (by decide) ?_
  refine g_putI (k := k) (ci := 3) (C := RX3) (T := TX3) (N := 7) hx hb hts hown hG.1 hW hh hlo (by (try simp only [List.length_append, List.length_singleton]); omega) hK (by decide) rfl hinX3 tyX3 tyX3_ok nmX3 5 (by decide) rfl (hts (.fieldLink RX3 28 "FiftyOneCards$Reader" "fault" "I") (by decide +kernel)) rfl rfl rfl dX3_init_36 (fun H locs hW => ?_)
  refine lv_aload_n hx hb dX3_init_39 rfl (lv_at hl 0 rfl) ?_
  refine lv_null hx hb dX3_init_40 ?_
  refine g_putN (k := k) (ci := 3) (C := RX3) (T := TX3) (N := 7) hx hb hts hown hG.1 hW hh hlo (by (try simp only [List.length_append, List.length_singleton]); omega) hK (by decide) rfl hinX3 tyX3 tyX3_ok nmX3 6 (by decide) rfl (hts (.fieldLink RX3 31 "FiftyOneCards$Reader" "target" "LFiftyOneCards$Text;") (by decide +kernel)) rfl rfl rfl dX3_init_41 (fun H locs hW => ?_)
  refine W.widen (k := 1) (n := 160) (by omega) (by omega) ?_
  exact g_vret hx hb hr hW rfl dX3_init_44 hlocks
def i_X4 (k : Nat) (σ : ow_S) : ow_S := ow_sI (ow_sR σ k 0 (some (k + 1))) k 1 0
theorem gdf.iX4 {σ : ow_S} {k c : Nat} (h : gdf σ c) (hk : c ≠ k) : gdf (i_X4 k σ) c := ((h.sR hk).sI hk)
set_option maxHeartbeats 4000000 in
set_option maxRecDepth 100000 in
theorem k_X4 (l : Launch) (Z : ow_Z) (lo : Nat) (ads : List Nat) (σ : ow_S) (h sz k : Nat) (hk : lo + ads.length = k + 1) (hlo : lo ≤ k) (hh : ow_ad (gz Z lo ads) k = h) (hK : ow_K k = 4) (hc1 : ow_K (k + 1) = 10) (hn1 : ow_n (k + 1) = 60) (hd1 : gdf σ (k + 1)) : Met l yX4_init wsX4_init { frames := 1, cells := 1, slots := 60, locals := 60 } (va_Pc [.ref h] (gB Z lo ads σ sz)) (gQ Z lo ads σ (i_X4 k σ) 1 sz) 1 60 (gA Z lo ads σ sz) := by
  refine Met.ofW (cc := cX4_init) (maxL := 1) (ret := none) (by decide) rfl ?_
  intro p e s m args below meth c s₁ B hml hv
  obtain ⟨hav, hB⟩ := hv
  obtain ⟨hA, hG, hW⟩ := gB_begin hB
  have hx := B.exec
  have hb := B.bytes
  have hr := B.returns
  have hts := atoms_spec (ws := wsX4_init) B.pre
  have hown : s.vm.findClass RX4 = some m.cls := findClass_of_methodNamed B.named
  have hlocks := B.notSynchronized
  have hin : meth.name = "<init>" := (name_of_methodNamed B.named B.method).1
  have hinX4 : ∀ w ∈ wsX40, w ∈ wsX4_init := by decide +kernel
  have hl := lv_entry ([.ref h]) (n := 1) (Nat.le_of_ble_eq_true rfl)
  refine W.eq (g2 := F0 m 0 ((lg_sl ([.ref h]) ++ List.replicate (1 - (lg_sl ([.ref h])).length) Slot.unset).toArray) []) (by rw [hav]; exact lg_entry_eq _ _ _) ?_
  generalize (lg_sl ([.ref h]) ++ List.replicate (1 - (lg_sl ([.ref h])).length) Slot.unset).toArray = ls at hl ⊢
  have hl : lv_has ls 1 [(0, .ref h)] := hl
  refine lv_aload_n hx hb dX4_init_0 rfl (lv_at hl 0 rfl) ?_
  refine W.objInit hx hb hown (hts (.methodLink RX4 3 objectInit) (by decide +kernel)) (hts (.instanceMethod objectInit) (by decide +kernel)) (hts (.code objectInit ⟨#[0xb1]⟩ 1 none) (by decide +kernel)) rfl (by rw [hml]; exact hl.1) rfl dX4_init_1 (Nat.le_of_ble_eq_true rfl) (Nat.le_of_ble_eq_true rfl) ?_
  refine W.eq (g2 := F0 m 4 ls []) rfl ?_
  refine lv_aload_n hx hb dX4_init_4 rfl (lv_at hl 0 rfl) ?_
  refine lv_bipush (v := 60) hx hb dX4_init_5 (by decide) ?_
  refine g_newa (n := k + 1) (L := 60) hx hb (hts (.arrayClass .int) (by decide +kernel)) hG.1 hW hA (by (try simp only [List.length_append, List.length_singleton]); omega) hc1 hn1 (hd1) (by decide) (by decide) (Nat.le_of_ble_eq_true rfl) (Nat.le_of_ble_eq_true rfl) (Nat.le_of_ble_eq_true rfl) dX4_init_7 (fun q1 H hW => ?_)
  have hh : ow_ad (gz Z lo (ads ++ [q1])) k = h := (gz_lt Z lo ads [q1] (by (try simp only [List.length_append, List.length_singleton]); omega)).trans hh
  have hq1 : ow_ad (gz Z lo (ads ++ [q1])) (k + 1) = q1 := by rw [show k + 1 = lo + ads.length by ((try simp only [List.length_append, List.length_singleton]); omega)]; exact gz_new Z lo ads q1
  refine g_putR (k := k) (ci := 4) (C := RX4) (T := TX4) (N := 2) hx hb hts hown hG.1 hW hh hlo (by (try simp only [List.length_append, List.length_singleton]); omega) hK (by decide) rfl hinX4 tyX4 tyX4_ok nmX4 0 (by decide) rfl (hts (.fieldLink RX4 9 "FiftyOneCards$Row" "cards" "[I") (by decide +kernel)) (Or.inr ⟨rfl, hin, rfl⟩) (k + 1) (by (try simp only [List.length_append, List.length_singleton]); omega) hq1 rfl rfl dX4_init_9 (fun H locs hW => ?_)
  refine lv_aload_n hx hb dX4_init_12 rfl (lv_at hl 0 rfl) ?_
  refine lv_iconst (v := 0) hx hb dX4_init_13 (by decide) ?_
  refine g_putI (k := k) (ci := 4) (C := RX4) (T := TX4) (N := 2) hx hb hts hown hG.1 hW hh hlo (by (try simp only [List.length_append, List.length_singleton]); omega) hK (by decide) rfl hinX4 tyX4 tyX4_ok nmX4 1 (by decide) rfl (hts (.fieldLink RX4 15 "FiftyOneCards$Row" "size" "I") (by decide +kernel)) rfl rfl rfl dX4_init_14 (fun H locs hW => ?_)
  refine W.widen (k := 1) (n := 60) (by omega) (by omega) ?_
  exact g_vret hx hb hr hW rfl dX4_init_17 hlocks
def i_X5 (k : Nat) (σ : ow_S) : ow_S := ow_sI (ow_sI (ow_sR σ k 0 (some (k + 1))) k 1 (-1)) k 2 0
theorem gdf.iX5 {σ : ow_S} {k c : Nat} (h : gdf σ c) (hk : c ≠ k) : gdf (i_X5 k σ) c := (((h.sR hk).sI hk).sI hk)
set_option maxHeartbeats 4000000 in
set_option maxRecDepth 100000 in
theorem k_X5 (l : Launch) (Z : ow_Z) (lo : Nat) (ads : List Nat) (σ : ow_S) (h sz k : Nat) (hk : lo + ads.length = k + 1) (hlo : lo ≤ k) (hh : ow_ad (gz Z lo ads) k = h) (hK : ow_K k = 5) (hc1 : ow_K (k + 1) = 10) (hn1 : ow_n (k + 1) = 40) (hd1 : gdf σ (k + 1)) : Met l yX5_init wsX5_init { frames := 1, cells := 1, slots := 40, locals := 60 } (va_Pc [.ref h] (gB Z lo ads σ sz)) (gQ Z lo ads σ (i_X5 k σ) 1 sz) 1 40 (gA Z lo ads σ sz) := by
  refine Met.ofW (cc := cX5_init) (maxL := 1) (ret := none) (by decide) rfl ?_
  intro p e s m args below meth c s₁ B hml hv
  obtain ⟨hav, hB⟩ := hv
  obtain ⟨hA, hG, hW⟩ := gB_begin hB
  have hx := B.exec
  have hb := B.bytes
  have hr := B.returns
  have hts := atoms_spec (ws := wsX5_init) B.pre
  have hown : s.vm.findClass RX5 = some m.cls := findClass_of_methodNamed B.named
  have hlocks := B.notSynchronized
  have hin : meth.name = "<init>" := (name_of_methodNamed B.named B.method).1
  have hinX5 : ∀ w ∈ wsX50, w ∈ wsX5_init := by decide +kernel
  have hl := lv_entry ([.ref h]) (n := 1) (Nat.le_of_ble_eq_true rfl)
  refine W.eq (g2 := F0 m 0 ((lg_sl ([.ref h]) ++ List.replicate (1 - (lg_sl ([.ref h])).length) Slot.unset).toArray) []) (by rw [hav]; exact lg_entry_eq _ _ _) ?_
  generalize (lg_sl ([.ref h]) ++ List.replicate (1 - (lg_sl ([.ref h])).length) Slot.unset).toArray = ls at hl ⊢
  have hl : lv_has ls 1 [(0, .ref h)] := hl
  refine lv_aload_n hx hb dX5_init_0 rfl (lv_at hl 0 rfl) ?_
  refine W.objInit hx hb hown (hts (.methodLink RX5 3 objectInit) (by decide +kernel)) (hts (.instanceMethod objectInit) (by decide +kernel)) (hts (.code objectInit ⟨#[0xb1]⟩ 1 none) (by decide +kernel)) rfl (by rw [hml]; exact hl.1) rfl dX5_init_1 (Nat.le_of_ble_eq_true rfl) (Nat.le_of_ble_eq_true rfl) ?_
  refine W.eq (g2 := F0 m 4 ls []) rfl ?_
  refine lv_aload_n hx hb dX5_init_4 rfl (lv_at hl 0 rfl) ?_
  refine lv_bipush (v := 40) hx hb dX5_init_5 (by decide) ?_
  refine g_newa (n := k + 1) (L := 40) hx hb (hts (.arrayClass .int) (by decide +kernel)) hG.1 hW hA (by (try simp only [List.length_append, List.length_singleton]); omega) hc1 hn1 (hd1) (by decide) (by decide) (Nat.le_of_ble_eq_true rfl) (Nat.le_of_ble_eq_true rfl) (Nat.le_of_ble_eq_true rfl) dX5_init_7 (fun q1 H hW => ?_)
  have hh : ow_ad (gz Z lo (ads ++ [q1])) k = h := (gz_lt Z lo ads [q1] (by (try simp only [List.length_append, List.length_singleton]); omega)).trans hh
  have hq1 : ow_ad (gz Z lo (ads ++ [q1])) (k + 1) = q1 := by rw [show k + 1 = lo + ads.length by ((try simp only [List.length_append, List.length_singleton]); omega)]; exact gz_new Z lo ads q1
  refine g_putR (k := k) (ci := 5) (C := RX5) (T := TX5) (N := 3) hx hb hts hown hG.1 hW hh hlo (by (try simp only [List.length_append, List.length_singleton]); omega) hK (by decide) rfl hinX5 tyX5 tyX5_ok nmX5 0 (by decide) rfl (hts (.fieldLink RX5 9 "FiftyOneCards$Sheet" "cells" "[I") (by decide +kernel)) (Or.inr ⟨rfl, hin, rfl⟩) (k + 1) (by (try simp only [List.length_append, List.length_singleton]); omega) hq1 rfl rfl dX5_init_9 (fun H locs hW => ?_)
  refine lv_aload_n hx hb dX5_init_12 rfl (lv_at hl 0 rfl) ?_
  refine lv_iconst (v := (-1)) hx hb dX5_init_13 (by decide) ?_
  refine g_putI (k := k) (ci := 5) (C := RX5) (T := TX5) (N := 3) hx hb hts hown hG.1 hW hh hlo (by (try simp only [List.length_append, List.length_singleton]); omega) hK (by decide) rfl hinX5 tyX5 tyX5_ok nmX5 1 (by decide) rfl (hts (.fieldLink RX5 15 "FiftyOneCards$Sheet" "sort" "I") (by decide +kernel)) rfl rfl rfl dX5_init_14 (fun H locs hW => ?_)
  refine lv_aload_n hx hb dX5_init_17 rfl (lv_at hl 0 rfl) ?_
  refine lv_iconst (v := 0) hx hb dX5_init_18 (by decide) ?_
  refine g_putI (k := k) (ci := 5) (C := RX5) (T := TX5) (N := 3) hx hb hts hown hG.1 hW hh hlo (by (try simp only [List.length_append, List.length_singleton]); omega) hK (by decide) rfl hinX5 tyX5 tyX5_ok nmX5 2 (by decide) rfl (hts (.fieldLink RX5 19 "FiftyOneCards$Sheet" "size" "I") (by decide +kernel)) rfl rfl rfl dX5_init_19 (fun H locs hW => ?_)
  refine W.widen (k := 1) (n := 40) (by omega) (by omega) ?_
  exact g_vret hx hb hr hW rfl dX5_init_22 hlocks
def i_X6 (k : Nat) (σ : ow_S) : ow_S := ow_sI (ow_sI (ow_sR (ow_sR σ k 0 (some (k + 1))) k 1 (some (k + 2))) k 2 0) k 3 0
theorem gdf.iX6 {σ : ow_S} {k c : Nat} (h : gdf σ c) (hk : c ≠ k) : gdf (i_X6 k σ) c := ((((h.sR hk).sR hk).sI hk).sI hk)
set_option maxHeartbeats 4000000 in
set_option maxRecDepth 100000 in
theorem k_X6 (l : Launch) (Z : ow_Z) (lo : Nat) (ads : List Nat) (σ : ow_S) (h sz k : Nat) (hk : lo + ads.length = k + 1) (hlo : lo ≤ k) (hh : ow_ad (gz Z lo ads) k = h) (hK : ow_K k = 6) (hc1 : ow_K (k + 1) = 10) (hn1 : ow_n (k + 1) = 160) (hd1 : gdf σ (k + 1)) (hc2 : ow_K (k + 2) = 10) (hn2 : ow_n (k + 2) = 3) (hd2 : gdf σ (k + 2)) : Met l yX6_init wsX6_init { frames := 1, cells := 2, slots := 163, locals := 60 } (va_Pc [.ref h] (gB Z lo ads σ sz)) (gQ Z lo ads σ (i_X6 k σ) 2 sz) 2 163 (gA Z lo ads σ sz) := by
  refine Met.ofW (cc := cX6_init) (maxL := 1) (ret := none) (by decide) rfl ?_
  intro p e s m args below meth c s₁ B hml hv
  obtain ⟨hav, hB⟩ := hv
  obtain ⟨hA, hG, hW⟩ := gB_begin hB
  have hx := B.exec
  have hb := B.bytes
  have hr := B.returns
  have hts := atoms_spec (ws := wsX6_init) B.pre
  have hown : s.vm.findClass RX6 = some m.cls := findClass_of_methodNamed B.named
  have hlocks := B.notSynchronized
  have hin : meth.name = "<init>" := (name_of_methodNamed B.named B.method).1
  have hinX6 : ∀ w ∈ wsX60, w ∈ wsX6_init := by decide +kernel
  have hl := lv_entry ([.ref h]) (n := 1) (Nat.le_of_ble_eq_true rfl)
  refine W.eq (g2 := F0 m 0 ((lg_sl ([.ref h]) ++ List.replicate (1 - (lg_sl ([.ref h])).length) Slot.unset).toArray) []) (by rw [hav]; exact lg_entry_eq _ _ _) ?_
  generalize (lg_sl ([.ref h]) ++ List.replicate (1 - (lg_sl ([.ref h])).length) Slot.unset).toArray = ls at hl ⊢
  have hl : lv_has ls 1 [(0, .ref h)] := hl
  refine lv_aload_n hx hb dX6_init_0 rfl (lv_at hl 0 rfl) ?_
  refine W.objInit hx hb hown (hts (.methodLink RX6 3 objectInit) (by decide +kernel)) (hts (.instanceMethod objectInit) (by decide +kernel)) (hts (.code objectInit ⟨#[0xb1]⟩ 1 none) (by decide +kernel)) rfl (by rw [hml]; exact hl.1) rfl dX6_init_1 (Nat.le_of_ble_eq_true rfl) (Nat.le_of_ble_eq_true rfl) ?_
  refine W.eq (g2 := F0 m 4 ls []) rfl ?_
  refine lv_aload_n hx hb dX6_init_4 rfl (lv_at hl 0 rfl) ?_
  refine lv_sipush (v := 160) hx hb dX6_init_5 (by decide) ?_
  refine g_newa (n := k + 1) (L := 160) hx hb (hts (.arrayClass .int) (by decide +kernel)) hG.1 hW hA (by (try simp only [List.length_append, List.length_singleton]); omega) hc1 hn1 (hd1) (by decide) (by decide) (Nat.le_of_ble_eq_true rfl) (Nat.le_of_ble_eq_true rfl) (Nat.le_of_ble_eq_true rfl) dX6_init_8 (fun q1 H hW => ?_)
  have hh : ow_ad (gz Z lo (ads ++ [q1])) k = h := (gz_lt Z lo ads [q1] (by (try simp only [List.length_append, List.length_singleton]); omega)).trans hh
  have hq1 : ow_ad (gz Z lo (ads ++ [q1])) (k + 1) = q1 := by rw [show k + 1 = lo + ads.length by ((try simp only [List.length_append, List.length_singleton]); omega)]; exact gz_new Z lo ads q1
  refine g_putR (k := k) (ci := 6) (C := RX6) (T := TX6) (N := 4) hx hb hts hown hG.1 hW hh hlo (by (try simp only [List.length_append, List.length_singleton]); omega) hK (by decide) rfl hinX6 tyX6 tyX6_ok nmX6 0 (by decide) rfl (hts (.fieldLink RX6 9 "FiftyOneCards$Text" "codes" "[I") (by decide +kernel)) (Or.inr ⟨rfl, hin, rfl⟩) (k + 1) (by (try simp only [List.length_append, List.length_singleton]); omega) hq1 rfl rfl dX6_init_10 (fun H locs hW => ?_)
  refine lv_aload_n hx hb dX6_init_13 rfl (lv_at hl 0 rfl) ?_
  refine lv_iconst (v := 3) hx hb dX6_init_14 (by decide) ?_
  refine g_newa (n := k + 2) (L := 3) hx hb (hts (.arrayClass .int) (by decide +kernel)) hG.1 hW hA (by (try simp only [List.length_append, List.length_singleton]); omega) hc2 hn2 (by exact hd2.sR (by omega)) (by decide) (by decide) (Nat.le_of_ble_eq_true rfl) (Nat.le_of_ble_eq_true rfl) (Nat.le_of_ble_eq_true rfl) dX6_init_15 (fun q2 H hW => ?_)
  have hh : ow_ad (gz Z lo (ads ++ [q1] ++ [q2])) k = h := (gz_lt Z lo (ads ++ [q1]) [q2] (by (try simp only [List.length_append, List.length_singleton]); omega)).trans hh
  have hq1 : ow_ad (gz Z lo (ads ++ [q1] ++ [q2])) (k + 1) = q1 := (gz_lt Z lo (ads ++ [q1]) [q2] (by (try simp only [List.length_append, List.length_singleton]); omega)).trans hq1
  have hq2 : ow_ad (gz Z lo (ads ++ [q1] ++ [q2])) (k + 2) = q2 := by rw [show k + 2 = lo + (ads ++ [q1]).length by ((try simp only [List.length_append, List.length_singleton]); omega)]; exact gz_new Z lo (ads ++ [q1]) q2
  refine g_putR (k := k) (ci := 6) (C := RX6) (T := TX6) (N := 4) hx hb hts hown hG.1 hW hh hlo (by (try simp only [List.length_append, List.length_singleton]); omega) hK (by decide) rfl hinX6 tyX6 tyX6_ok nmX6 1 (by decide) rfl (hts (.fieldLink RX6 15 "FiftyOneCards$Text" "ends" "[I") (by decide +kernel)) (Or.inr ⟨rfl, hin, rfl⟩) (k + 2) (by (try simp only [List.length_append, List.length_singleton]); omega) hq2 rfl rfl dX6_init_17 (fun H locs hW => ?_)
  refine lv_aload_n hx hb dX6_init_20 rfl (lv_at hl 0 rfl) ?_
  refine lv_iconst (v := 0) hx hb dX6_init_21 (by decide) ?_
  refine g_putI (k := k) (ci := 6) (C := RX6) (T := TX6) (N := 4) hx hb hts hown hG.1 hW hh hlo (by (try simp only [List.length_append, List.length_singleton]); omega) hK (by decide) rfl hinX6 tyX6 tyX6_ok nmX6 2 (by decide) rfl (hts (.fieldLink RX6 18 "FiftyOneCards$Text" "size" "I") (by decide +kernel)) rfl rfl rfl dX6_init_22 (fun H locs hW => ?_)
  refine lv_aload_n hx hb dX6_init_25 rfl (lv_at hl 0 rfl) ?_
  refine lv_iconst (v := 0) hx hb dX6_init_26 (by decide) ?_
  refine g_putI (k := k) (ci := 6) (C := RX6) (T := TX6) (N := 4) hx hb hts hown hG.1 hW hh hlo (by (try simp only [List.length_append, List.length_singleton]); omega) hK (by decide) rfl hinX6 tyX6 tyX6_ok nmX6 3 (by decide) rfl (hts (.fieldLink RX6 22 "FiftyOneCards$Text" "parts" "I") (by decide +kernel)) rfl rfl rfl dX6_init_27 (fun H locs hW => ?_)
  rw [List.append_assoc] at hW
  refine W.widen (k := 2) (n := 163) (by omega) (by omega) ?_
  exact g_vret hx hb hr hW rfl dX6_init_30 hlocks
def i_X7 (k : Nat) (σ : ow_S) : ow_S := ow_sR (ow_sR (ow_sR σ k 0 (some (k + 1))) k 1 (some (k + 2))) k 2 none
theorem gdf.iX7 {σ : ow_S} {k c : Nat} (h : gdf σ c) (hk : c ≠ k) : gdf (i_X7 k σ) c := (((h.sR hk).sR hk).sR hk)
set_option maxHeartbeats 4000000 in
set_option maxRecDepth 100000 in
theorem k_X7 (l : Launch) (Z : ow_Z) (lo : Nat) (ads : List Nat) (σ : ow_S) (h sz k : Nat) (hk : lo + ads.length = k + 1) (hlo : lo ≤ k) (hh : ow_ad (gz Z lo ads) k = h) (hK : ow_K k = 7) (hc1 : ow_K (k + 1) = 10) (hn1 : ow_n (k + 1) = 6) (hd1 : gdf σ (k + 1)) (hc2 : ow_K (k + 2) = 10) (hn2 : ow_n (k + 2) = 160) (hd2 : gdf σ (k + 2)) : Met l yX7_init wsX7_init { frames := 1, cells := 2, slots := 166, locals := 60 } (va_Pc [.ref h] (gB Z lo ads σ sz)) (gQ Z lo ads σ (i_X7 k σ) 2 sz) 2 166 (gA Z lo ads σ sz) := by
  refine Met.ofW (cc := cX7_init) (maxL := 1) (ret := none) (by decide) rfl ?_
  intro p e s m args below meth c s₁ B hml hv
  obtain ⟨hav, hB⟩ := hv
  obtain ⟨hA, hG, hW⟩ := gB_begin hB
  have hx := B.exec
  have hb := B.bytes
  have hr := B.returns
  have hts := atoms_spec (ws := wsX7_init) B.pre
  have hown : s.vm.findClass RX7 = some m.cls := findClass_of_methodNamed B.named
  have hlocks := B.notSynchronized
  have hin : meth.name = "<init>" := (name_of_methodNamed B.named B.method).1
  have hinX7 : ∀ w ∈ wsX70, w ∈ wsX7_init := by decide +kernel
  have hl := lv_entry ([.ref h]) (n := 1) (Nat.le_of_ble_eq_true rfl)
  refine W.eq (g2 := F0 m 0 ((lg_sl ([.ref h]) ++ List.replicate (1 - (lg_sl ([.ref h])).length) Slot.unset).toArray) []) (by rw [hav]; exact lg_entry_eq _ _ _) ?_
  generalize (lg_sl ([.ref h]) ++ List.replicate (1 - (lg_sl ([.ref h])).length) Slot.unset).toArray = ls at hl ⊢
  have hl : lv_has ls 1 [(0, .ref h)] := hl
  refine lv_aload_n hx hb dX7_init_0 rfl (lv_at hl 0 rfl) ?_
  refine W.objInit hx hb hown (hts (.methodLink RX7 3 objectInit) (by decide +kernel)) (hts (.instanceMethod objectInit) (by decide +kernel)) (hts (.code objectInit ⟨#[0xb1]⟩ 1 none) (by decide +kernel)) rfl (by rw [hml]; exact hl.1) rfl dX7_init_1 (Nat.le_of_ble_eq_true rfl) (Nat.le_of_ble_eq_true rfl) ?_
  refine W.eq (g2 := F0 m 4 ls []) rfl ?_
  refine lv_aload_n hx hb dX7_init_4 rfl (lv_at hl 0 rfl) ?_
  refine lv_bipush (v := 6) hx hb dX7_init_5 (by decide) ?_
  refine g_newa (n := k + 1) (L := 6) hx hb (hts (.arrayClass .int) (by decide +kernel)) hG.1 hW hA (by (try simp only [List.length_append, List.length_singleton]); omega) hc1 hn1 (hd1) (by decide) (by decide) (Nat.le_of_ble_eq_true rfl) (Nat.le_of_ble_eq_true rfl) (Nat.le_of_ble_eq_true rfl) dX7_init_7 (fun q1 H hW => ?_)
  have hh : ow_ad (gz Z lo (ads ++ [q1])) k = h := (gz_lt Z lo ads [q1] (by (try simp only [List.length_append, List.length_singleton]); omega)).trans hh
  have hq1 : ow_ad (gz Z lo (ads ++ [q1])) (k + 1) = q1 := by rw [show k + 1 = lo + ads.length by ((try simp only [List.length_append, List.length_singleton]); omega)]; exact gz_new Z lo ads q1
  refine g_putR (k := k) (ci := 7) (C := RX7) (T := TX7) (N := 3) hx hb hts hown hG.1 hW hh hlo (by (try simp only [List.length_append, List.length_singleton]); omega) hK (by decide) rfl hinX7 tyX7 tyX7_ok nmX7 0 (by decide) rfl (hts (.fieldLink RX7 9 "FiftyOneCards$Walk" "names" "[I") (by decide +kernel)) (Or.inr ⟨rfl, hin, rfl⟩) (k + 1) (by (try simp only [List.length_append, List.length_singleton]); omega) hq1 rfl rfl dX7_init_9 (fun H locs hW => ?_)
  refine lv_aload_n hx hb dX7_init_12 rfl (lv_at hl 0 rfl) ?_
  refine lv_sipush (v := 160) hx hb dX7_init_13 (by decide) ?_
  refine g_newa (n := k + 2) (L := 160) hx hb (hts (.arrayClass .int) (by decide +kernel)) hG.1 hW hA (by (try simp only [List.length_append, List.length_singleton]); omega) hc2 hn2 (by exact hd2.sR (by omega)) (by decide) (by decide) (Nat.le_of_ble_eq_true rfl) (Nat.le_of_ble_eq_true rfl) (Nat.le_of_ble_eq_true rfl) dX7_init_16 (fun q2 H hW => ?_)
  have hh : ow_ad (gz Z lo (ads ++ [q1] ++ [q2])) k = h := (gz_lt Z lo (ads ++ [q1]) [q2] (by (try simp only [List.length_append, List.length_singleton]); omega)).trans hh
  have hq1 : ow_ad (gz Z lo (ads ++ [q1] ++ [q2])) (k + 1) = q1 := (gz_lt Z lo (ads ++ [q1]) [q2] (by (try simp only [List.length_append, List.length_singleton]); omega)).trans hq1
  have hq2 : ow_ad (gz Z lo (ads ++ [q1] ++ [q2])) (k + 2) = q2 := by rw [show k + 2 = lo + (ads ++ [q1]).length by ((try simp only [List.length_append, List.length_singleton]); omega)]; exact gz_new Z lo (ads ++ [q1]) q2
  refine g_putR (k := k) (ci := 7) (C := RX7) (T := TX7) (N := 3) hx hb hts hown hG.1 hW hh hlo (by (try simp only [List.length_append, List.length_singleton]); omega) hK (by decide) rfl hinX7 tyX7 tyX7_ok nmX7 1 (by decide) rfl (hts (.fieldLink RX7 15 "FiftyOneCards$Walk" "stack" "[I") (by decide +kernel)) (Or.inr ⟨rfl, hin, rfl⟩) (k + 2) (by (try simp only [List.length_append, List.length_singleton]); omega) hq2 rfl rfl dX7_init_18 (fun H locs hW => ?_)
  refine lv_aload_n hx hb dX7_init_21 rfl (lv_at hl 0 rfl) ?_
  refine lv_null hx hb dX7_init_22 ?_
  refine g_putN (k := k) (ci := 7) (C := RX7) (T := TX7) (N := 3) hx hb hts hown hG.1 hW hh hlo (by (try simp only [List.length_append, List.length_singleton]); omega) hK (by decide) rfl hinX7 tyX7 tyX7_ok nmX7 2 (by decide) rfl (hts (.fieldLink RX7 18 "FiftyOneCards$Walk" "text" "LFiftyOneCards$Text;") (by decide +kernel)) rfl rfl rfl dX7_init_23 (fun H locs hW => ?_)
  rw [List.append_assoc] at hW
  refine W.widen (k := 2) (n := 166) (by omega) (by omega) ?_
  exact g_vret hx hb hr hW rfl dX7_init_26 hlocks
